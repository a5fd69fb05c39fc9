theorem ti_add {a b : Int32} (h1 : -2147483648 ≤ a.toInt + b.toInt) (h2 : a.toInt + b.toInt < 2147483648) : (a + b).toInt = a.toInt + b.toInt := by
  rw [Int32.toInt_add]; exact Int.bmod_eq_of_le (by omega) (by omega)
theorem ti_sub {a b : Int32} (h1 : -2147483648 ≤ a.toInt - b.toInt) (h2 : a.toInt - b.toInt < 2147483648) : (a - b).toInt = a.toInt - b.toInt := by
  rw [Int32.toInt_sub]; exact Int.bmod_eq_of_le (by omega) (by omega)
theorem ti_mul {a b : Int32} (h1 : -2147483648 ≤ a.toInt * b.toInt) (h2 : a.toInt * b.toInt < 2147483648) : (a * b).toInt = a.toInt * b.toInt := by
  rw [Int32.toInt_mul]; exact Int.bmod_eq_of_le (by omega) (by omega)
theorem ti_div {a b : Int32} {d : Int} (h1 : 0 ≤ a.toInt) (hb : b.toInt = d) (h2 : 0 < d) : (a / b).toInt = a.toInt / d := by
  have h3 := i32_le a
  have hne : ¬ (a.toInt = -2147483648) := by omega
  rw [Int32.toInt_div, hb, Int.tdiv_eq_ediv_of_nonneg h1]
  have h4 : a.toInt / d ≤ a.toInt := Int.ediv_le_self _ h1
  have h5 : 0 ≤ a.toInt / d := Int.ediv_nonneg h1 (by omega)
  exact Int.bmod_eq_of_le (by omega) (by omega)
theorem ti_rem {a b : Int32} (h1 : 0 ≤ a.toInt) (h2 : 0 < b.toInt) : (a - a / b * b).toInt = a.toInt % b.toInt ∧ 0 ≤ (a - a / b * b).toInt ∧ (a - a / b * b).toInt < b.toInt := by
  have e1 := ti_div h1 (b := b) rfl h2
  have h3 := i32_le a
  have hm : (a / b).toInt * b.toInt ≤ a.toInt := by rw [e1]; exact Int.ediv_mul_le _ (by omega)
  have hn : 0 ≤ (a / b).toInt := by rw [e1]; exact Int.ediv_nonneg h1 (by omega)
  have hz : 0 ≤ (a / b).toInt * b.toInt := Int.mul_nonneg hn (by omega)
  have e2 := ti_mul (a := a / b) (b := b) (by omega) (by omega)
  have e3 := ti_sub (a := a) (b := a / b * b) (by omega) (by omega)
  have e4 : a.toInt % b.toInt = a.toInt - (a / b).toInt * b.toInt := by
    rw [e1, Int.emod_def, Int.mul_comm]
  have h5 := Int.emod_nonneg a.toInt (show b.toInt ≠ 0 by omega)
  have h6 := Int.emod_lt_of_pos a.toInt h2
  omega
def wR (_cB cI : ClassId) (bd : Nat → Nat) (v qm ql qs qk qd qn qe qf qo qt qi qy : Nat → Int32) : va_W := [(bd 0, .inr (6, [.ref (bd 1), .ref (bd 2), .ref (bd 3), .ref (bd 4), .int (v 0), .int (v 1), .int (v 2), .int (v 3), .int (v 4), .int (v 5), .int (v 6), .int (v 7), .int (v 8), .ref (bd 5), .ref (bd 6), .int (v 9), .int (v 10), .int (v 11), .int (v 12), .ref (bd 7), .ref (bd 8), .ref (bd 9), .int (v 13), .int (v 14), .int (v 15), .ref (bd 10), .ref (bd 11), .ref (bd 12), .int (v 16)])), (bd 1, .inl (cI, 1024, .inl qm)), (bd 2, .inl (cI, 64, .inl ql)), (bd 3, .inl (cI, 40, .inl qs)), (bd 4, .inl (cI, 40, .inl qk)), (bd 5, .inl (cI, 8, .inl qd)), (bd 6, .inl (cI, 8, .inl qn)), (bd 7, .inl (cI, 8, .inl qe)), (bd 8, .inl (cI, 8, .inl qf)), (bd 9, .inl (cI, 8, .inl qo)), (bd 10, .inl (cI, 40, .inl qt)), (bd 11, .inl (cI, 1024, .inl qi)), (bd 12, .inl (cI, 64, .inl qy))]
theorem wR_fst (cB cI : ClassId) (bd : Nat → Nat) (v : Nat → Int32) (qm : Nat → Int32) (ql : Nat → Int32) (qs : Nat → Int32) (qk : Nat → Int32) (qd : Nat → Int32) (qn : Nat → Int32) (qe : Nat → Int32) (qf : Nat → Int32) (qo : Nat → Int32) (qt : Nat → Int32) (qi : Nat → Int32) (qy : Nat → Int32) : (wR cB cI bd v qm ql qs qk qd qn qe qf qo qt qi qy).map Prod.fst = [(bd 0), (bd 1), (bd 2), (bd 3), (bd 4), (bd 5), (bd 6), (bd 7), (bd 8), (bd 9), (bd 10), (bd 11), (bd 12)] := rfl
