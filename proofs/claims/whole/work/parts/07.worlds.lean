def mLet {α β : Type} (x : α) (f : α → β) : β := f x
theorem mLet_eq {α β : Type} (x : α) (f : α → β) : mLet x f = f x := rfl
section MB2
variable {p : Program} {l : Launch} {e : Env} {R : Room} {s : State} {m : MethodId} {args : Array Value} {below : List Frame} {meth : Method} {c : Code} {H : Heap} {locs : List Loc} {cells slots : Nat} {Q : State → Prop} {cc : ByteArray} {pc : Nat} {ls : Array Slot} {rest : List Value}
theorem m_tabD (hexec : p.tables.exec = Jvm.exec) (hb : c.code = cc) {dflt lo hi : Int} {offs : Array Int} {len : Nat} {x : Int32} {tgt : Nat} (hdg : decode cc pc = .ok (.tableswitch dflt lo hi offs, len)) (ht : (pc : Int) + dflt = (tgt : Int)) (hsz : (hi - lo).toNat < offs.size) (h : ∀ off, ¬ x.toInt < lo → ¬ hi < x.toInt → offs[(x.toInt - lo).toNat]? = some off → off = dflt)
    (k : W p l e R s m args below meth c H locs cells slots Q (F0 m tgt ls rest)) : W p l e R s m args below meth c H locs cells slots Q (F0 m pc ls (.int x :: rest)) := by
  by_cases h1 : x.toInt < lo
  · exact lv_tableOut hexec hb hdg (Or.inl h1) ht k
  · by_cases h2 : hi < x.toInt
    · exact lv_tableOut hexec hb hdg (Or.inr h2) ht k
    · have hlt : (x.toInt - lo).toNat < offs.size := by omega
      have ho : offs[(x.toInt - lo).toNat]? = some offs[(x.toInt - lo).toNat] := Array.getElem?_eq_getElem hlt
      have e1 := h _ h1 h2 ho
      rw [e1] at ho
      exact lv_tableIn hexec hb hdg h1 h2 ho ht k
end MB2
theorem i32_le (x : Int32) : x.toInt ≤ 2147483647 := Int32.toInt_le x
theorem i32_ge (x : Int32) : -2147483648 ≤ x.toInt := Int32.le_toInt x
theorem i32_add1 {k b : Int32} (c : ¬ b ≤ k) : (k + 1).toInt = k.toInt + 1 := by
  rw [Int32.le_iff_toInt_le] at c
  have h1 := i32_le b
  have h2 := i32_ge k
  rw [Int32.toInt_add, show (1 : Int32).toInt = 1 from rfl]
  exact Int.bmod_eq_of_le (by omega) (by omega)
theorem ms_up {k b : Int32} {f : Nat} (c : ¬ b ≤ k) (hm : (b.toInt - k.toInt).toNat < f + 1) : (b.toInt - (k + 1).toInt).toNat < f := by
  rw [i32_add1 c]
  rw [Int32.le_iff_toInt_le] at c
  omega
theorem ms_up2 {k b : Int32} {f : Nat} (c : k < b) (hm : (b.toInt - k.toInt).toNat < f + 1) : (b.toInt - (k + 1).toInt).toNat < f := ms_up (Int32.not_le.mpr c) hm
theorem ms_dn {k : Int32} {f : Nat} (c : ¬ k < 0) (hm : (k.toInt + 1).toNat < f + 1) : ((k + (-1)).toInt + 1).toNat < f := by
  rw [Int32.lt_iff_toInt_lt, show (0 : Int32).toInt = 0 from rfl] at c
  have h1 := i32_le k
  rw [Int32.toInt_add, show (-1 : Int32).toInt = -1 from rfl, Int.bmod_eq_of_le (by omega) (by omega)]
  omega
theorem ne_of_nle {x : Int32} (h : ¬ x ≤ 0) : ¬ x = 0 := fun e => h (by rw [e]; decide)
theorem nn_up {k b : Int32} (h : ¬ k < 0) (c : ¬ b ≤ k) : ¬ k + 1 < 0 := by
  rw [Int32.lt_iff_toInt_lt, show (0 : Int32).toInt = 0 from rfl] at h ⊢
  rw [i32_add1 c]
  omega
def wB (cB _cI : ClassId) (a b n : Nat) (f : Nat → Int32) : va_W := [(a, .inr (0, [.ref b])), (b, .inl (cB, n, .inl f))]
def wP (_cB cI : ClassId) (a b d : Nat) (f g : Nat → Int32) (n : Int32) : va_W := [(a, .inr (3, [.ref b, .ref d, .int n])), (b, .inl (cI, 40, .inl f)), (d, .inl (cI, 40, .inl g))]
def wF (_cB cI : ClassId) (a b d : Nat) (t f g : Nat → Int32) : va_W := [(a, .inr (1, [.ref b, .ref d, .int (t 0), .int (t 1), .int (t 2), .int (t 3)])), (b, .inl (cI, 8, .inl f)), (d, .inl (cI, 8, .inl g))]
def wFB (cB cI : ClassId) (a b d h i : Nat) (t f g mem : Nat → Int32) : va_W := [(a, .inr (1, [.ref b, .ref d, .int (t 0), .int (t 1), .int (t 2), .int (t 3)])), (b, .inl (cI, 8, .inl f)), (d, .inl (cI, 8, .inl g)), (h, .inr (0, [.ref i])), (i, .inl (cB, 1024, .inl mem))]
def wZ (cB _cI : ClassId) (a b d h i : Nat) (z mem key : Nat → Int32) : va_W := [(a, .inr (4, [.ref b, .ref h, .int (z 0), .int (z 1), .int (z 2), .int (z 3), .int (z 4), .int (z 5), .int (z 6)])), (b, .inr (0, [.ref d])), (d, .inl (cB, 1024, .inl mem)), (h, .inr (0, [.ref i])), (i, .inl (cB, 64, .inl key))]
def wM (cB cI : ClassId) (ad : Nat → Nat) (g mem loc pf pg : Nat → Int32) (pn : Int32) (t fm fn z key ld : Nat → Int32) : va_W := [(ad 0, .inr (2, [.ref (ad 1), .ref (ad 3), .ref (ad 5), .ref (ad 8), .ref (ad 11), .ref (ad 14), .int (g 0), .int (g 1), .int (g 2), .int (g 3), .int (g 4), .int (g 5), .int (g 6), .int (g 7)])), (ad 1, .inr (0, [.ref (ad 2)])), (ad 2, .inl (cB, 1024, .inl mem)), (ad 3, .inr (0, [.ref (ad 4)])), (ad 4, .inl (cB, 64, .inl loc)), (ad 5, .inr (3, [.ref (ad 6), .ref (ad 7), .int pn])), (ad 6, .inl (cI, 40, .inl pf)), (ad 7, .inl (cI, 40, .inl pg)), (ad 8, .inr (1, [.ref (ad 9), .ref (ad 10), .int (t 0), .int (t 1), .int (t 2), .int (t 3)])), (ad 9, .inl (cI, 8, .inl fm)), (ad 10, .inl (cI, 8, .inl fn)), (ad 11, .inr (4, [.ref (ad 1), .ref (ad 12), .int (z 0), .int (z 1), .int (z 2), .int (z 3), .int (z 4), .int (z 5), .int (z 6)])), (ad 12, .inr (0, [.ref (ad 13)])), (ad 13, .inl (cB, 64, .inl key)), (ad 14, .inl (cI, 7, .inl ld))]
theorem wB_fst (cB cI : ClassId) (a b : Nat) (n : Nat) (f : Nat → Int32) : (wB cB cI a b n f).map Prod.fst = [a, b] := rfl
theorem wP_fst (cB cI : ClassId) (a b d : Nat) (f : Nat → Int32) (g : Nat → Int32) (n : Int32) : (wP cB cI a b d f g n).map Prod.fst = [a, b, d] := rfl
theorem wF_fst (cB cI : ClassId) (a b d : Nat) (t : Nat → Int32) (f : Nat → Int32) (g : Nat → Int32) : (wF cB cI a b d t f g).map Prod.fst = [a, b, d] := rfl
theorem wFB_fst (cB cI : ClassId) (a b d h i : Nat) (t : Nat → Int32) (f : Nat → Int32) (g : Nat → Int32) (mem : Nat → Int32) : (wFB cB cI a b d h i t f g mem).map Prod.fst = [a, b, d, h, i] := rfl
theorem wZ_fst (cB cI : ClassId) (a b d h i : Nat) (z : Nat → Int32) (mem : Nat → Int32) (key : Nat → Int32) : (wZ cB cI a b d h i z mem key).map Prod.fst = [a, b, d, h, i] := rfl
theorem wM_fst (cB cI : ClassId) (ad : Nat → Nat) (g : Nat → Int32) (mem : Nat → Int32) (loc : Nat → Int32) (pf : Nat → Int32) (pg : Nat → Int32) (pn : Int32) (t : Nat → Int32) (fm : Nat → Int32) (fn : Nat → Int32) (z : Nat → Int32) (key : Nat → Int32) (ld : Nat → Int32) : (wM cB cI ad g mem loc pf pg pn t fm fn z key ld).map Prod.fst = [(ad 0), (ad 1), (ad 2), (ad 3), (ad 4), (ad 5), (ad 6), (ad 7), (ad 8), (ad 9), (ad 10), (ad 11), (ad 12), (ad 13), (ad 14)] := rfl
