theorem pi_ite {α : Type} (P : α → Prop) {c : Prop} [Decidable c] {a b : α} (ha : P a) (hb : P b) : P (if c then a else b) := by
  by_cases h : c
  · rw [if_pos h]; exact ha
  · rw [if_neg h]; exact hb
theorem pi_iteH {α : Type} (P : α → Prop) {c : Prop} [Decidable c] {a b : α} (ha : c → P a) (hb : ¬ c → P b) : P (if c then a else b) := by
  by_cases h : c
  · rw [if_pos h]; exact ha h
  · rw [if_neg h]; exact hb h
theorem pi_let {α β : Type} (P : β → Prop) {x : α} {f : α → β} (h : P (f x)) : P (mLet x f) := h
def Tp (w : Nat → Int32) : Prop := 0 ≤ Int32.toInt (w 0) ∧ Int32.toInt (w 0) ≤ 40
theorem reckons_v0 (v : Nat → Int32) (x1 x2 : Int32) : (pX8_reckons v x1 x2).2 0 = v 0 := by
  show (fun (r : Int32 × (Nat → Int32)) => r.2 0 = v 0) (pX8_reckons v x1 x2)
  unfold pX8_reckons
  repeat' (first | with_reducible refine pi_ite (fun (r : Int32 × (Nat → Int32)) => r.2 0 = v 0) ?_ ?_ | with_reducible refine pi_let (fun (r : Int32 × (Nat → Int32)) => r.2 0 = v 0) ?_)
  all_goals first | with_reducible rfl | exact rfl
theorem items_v0 (v qm : Nat → Int32) (x1 x2 x3 : Int32) : (pX8_items v qm x1 x2 x3).2.1 0 = v 0 := by
  show (fun (r : Int32 × (Nat → Int32) × (Nat → Int32)) => r.2.1 0 = v 0) (pX8_items v qm x1 x2 x3)
  unfold pX8_items
  repeat' (first | with_reducible refine pi_ite (fun (r : Int32 × (Nat → Int32) × (Nat → Int32)) => r.2.1 0 = v 0) ?_ ?_ | with_reducible refine pi_let (fun (r : Int32 × (Nat → Int32) × (Nat → Int32)) => r.2.1 0 = v 0) ?_)
  all_goals first | with_reducible rfl | exact rfl
theorem keys_v0 (v qm qy : Nat → Int32) (x1 x2 x3 : Int32) : (pX8_keys v qm qy x1 x2 x3).2.1 0 = v 0 := by
  show (fun (r : Int32 × (Nat → Int32) × (Nat → Int32)) => r.2.1 0 = v 0) (pX8_keys v qm qy x1 x2 x3)
  unfold pX8_keys
  repeat' (with_reducible refine pi_ite (fun (r : Int32 × (Nat → Int32) × (Nat → Int32)) => r.2.1 0 = v 0) ?_ ?_)
  all_goals first | with_reducible rfl | (show (pX8_keys_lp75 _ _ _ _ _ _ _ _).2.1 0 = v 0; rw [keys_lp]; rfl)
theorem searches_v0 (v qm qo qy : Nat → Int32) : (pX8_searches v qm qo qy).2.1 0 = v 0 := by
  show (fun (r : Int32 × (Nat → Int32) × (Nat → Int32)) => r.2.1 0 = v 0) (pX8_searches v qm qo qy)
  unfold pX8_searches
  repeat' (first | with_reducible refine pi_ite (fun (r : Int32 × (Nat → Int32) × (Nat → Int32)) => r.2.1 0 = v 0) ?_ ?_ | with_reducible refine pi_let (fun (r : Int32 × (Nat → Int32) × (Nat → Int32)) => r.2.1 0 = v 0) ?_)
  all_goals first | with_reducible exact keys_v0 _ _ _ _ _ _ | exact keys_v0 v qm qy _ _ _
theorem onStack_lp (x1 : Int32) : ∀ (n_ : Nat) (v qs qt : Nat → Int32) (k3 : Int32), (pX8_onStack_lp173 x1 n_ v qs qt k3).2.1 0 = v 0 ∨ (pX8_onStack_lp173 x1 n_ v qs qt k3).2.1 0 = v 0 + x1 := by
  intro n_
  induction n_ with
  | zero => intro v qs qt k3; exact Or.inl rfl
  | succ n_ ih =>
    intro v qs qt k3
    rw [pX8_onStack_lp173]
    by_cases h : x1 ≤ k3
    · rw [if_pos h]; exact Or.inr rfl
    · rw [if_neg h]; exact ih _ _ _ _
theorem onStack_tp {v : Nat → Int32} (qs qt : Nat → Int32) (x1 x2 : Int32) (h : Tp v) : Tp (pX8_onStack v qs qt x1 x2).2.1 := by
  have hg : ∀ e : Int32, Tp (upd v 13 e) := fun e => h
  unfold pX8_onStack
  by_cases h1 : v 7 = 80
  · rw [if_pos h1, mLet_eq]; exact hg (v 0)
  rw [if_neg h1]
  by_cases h2 : v 7 = 81
  · rw [if_pos h2]
    by_cases h3 : x1 < 0
    · rw [if_pos h3]; exact h
    rw [if_neg h3]
    by_cases h4 : x1 < v 0
    · rw [if_pos h4, mLet_eq]; exact hg (qs (Int32.toNatClampNeg (((v 0) - 1) - x1)))
    · rw [if_neg h4]; exact h
  rw [if_neg h2]
  by_cases h3 : v 7 = 82
  · rw [if_pos h3]
    by_cases h4 : 2 ≤ v 0
    · rw [if_pos h4]; exact h
    · rw [if_neg h4]; exact h
  rw [if_neg h3]
  by_cases h4 : v 7 = 83
  · rw [if_pos h4, mLet_eq]; exact h
  rw [if_neg h4]
  by_cases h5 : x1 < 0
  · rw [if_pos h5]; exact h
  rw [if_neg h5]
  by_cases h6 : x1 ≤ v 0
  · rw [if_pos h6]
    by_cases h7 : v 0 + x1 ≤ 40
    · rw [if_pos h7]
      rw [Int32.lt_iff_toInt_lt] at h5
      rw [Int32.le_iff_toInt_le] at h6 h7
      have z0 : Int32.toInt 0 = 0 := rfl
      have z4 : Int32.toInt 40 = 40 := rfl
      have h0 := h.1
      have h9 := h.2
      have e := ti_add (a := v 0) (b := x1) (by omega) (by omega)
      unfold Tp
      rcases onStack_lp x1 ((Int32.toInt x1 - Int32.toInt 0).toNat + 1) v qs qt 0 with q | q
      · rw [q]; omega
      · rw [q]; omega
    · rw [if_neg h7]; exact h
  · rw [if_neg h6]; exact h
theorem Tp_of {v w : Nat → Int32} (e : w 0 = v 0) (h : Tp v) : Tp w := by
  unfold Tp at h ⊢
  rw [e]; exact h
theorem does_tp {v : Nat → Int32} (qm qs qo qt qi qy : Nat → Int32) (h : Tp v) : Tp (pX8_does v qm qs qo qt qi qy).2.1 := by
  have hg : ∀ e : Int32, Tp (upd v 13 e) := fun e => h
  have hb : ∀ e : Int32, Tp (pX8_branches v e) := fun e => by
    show (fun (r : Nat → Int32) => Tp r) (pX8_branches v e)
    unfold pX8_branches
    refine pi_ite _ ?_ (pi_ite _ ?_ ?_)
    · exact h
    · exact h
    · exact h
  have hr : ∀ a b : Int32, Tp (pX8_reckons v a b).2 := fun a b => Tp_of (reckons_v0 v a b) h
  have hi : ∀ a b c : Int32, Tp (pX8_items v qm a b c).2.1 := fun a b c => Tp_of (items_v0 v qm a b c) h
  have hs : Tp (pX8_searches v qm qo qy).2.1 := Tp_of (searches_v0 v qm qo qy) h
  have ho : ∀ a b : Int32, Tp (pX8_onStack v qs qt a b).2.1 := fun a b => onStack_tp qs qt a b h
  show (fun (r : Int32 × (Nat → Int32) × (Nat → Int32) × (Nat → Int32) × (Nat → Int32) × (Nat → Int32) × (Nat → Int32)) => Tp r.2.1) (pX8_does v qm qs qo qt qi qy)
  unfold pX8_does
  repeat' (first | with_reducible refine pi_ite (fun (r : Int32 × (Nat → Int32) × (Nat → Int32) × (Nat → Int32) × (Nat → Int32) × (Nat → Int32) × (Nat → Int32)) => Tp r.2.1) ?_ ?_ | with_reducible refine pi_let (fun (r : Int32 × (Nat → Int32) × (Nat → Int32) × (Nat → Int32) × (Nat → Int32) × (Nat → Int32) × (Nat → Int32)) => Tp r.2.1) ?_)
  all_goals first | with_reducible exact h | with_reducible exact hg _ | with_reducible exact hr _ _ | with_reducible exact hi _ _ _ | with_reducible exact hs | with_reducible exact ho _ _ | with_reducible exact hb _ | exact hg _ | exact h
theorem load_v {v : Nat → Int32} (qm ql qs qd qn qo : Nat → Int32) (x1 x2 : Int32) : (∀ k : Nat, k ≠ 0 → (pX8_load v qm ql qs qd qn qo x1 x2).2.1 k = v k) ∧ (Tp v → Tp (pX8_load v qm ql qs qd qn qo x1 x2).2.1) := by
  have P0 : (∀ k : Nat, k ≠ 0 → v k = v k) ∧ (Tp v → Tp v) := ⟨fun _ _ => rfl, fun h => h⟩
  have P1 : ¬ v 0 = 0 → (∀ k : Nat, k ≠ 0 → upd v 0 (v 0 - 1) k = v k) ∧ (Tp v → Tp (upd v 0 (v 0 - 1))) := by
    intro hz
    refine ⟨fun k hk => pk_un hk, fun h => ?_⟩
    have z0 : Int32.toInt 0 = 0 := rfl
    have z1 : Int32.toInt 1 = 1 := rfl
    have hn : ¬ Int32.toInt (v 0) = Int32.toInt 0 := fun q => hz (Int32.toInt_inj.mp q)
    have h0 := h.1
    have h9 := h.2
    have e := ti_sub (a := v 0) (b := 1) (by omega) (by omega)
    show 0 ≤ Int32.toInt (v 0 - 1) ∧ Int32.toInt (v 0 - 1) ≤ 40
    omega
  show (fun (r : Int32 × (Nat → Int32) × (Nat → Int32)) => (∀ k : Nat, k ≠ 0 → r.2.1 k = v k) ∧ (Tp v → Tp r.2.1)) (pX8_load v qm ql qs qd qn qo x1 x2)
  unfold pX8_load
  repeat' (first | with_reducible refine pi_iteH (fun (r : Int32 × (Nat → Int32) × (Nat → Int32)) => (∀ k : Nat, k ≠ 0 → r.2.1 k = v k) ∧ (Tp v → Tp r.2.1)) (fun hh => ?_) (fun hh => ?_) | with_reducible refine pi_let (fun (r : Int32 × (Nat → Int32) × (Nat → Int32)) => (∀ k : Nat, k ≠ 0 → r.2.1 k = v k) ∧ (Tp v → Tp r.2.1)) ?_)
  all_goals first | with_reducible exact P0 | with_reducible exact P1 (by assumption)
