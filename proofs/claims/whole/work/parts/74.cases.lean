theorem cs_ram {p : Program} {l : Launch} {e : Env} {s : State} {m : MethodId} {below : List Frame} {meth : Method} {c : Code} {H : Heap} {locs : List Loc} {Q : State → Prop} {ls : Array Slot} {D : va_G} {A : Nat → Prop} {cB cI : ClassId} {b L a b2 : Nat} {xs : Nat → Int32} {x3 : Int32} {ws : va_W} (X : mCx p s m #[Value.ref b] c cL_law 4 RL D cB cI) (hX : va_X b L xs s s.heap) (hbl : b < s.heap.size) (hbA : ¬ A b) (hW : LW cB cI a b2 ws) (V : mWd D A s ws H locs) (hl : lv_has ls 4 [(0, .ref b), (1, .ref a), (2, .ref b2), (3, .int x3)]) (h1 : vp_in (x3 + 1) L) (kk : ∀ (ws1 : va_W) (H1 : Heap) (locs1 : List Loc), LW cB cI a b2 ws1 → mWd D A s ws1 H1 locs1 → W p l e room_1 s m #[Value.ref b] below meth c H1 locs1 35 3703 Q (F0 m 429 ls [])) : W p l e room_1 s m #[Value.ref b] below meth c H locs 35 3703 Q (F0 m 173 ls []) := by
  obtain ⟨ad, i, j, o, q, q2, q3, x, y, wr, g, mem, loc, pf, pg, pn, t, fm, fn, z, key, ld, lt, lf, lg, tt, tf, tg, bd, v, qm, ql, qs, qk, qd, qn, qe, qf, qo, qt, qi, qy, rfl, rfl, hF⟩ := hW
  have hx := X.1.1
  have hb := X.1.2.1
  have hc : sb_Fit mem ∧ nnQ qd ∧ Tp v ∧ (v 12).toInt ≤ 8 := by rcases hF with ⟨_, _, F⟩ | ⟨_, _, F⟩ <;> exact ⟨F.2.2.2.2.2, F.2.2.1, F.1.2.2.2.1, F.2.2.2.2.1⟩
  refine lv_aload_n hx hb dL_law_173 rfl (lv_at hl 1 rfl) ?_
  refine lv_aload_n hx hb dL_law_174 rfl (lv_at hl 0 rfl) ?_
  refine lv_iload_n hx hb dL_law_175 rfl (lv_at hl 3 rfl) ?_
  refine lv_iconst (v := 1) hx hb dL_law_176 (by decide) ?_
  refine lv_iadd hx hb dL_law_177 ?_
  refine va_sld hx hb hX hbl hbA V.2.2.1 h1 dL_law_178 ?_
  refine m_VL X V (rest := []) (st1 := [.int ((pX7_ram g (xs (x3 + 1).toNatClampNeg)).1)]) (kX7_ram l D cB cI a ad i j o q q2 q3 x y wr g mem loc pf pg pn t fm fn z key ld lt lf lg tt tf tg (xs (x3 + 1).toNatClampNeg)) okX7_ram gm_137 gm_138 gm_136 rfl rfl ⟨⟨rfl, rfl⟩, ⟨by decide, by decide⟩, by decide, by decide⟩ rfl rfl (wG_fst _ _ _ _ _ _ _ _ _ _ _ _ _ _ _ _ _ _ _ _ _ _ _ _ _ _ _ _ _ _ _ ) (wG_fst _ _ _ _ _ _ _ _ _ _ _ _ _ _ _ _ _ _ _ _ _ _ _ _ _ _ _ _ _ _ _ ) rfl hl.1 (Nat.le_of_ble_eq_true rfl) dL_law_179 rfl rfl (fun H locs V => ?_)
  refine lv_aload_n hx hb dL_law_182 rfl (lv_at hl 2 rfl) ?_
  refine lv_aload_n hx hb dL_law_183 rfl (lv_at hl 0 rfl) ?_
  refine lv_iload_n hx hb dL_law_184 rfl (lv_at hl 3 rfl) ?_
  refine lv_iconst (v := 1) hx hb dL_law_185 (by decide) ?_
  refine lv_iadd hx hb dL_law_186 ?_
  refine va_sld hx hb hX hbl hbA V.2.2.1 h1 dL_law_187 ?_
  refine m_VR X V (rest := [.int ((pX7_ram g (xs (x3 + 1).toNatClampNeg)).1)]) (st1 := [.int ((pX8_ram v (xs (x3 + 1).toNatClampNeg)).1), .int ((pX7_ram g (xs (x3 + 1).toNatClampNeg)).1)]) (kX8_ram l D cB cI bd v qm ql qs qk qd qn qe qf qo qt qi qy (xs (x3 + 1).toNatClampNeg)) okX8_ram gm_487 gm_488 gm_486 rfl rfl rfl ⟨⟨rfl, rfl⟩, ⟨by decide, by decide⟩, by decide, by decide⟩ rfl rfl (wR_fst _ _ _ _ _ _ _ _ _ _ _ _ _ _ _ _ ) (wR_fst _ _ _ _ _ _ _ _ _ _ _ _ _ _ _ _ ) rfl hl.1 (Nat.le_of_ble_eq_true rfl) dL_law_188 rfl rfl (fun H locs V => ?_)
  refine lv_icmp_eq (tgt := 429) hx hb dL_law_191 (by decide) (fun _ => ?_) (fun cE => ?_)
  · refine kk _ _ _ ⟨ad, i, j, o, q, q2, q3, x, y, _, _, _, _, _, _, _, _, _, _, _, _, _, _, _, _, _, _, _, _, _, _, _, _, _, _, _, _, _, _, _, _, _, rfl, rfl, ?_⟩ V
    rcases hF with ⟨e1, e2, F⟩ | ⟨e1, e2, F⟩
    · exact Or.inl ⟨e1, e2, (FR_ram F (xs (x3 + 1).toNatClampNeg)).2⟩
    · exact Or.inr ⟨e1, e2, (FR_ram F (xs (x3 + 1).toNatClampNeg)).2⟩
  · refine absurd ?_ cE
    rcases hF with ⟨e1, e2, F⟩ | ⟨e1, e2, F⟩
    · exact (FR_ram F (xs (x3 + 1).toNatClampNeg)).1
    · exact (FR_ram F (xs (x3 + 1).toNatClampNeg)).1
theorem cs_go {p : Program} {l : Launch} {e : Env} {s : State} {m : MethodId} {below : List Frame} {meth : Method} {c : Code} {H : Heap} {locs : List Loc} {Q : State → Prop} {ls : Array Slot} {D : va_G} {A : Nat → Prop} {cB cI : ClassId} {b L a b2 : Nat} {xs : Nat → Int32} {x3 : Int32} {ws : va_W} (X : mCx p s m #[Value.ref b] c cL_law 4 RL D cB cI) (hX : va_X b L xs s s.heap) (hbl : b < s.heap.size) (hbA : ¬ A b) (hW : LW cB cI a b2 ws) (V : mWd D A s ws H locs) (hl : lv_has ls 4 [(0, .ref b), (1, .ref a), (2, .ref b2), (3, .int x3)]) (h1 : vp_in (x3 + 1) L) (kk : ∀ (ws1 : va_W) (H1 : Heap) (locs1 : List Loc), LW cB cI a b2 ws1 → mWd D A s ws1 H1 locs1 → W p l e room_1 s m #[Value.ref b] below meth c H1 locs1 35 3703 Q (F0 m 429 ls [])) : W p l e room_1 s m #[Value.ref b] below meth c H locs 35 3703 Q (F0 m 196 ls []) := by
  obtain ⟨ad, i, j, o, q, q2, q3, x, y, wr, g, mem, loc, pf, pg, pn, t, fm, fn, z, key, ld, lt, lf, lg, tt, tf, tg, bd, v, qm, ql, qs, qk, qd, qn, qe, qf, qo, qt, qi, qy, rfl, rfl, hF⟩ := hW
  have hx := X.1.1
  have hb := X.1.2.1
  have hc : sb_Fit mem ∧ nnQ qd ∧ Tp v ∧ (v 12).toInt ≤ 8 := by rcases hF with ⟨_, _, F⟩ | ⟨_, _, F⟩ <;> exact ⟨F.2.2.2.2.2, F.2.2.1, F.1.2.2.2.1, F.2.2.2.2.1⟩
  refine lv_aload_n hx hb dL_law_196 rfl (lv_at hl 1 rfl) ?_
  refine lv_aload_n hx hb dL_law_197 rfl (lv_at hl 0 rfl) ?_
  refine lv_iload_n hx hb dL_law_198 rfl (lv_at hl 3 rfl) ?_
  refine lv_iconst (v := 1) hx hb dL_law_199 (by decide) ?_
  refine lv_iadd hx hb dL_law_200 ?_
  refine va_sld hx hb hX hbl hbA V.2.2.1 h1 dL_law_201 ?_
  refine m_VL X V (rest := []) (st1 := [.int ((pX7_go g (xs (x3 + 1).toNatClampNeg)).1)]) (kX7_go l D cB cI a ad i j o q q2 q3 x y wr g mem loc pf pg pn t fm fn z key ld lt lf lg tt tf tg (xs (x3 + 1).toNatClampNeg)) okX7_go gm_141 gm_142 gm_140 rfl rfl ⟨⟨rfl, rfl⟩, ⟨by decide, by decide⟩, by decide, by decide⟩ rfl rfl (wG_fst _ _ _ _ _ _ _ _ _ _ _ _ _ _ _ _ _ _ _ _ _ _ _ _ _ _ _ _ _ _ _ ) (wG_fst _ _ _ _ _ _ _ _ _ _ _ _ _ _ _ _ _ _ _ _ _ _ _ _ _ _ _ _ _ _ _ ) rfl hl.1 (Nat.le_of_ble_eq_true rfl) dL_law_202 rfl rfl (fun H locs V => ?_)
  refine lv_aload_n hx hb dL_law_205 rfl (lv_at hl 2 rfl) ?_
  refine lv_aload_n hx hb dL_law_206 rfl (lv_at hl 0 rfl) ?_
  refine lv_iload_n hx hb dL_law_207 rfl (lv_at hl 3 rfl) ?_
  refine lv_iconst (v := 1) hx hb dL_law_208 (by decide) ?_
  refine lv_iadd hx hb dL_law_209 ?_
  refine va_sld hx hb hX hbl hbA V.2.2.1 h1 dL_law_210 ?_
  refine m_VR X V (rest := [.int ((pX7_go g (xs (x3 + 1).toNatClampNeg)).1)]) (st1 := [.int ((pX8_go v (xs (x3 + 1).toNatClampNeg)).1), .int ((pX7_go g (xs (x3 + 1).toNatClampNeg)).1)]) (kX8_go l D cB cI bd v qm ql qs qk qd qn qe qf qo qt qi qy (xs (x3 + 1).toNatClampNeg)) okX8_go gm_491 gm_492 gm_490 rfl rfl rfl ⟨⟨rfl, rfl⟩, ⟨by decide, by decide⟩, by decide, by decide⟩ rfl rfl (wR_fst _ _ _ _ _ _ _ _ _ _ _ _ _ _ _ _ ) (wR_fst _ _ _ _ _ _ _ _ _ _ _ _ _ _ _ _ ) rfl hl.1 (Nat.le_of_ble_eq_true rfl) dL_law_211 rfl rfl (fun H locs V => ?_)
  refine lv_icmp_eq (tgt := 429) hx hb dL_law_214 (by decide) (fun _ => ?_) (fun cE => ?_)
  · refine kk _ _ _ ⟨ad, i, j, o, q, q2, q3, x, y, _, _, _, _, _, _, _, _, _, _, _, _, _, _, _, _, _, _, _, _, _, _, _, _, _, _, _, _, _, _, _, _, _, rfl, rfl, ?_⟩ V
    rcases hF with ⟨e1, e2, F⟩ | ⟨e1, e2, F⟩
    · exact Or.inl ⟨e1, e2, (FR_go F (xs (x3 + 1).toNatClampNeg)).2⟩
    · exact Or.inr ⟨e1, e2, (FR_go F (xs (x3 + 1).toNatClampNeg)).2⟩
  · refine absurd ?_ cE
    rcases hF with ⟨e1, e2, F⟩ | ⟨e1, e2, F⟩
    · exact (FR_go F (xs (x3 + 1).toNatClampNeg)).1
    · exact (FR_go F (xs (x3 + 1).toNatClampNeg)).1
theorem cs_push {p : Program} {l : Launch} {e : Env} {s : State} {m : MethodId} {below : List Frame} {meth : Method} {c : Code} {H : Heap} {locs : List Loc} {Q : State → Prop} {ls : Array Slot} {D : va_G} {A : Nat → Prop} {cB cI : ClassId} {b L a b2 : Nat} {xs : Nat → Int32} {x3 : Int32} {ws : va_W} (X : mCx p s m #[Value.ref b] c cL_law 4 RL D cB cI) (hX : va_X b L xs s s.heap) (hbl : b < s.heap.size) (hbA : ¬ A b) (hW : LW cB cI a b2 ws) (V : mWd D A s ws H locs) (hl : lv_has ls 4 [(0, .ref b), (1, .ref a), (2, .ref b2), (3, .int x3)]) (h1 : vp_in (x3 + 1) L) (kk : ∀ (ws1 : va_W) (H1 : Heap) (locs1 : List Loc), LW cB cI a b2 ws1 → mWd D A s ws1 H1 locs1 → W p l e room_1 s m #[Value.ref b] below meth c H1 locs1 35 3703 Q (F0 m 429 ls [])) : W p l e room_1 s m #[Value.ref b] below meth c H locs 35 3703 Q (F0 m 219 ls []) := by
  obtain ⟨ad, i, j, o, q, q2, q3, x, y, wr, g, mem, loc, pf, pg, pn, t, fm, fn, z, key, ld, lt, lf, lg, tt, tf, tg, bd, v, qm, ql, qs, qk, qd, qn, qe, qf, qo, qt, qi, qy, rfl, rfl, hF⟩ := hW
  have hx := X.1.1
  have hb := X.1.2.1
  have hc : sb_Fit mem ∧ nnQ qd ∧ Tp v ∧ (v 12).toInt ≤ 8 := by rcases hF with ⟨_, _, F⟩ | ⟨_, _, F⟩ <;> exact ⟨F.2.2.2.2.2, F.2.2.1, F.1.2.2.2.1, F.2.2.2.2.1⟩
  refine lv_aload_n hx hb dL_law_219 rfl (lv_at hl 1 rfl) ?_
  refine lv_aload_n hx hb dL_law_220 rfl (lv_at hl 0 rfl) ?_
  refine lv_iload_n hx hb dL_law_221 rfl (lv_at hl 3 rfl) ?_
  refine lv_iconst (v := 1) hx hb dL_law_222 (by decide) ?_
  refine lv_iadd hx hb dL_law_223 ?_
  refine va_sld hx hb hX hbl hbA V.2.2.1 h1 dL_law_224 ?_
  refine m_VL X V (rest := []) (st1 := [.int ((pX7_push pf pn (xs (x3 + 1).toNatClampNeg)).1)]) (kX7_push l D cB cI a ad i j o q q2 q3 x y wr g mem loc pf pg pn t fm fn z key ld lt lf lg tt tf tg (xs (x3 + 1).toNatClampNeg)) okX7_push gm_145 gm_146 gm_144 rfl rfl ⟨⟨rfl, rfl⟩, ⟨by decide, by decide⟩, by decide, by decide⟩ rfl rfl (wG_fst _ _ _ _ _ _ _ _ _ _ _ _ _ _ _ _ _ _ _ _ _ _ _ _ _ _ _ _ _ _ _ ) (wG_fst _ _ _ _ _ _ _ _ _ _ _ _ _ _ _ _ _ _ _ _ _ _ _ _ _ _ _ _ _ _ _ ) rfl hl.1 (Nat.le_of_ble_eq_true rfl) dL_law_225 rfl rfl (fun H locs V => ?_)
  refine lv_aload_n hx hb dL_law_228 rfl (lv_at hl 2 rfl) ?_
  refine lv_aload_n hx hb dL_law_229 rfl (lv_at hl 0 rfl) ?_
  refine lv_iload_n hx hb dL_law_230 rfl (lv_at hl 3 rfl) ?_
  refine lv_iconst (v := 1) hx hb dL_law_231 (by decide) ?_
  refine lv_iadd hx hb dL_law_232 ?_
  refine va_sld hx hb hX hbl hbA V.2.2.1 h1 dL_law_233 ?_
  refine m_VR X V (rest := [.int ((pX7_push pf pn (xs (x3 + 1).toNatClampNeg)).1)]) (st1 := [.int ((pX8_push v qs (xs (x3 + 1).toNatClampNeg)).1), .int ((pX7_push pf pn (xs (x3 + 1).toNatClampNeg)).1)]) (kX8_push l D cB cI bd v qm ql qs qk qd qn qe qf qo qt qi qy (xs (x3 + 1).toNatClampNeg) hc.2.2.1) okX8_push gm_495 gm_496 gm_494 rfl rfl rfl ⟨⟨rfl, rfl⟩, ⟨by decide, by decide⟩, by decide, by decide⟩ rfl rfl (wR_fst _ _ _ _ _ _ _ _ _ _ _ _ _ _ _ _ ) (wR_fst _ _ _ _ _ _ _ _ _ _ _ _ _ _ _ _ ) rfl hl.1 (Nat.le_of_ble_eq_true rfl) dL_law_234 rfl rfl (fun H locs V => ?_)
  refine lv_icmp_eq (tgt := 429) hx hb dL_law_237 (by decide) (fun _ => ?_) (fun cE => ?_)
  · refine kk _ _ _ ⟨ad, i, j, o, q, q2, q3, x, y, _, _, _, _, _, _, _, _, _, _, _, _, _, _, _, _, _, _, _, _, _, _, _, _, _, _, _, _, _, _, _, _, _, rfl, rfl, ?_⟩ V
    rcases hF with ⟨e1, e2, F⟩ | ⟨e1, e2, F⟩
    · exact Or.inl ⟨e1, e2, (FR_push F (xs (x3 + 1).toNatClampNeg)).2⟩
    · exact Or.inr ⟨e1, e2, (FR_push F (xs (x3 + 1).toNatClampNeg)).2⟩
  · refine absurd ?_ cE
    rcases hF with ⟨e1, e2, F⟩ | ⟨e1, e2, F⟩
    · exact (FR_push F (xs (x3 + 1).toNatClampNeg)).1
    · exact (FR_push F (xs (x3 + 1).toNatClampNeg)).1
theorem cs_clear {p : Program} {l : Launch} {e : Env} {s : State} {m : MethodId} {below : List Frame} {meth : Method} {c : Code} {H : Heap} {locs : List Loc} {Q : State → Prop} {ls : Array Slot} {D : va_G} {A : Nat → Prop} {cB cI : ClassId} {b L a b2 : Nat} {xs : Nat → Int32} {x3 : Int32} {ws : va_W} (X : mCx p s m #[Value.ref b] c cL_law 4 RL D cB cI) (hX : va_X b L xs s s.heap) (hbl : b < s.heap.size) (hbA : ¬ A b) (hW : LW cB cI a b2 ws) (V : mWd D A s ws H locs) (hl : lv_has ls 4 [(0, .ref b), (1, .ref a), (2, .ref b2), (3, .int x3)]) (kk : ∀ (ws1 : va_W) (H1 : Heap) (locs1 : List Loc), LW cB cI a b2 ws1 → mWd D A s ws1 H1 locs1 → W p l e room_1 s m #[Value.ref b] below meth c H1 locs1 35 3703 Q (F0 m 429 ls [])) : W p l e room_1 s m #[Value.ref b] below meth c H locs 35 3703 Q (F0 m 242 ls []) := by
  obtain ⟨ad, i, j, o, q, q2, q3, x, y, wr, g, mem, loc, pf, pg, pn, t, fm, fn, z, key, ld, lt, lf, lg, tt, tf, tg, bd, v, qm, ql, qs, qk, qd, qn, qe, qf, qo, qt, qi, qy, rfl, rfl, hF⟩ := hW
  have hx := X.1.1
  have hb := X.1.2.1
  have hc : sb_Fit mem ∧ nnQ qd ∧ Tp v ∧ (v 12).toInt ≤ 8 := by rcases hF with ⟨_, _, F⟩ | ⟨_, _, F⟩ <;> exact ⟨F.2.2.2.2.2, F.2.2.1, F.1.2.2.2.1, F.2.2.2.2.1⟩
  refine lv_aload_n hx hb dL_law_242 rfl (lv_at hl 1 rfl) ?_
  refine m_VL X V (rest := []) (st1 := [.int ((pX7_clear loc pn).1)]) (kX7_clear l D cB cI a ad i j o q q2 q3 x y wr g mem loc pf pg pn t fm fn z key ld lt lf lg tt tf tg) okX7_clear gm_157 gm_158 gm_156 rfl rfl ⟨⟨rfl, rfl⟩, ⟨by decide, by decide⟩, by decide, by decide⟩ rfl rfl (wG_fst _ _ _ _ _ _ _ _ _ _ _ _ _ _ _ _ _ _ _ _ _ _ _ _ _ _ _ _ _ _ _ ) (wG_fst _ _ _ _ _ _ _ _ _ _ _ _ _ _ _ _ _ _ _ _ _ _ _ _ _ _ _ _ _ _ _ ) rfl hl.1 (Nat.le_of_ble_eq_true rfl) dL_law_243 rfl rfl (fun H locs V => ?_)
  refine lv_aload_n hx hb dL_law_246 rfl (lv_at hl 2 rfl) ?_
  refine m_VR X V (rest := [.int ((pX7_clear loc pn).1)]) (st1 := [.int ((pX8_clear v ql).1), .int ((pX7_clear loc pn).1)]) (kX8_clear l D cB cI bd v qm ql qs qk qd qn qe qf qo qt qi qy) okX8_clear gm_499 gm_500 gm_498 rfl rfl rfl ⟨⟨rfl, rfl⟩, ⟨by decide, by decide⟩, by decide, by decide⟩ rfl rfl (wR_fst _ _ _ _ _ _ _ _ _ _ _ _ _ _ _ _ ) (wR_fst _ _ _ _ _ _ _ _ _ _ _ _ _ _ _ _ ) rfl hl.1 (Nat.le_of_ble_eq_true rfl) dL_law_247 rfl rfl (fun H locs V => ?_)
  refine lv_icmp_eq (tgt := 429) hx hb dL_law_250 (by decide) (fun _ => ?_) (fun cE => ?_)
  · refine kk _ _ _ ⟨ad, i, j, o, q, q2, q3, x, y, _, _, _, _, _, _, _, _, _, _, _, _, _, _, _, _, _, _, _, _, _, _, _, _, _, _, _, _, _, _, _, _, _, rfl, rfl, ?_⟩ V
    rcases hF with ⟨e1, e2, F⟩ | ⟨e1, e2, F⟩
    · exact Or.inl ⟨e1, e2, (FR_clear F).2⟩
    · exact Or.inr ⟨e1, e2, (FR_clear F).2⟩
  · refine absurd ?_ cE
    rcases hF with ⟨e1, e2, F⟩ | ⟨e1, e2, F⟩
    · exact (FR_clear F).1
    · exact (FR_clear F).1
theorem cs_read {p : Program} {l : Launch} {e : Env} {s : State} {m : MethodId} {below : List Frame} {meth : Method} {c : Code} {H : Heap} {locs : List Loc} {Q : State → Prop} {ls : Array Slot} {D : va_G} {A : Nat → Prop} {cB cI : ClassId} {b L a b2 : Nat} {xs : Nat → Int32} {x3 : Int32} {ws : va_W} (X : mCx p s m #[Value.ref b] c cL_law 4 RL D cB cI) (hX : va_X b L xs s s.heap) (hbl : b < s.heap.size) (hbA : ¬ A b) (hW : LW cB cI a b2 ws) (V : mWd D A s ws H locs) (hl : lv_has ls 4 [(0, .ref b), (1, .ref a), (2, .ref b2), (3, .int x3)]) (h1 : vp_in (x3 + 1) L) (kk : ∀ (ws1 : va_W) (H1 : Heap) (locs1 : List Loc), LW cB cI a b2 ws1 → mWd D A s ws1 H1 locs1 → W p l e room_1 s m #[Value.ref b] below meth c H1 locs1 35 3703 Q (F0 m 429 ls [])) : W p l e room_1 s m #[Value.ref b] below meth c H locs 35 3703 Q (F0 m 255 ls []) := by
  obtain ⟨ad, i, j, o, q, q2, q3, x, y, wr, g, mem, loc, pf, pg, pn, t, fm, fn, z, key, ld, lt, lf, lg, tt, tf, tg, bd, v, qm, ql, qs, qk, qd, qn, qe, qf, qo, qt, qi, qy, rfl, rfl, hF⟩ := hW
  have hx := X.1.1
  have hb := X.1.2.1
  have hc : sb_Fit mem ∧ nnQ qd ∧ Tp v ∧ (v 12).toInt ≤ 8 := by rcases hF with ⟨_, _, F⟩ | ⟨_, _, F⟩ <;> exact ⟨F.2.2.2.2.2, F.2.2.1, F.1.2.2.2.1, F.2.2.2.2.1⟩
  rcases hF with ⟨rfl, rfl, F⟩ | ⟨rfl, rfl, F⟩
  · refine lv_aload_n hx hb dL_law_255 rfl (lv_at hl 1 rfl) ?_
    refine lv_aload_n hx hb dL_law_256 rfl (lv_at hl 0 rfl) ?_
    refine lv_iload_n hx hb dL_law_257 rfl (lv_at hl 3 rfl) ?_
    refine lv_iconst (v := 1) hx hb dL_law_258 (by decide) ?_
    refine lv_iadd hx hb dL_law_259 ?_
    refine va_sld hx hb hX hbl hbA V.2.2.1 h1 dL_law_260 ?_
    refine m_VL X V (rest := []) (st1 := [.int ((pX7_read_0 wr mem tt tf tg i q (xs (x3 + 1).toNatClampNeg)).1)]) (kX7_read_0 l D cB cI a ad i j o q q2 q3 wr g mem loc pf pg pn t fm fn z key ld lt lf lg tt tf tg (xs (x3 + 1).toNatClampNeg)) okX7_read gm_172 gm_173 gm_171 rfl rfl ⟨⟨rfl, rfl⟩, ⟨by decide, by decide⟩, by decide, by decide⟩ rfl rfl (wG_fst _ _ _ _ _ _ _ _ _ _ _ _ _ _ _ _ _ _ _ _ _ _ _ _ _ _ _ _ _ _ _ ) (wG_fst _ _ _ _ _ _ _ _ _ _ _ _ _ _ _ _ _ _ _ _ _ _ _ _ _ _ _ _ _ _ _ ) rfl hl.1 (Nat.le_of_ble_eq_true rfl) dL_law_261 rfl rfl (fun H locs V => ?_)
    refine lv_aload_n hx hb dL_law_264 rfl (lv_at hl 2 rfl) ?_
    refine lv_aload_n hx hb dL_law_265 rfl (lv_at hl 0 rfl) ?_
    refine lv_iload_n hx hb dL_law_266 rfl (lv_at hl 3 rfl) ?_
    refine lv_iconst (v := 1) hx hb dL_law_267 (by decide) ?_
    refine lv_iadd hx hb dL_law_268 ?_
    refine va_sld hx hb hX hbl hbA V.2.2.1 h1 dL_law_269 ?_
    refine m_VR X V (rest := [.int ((pX7_read_0 wr mem tt tf tg i q (xs (x3 + 1).toNatClampNeg)).1)]) (st1 := [.int ((pX8_read v qm qd qn qe qf (xs (x3 + 1).toNatClampNeg)).1), .int ((pX7_read_0 wr mem tt tf tg i q (xs (x3 + 1).toNatClampNeg)).1)]) (kX8_read l D cB cI bd v qm ql qs qk qd qn qe qf qo qt qi qy (xs (x3 + 1).toNatClampNeg) (fun j => hc.2.1 j)) okX8_read gm_503 gm_504 gm_502 rfl rfl rfl ⟨⟨rfl, rfl⟩, ⟨by decide, by decide⟩, by decide, by decide⟩ rfl rfl (wR_fst _ _ _ _ _ _ _ _ _ _ _ _ _ _ _ _ ) (wR_fst _ _ _ _ _ _ _ _ _ _ _ _ _ _ _ _ ) rfl hl.1 (Nat.le_of_ble_eq_true rfl) dL_law_270 rfl rfl (fun H locs V => ?_)
    have e := FR_read F tt tf tg qn (xs (x3 + 1).toNatClampNeg) (C := pX1_decode tt tf tg mem (xs (x3 + 1).toNatClampNeg)) rfl rfl
    rcases e with ⟨c0, e1, e2⟩ | ⟨c0, e1, e2⟩
    · have er : (pX7_read_0 wr mem tt tf tg i q (xs (x3 + 1).toNatClampNeg)) = ((pX1_decode tt tf tg mem (xs (x3 + 1).toNatClampNeg)).2.1 3, q, i, 1, (pX1_decode tt tf tg mem (xs (x3 + 1).toNatClampNeg)).2.1, (pX1_decode tt tf tg mem (xs (x3 + 1).toNatClampNeg)).2.2.1, (pX1_decode tt tf tg mem (xs (x3 + 1).toNatClampNeg)).2.2.2) := by rw [pX7_read_0, mLet_eq, if_pos c0]
      refine lv_icmp_eq (tgt := 429) hx hb dL_law_273 (by decide) (fun _ => ?_) (fun cE => absurd (by rw [er]; exact e1) cE)
      refine kk _ _ _ ⟨ad, i, j, o, q, q2, q3, _, _, _, _, _, _, _, _, _, _, _, _, _, _, _, _, _, _, _, _, _, _, _, _, _, _, _, _, _, _, _, _, _, _, _, rfl, rfl, Or.inr ⟨by rw [er], by rw [er], ?_⟩⟩ V
      rw [er]; exact e2
    · have er : (pX7_read_0 wr mem tt tf tg i q (xs (x3 + 1).toNatClampNeg)) = (-10 - (pX1_decode tt tf tg mem (xs (x3 + 1).toNatClampNeg)).1, i, q, wr, (pX1_decode tt tf tg mem (xs (x3 + 1).toNatClampNeg)).2.1, (pX1_decode tt tf tg mem (xs (x3 + 1).toNatClampNeg)).2.2.1, (pX1_decode tt tf tg mem (xs (x3 + 1).toNatClampNeg)).2.2.2) := by rw [pX7_read_0, mLet_eq, if_neg c0]
      refine lv_icmp_eq (tgt := 429) hx hb dL_law_273 (by decide) (fun _ => ?_) (fun cE => absurd (by rw [er]; exact e1) cE)
      refine kk _ _ _ ⟨ad, i, j, o, q, q2, q3, _, _, _, _, _, _, _, _, _, _, _, _, _, _, _, _, _, _, _, _, _, _, _, _, _, _, _, _, _, _, _, _, _, _, _, rfl, rfl, Or.inl ⟨by rw [er], by rw [er], ?_⟩⟩ V
      rw [er]; exact e2
  · refine lv_aload_n hx hb dL_law_255 rfl (lv_at hl 1 rfl) ?_
    refine lv_aload_n hx hb dL_law_256 rfl (lv_at hl 0 rfl) ?_
    refine lv_iload_n hx hb dL_law_257 rfl (lv_at hl 3 rfl) ?_
    refine lv_iconst (v := 1) hx hb dL_law_258 (by decide) ?_
    refine lv_iadd hx hb dL_law_259 ?_
    refine va_sld hx hb hX hbl hbA V.2.2.1 h1 dL_law_260 ?_
    refine m_VL X V (rest := []) (st1 := [.int ((pX7_read_1 wr mem lt lf lg q i (xs (x3 + 1).toNatClampNeg)).1)]) (kX7_read_1 l D cB cI a ad i j o q q2 q3 wr g mem loc pf pg pn t fm fn z key ld lt lf lg tt tf tg (xs (x3 + 1).toNatClampNeg)) okX7_read gm_172 gm_173 gm_171 rfl rfl ⟨⟨rfl, rfl⟩, ⟨by decide, by decide⟩, by decide, by decide⟩ rfl rfl (wG_fst _ _ _ _ _ _ _ _ _ _ _ _ _ _ _ _ _ _ _ _ _ _ _ _ _ _ _ _ _ _ _ ) (wG_fst _ _ _ _ _ _ _ _ _ _ _ _ _ _ _ _ _ _ _ _ _ _ _ _ _ _ _ _ _ _ _ ) rfl hl.1 (Nat.le_of_ble_eq_true rfl) dL_law_261 rfl rfl (fun H locs V => ?_)
    refine lv_aload_n hx hb dL_law_264 rfl (lv_at hl 2 rfl) ?_
    refine lv_aload_n hx hb dL_law_265 rfl (lv_at hl 0 rfl) ?_
    refine lv_iload_n hx hb dL_law_266 rfl (lv_at hl 3 rfl) ?_
    refine lv_iconst (v := 1) hx hb dL_law_267 (by decide) ?_
    refine lv_iadd hx hb dL_law_268 ?_
    refine va_sld hx hb hX hbl hbA V.2.2.1 h1 dL_law_269 ?_
    refine m_VR X V (rest := [.int ((pX7_read_1 wr mem lt lf lg q i (xs (x3 + 1).toNatClampNeg)).1)]) (st1 := [.int ((pX8_read v qm qd qn qe qf (xs (x3 + 1).toNatClampNeg)).1), .int ((pX7_read_1 wr mem lt lf lg q i (xs (x3 + 1).toNatClampNeg)).1)]) (kX8_read l D cB cI bd v qm ql qs qk qd qn qe qf qo qt qi qy (xs (x3 + 1).toNatClampNeg) (fun j => hc.2.1 j)) okX8_read gm_503 gm_504 gm_502 rfl rfl rfl ⟨⟨rfl, rfl⟩, ⟨by decide, by decide⟩, by decide, by decide⟩ rfl rfl (wR_fst _ _ _ _ _ _ _ _ _ _ _ _ _ _ _ _ ) (wR_fst _ _ _ _ _ _ _ _ _ _ _ _ _ _ _ _ ) rfl hl.1 (Nat.le_of_ble_eq_true rfl) dL_law_270 rfl rfl (fun H locs V => ?_)
    have e := FR_read F lt lf lg qn (xs (x3 + 1).toNatClampNeg) (C := pX1_decode lt lf lg mem (xs (x3 + 1).toNatClampNeg)) rfl rfl
    rcases e with ⟨c0, e1, e2⟩ | ⟨c0, e1, e2⟩
    · have er : (pX7_read_1 wr mem lt lf lg q i (xs (x3 + 1).toNatClampNeg)) = ((pX1_decode lt lf lg mem (xs (x3 + 1).toNatClampNeg)).2.1 3, i, q, 1, (pX1_decode lt lf lg mem (xs (x3 + 1).toNatClampNeg)).2.1, (pX1_decode lt lf lg mem (xs (x3 + 1).toNatClampNeg)).2.2.1, (pX1_decode lt lf lg mem (xs (x3 + 1).toNatClampNeg)).2.2.2) := by rw [pX7_read_1, mLet_eq, if_pos c0]
      refine lv_icmp_eq (tgt := 429) hx hb dL_law_273 (by decide) (fun _ => ?_) (fun cE => absurd (by rw [er]; exact e1) cE)
      refine kk _ _ _ ⟨ad, i, j, o, q, q2, q3, _, _, _, _, _, _, _, _, _, _, _, _, _, _, _, _, _, _, _, _, _, _, _, _, _, _, _, _, _, _, _, _, _, _, _, rfl, rfl, Or.inl ⟨by rw [er], by rw [er], ?_⟩⟩ V
      rw [er]; exact e2
    · have er : (pX7_read_1 wr mem lt lf lg q i (xs (x3 + 1).toNatClampNeg)) = (-10 - (pX1_decode lt lf lg mem (xs (x3 + 1).toNatClampNeg)).1, q, i, wr, (pX1_decode lt lf lg mem (xs (x3 + 1).toNatClampNeg)).2.1, (pX1_decode lt lf lg mem (xs (x3 + 1).toNatClampNeg)).2.2.1, (pX1_decode lt lf lg mem (xs (x3 + 1).toNatClampNeg)).2.2.2) := by rw [pX7_read_1, mLet_eq, if_neg c0]
      refine lv_icmp_eq (tgt := 429) hx hb dL_law_273 (by decide) (fun _ => ?_) (fun cE => absurd (by rw [er]; exact e1) cE)
      refine kk _ _ _ ⟨ad, i, j, o, q, q2, q3, _, _, _, _, _, _, _, _, _, _, _, _, _, _, _, _, _, _, _, _, _, _, _, _, _, _, _, _, _, _, _, _, _, _, _, rfl, rfl, Or.inr ⟨by rw [er], by rw [er], ?_⟩⟩ V
      rw [er]; exact e2
theorem cs_row {p : Program} {l : Launch} {e : Env} {s : State} {m : MethodId} {below : List Frame} {meth : Method} {c : Code} {H : Heap} {locs : List Loc} {Q : State → Prop} {ls : Array Slot} {D : va_G} {A : Nat → Prop} {cB cI : ClassId} {b L a b2 : Nat} {xs : Nat → Int32} {x3 : Int32} {ws : va_W} (X : mCx p s m #[Value.ref b] c cL_law 4 RL D cB cI) (hX : va_X b L xs s s.heap) (hbl : b < s.heap.size) (hbA : ¬ A b) (hW : LW cB cI a b2 ws) (V : mWd D A s ws H locs) (hl : lv_has ls 4 [(0, .ref b), (1, .ref a), (2, .ref b2), (3, .int x3)]) (h1 : vp_in (x3 + 1) L) (kk : ∀ (ws1 : va_W) (H1 : Heap) (locs1 : List Loc), LW cB cI a b2 ws1 → mWd D A s ws1 H1 locs1 → W p l e room_1 s m #[Value.ref b] below meth c H1 locs1 35 3703 Q (F0 m 429 ls [])) : W p l e room_1 s m #[Value.ref b] below meth c H locs 35 3703 Q (F0 m 278 ls []) := by
  obtain ⟨ad, i, j, o, q, q2, q3, x, y, wr, g, mem, loc, pf, pg, pn, t, fm, fn, z, key, ld, lt, lf, lg, tt, tf, tg, bd, v, qm, ql, qs, qk, qd, qn, qe, qf, qo, qt, qi, qy, rfl, rfl, hF⟩ := hW
  have hx := X.1.1
  have hb := X.1.2.1
  have hc : sb_Fit mem ∧ nnQ qd ∧ Tp v ∧ (v 12).toInt ≤ 8 := by rcases hF with ⟨_, _, F⟩ | ⟨_, _, F⟩ <;> exact ⟨F.2.2.2.2.2, F.2.2.1, F.1.2.2.2.1, F.2.2.2.2.1⟩
  rcases hF with ⟨rfl, rfl, F⟩ | ⟨rfl, rfl, F⟩
  · refine lv_aload_n hx hb dL_law_278 rfl (lv_at hl 1 rfl) ?_
    refine lv_aload_n hx hb dL_law_279 rfl (lv_at hl 0 rfl) ?_
    refine lv_iload_n hx hb dL_law_280 rfl (lv_at hl 3 rfl) ?_
    refine lv_iconst (v := 1) hx hb dL_law_281 (by decide) ?_
    refine lv_iadd hx hb dL_law_282 ?_
    refine va_sld hx hb hX hbl hbA V.2.2.1 h1 dL_law_283 ?_
    refine m_VL X V (rest := []) (st1 := [.int ((pX7_row_0 wr lt lf lg (xs (x3 + 1).toNatClampNeg)))]) (kX7_row_0 l D cB cI a ad i j o q q2 q3 wr g mem loc pf pg pn t fm fn z key ld lt lf lg tt tf tg (xs (x3 + 1).toNatClampNeg)) okX7_row gm_212 gm_213 gm_211 rfl rfl ⟨⟨rfl, rfl⟩, ⟨by decide, by decide⟩, by decide, by decide⟩ rfl rfl (wG_fst _ _ _ _ _ _ _ _ _ _ _ _ _ _ _ _ _ _ _ _ _ _ _ _ _ _ _ _ _ _ _ ) (wG_fst _ _ _ _ _ _ _ _ _ _ _ _ _ _ _ _ _ _ _ _ _ _ _ _ _ _ _ _ _ _ _ ) rfl hl.1 (Nat.le_of_ble_eq_true rfl) dL_law_284 rfl rfl (fun H locs V => ?_)
    refine lv_aload_n hx hb dL_law_287 rfl (lv_at hl 2 rfl) ?_
    refine lv_aload_n hx hb dL_law_288 rfl (lv_at hl 0 rfl) ?_
    refine lv_iload_n hx hb dL_law_289 rfl (lv_at hl 3 rfl) ?_
    refine lv_iconst (v := 1) hx hb dL_law_290 (by decide) ?_
    refine lv_iadd hx hb dL_law_291 ?_
    refine va_sld hx hb hX hbl hbA V.2.2.1 h1 dL_law_292 ?_
    refine m_VR X V (rest := [.int ((pX7_row_0 wr lt lf lg (xs (x3 + 1).toNatClampNeg)))]) (st1 := [.int ((pX8_row v qe qf (xs (x3 + 1).toNatClampNeg))), .int ((pX7_row_0 wr lt lf lg (xs (x3 + 1).toNatClampNeg)))]) (kX8_row l D cB cI bd v qm ql qs qk qd qn qe qf qo qt qi qy (xs (x3 + 1).toNatClampNeg) hc.2.2.2) okX8_row gm_523 gm_524 gm_522 rfl rfl rfl ⟨⟨rfl, rfl⟩, ⟨by decide, by decide⟩, by decide, by decide⟩ rfl rfl (wR_fst _ _ _ _ _ _ _ _ _ _ _ _ _ _ _ _ ) (wR_fst _ _ _ _ _ _ _ _ _ _ _ _ _ _ _ _ ) rfl hl.1 (Nat.le_of_ble_eq_true rfl) dL_law_293 rfl rfl (fun H locs V => ?_)
    refine lv_icmp_eq (tgt := 429) hx hb dL_law_296 (by decide) (fun _ => ?_) (fun cE => ?_)
    · exact kk _ _ _ ⟨ad, i, j, o, q, q2, q3, i, q, _, _, _, _, _, _, _, _, _, _, _, _, _, _, _, _, _, _, _, _, _, _, _, _, _, _, _, _, _, _, _, _, _, rfl, rfl, Or.inl ⟨rfl, rfl, F⟩⟩ V
    · exact absurd (told_row F.2.2.2.1 (xs (x3 + 1).toNatClampNeg)) cE
  · refine lv_aload_n hx hb dL_law_278 rfl (lv_at hl 1 rfl) ?_
    refine lv_aload_n hx hb dL_law_279 rfl (lv_at hl 0 rfl) ?_
    refine lv_iload_n hx hb dL_law_280 rfl (lv_at hl 3 rfl) ?_
    refine lv_iconst (v := 1) hx hb dL_law_281 (by decide) ?_
    refine lv_iadd hx hb dL_law_282 ?_
    refine va_sld hx hb hX hbl hbA V.2.2.1 h1 dL_law_283 ?_
    refine m_VL X V (rest := []) (st1 := [.int ((pX7_row_1 wr tt tf tg (xs (x3 + 1).toNatClampNeg)))]) (kX7_row_1 l D cB cI a ad i j o q q2 q3 wr g mem loc pf pg pn t fm fn z key ld lt lf lg tt tf tg (xs (x3 + 1).toNatClampNeg)) okX7_row gm_212 gm_213 gm_211 rfl rfl ⟨⟨rfl, rfl⟩, ⟨by decide, by decide⟩, by decide, by decide⟩ rfl rfl (wG_fst _ _ _ _ _ _ _ _ _ _ _ _ _ _ _ _ _ _ _ _ _ _ _ _ _ _ _ _ _ _ _ ) (wG_fst _ _ _ _ _ _ _ _ _ _ _ _ _ _ _ _ _ _ _ _ _ _ _ _ _ _ _ _ _ _ _ ) rfl hl.1 (Nat.le_of_ble_eq_true rfl) dL_law_284 rfl rfl (fun H locs V => ?_)
    refine lv_aload_n hx hb dL_law_287 rfl (lv_at hl 2 rfl) ?_
    refine lv_aload_n hx hb dL_law_288 rfl (lv_at hl 0 rfl) ?_
    refine lv_iload_n hx hb dL_law_289 rfl (lv_at hl 3 rfl) ?_
    refine lv_iconst (v := 1) hx hb dL_law_290 (by decide) ?_
    refine lv_iadd hx hb dL_law_291 ?_
    refine va_sld hx hb hX hbl hbA V.2.2.1 h1 dL_law_292 ?_
    refine m_VR X V (rest := [.int ((pX7_row_1 wr tt tf tg (xs (x3 + 1).toNatClampNeg)))]) (st1 := [.int ((pX8_row v qe qf (xs (x3 + 1).toNatClampNeg))), .int ((pX7_row_1 wr tt tf tg (xs (x3 + 1).toNatClampNeg)))]) (kX8_row l D cB cI bd v qm ql qs qk qd qn qe qf qo qt qi qy (xs (x3 + 1).toNatClampNeg) hc.2.2.2) okX8_row gm_523 gm_524 gm_522 rfl rfl rfl ⟨⟨rfl, rfl⟩, ⟨by decide, by decide⟩, by decide, by decide⟩ rfl rfl (wR_fst _ _ _ _ _ _ _ _ _ _ _ _ _ _ _ _ ) (wR_fst _ _ _ _ _ _ _ _ _ _ _ _ _ _ _ _ ) rfl hl.1 (Nat.le_of_ble_eq_true rfl) dL_law_293 rfl rfl (fun H locs V => ?_)
    refine lv_icmp_eq (tgt := 429) hx hb dL_law_296 (by decide) (fun _ => ?_) (fun cE => ?_)
    · exact kk _ _ _ ⟨ad, i, j, o, q, q2, q3, q, i, _, _, _, _, _, _, _, _, _, _, _, _, _, _, _, _, _, _, _, _, _, _, _, _, _, _, _, _, _, _, _, _, _, rfl, rfl, Or.inr ⟨rfl, rfl, F⟩⟩ V
    · exact absurd ((row_10 wr tt tf tg (xs (x3 + 1).toNatClampNeg)).trans (told_row F.2.2.2.1 (xs (x3 + 1).toNatClampNeg))) cE
theorem cs_step {p : Program} {l : Launch} {e : Env} {s : State} {m : MethodId} {below : List Frame} {meth : Method} {c : Code} {H : Heap} {locs : List Loc} {Q : State → Prop} {ls : Array Slot} {D : va_G} {A : Nat → Prop} {cB cI : ClassId} {b L a b2 : Nat} {xs : Nat → Int32} {x3 : Int32} {ws : va_W} (X : mCx p s m #[Value.ref b] c cL_law 4 RL D cB cI) (hX : va_X b L xs s s.heap) (hbl : b < s.heap.size) (hbA : ¬ A b) (hW : LW cB cI a b2 ws) (V : mWd D A s ws H locs) (hl : lv_has ls 4 [(0, .ref b), (1, .ref a), (2, .ref b2), (3, .int x3)]) (kk : ∀ (ws1 : va_W) (H1 : Heap) (locs1 : List Loc), LW cB cI a b2 ws1 → mWd D A s ws1 H1 locs1 → W p l e room_1 s m #[Value.ref b] below meth c H1 locs1 35 3703 Q (F0 m 429 ls [])) : W p l e room_1 s m #[Value.ref b] below meth c H locs 35 3703 Q (F0 m 301 ls []) := by
  obtain ⟨ad, i, j, o, q, q2, q3, x, y, wr, g, mem, loc, pf, pg, pn, t, fm, fn, z, key, ld, lt, lf, lg, tt, tf, tg, bd, v, qm, ql, qs, qk, qd, qn, qe, qf, qo, qt, qi, qy, rfl, rfl, hF⟩ := hW
  have hx := X.1.1
  have hb := X.1.2.1
  have hc : sb_Fit mem ∧ nnQ qd ∧ Tp v ∧ (v 12).toInt ≤ 8 := by rcases hF with ⟨_, _, F⟩ | ⟨_, _, F⟩ <;> exact ⟨F.2.2.2.2.2, F.2.2.1, F.1.2.2.2.1, F.2.2.2.2.1⟩
  refine lv_aload_n hx hb dL_law_301 rfl (lv_at hl 1 rfl) ?_
  refine m_VL X V (rest := []) (st1 := [.int ((pX7_step g mem loc pf pg pn t fm fn z key ld).1)]) (kX7_step l D cB cI a ad i j o q q2 q3 x y wr g mem loc pf pg pn t fm fn z key ld lt lf lg tt tf tg hc.1) okX7_step gm_218 gm_219 gm_217 rfl rfl ⟨⟨rfl, rfl⟩, ⟨by decide, by decide⟩, by decide, by decide⟩ rfl rfl (wG_fst _ _ _ _ _ _ _ _ _ _ _ _ _ _ _ _ _ _ _ _ _ _ _ _ _ _ _ _ _ _ _ ) (wG_fst _ _ _ _ _ _ _ _ _ _ _ _ _ _ _ _ _ _ _ _ _ _ _ _ _ _ _ _ _ _ _ ) rfl hl.1 (Nat.le_of_ble_eq_true rfl) dL_law_302 rfl rfl (fun H locs V => ?_)
  refine lv_aload_n hx hb dL_law_305 rfl (lv_at hl 2 rfl) ?_
  refine m_VR X V (rest := [.int ((pX7_step g mem loc pf pg pn t fm fn z key ld).1)]) (st1 := [.int ((pX8_step v qm ql qs qk qd qn qo qt qi qy).1), .int ((pX7_step g mem loc pf pg pn t fm fn z key ld).1)]) (kX8_step l D cB cI bd v qm ql qs qk qd qn qe qf qo qt qi qy (fun j => hc.2.1 j) hc.2.2.1) okX8_step gm_527 gm_528 gm_526 rfl rfl rfl ⟨⟨rfl, rfl⟩, ⟨by decide, by decide⟩, by decide, by decide⟩ rfl rfl (wR_fst _ _ _ _ _ _ _ _ _ _ _ _ _ _ _ _ ) (wR_fst _ _ _ _ _ _ _ _ _ _ _ _ _ _ _ _ ) rfl hl.1 (Nat.le_of_ble_eq_true rfl) dL_law_306 rfl rfl (fun H locs V => ?_)
  refine lv_icmp_eq (tgt := 429) hx hb dL_law_309 (by decide) (fun _ => ?_) (fun cE => ?_)
  · refine kk _ _ _ ⟨ad, i, j, o, q, q2, q3, x, y, _, _, _, _, _, _, _, _, _, _, _, _, _, _, _, _, _, _, _, _, _, _, _, _, _, _, _, _, _, _, _, _, _, rfl, rfl, ?_⟩ V
    rcases hF with ⟨e1, e2, F⟩ | ⟨e1, e2, F⟩
    · exact Or.inl ⟨e1, e2, (FR_step F pg t fm fn z key ld qk qn qo qt qi qy rfl rfl).2⟩
    · exact Or.inr ⟨e1, e2, (FR_step F pg t fm fn z key ld qk qn qo qt qi qy rfl rfl).2⟩
  · refine absurd ?_ cE
    rcases hF with ⟨e1, e2, F⟩ | ⟨e1, e2, F⟩
    · exact (FR_step F pg t fm fn z key ld qk qn qo qt qi qy rfl rfl).1
    · exact (FR_step F pg t fm fn z key ld qk qn qo qt qi qy rfl rfl).1
theorem cs_run {p : Program} {l : Launch} {e : Env} {s : State} {m : MethodId} {below : List Frame} {meth : Method} {c : Code} {H : Heap} {locs : List Loc} {Q : State → Prop} {ls : Array Slot} {D : va_G} {A : Nat → Prop} {cB cI : ClassId} {b L a b2 : Nat} {xs : Nat → Int32} {x3 : Int32} {ws : va_W} (X : mCx p s m #[Value.ref b] c cL_law 4 RL D cB cI) (hX : va_X b L xs s s.heap) (hbl : b < s.heap.size) (hbA : ¬ A b) (hW : LW cB cI a b2 ws) (V : mWd D A s ws H locs) (hl : lv_has ls 4 [(0, .ref b), (1, .ref a), (2, .ref b2), (3, .int x3)]) (h1 : vp_in (x3 + 1) L) (kk : ∀ (ws1 : va_W) (H1 : Heap) (locs1 : List Loc), LW cB cI a b2 ws1 → mWd D A s ws1 H1 locs1 → W p l e room_1 s m #[Value.ref b] below meth c H1 locs1 35 3703 Q (F0 m 429 ls [])) : W p l e room_1 s m #[Value.ref b] below meth c H locs 35 3703 Q (F0 m 314 ls []) := by
  obtain ⟨ad, i, j, o, q, q2, q3, x, y, wr, g, mem, loc, pf, pg, pn, t, fm, fn, z, key, ld, lt, lf, lg, tt, tf, tg, bd, v, qm, ql, qs, qk, qd, qn, qe, qf, qo, qt, qi, qy, rfl, rfl, hF⟩ := hW
  have hx := X.1.1
  have hb := X.1.2.1
  have hc : sb_Fit mem ∧ nnQ qd ∧ Tp v ∧ (v 12).toInt ≤ 8 := by rcases hF with ⟨_, _, F⟩ | ⟨_, _, F⟩ <;> exact ⟨F.2.2.2.2.2, F.2.2.1, F.1.2.2.2.1, F.2.2.2.2.1⟩
  refine lv_aload_n hx hb dL_law_314 rfl (lv_at hl 1 rfl) ?_
  refine lv_aload_n hx hb dL_law_315 rfl (lv_at hl 0 rfl) ?_
  refine lv_iload_n hx hb dL_law_316 rfl (lv_at hl 3 rfl) ?_
  refine lv_iconst (v := 1) hx hb dL_law_317 (by decide) ?_
  refine lv_iadd hx hb dL_law_318 ?_
  refine va_sld hx hb hX hbl hbA V.2.2.1 h1 dL_law_319 ?_
  refine m_VL X V (rest := []) (st1 := [.int ((pX7_run g mem loc pf pg pn t fm fn z key ld (xs (x3 + 1).toNatClampNeg)).1)]) (kX7_run l D cB cI a ad i j o q q2 q3 x y wr g mem loc pf pg pn t fm fn z key ld lt lf lg tt tf tg (xs (x3 + 1).toNatClampNeg) hc.1) okX7_run gm_398 gm_399 gm_397 rfl rfl ⟨⟨rfl, rfl⟩, ⟨by decide, by decide⟩, by decide, by decide⟩ rfl rfl (wG_fst _ _ _ _ _ _ _ _ _ _ _ _ _ _ _ _ _ _ _ _ _ _ _ _ _ _ _ _ _ _ _ ) (wG_fst _ _ _ _ _ _ _ _ _ _ _ _ _ _ _ _ _ _ _ _ _ _ _ _ _ _ _ _ _ _ _ ) rfl hl.1 (Nat.le_of_ble_eq_true rfl) dL_law_320 rfl rfl (fun H locs V => ?_)
  refine lv_aload_n hx hb dL_law_323 rfl (lv_at hl 2 rfl) ?_
  refine lv_aload_n hx hb dL_law_324 rfl (lv_at hl 0 rfl) ?_
  refine lv_iload_n hx hb dL_law_325 rfl (lv_at hl 3 rfl) ?_
  refine lv_iconst (v := 1) hx hb dL_law_326 (by decide) ?_
  refine lv_iadd hx hb dL_law_327 ?_
  refine va_sld hx hb hX hbl hbA V.2.2.1 h1 dL_law_328 ?_
  refine m_VR X V (rest := [.int ((pX7_run g mem loc pf pg pn t fm fn z key ld (xs (x3 + 1).toNatClampNeg)).1)]) (st1 := [.int ((pX8_run v qm ql qs qk qd qn qo qt qi qy (xs (x3 + 1).toNatClampNeg)).1), .int ((pX7_run g mem loc pf pg pn t fm fn z key ld (xs (x3 + 1).toNatClampNeg)).1)]) (kX8_run l D cB cI bd v qm ql qs qk qd qn qe qf qo qt qi qy (xs (x3 + 1).toNatClampNeg) (fun j => hc.2.1 j) hc.2.2.1) okX8_run gm_610 gm_611 gm_609 rfl rfl rfl ⟨⟨rfl, rfl⟩, ⟨by decide, by decide⟩, by decide, by decide⟩ rfl rfl (wR_fst _ _ _ _ _ _ _ _ _ _ _ _ _ _ _ _ ) (wR_fst _ _ _ _ _ _ _ _ _ _ _ _ _ _ _ _ ) rfl hl.1 (Nat.le_of_ble_eq_true rfl) dL_law_329 rfl rfl (fun H locs V => ?_)
  refine lv_icmp_eq (tgt := 429) hx hb dL_law_332 (by decide) (fun _ => ?_) (fun cE => ?_)
  · refine kk _ _ _ ⟨ad, i, j, o, q, q2, q3, x, y, _, _, _, _, _, _, _, _, _, _, _, _, _, _, _, _, _, _, _, _, _, _, _, _, _, _, _, _, _, _, _, _, _, rfl, rfl, ?_⟩ V
    rcases hF with ⟨e1, e2, F⟩ | ⟨e1, e2, F⟩
    · exact Or.inl ⟨e1, e2, (FR_run F pg t fm fn z key ld qk qn qo qt qi qy (xs (x3 + 1).toNatClampNeg) rfl rfl).2⟩
    · exact Or.inr ⟨e1, e2, (FR_run F pg t fm fn z key ld qk qn qo qt qi qy (xs (x3 + 1).toNatClampNeg) rfl rfl).2⟩
  · refine absurd ?_ cE
    rcases hF with ⟨e1, e2, F⟩ | ⟨e1, e2, F⟩
    · exact (FR_run F pg t fm fn z key ld qk qn qo qt qi qy (xs (x3 + 1).toNatClampNeg) rfl rfl).1
    · exact (FR_run F pg t fm fn z key ld qk qn qo qt qi qy (xs (x3 + 1).toNatClampNeg) rfl rfl).1
theorem cs_told {p : Program} {l : Launch} {e : Env} {s : State} {m : MethodId} {below : List Frame} {meth : Method} {c : Code} {H : Heap} {locs : List Loc} {Q : State → Prop} {ls : Array Slot} {D : va_G} {A : Nat → Prop} {cB cI : ClassId} {b L a b2 : Nat} {xs : Nat → Int32} {x3 : Int32} {ws : va_W} (X : mCx p s m #[Value.ref b] c cL_law 4 RL D cB cI) (hX : va_X b L xs s s.heap) (hbl : b < s.heap.size) (hbA : ¬ A b) (hW : LW cB cI a b2 ws) (V : mWd D A s ws H locs) (hl : lv_has ls 4 [(0, .ref b), (1, .ref a), (2, .ref b2), (3, .int x3)]) (h1 : vp_in (x3 + 1) L) (kk : ∀ (ws1 : va_W) (H1 : Heap) (locs1 : List Loc), LW cB cI a b2 ws1 → mWd D A s ws1 H1 locs1 → W p l e room_1 s m #[Value.ref b] below meth c H1 locs1 35 3703 Q (F0 m 429 ls [])) : W p l e room_1 s m #[Value.ref b] below meth c H locs 35 3703 Q (F0 m 337 ls []) := by
  obtain ⟨ad, i, j, o, q, q2, q3, x, y, wr, g, mem, loc, pf, pg, pn, t, fm, fn, z, key, ld, lt, lf, lg, tt, tf, tg, bd, v, qm, ql, qs, qk, qd, qn, qe, qf, qo, qt, qi, qy, rfl, rfl, hF⟩ := hW
  have hx := X.1.1
  have hb := X.1.2.1
  have hc : sb_Fit mem ∧ nnQ qd ∧ Tp v ∧ (v 12).toInt ≤ 8 := by rcases hF with ⟨_, _, F⟩ | ⟨_, _, F⟩ <;> exact ⟨F.2.2.2.2.2, F.2.2.1, F.1.2.2.2.1, F.2.2.2.2.1⟩
  refine lv_aload_n hx hb dL_law_337 rfl (lv_at hl 1 rfl) ?_
  refine lv_aload_n hx hb dL_law_338 rfl (lv_at hl 0 rfl) ?_
  refine lv_iload_n hx hb dL_law_339 rfl (lv_at hl 3 rfl) ?_
  refine lv_iconst (v := 1) hx hb dL_law_340 (by decide) ?_
  refine lv_iadd hx hb dL_law_341 ?_
  refine va_sld hx hb hX hbl hbA V.2.2.1 h1 dL_law_342 ?_
  refine m_VL X V (rest := []) (st1 := [.int ((pX7_told g pn (xs (x3 + 1).toNatClampNeg)))]) (kX7_told l D cB cI a ad i j o q q2 q3 x y wr g mem loc pf pg pn t fm fn z key ld lt lf lg tt tf tg (xs (x3 + 1).toNatClampNeg)) okX7_told gm_402 gm_403 gm_401 rfl rfl ⟨⟨rfl, rfl⟩, ⟨by decide, by decide⟩, by decide, by decide⟩ rfl rfl (wG_fst _ _ _ _ _ _ _ _ _ _ _ _ _ _ _ _ _ _ _ _ _ _ _ _ _ _ _ _ _ _ _ ) (wG_fst _ _ _ _ _ _ _ _ _ _ _ _ _ _ _ _ _ _ _ _ _ _ _ _ _ _ _ _ _ _ _ ) rfl hl.1 (Nat.le_of_ble_eq_true rfl) dL_law_343 rfl rfl (fun H locs V => ?_)
  refine lv_aload_n hx hb dL_law_346 rfl (lv_at hl 2 rfl) ?_
  refine lv_aload_n hx hb dL_law_347 rfl (lv_at hl 0 rfl) ?_
  refine lv_iload_n hx hb dL_law_348 rfl (lv_at hl 3 rfl) ?_
  refine lv_iconst (v := 1) hx hb dL_law_349 (by decide) ?_
  refine lv_iadd hx hb dL_law_350 ?_
  refine va_sld hx hb hX hbl hbA V.2.2.1 h1 dL_law_351 ?_
  refine m_VR X V (rest := [.int ((pX7_told g pn (xs (x3 + 1).toNatClampNeg)))]) (st1 := [.int ((pX8_told v (xs (x3 + 1).toNatClampNeg))), .int ((pX7_told g pn (xs (x3 + 1).toNatClampNeg)))]) (kX8_told l D cB cI bd v qm ql qs qk qd qn qe qf qo qt qi qy (xs (x3 + 1).toNatClampNeg)) okX8_told gm_614 gm_615 gm_613 rfl rfl rfl ⟨⟨rfl, rfl⟩, ⟨by decide, by decide⟩, by decide, by decide⟩ rfl rfl (wR_fst _ _ _ _ _ _ _ _ _ _ _ _ _ _ _ _ ) (wR_fst _ _ _ _ _ _ _ _ _ _ _ _ _ _ _ _ ) rfl hl.1 (Nat.le_of_ble_eq_true rfl) dL_law_352 rfl rfl (fun H locs V => ?_)
  refine lv_icmp_eq (tgt := 429) hx hb dL_law_355 (by decide) (fun _ => ?_) (fun cE => ?_)
  · refine kk _ _ _ ⟨ad, i, j, o, q, q2, q3, x, y, _, _, _, _, _, _, _, _, _, _, _, _, _, _, _, _, _, _, _, _, _, _, _, _, _, _, _, _, _, _, _, _, _, rfl, rfl, ?_⟩ V
    rcases hF with ⟨e1, e2, F⟩ | ⟨e1, e2, F⟩
    · exact Or.inl ⟨e1, e2, ((⟨FR_told F (xs (x3 + 1).toNatClampNeg), F⟩ : _ ∧ _)).2⟩
    · exact Or.inr ⟨e1, e2, ((⟨FR_told F (xs (x3 + 1).toNatClampNeg), F⟩ : _ ∧ _)).2⟩
  · refine absurd ?_ cE
    rcases hF with ⟨e1, e2, F⟩ | ⟨e1, e2, F⟩
    · exact ((⟨FR_told F (xs (x3 + 1).toNatClampNeg), F⟩ : _ ∧ _)).1
    · exact ((⟨FR_told F (xs (x3 + 1).toNatClampNeg), F⟩ : _ ∧ _)).1
theorem cs_octet {p : Program} {l : Launch} {e : Env} {s : State} {m : MethodId} {below : List Frame} {meth : Method} {c : Code} {H : Heap} {locs : List Loc} {Q : State → Prop} {ls : Array Slot} {D : va_G} {A : Nat → Prop} {cB cI : ClassId} {b L a b2 : Nat} {xs : Nat → Int32} {x3 : Int32} {ws : va_W} (X : mCx p s m #[Value.ref b] c cL_law 4 RL D cB cI) (hX : va_X b L xs s s.heap) (hbl : b < s.heap.size) (hbA : ¬ A b) (hW : LW cB cI a b2 ws) (V : mWd D A s ws H locs) (hl : lv_has ls 4 [(0, .ref b), (1, .ref a), (2, .ref b2), (3, .int x3)]) (h1 : vp_in (x3 + 1) L) (kk : ∀ (ws1 : va_W) (H1 : Heap) (locs1 : List Loc), LW cB cI a b2 ws1 → mWd D A s ws1 H1 locs1 → W p l e room_1 s m #[Value.ref b] below meth c H1 locs1 35 3703 Q (F0 m 429 ls [])) : W p l e room_1 s m #[Value.ref b] below meth c H locs 35 3703 Q (F0 m 360 ls []) := by
  obtain ⟨ad, i, j, o, q, q2, q3, x, y, wr, g, mem, loc, pf, pg, pn, t, fm, fn, z, key, ld, lt, lf, lg, tt, tf, tg, bd, v, qm, ql, qs, qk, qd, qn, qe, qf, qo, qt, qi, qy, rfl, rfl, hF⟩ := hW
  have hx := X.1.1
  have hb := X.1.2.1
  have hc : sb_Fit mem ∧ nnQ qd ∧ Tp v ∧ (v 12).toInt ≤ 8 := by rcases hF with ⟨_, _, F⟩ | ⟨_, _, F⟩ <;> exact ⟨F.2.2.2.2.2, F.2.2.1, F.1.2.2.2.1, F.2.2.2.2.1⟩
  refine lv_aload_n hx hb dL_law_360 rfl (lv_at hl 1 rfl) ?_
  refine lv_aload_n hx hb dL_law_361 rfl (lv_at hl 0 rfl) ?_
  refine lv_iload_n hx hb dL_law_362 rfl (lv_at hl 3 rfl) ?_
  refine lv_iconst (v := 1) hx hb dL_law_363 (by decide) ?_
  refine lv_iadd hx hb dL_law_364 ?_
  refine va_sld hx hb hX hbl hbA V.2.2.1 h1 dL_law_365 ?_
  refine m_VL X V (rest := []) (st1 := [.int ((pX7_octet mem (xs (x3 + 1).toNatClampNeg)))]) (kX7_octet l D cB cI a ad i j o q q2 q3 x y wr g mem loc pf pg pn t fm fn z key ld lt lf lg tt tf tg (xs (x3 + 1).toNatClampNeg)) okX7_octet gm_406 gm_407 gm_405 rfl rfl ⟨⟨rfl, rfl⟩, ⟨by decide, by decide⟩, by decide, by decide⟩ rfl rfl (wG_fst _ _ _ _ _ _ _ _ _ _ _ _ _ _ _ _ _ _ _ _ _ _ _ _ _ _ _ _ _ _ _ ) (wG_fst _ _ _ _ _ _ _ _ _ _ _ _ _ _ _ _ _ _ _ _ _ _ _ _ _ _ _ _ _ _ _ ) rfl hl.1 (Nat.le_of_ble_eq_true rfl) dL_law_366 rfl rfl (fun H locs V => ?_)
  refine lv_aload_n hx hb dL_law_369 rfl (lv_at hl 2 rfl) ?_
  refine lv_aload_n hx hb dL_law_370 rfl (lv_at hl 0 rfl) ?_
  refine lv_iload_n hx hb dL_law_371 rfl (lv_at hl 3 rfl) ?_
  refine lv_iconst (v := 1) hx hb dL_law_372 (by decide) ?_
  refine lv_iadd hx hb dL_law_373 ?_
  refine va_sld hx hb hX hbl hbA V.2.2.1 h1 dL_law_374 ?_
  refine m_VR X V (rest := [.int ((pX7_octet mem (xs (x3 + 1).toNatClampNeg)))]) (st1 := [.int ((pX8_octet qm (xs (x3 + 1).toNatClampNeg))), .int ((pX7_octet mem (xs (x3 + 1).toNatClampNeg)))]) (kX8_octet l D cB cI bd v qm ql qs qk qd qn qe qf qo qt qi qy (xs (x3 + 1).toNatClampNeg)) okX8_octet gm_618 gm_619 gm_617 rfl rfl rfl ⟨⟨rfl, rfl⟩, ⟨by decide, by decide⟩, by decide, by decide⟩ rfl rfl (wR_fst _ _ _ _ _ _ _ _ _ _ _ _ _ _ _ _ ) (wR_fst _ _ _ _ _ _ _ _ _ _ _ _ _ _ _ _ ) rfl hl.1 (Nat.le_of_ble_eq_true rfl) dL_law_375 rfl rfl (fun H locs V => ?_)
  refine lv_icmp_eq (tgt := 429) hx hb dL_law_378 (by decide) (fun _ => ?_) (fun cE => ?_)
  · refine kk _ _ _ ⟨ad, i, j, o, q, q2, q3, x, y, _, _, _, _, _, _, _, _, _, _, _, _, _, _, _, _, _, _, _, _, _, _, _, _, _, _, _, _, _, _, _, _, _, rfl, rfl, ?_⟩ V
    rcases hF with ⟨e1, e2, F⟩ | ⟨e1, e2, F⟩
    · exact Or.inl ⟨e1, e2, ((⟨octet_eq F.1.1 (xs (x3 + 1).toNatClampNeg), F⟩ : _ ∧ _)).2⟩
    · exact Or.inr ⟨e1, e2, ((⟨octet_eq F.1.1 (xs (x3 + 1).toNatClampNeg), F⟩ : _ ∧ _)).2⟩
  · refine absurd ?_ cE
    rcases hF with ⟨e1, e2, F⟩ | ⟨e1, e2, F⟩
    · exact ((⟨octet_eq F.1.1 (xs (x3 + 1).toNatClampNeg), F⟩ : _ ∧ _)).1
    · exact ((⟨octet_eq F.1.1 (xs (x3 + 1).toNatClampNeg), F⟩ : _ ∧ _)).1
theorem cs_local {p : Program} {l : Launch} {e : Env} {s : State} {m : MethodId} {below : List Frame} {meth : Method} {c : Code} {H : Heap} {locs : List Loc} {Q : State → Prop} {ls : Array Slot} {D : va_G} {A : Nat → Prop} {cB cI : ClassId} {b L a b2 : Nat} {xs : Nat → Int32} {x3 : Int32} {ws : va_W} (X : mCx p s m #[Value.ref b] c cL_law 4 RL D cB cI) (hX : va_X b L xs s s.heap) (hbl : b < s.heap.size) (hbA : ¬ A b) (hW : LW cB cI a b2 ws) (V : mWd D A s ws H locs) (hl : lv_has ls 4 [(0, .ref b), (1, .ref a), (2, .ref b2), (3, .int x3)]) (h1 : vp_in (x3 + 1) L) (kk : ∀ (ws1 : va_W) (H1 : Heap) (locs1 : List Loc), LW cB cI a b2 ws1 → mWd D A s ws1 H1 locs1 → W p l e room_1 s m #[Value.ref b] below meth c H1 locs1 35 3703 Q (F0 m 429 ls [])) : W p l e room_1 s m #[Value.ref b] below meth c H locs 35 3703 Q (F0 m 383 ls []) := by
  obtain ⟨ad, i, j, o, q, q2, q3, x, y, wr, g, mem, loc, pf, pg, pn, t, fm, fn, z, key, ld, lt, lf, lg, tt, tf, tg, bd, v, qm, ql, qs, qk, qd, qn, qe, qf, qo, qt, qi, qy, rfl, rfl, hF⟩ := hW
  have hx := X.1.1
  have hb := X.1.2.1
  have hc : sb_Fit mem ∧ nnQ qd ∧ Tp v ∧ (v 12).toInt ≤ 8 := by rcases hF with ⟨_, _, F⟩ | ⟨_, _, F⟩ <;> exact ⟨F.2.2.2.2.2, F.2.2.1, F.1.2.2.2.1, F.2.2.2.2.1⟩
  refine lv_aload_n hx hb dL_law_383 rfl (lv_at hl 1 rfl) ?_
  refine lv_aload_n hx hb dL_law_384 rfl (lv_at hl 0 rfl) ?_
  refine lv_iload_n hx hb dL_law_385 rfl (lv_at hl 3 rfl) ?_
  refine lv_iconst (v := 1) hx hb dL_law_386 (by decide) ?_
  refine lv_iadd hx hb dL_law_387 ?_
  refine va_sld hx hb hX hbl hbA V.2.2.1 h1 dL_law_388 ?_
  refine m_VL X V (rest := []) (st1 := [.int ((pX7_local loc (xs (x3 + 1).toNatClampNeg)))]) (kX7_local l D cB cI a ad i j o q q2 q3 x y wr g mem loc pf pg pn t fm fn z key ld lt lf lg tt tf tg (xs (x3 + 1).toNatClampNeg)) okX7_local gm_410 gm_411 gm_409 rfl rfl ⟨⟨rfl, rfl⟩, ⟨by decide, by decide⟩, by decide, by decide⟩ rfl rfl (wG_fst _ _ _ _ _ _ _ _ _ _ _ _ _ _ _ _ _ _ _ _ _ _ _ _ _ _ _ _ _ _ _ ) (wG_fst _ _ _ _ _ _ _ _ _ _ _ _ _ _ _ _ _ _ _ _ _ _ _ _ _ _ _ _ _ _ _ ) rfl hl.1 (Nat.le_of_ble_eq_true rfl) dL_law_389 rfl rfl (fun H locs V => ?_)
  refine lv_aload_n hx hb dL_law_392 rfl (lv_at hl 2 rfl) ?_
  refine lv_aload_n hx hb dL_law_393 rfl (lv_at hl 0 rfl) ?_
  refine lv_iload_n hx hb dL_law_394 rfl (lv_at hl 3 rfl) ?_
  refine lv_iconst (v := 1) hx hb dL_law_395 (by decide) ?_
  refine lv_iadd hx hb dL_law_396 ?_
  refine va_sld hx hb hX hbl hbA V.2.2.1 h1 dL_law_397 ?_
  refine m_VR X V (rest := [.int ((pX7_local loc (xs (x3 + 1).toNatClampNeg)))]) (st1 := [.int ((pX8_local ql (xs (x3 + 1).toNatClampNeg))), .int ((pX7_local loc (xs (x3 + 1).toNatClampNeg)))]) (kX8_local l D cB cI bd v qm ql qs qk qd qn qe qf qo qt qi qy (xs (x3 + 1).toNatClampNeg)) okX8_local gm_622 gm_623 gm_621 rfl rfl rfl ⟨⟨rfl, rfl⟩, ⟨by decide, by decide⟩, by decide, by decide⟩ rfl rfl (wR_fst _ _ _ _ _ _ _ _ _ _ _ _ _ _ _ _ ) (wR_fst _ _ _ _ _ _ _ _ _ _ _ _ _ _ _ _ ) rfl hl.1 (Nat.le_of_ble_eq_true rfl) dL_law_398 rfl rfl (fun H locs V => ?_)
  refine lv_icmp_eq (tgt := 429) hx hb dL_law_401 (by decide) (fun _ => ?_) (fun cE => ?_)
  · refine kk _ _ _ ⟨ad, i, j, o, q, q2, q3, x, y, _, _, _, _, _, _, _, _, _, _, _, _, _, _, _, _, _, _, _, _, _, _, _, _, _, _, _, _, _, _, _, _, _, rfl, rfl, ?_⟩ V
    rcases hF with ⟨e1, e2, F⟩ | ⟨e1, e2, F⟩
    · exact Or.inl ⟨e1, e2, ((⟨local_eq2 F.1.2.1 (xs (x3 + 1).toNatClampNeg), F⟩ : _ ∧ _)).2⟩
    · exact Or.inr ⟨e1, e2, ((⟨local_eq2 F.1.2.1 (xs (x3 + 1).toNatClampNeg), F⟩ : _ ∧ _)).2⟩
  · refine absurd ?_ cE
    rcases hF with ⟨e1, e2, F⟩ | ⟨e1, e2, F⟩
    · exact ((⟨local_eq2 F.1.2.1 (xs (x3 + 1).toNatClampNeg), F⟩ : _ ∧ _)).1
    · exact ((⟨local_eq2 F.1.2.1 (xs (x3 + 1).toNatClampNeg), F⟩ : _ ∧ _)).1
theorem cs_stack {p : Program} {l : Launch} {e : Env} {s : State} {m : MethodId} {below : List Frame} {meth : Method} {c : Code} {H : Heap} {locs : List Loc} {Q : State → Prop} {ls : Array Slot} {D : va_G} {A : Nat → Prop} {cB cI : ClassId} {b L a b2 : Nat} {xs : Nat → Int32} {x3 : Int32} {ws : va_W} (X : mCx p s m #[Value.ref b] c cL_law 4 RL D cB cI) (hX : va_X b L xs s s.heap) (hbl : b < s.heap.size) (hbA : ¬ A b) (hW : LW cB cI a b2 ws) (V : mWd D A s ws H locs) (hl : lv_has ls 4 [(0, .ref b), (1, .ref a), (2, .ref b2), (3, .int x3)]) (h1 : vp_in (x3 + 1) L) (kk : ∀ (ws1 : va_W) (H1 : Heap) (locs1 : List Loc), LW cB cI a b2 ws1 → mWd D A s ws1 H1 locs1 → W p l e room_1 s m #[Value.ref b] below meth c H1 locs1 35 3703 Q (F0 m 429 ls [])) : W p l e room_1 s m #[Value.ref b] below meth c H locs 35 3703 Q (F0 m 406 ls []) := by
  obtain ⟨ad, i, j, o, q, q2, q3, x, y, wr, g, mem, loc, pf, pg, pn, t, fm, fn, z, key, ld, lt, lf, lg, tt, tf, tg, bd, v, qm, ql, qs, qk, qd, qn, qe, qf, qo, qt, qi, qy, rfl, rfl, hF⟩ := hW
  have hx := X.1.1
  have hb := X.1.2.1
  have hc : sb_Fit mem ∧ nnQ qd ∧ Tp v ∧ (v 12).toInt ≤ 8 := by rcases hF with ⟨_, _, F⟩ | ⟨_, _, F⟩ <;> exact ⟨F.2.2.2.2.2, F.2.2.1, F.1.2.2.2.1, F.2.2.2.2.1⟩
  refine lv_aload_n hx hb dL_law_406 rfl (lv_at hl 1 rfl) ?_
  refine lv_aload_n hx hb dL_law_407 rfl (lv_at hl 0 rfl) ?_
  refine lv_iload_n hx hb dL_law_408 rfl (lv_at hl 3 rfl) ?_
  refine lv_iconst (v := 1) hx hb dL_law_409 (by decide) ?_
  refine lv_iadd hx hb dL_law_410 ?_
  refine va_sld hx hb hX hbl hbA V.2.2.1 h1 dL_law_411 ?_
  refine m_VL X V (rest := []) (st1 := [.int ((pX7_stack pf pn (xs (x3 + 1).toNatClampNeg)))]) (kX7_stack l D cB cI a ad i j o q q2 q3 x y wr g mem loc pf pg pn t fm fn z key ld lt lf lg tt tf tg (xs (x3 + 1).toNatClampNeg)) okX7_stack gm_414 gm_415 gm_413 rfl rfl ⟨⟨rfl, rfl⟩, ⟨by decide, by decide⟩, by decide, by decide⟩ rfl rfl (wG_fst _ _ _ _ _ _ _ _ _ _ _ _ _ _ _ _ _ _ _ _ _ _ _ _ _ _ _ _ _ _ _ ) (wG_fst _ _ _ _ _ _ _ _ _ _ _ _ _ _ _ _ _ _ _ _ _ _ _ _ _ _ _ _ _ _ _ ) rfl hl.1 (Nat.le_of_ble_eq_true rfl) dL_law_412 rfl rfl (fun H locs V => ?_)
  refine lv_aload_n hx hb dL_law_415 rfl (lv_at hl 2 rfl) ?_
  refine lv_aload_n hx hb dL_law_416 rfl (lv_at hl 0 rfl) ?_
  refine lv_iload_n hx hb dL_law_417 rfl (lv_at hl 3 rfl) ?_
  refine lv_iconst (v := 1) hx hb dL_law_418 (by decide) ?_
  refine lv_iadd hx hb dL_law_419 ?_
  refine va_sld hx hb hX hbl hbA V.2.2.1 h1 dL_law_420 ?_
  refine m_VR X V (rest := [.int ((pX7_stack pf pn (xs (x3 + 1).toNatClampNeg)))]) (st1 := [.int ((pX8_stack v qs (xs (x3 + 1).toNatClampNeg))), .int ((pX7_stack pf pn (xs (x3 + 1).toNatClampNeg)))]) (kX8_stack l D cB cI bd v qm ql qs qk qd qn qe qf qo qt qi qy (xs (x3 + 1).toNatClampNeg) hc.2.2.1) okX8_stack gm_626 gm_627 gm_625 rfl rfl rfl ⟨⟨rfl, rfl⟩, ⟨by decide, by decide⟩, by decide, by decide⟩ rfl rfl (wR_fst _ _ _ _ _ _ _ _ _ _ _ _ _ _ _ _ ) (wR_fst _ _ _ _ _ _ _ _ _ _ _ _ _ _ _ _ ) rfl hl.1 (Nat.le_of_ble_eq_true rfl) dL_law_421 rfl rfl (fun H locs V => ?_)
  refine lv_icmp_eq (tgt := 429) hx hb dL_law_424 (by decide) (fun _ => ?_) (fun cE => ?_)
  · refine kk _ _ _ ⟨ad, i, j, o, q, q2, q3, x, y, _, _, _, _, _, _, _, _, _, _, _, _, _, _, _, _, _, _, _, _, _, _, _, _, _, _, _, _, _, _, _, _, _, rfl, rfl, ?_⟩ V
    rcases hF with ⟨e1, e2, F⟩ | ⟨e1, e2, F⟩
    · exact Or.inl ⟨e1, e2, ((⟨FR_stack F (xs (x3 + 1).toNatClampNeg), F⟩ : _ ∧ _)).2⟩
    · exact Or.inr ⟨e1, e2, ((⟨FR_stack F (xs (x3 + 1).toNatClampNeg), F⟩ : _ ∧ _)).2⟩
  · refine absurd ?_ cE
    rcases hF with ⟨e1, e2, F⟩ | ⟨e1, e2, F⟩
    · exact ((⟨FR_stack F (xs (x3 + 1).toNatClampNeg), F⟩ : _ ∧ _)).1
    · exact ((⟨FR_stack F (xs (x3 + 1).toNatClampNeg), F⟩ : _ ∧ _)).1
