theorem cs_lay {p : Program} {l : Launch} {e : Env} {s : State} {m : MethodId} {below : List Frame} {meth : Method} {c : Code} {H : Heap} {locs : List Loc} {Q : State → Prop} {ls : Array Slot} {D : va_G} {A : Nat → Prop} {cB cI : ClassId} {b L a b2 : Nat} {xs : Nat → Int32} {x3 : Int32} {ws : va_W} (X : mCx p s m #[Value.ref b] c cL_law 4 RL D cB cI) (hX : va_X b L xs s s.heap) (hbl : b < s.heap.size) (hbA : ¬ A b) (hW : LW cB cI a b2 ws) (V : mWd D A s ws H locs) (hl : lv_has ls 4 [(0, .ref b), (1, .ref a), (2, .ref b2), (3, .int x3)]) (h1 : vp_in (x3 + 1) L) (h2 : vp_in (x3 + 2) L) (h3 : vp_in (x3 + 3) L) (h4 : vp_in (x3 + 4) L) (kk : ∀ (ws1 : va_W) (H1 : Heap) (locs1 : List Loc), LW cB cI a b2 ws1 → mWd D A s ws1 H1 locs1 → W p l e room_1 s m #[Value.ref b] below meth c H1 locs1 35 3703 Q (F0 m 429 ls [])) : W p l e room_1 s m #[Value.ref b] below meth c H locs 35 3703 Q (F0 m 100 ls []) := by
  obtain ⟨ad, i, j, o, q, q2, q3, x, y, wr, g, mem, loc, pf, pg, pn, t, fm, fn, z, key, ld, lt, lf, lg, tt, tf, tg, bd, v, qm, ql, qs, qk, qd, qn, qe, qf, qo, qt, qi, qy, rfl, rfl, hF⟩ := hW
  have hx := X.1.1
  have hb := X.1.2.1
  refine lv_aload_n hx hb dL_law_100 rfl (lv_at hl 1 rfl) ?_
  refine lv_aload_n hx hb dL_law_101 rfl (lv_at hl 0 rfl) ?_
  refine lv_iload_n hx hb dL_law_102 rfl (lv_at hl 3 rfl) ?_
  refine lv_iconst (v := 1) hx hb dL_law_103 (by decide) ?_
  refine lv_iadd hx hb dL_law_104 ?_
  refine va_sld hx hb hX hbl hbA V.2.2.1 h1 dL_law_105 ?_
  refine lv_aload_n hx hb dL_law_106 rfl (lv_at hl 0 rfl) ?_
  refine lv_iload_n hx hb dL_law_107 rfl (lv_at hl 3 rfl) ?_
  refine lv_iconst (v := 2) hx hb dL_law_108 (by decide) ?_
  refine lv_iadd hx hb dL_law_109 ?_
  refine va_sld hx hb hX hbl hbA V.2.2.1 h2 dL_law_110 ?_
  refine lv_aload_n hx hb dL_law_111 rfl (lv_at hl 0 rfl) ?_
  refine lv_iload_n hx hb dL_law_112 rfl (lv_at hl 3 rfl) ?_
  refine lv_iconst (v := 3) hx hb dL_law_113 (by decide) ?_
  refine lv_iadd hx hb dL_law_114 ?_
  refine va_sld hx hb hX hbl hbA V.2.2.1 h3 dL_law_115 ?_
  refine lv_i2l hx hb dL_law_116 rfl ?_
  refine lv_bipush (v := 32) hx hb dL_law_117 (by decide) ?_
  refine lv_lshl hx hb dL_law_119 rfl ?_
  refine lv_aload_n hx hb dL_law_120 rfl (lv_at hl 0 rfl) ?_
  refine lv_iload_n hx hb dL_law_121 rfl (lv_at hl 3 rfl) ?_
  refine lv_iconst (v := 4) hx hb dL_law_122 (by decide) ?_
  refine lv_iadd hx hb dL_law_123 ?_
  refine va_sld hx hb hX hbl hbA V.2.2.1 h4 dL_law_124 ?_
  refine lv_i2l hx hb dL_law_125 rfl ?_
  refine lv_ldc2 hx hb X.1.2.2.2.1 (X.1.2.2.2.2 _ gm_629) dL_law_126 ?_
  refine lv_land hx hb dL_law_129 ?_
  refine lv_lor hx hb dL_law_130 ?_
  refine lv_topl (fun w1 ew1 => ?_)
  refine m_VL X V (rest := []) (st1 := [.int ((pX7_lay mem (xs (x3 + 1).toNatClampNeg) (xs (x3 + 2).toNatClampNeg) w1).1)]) (kX7_lay l D cB cI a ad i j o q q2 q3 x y wr g mem loc pf pg pn t fm fn z key ld lt lf lg tt tf tg (xs (x3 + 1).toNatClampNeg) (xs (x3 + 2).toNatClampNeg) w1) okX7_lay gm_129 gm_130 gm_128 rfl rfl ⟨⟨rfl, rfl⟩, ⟨by decide, by decide⟩, by decide, by decide⟩ rfl rfl (wG_fst _ _ _ _ _ _ _ _ _ _ _ _ _ _ _ _ _ _ _ _ _ _ _ _ _ _ _ _ _ _ _ ) (wG_fst _ _ _ _ _ _ _ _ _ _ _ _ _ _ _ _ _ _ _ _ _ _ _ _ _ _ _ _ _ _ _ ) rfl hl.1 (Nat.le_of_ble_eq_true rfl) dL_law_131 rfl rfl (fun H locs V => ?_)
  refine lv_aload_n hx hb dL_law_134 rfl (lv_at hl 2 rfl) ?_
  refine lv_aload_n hx hb dL_law_135 rfl (lv_at hl 0 rfl) ?_
  refine lv_iload_n hx hb dL_law_136 rfl (lv_at hl 3 rfl) ?_
  refine lv_iconst (v := 1) hx hb dL_law_137 (by decide) ?_
  refine lv_iadd hx hb dL_law_138 ?_
  refine va_sld hx hb hX hbl hbA V.2.2.1 h1 dL_law_139 ?_
  refine lv_aload_n hx hb dL_law_140 rfl (lv_at hl 0 rfl) ?_
  refine lv_iload_n hx hb dL_law_141 rfl (lv_at hl 3 rfl) ?_
  refine lv_iconst (v := 2) hx hb dL_law_142 (by decide) ?_
  refine lv_iadd hx hb dL_law_143 ?_
  refine va_sld hx hb hX hbl hbA V.2.2.1 h2 dL_law_144 ?_
  refine lv_aload_n hx hb dL_law_145 rfl (lv_at hl 0 rfl) ?_
  refine lv_iload_n hx hb dL_law_146 rfl (lv_at hl 3 rfl) ?_
  refine lv_iconst (v := 3) hx hb dL_law_147 (by decide) ?_
  refine lv_iadd hx hb dL_law_148 ?_
  refine va_sld hx hb hX hbl hbA V.2.2.1 h3 dL_law_149 ?_
  refine lv_i2l hx hb dL_law_150 rfl ?_
  refine lv_bipush (v := 32) hx hb dL_law_151 (by decide) ?_
  refine lv_lshl hx hb dL_law_153 rfl ?_
  refine lv_aload_n hx hb dL_law_154 rfl (lv_at hl 0 rfl) ?_
  refine lv_iload_n hx hb dL_law_155 rfl (lv_at hl 3 rfl) ?_
  refine lv_iconst (v := 4) hx hb dL_law_156 (by decide) ?_
  refine lv_iadd hx hb dL_law_157 ?_
  refine va_sld hx hb hX hbl hbA V.2.2.1 h4 dL_law_158 ?_
  refine lv_i2l hx hb dL_law_159 rfl ?_
  refine lv_ldc2 hx hb X.1.2.2.2.1 (X.1.2.2.2.2 _ gm_629) dL_law_160 ?_
  refine lv_land hx hb dL_law_163 ?_
  refine lv_lor hx hb dL_law_164 ?_
  refine lv_topl (fun w2 ew2 => ?_)
  have ew : w2 = w1 := ew2.trans ew1.symm
  subst ew
  refine m_VR X V (rest := [.int ((pX7_lay mem (xs (x3 + 1).toNatClampNeg) (xs (x3 + 2).toNatClampNeg) w2).1)]) (st1 := [.int ((pX8_lay qm (xs (x3 + 1).toNatClampNeg) (xs (x3 + 2).toNatClampNeg) w2).1), .int ((pX7_lay mem (xs (x3 + 1).toNatClampNeg) (xs (x3 + 2).toNatClampNeg) w2).1)]) (kX8_lay l D cB cI bd v qm ql qs qk qd qn qe qf qo qt qi qy (xs (x3 + 1).toNatClampNeg) (xs (x3 + 2).toNatClampNeg) w2) okX8_lay gm_482 gm_483 gm_481 rfl rfl rfl ⟨⟨rfl, rfl⟩, ⟨by decide, by decide⟩, by decide, by decide⟩ rfl rfl (wR_fst _ _ _ _ _ _ _ _ _ _ _ _ _ _ _ _ ) (wR_fst _ _ _ _ _ _ _ _ _ _ _ _ _ _ _ _ ) rfl hl.1 (Nat.le_of_ble_eq_true rfl) dL_law_165 rfl rfl (fun H locs V => ?_)
  refine lv_icmp_eq (tgt := 429) hx hb dL_law_168 (by decide) (fun _ => ?_) (fun cE => ?_)
  · refine kk _ _ _ ⟨ad, i, j, o, q, q2, q3, x, y, _, _, _, _, _, _, _, _, _, _, _, _, _, _, _, _, _, _, _, _, _, _, _, _, _, _, _, _, _, _, _, _, _, rfl, rfl, ?_⟩ V
    rcases hF with ⟨e1, e2, F⟩ | ⟨e1, e2, F⟩
    · exact Or.inl ⟨e1, e2, (FR_lay F (xs (x3 + 1).toNatClampNeg) (xs (x3 + 2).toNatClampNeg) w2).2⟩
    · exact Or.inr ⟨e1, e2, (FR_lay F (xs (x3 + 1).toNatClampNeg) (xs (x3 + 2).toNatClampNeg) w2).2⟩
  · refine absurd ?_ cE
    rcases hF with ⟨e1, e2, F⟩ | ⟨e1, e2, F⟩
    · exact (FR_lay F (xs (x3 + 1).toNatClampNeg) (xs (x3 + 2).toNatClampNeg) w2).1
    · exact (FR_lay F (xs (x3 + 1).toNatClampNeg) (xs (x3 + 2).toNatClampNeg) w2).1
