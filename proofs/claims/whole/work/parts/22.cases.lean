set_option maxHeartbeats 4000000 in
set_option maxRecDepth 100000 in
theorem l_count {p : Program} {l : Launch} {e : Env} {s : State} {m : MethodId} {b : Nat} {below : List Frame} {meth : Method} {c : Code} {Q : State → Prop} {L : Nat} {xs : Nat → Int32} {g : va_G} {ct ad : Nat → Nat} {i : Nat} {cS : St_} {x : Ax_} {d0 : Drawn} {H : Heap} {locs : List Loc} {cells slots : Nat} {ls : Array Slot} (h : LF p l s m b c L xs) (hi : i + 4 ≤ L) (hd0 : s.drawn.sameBut d0 lw_cs) (hC : CX s.heap.size g ct ad cS cS x (s.setDrawn d0) H) (hS : va_S (AA s.heap.size) s.heap H locs) (hcl : cells + 2 ≤ 601024 ∧ slots + 3010 ≤ 7293034) (hl : lv_has ls 9 (lvB ad b i)) (kk : NX p l e s m b below meth c Q g ct ad i cells slots) : W p l e room_1 (s.setDrawn d0) m #[Value.ref b] below meth c H locs cells slots Q (F0 m 128 ls []) := by
  obtain ⟨hx, hb, hml, hown, hts0, hX, hbl, hflags, hL⟩ := h
  have hts := dr_words hts0 d0
  have hX : va_X b L xs (s.setDrawn d0) s.heap := hX
  have hbA : ¬ AA s.heap.size b := Nat.not_le.mpr hbl
  have hI : Iv_ cS := hC.1.2.2.2.1
  have hB : s.heap.size ≤ (s.setDrawn d0).heap.size := Nat.le_refl _
  have hl : lv_has ls 9 [(4, .int (nI i)), (3, .ref (ad 11)), (2, .ref (ad 7)), (1, .ref (ad 0)), (0, .ref b)] := hl
  refine lv_aload_n hx hb dL_law_128 rfl (lv_at hl 3 rfl) ?_
  refine lv_aload_n hx hb dL_law_129 rfl (lv_at hl 4 rfl) ?_
  refine lv_iload hx hb dL_law_130 (lv_at hl 0 rfl) ?_
  refine lv_iconst (v := nI 1) hx hb dL_law_132 (by decide) ?_
  refine lv_iadd hx hb dL_law_133 ?_
  refine lv_tn (nI_add _ _) ?_
  refine va_sld hx hb hX hbl hbA hS (i := nI (i + 1)) (vp_in_nI (show i + 1 < L by omega) (by omega)) dL_law_134 ?_
  refine lv_tn (w := xs (i + 1)) (congrArg xs (nI_clamp (by omega))) ?_
  refine lv_aload_n hx hb dL_law_135 rfl (lv_at hl 1 rfl) ?_
  obtain ⟨K, V, c2, hW, hM⟩ := op_count l s.heap.size g ct ad cS x hflags hI (xs (i + 1))
  refine k_wS (As := [.ref (ad 0), .int (xs (i + 1)), .ref (ad 11)]) (rest := []) hW hC hB hS ⟨hx, hb, hml, hown, hts⟩ (vx_cwSW 3 hts gL_law_L_count rfl rfl rfl (by decide +kernel) ⟨Nat.le_of_ble_eq_true rfl, Nat.le_of_ble_eq_true rfl⟩) rfl hl.1 rfl (Nat.le_of_ble_eq_true rfl) dL_law_136 ⟨(by show cells + 1 ≤ 601024; omega), (by show slots + 6 ≤ 7293034; omega)⟩ (fun u H locs hu hC hS => ?_)
  refine lv_istore (lv' := [(5, .int K), (4, .int (nI i)), (3, .ref (ad 11)), (2, .ref (ad 7)), (1, .ref (ad 0)), (0, .ref b)]) hx hb dL_law_139 hl (by decide) rfl (fun ls hl => ?_)
  refine lv_aload_n hx hb dL_law_141 rfl (lv_at hl 3 rfl) ?_
  refine lv_aload_n hx hb dL_law_142 rfl (lv_at hl 5 rfl) ?_
  refine lv_iload hx hb dL_law_143 (lv_at hl 1 rfl) ?_
  refine lv_iconst (v := nI 1) hx hb dL_law_145 (by decide) ?_
  refine lv_iadd hx hb dL_law_146 ?_
  refine lv_tn (nI_add _ _) ?_
  refine va_sld hx hb hX hbl hbA hS (i := nI (i + 1)) (vp_in_nI (show i + 1 < L by omega) (by omega)) dL_law_147 ?_
  refine lv_tn (w := xs (i + 1)) (congrArg xs (nI_clamp (by omega))) ?_
  refine k_wV (As := [.int (xs (i + 1))]) (rest := []) (hM u) hC hB hS ⟨hx, hb, hml, hown, hts⟩ (cwV 1 hts gL_law_X1_count rfl rfl rfl (by decide +kernel) ⟨Nat.le_of_ble_eq_true rfl, Nat.le_of_ble_eq_true rfl⟩) (rc1 hC) rfl hl.1 rfl (Nat.le_of_ble_eq_true rfl) dL_law_148 ⟨(by show cells + 1 + 0 ≤ 601024; omega), (by show slots + 6 + 0 ≤ 7293034; omega)⟩ (fun u2 H locs hu2 hC hS => ?_)
  subst hu2
  refine lv_istore (lv' := [(6, .int V), (5, .int K), (4, .int (nI i)), (3, .ref (ad 11)), (2, .ref (ad 7)), (1, .ref (ad 0)), (0, .ref b)]) hx hb dL_law_151 hl (by decide) rfl (fun ls hl => ?_)
  refine lv_aload_n hx hb dL_law_153 rfl (lv_at hl 4 rfl) ?_
  refine k_rV (As := []) (rest := []) (c_X1_thrown l s.heap.size g ct ad c2 c2 (ax_h u K)) hC ⟨hx, hb, hml, hown, hts⟩ (cwV 0 hts gL_law_X1_thrown rfl rfl rfl (by decide +kernel) ⟨Nat.le_of_ble_eq_true rfl, Nat.le_of_ble_eq_true rfl⟩) (rc1 hC) rfl hl.1 rfl (Nat.le_of_ble_eq_true rfl) dL_law_154 ⟨(by show cells + 1 + 0 ≤ 601024; omega), (by show slots + 6 + 0 ≤ 7293034; omega)⟩ ?_
  refine lv_iload hx hb dL_law_157 (lv_at hl 1 rfl) ?_
  refine lv_icmp_eq (tgt := 164) hx hb dL_law_159 (by decide) (fun _ => ?_) (fun h => absurd rfl h)
  refine lv_iload hx hb dL_law_164 (lv_at hl 1 rfl) ?_
  refine lv_if_ne (tgt := 181) hx hb dL_law_166 (by decide) (fun h5 => ?_) (fun h5 => ?_)
  · skip
    refine lv_goto (tgt := 1195) hx hb dL_law_181 (by decide) ?_
    refine W.widen (k := cells + 2) (n := slots + 3010) (by omega) (by omega) ?_
    exact kk c2 (ax_h u K) d0 H locs ls hd0 hC hS (lv_sub hl [2, 3, 4, 5, 6] rfl)
  · skip
    refine lv_aload_n hx hb dL_law_169 rfl (lv_at hl 3 rfl) ?_
    refine lv_iconst (v := nI 0) hx hb dL_law_170 (by decide) ?_
    refine r_lo hC hx hb dL_law_171 ?_
    refine lv_tl (w := LI_ V) (hu h5) ?_
    refine lv_iload hx hb dL_law_172 (lv_at hl 0 rfl) ?_
    refine lv_i2l (v := V.toInt64) hx hb dL_law_174 rfl ?_
    refine lv_lcmp_eq hx hb rfl dL_law_175 ?_
    refine lv_if_eq (tgt := 181) hx hb dL_law_176 (by decide) (fun _ => ?_) (fun h => absurd rfl h)
    refine lv_goto (tgt := 1195) hx hb dL_law_181 (by decide) ?_
    refine W.widen (k := cells + 2) (n := slots + 3010) (by omega) (by omega) ?_
    exact kk c2 (ax_h u K) d0 H locs ls hd0 hC hS (lv_sub hl [2, 3, 4, 5, 6] rfl)
set_option maxHeartbeats 4000000 in
set_option maxRecDepth 100000 in
theorem l_letter {p : Program} {l : Launch} {e : Env} {s : State} {m : MethodId} {b : Nat} {below : List Frame} {meth : Method} {c : Code} {Q : State → Prop} {L : Nat} {xs : Nat → Int32} {g : va_G} {ct ad : Nat → Nat} {i : Nat} {cS : St_} {x : Ax_} {d0 : Drawn} {H : Heap} {locs : List Loc} {cells slots : Nat} {ls : Array Slot} (h : LF p l s m b c L xs) (hi : i + 4 ≤ L) (hd0 : s.drawn.sameBut d0 lw_cs) (hC : CX s.heap.size g ct ad cS cS x (s.setDrawn d0) H) (hS : va_S (AA s.heap.size) s.heap H locs) (hcl : cells + 2 ≤ 601024 ∧ slots + 3010 ≤ 7293034) (hl : lv_has ls 9 (lvB ad b i)) (kk : NX p l e s m b below meth c Q g ct ad i cells slots) : W p l e room_1 (s.setDrawn d0) m #[Value.ref b] below meth c H locs cells slots Q (F0 m 184 ls []) := by
  obtain ⟨hx, hb, hml, hown, hts0, hX, hbl, hflags, hL⟩ := h
  have hts := dr_words hts0 d0
  have hX : va_X b L xs (s.setDrawn d0) s.heap := hX
  have hbA : ¬ AA s.heap.size b := Nat.not_le.mpr hbl
  have hI : Iv_ cS := hC.1.2.2.2.1
  have hB : s.heap.size ≤ (s.setDrawn d0).heap.size := Nat.le_refl _
  have hl : lv_has ls 9 [(4, .int (nI i)), (3, .ref (ad 11)), (2, .ref (ad 7)), (1, .ref (ad 0)), (0, .ref b)] := hl
  refine lv_aload_n hx hb dL_law_184 rfl (lv_at hl 3 rfl) ?_
  refine lv_aload_n hx hb dL_law_185 rfl (lv_at hl 4 rfl) ?_
  refine lv_iload hx hb dL_law_186 (lv_at hl 0 rfl) ?_
  refine lv_iconst (v := nI 1) hx hb dL_law_188 (by decide) ?_
  refine lv_iadd hx hb dL_law_189 ?_
  refine lv_tn (nI_add _ _) ?_
  refine va_sld hx hb hX hbl hbA hS (i := nI (i + 1)) (vp_in_nI (show i + 1 < L by omega) (by omega)) dL_law_190 ?_
  refine lv_tn (w := xs (i + 1)) (congrArg xs (nI_clamp (by omega))) ?_
  refine lv_aload_n hx hb dL_law_191 rfl (lv_at hl 1 rfl) ?_
  obtain ⟨K, V, c2, hW, hM⟩ := op_letter l s.heap.size g ct ad cS x hflags hI (xs (i + 1))
  refine k_wS (As := [.ref (ad 0), .int (xs (i + 1)), .ref (ad 11)]) (rest := []) hW hC hB hS ⟨hx, hb, hml, hown, hts⟩ (vx_cwSW 3 hts gL_law_L_letter rfl rfl rfl (by decide +kernel) ⟨Nat.le_of_ble_eq_true rfl, Nat.le_of_ble_eq_true rfl⟩) rfl hl.1 rfl (Nat.le_of_ble_eq_true rfl) dL_law_192 ⟨(by show cells + 1 ≤ 601024; omega), (by show slots + 6 ≤ 7293034; omega)⟩ (fun u H locs hu hC hS => ?_)
  refine lv_istore (lv' := [(5, .int K), (4, .int (nI i)), (3, .ref (ad 11)), (2, .ref (ad 7)), (1, .ref (ad 0)), (0, .ref b)]) hx hb dL_law_195 hl (by decide) rfl (fun ls hl => ?_)
  refine lv_aload_n hx hb dL_law_197 rfl (lv_at hl 3 rfl) ?_
  refine lv_aload_n hx hb dL_law_198 rfl (lv_at hl 5 rfl) ?_
  refine lv_iload hx hb dL_law_199 (lv_at hl 1 rfl) ?_
  refine lv_iconst (v := nI 1) hx hb dL_law_201 (by decide) ?_
  refine lv_iadd hx hb dL_law_202 ?_
  refine lv_tn (nI_add _ _) ?_
  refine va_sld hx hb hX hbl hbA hS (i := nI (i + 1)) (vp_in_nI (show i + 1 < L by omega) (by omega)) dL_law_203 ?_
  refine lv_tn (w := xs (i + 1)) (congrArg xs (nI_clamp (by omega))) ?_
  refine k_wV (As := [.int (xs (i + 1))]) (rest := []) (hM u) hC hB hS ⟨hx, hb, hml, hown, hts⟩ (cwV 1 hts gL_law_X1_letter rfl rfl rfl (by decide +kernel) ⟨Nat.le_of_ble_eq_true rfl, Nat.le_of_ble_eq_true rfl⟩) (rc1 hC) rfl hl.1 rfl (Nat.le_of_ble_eq_true rfl) dL_law_204 ⟨(by show cells + 1 + 0 ≤ 601024; omega), (by show slots + 6 + 0 ≤ 7293034; omega)⟩ (fun u2 H locs hu2 hC hS => ?_)
  subst hu2
  refine lv_istore (lv' := [(6, .int V), (5, .int K), (4, .int (nI i)), (3, .ref (ad 11)), (2, .ref (ad 7)), (1, .ref (ad 0)), (0, .ref b)]) hx hb dL_law_207 hl (by decide) rfl (fun ls hl => ?_)
  refine lv_aload_n hx hb dL_law_209 rfl (lv_at hl 4 rfl) ?_
  refine k_rV (As := []) (rest := []) (c_X1_thrown l s.heap.size g ct ad c2 c2 (ax_h u K)) hC ⟨hx, hb, hml, hown, hts⟩ (cwV 0 hts gL_law_X1_thrown rfl rfl rfl (by decide +kernel) ⟨Nat.le_of_ble_eq_true rfl, Nat.le_of_ble_eq_true rfl⟩) (rc1 hC) rfl hl.1 rfl (Nat.le_of_ble_eq_true rfl) dL_law_210 ⟨(by show cells + 1 + 0 ≤ 601024; omega), (by show slots + 6 + 0 ≤ 7293034; omega)⟩ ?_
  refine lv_iload hx hb dL_law_213 (lv_at hl 1 rfl) ?_
  refine lv_icmp_eq (tgt := 220) hx hb dL_law_215 (by decide) (fun _ => ?_) (fun h => absurd rfl h)
  refine lv_iload hx hb dL_law_220 (lv_at hl 1 rfl) ?_
  refine lv_if_ne (tgt := 237) hx hb dL_law_222 (by decide) (fun h5 => ?_) (fun h5 => ?_)
  · skip
    refine lv_goto (tgt := 1195) hx hb dL_law_237 (by decide) ?_
    refine W.widen (k := cells + 2) (n := slots + 3010) (by omega) (by omega) ?_
    exact kk c2 (ax_h u K) d0 H locs ls hd0 hC hS (lv_sub hl [2, 3, 4, 5, 6] rfl)
  · skip
    refine lv_aload_n hx hb dL_law_225 rfl (lv_at hl 3 rfl) ?_
    refine lv_iconst (v := nI 0) hx hb dL_law_226 (by decide) ?_
    refine r_lo hC hx hb dL_law_227 ?_
    refine lv_tl (w := LI_ V) (hu h5) ?_
    refine lv_iload hx hb dL_law_228 (lv_at hl 0 rfl) ?_
    refine lv_i2l (v := V.toInt64) hx hb dL_law_230 rfl ?_
    refine lv_lcmp_eq hx hb rfl dL_law_231 ?_
    refine lv_if_eq (tgt := 237) hx hb dL_law_232 (by decide) (fun _ => ?_) (fun h => absurd rfl h)
    refine lv_goto (tgt := 1195) hx hb dL_law_237 (by decide) ?_
    refine W.widen (k := cells + 2) (n := slots + 3010) (by omega) (by omega) ?_
    exact kk c2 (ax_h u K) d0 H locs ls hd0 hC hS (lv_sub hl [2, 3, 4, 5, 6] rfl)
set_option maxHeartbeats 4000000 in
set_option maxRecDepth 100000 in
theorem l_value {p : Program} {l : Launch} {e : Env} {s : State} {m : MethodId} {b : Nat} {below : List Frame} {meth : Method} {c : Code} {Q : State → Prop} {L : Nat} {xs : Nat → Int32} {g : va_G} {ct ad : Nat → Nat} {i : Nat} {cS : St_} {x : Ax_} {d0 : Drawn} {H : Heap} {locs : List Loc} {cells slots : Nat} {ls : Array Slot} (h : LF p l s m b c L xs) (hi : i + 4 ≤ L) (hd0 : s.drawn.sameBut d0 lw_cs) (hC : CX s.heap.size g ct ad cS cS x (s.setDrawn d0) H) (hS : va_S (AA s.heap.size) s.heap H locs) (hcl : cells + 2 ≤ 601024 ∧ slots + 3010 ≤ 7293034) (hl : lv_has ls 9 (lvB ad b i)) (kk : NX p l e s m b below meth c Q g ct ad i cells slots) : W p l e room_1 (s.setDrawn d0) m #[Value.ref b] below meth c H locs cells slots Q (F0 m 240 ls []) := by
  obtain ⟨hx, hb, hml, hown, hts0, hX, hbl, hflags, hL⟩ := h
  have hts := dr_words hts0 d0
  have hX : va_X b L xs (s.setDrawn d0) s.heap := hX
  have hbA : ¬ AA s.heap.size b := Nat.not_le.mpr hbl
  have hI : Iv_ cS := hC.1.2.2.2.1
  have hB : s.heap.size ≤ (s.setDrawn d0).heap.size := Nat.le_refl _
  have hl : lv_has ls 9 [(4, .int (nI i)), (3, .ref (ad 11)), (2, .ref (ad 7)), (1, .ref (ad 0)), (0, .ref b)] := hl
  refine lv_aload_n hx hb dL_law_240 rfl (lv_at hl 3 rfl) ?_
  refine lv_aload_n hx hb dL_law_241 rfl (lv_at hl 4 rfl) ?_
  refine lv_iload hx hb dL_law_242 (lv_at hl 0 rfl) ?_
  refine lv_iconst (v := nI 1) hx hb dL_law_244 (by decide) ?_
  refine lv_iadd hx hb dL_law_245 ?_
  refine lv_tn (nI_add _ _) ?_
  refine va_sld hx hb hX hbl hbA hS (i := nI (i + 1)) (vp_in_nI (show i + 1 < L by omega) (by omega)) dL_law_246 ?_
  refine lv_tn (w := xs (i + 1)) (congrArg xs (nI_clamp (by omega))) ?_
  refine lv_aload_n hx hb dL_law_247 rfl (lv_at hl 1 rfl) ?_
  obtain ⟨K, V, c2, hW, hM⟩ := op_value l s.heap.size g ct ad cS x hflags hI (xs (i + 1))
  refine k_wS (As := [.ref (ad 0), .int (xs (i + 1)), .ref (ad 11)]) (rest := []) hW hC hB hS ⟨hx, hb, hml, hown, hts⟩ (vx_cwSW 3 hts gL_law_L_value rfl rfl rfl (by decide +kernel) ⟨Nat.le_of_ble_eq_true rfl, Nat.le_of_ble_eq_true rfl⟩) rfl hl.1 rfl (Nat.le_of_ble_eq_true rfl) dL_law_248 ⟨(by show cells + 1 ≤ 601024; omega), (by show slots + 6 ≤ 7293034; omega)⟩ (fun u H locs hu hC hS => ?_)
  refine lv_istore (lv' := [(5, .int K), (4, .int (nI i)), (3, .ref (ad 11)), (2, .ref (ad 7)), (1, .ref (ad 0)), (0, .ref b)]) hx hb dL_law_251 hl (by decide) rfl (fun ls hl => ?_)
  refine lv_aload_n hx hb dL_law_253 rfl (lv_at hl 3 rfl) ?_
  refine lv_aload_n hx hb dL_law_254 rfl (lv_at hl 5 rfl) ?_
  refine lv_iload hx hb dL_law_255 (lv_at hl 1 rfl) ?_
  refine lv_iconst (v := nI 1) hx hb dL_law_257 (by decide) ?_
  refine lv_iadd hx hb dL_law_258 ?_
  refine lv_tn (nI_add _ _) ?_
  refine va_sld hx hb hX hbl hbA hS (i := nI (i + 1)) (vp_in_nI (show i + 1 < L by omega) (by omega)) dL_law_259 ?_
  refine lv_tn (w := xs (i + 1)) (congrArg xs (nI_clamp (by omega))) ?_
  refine k_wV (As := [.int (xs (i + 1))]) (rest := []) (hM u) hC hB hS ⟨hx, hb, hml, hown, hts⟩ (cwV 1 hts gL_law_X1_value rfl rfl rfl (by decide +kernel) ⟨Nat.le_of_ble_eq_true rfl, Nat.le_of_ble_eq_true rfl⟩) (rc1 hC) rfl hl.1 rfl (Nat.le_of_ble_eq_true rfl) dL_law_260 ⟨(by show cells + 1 + 0 ≤ 601024; omega), (by show slots + 6 + 0 ≤ 7293034; omega)⟩ (fun u2 H locs hu2 hC hS => ?_)
  subst hu2
  refine lv_istore (lv' := [(6, .int V), (5, .int K), (4, .int (nI i)), (3, .ref (ad 11)), (2, .ref (ad 7)), (1, .ref (ad 0)), (0, .ref b)]) hx hb dL_law_263 hl (by decide) rfl (fun ls hl => ?_)
  refine lv_aload_n hx hb dL_law_265 rfl (lv_at hl 4 rfl) ?_
  refine k_rV (As := []) (rest := []) (c_X1_thrown l s.heap.size g ct ad c2 c2 (ax_h u K)) hC ⟨hx, hb, hml, hown, hts⟩ (cwV 0 hts gL_law_X1_thrown rfl rfl rfl (by decide +kernel) ⟨Nat.le_of_ble_eq_true rfl, Nat.le_of_ble_eq_true rfl⟩) (rc1 hC) rfl hl.1 rfl (Nat.le_of_ble_eq_true rfl) dL_law_266 ⟨(by show cells + 1 + 0 ≤ 601024; omega), (by show slots + 6 + 0 ≤ 7293034; omega)⟩ ?_
  refine lv_iload hx hb dL_law_269 (lv_at hl 1 rfl) ?_
  refine lv_icmp_eq (tgt := 276) hx hb dL_law_271 (by decide) (fun _ => ?_) (fun h => absurd rfl h)
  refine lv_iload hx hb dL_law_276 (lv_at hl 1 rfl) ?_
  refine lv_if_ne (tgt := 293) hx hb dL_law_278 (by decide) (fun h5 => ?_) (fun h5 => ?_)
  · skip
    refine lv_goto (tgt := 1195) hx hb dL_law_293 (by decide) ?_
    refine W.widen (k := cells + 2) (n := slots + 3010) (by omega) (by omega) ?_
    exact kk c2 (ax_h u K) d0 H locs ls hd0 hC hS (lv_sub hl [2, 3, 4, 5, 6] rfl)
  · skip
    refine lv_aload_n hx hb dL_law_281 rfl (lv_at hl 3 rfl) ?_
    refine lv_iconst (v := nI 0) hx hb dL_law_282 (by decide) ?_
    refine r_lo hC hx hb dL_law_283 ?_
    refine lv_tl (w := LI_ V) (hu h5) ?_
    refine lv_iload hx hb dL_law_284 (lv_at hl 0 rfl) ?_
    refine lv_i2l (v := V.toInt64) hx hb dL_law_286 rfl ?_
    refine lv_lcmp_eq hx hb rfl dL_law_287 ?_
    refine lv_if_eq (tgt := 293) hx hb dL_law_288 (by decide) (fun _ => ?_) (fun h => absurd rfl h)
    refine lv_goto (tgt := 1195) hx hb dL_law_293 (by decide) ?_
    refine W.widen (k := cells + 2) (n := slots + 3010) (by omega) (by omega) ?_
    exact kk c2 (ax_h u K) d0 H locs ls hd0 hC hS (lv_sub hl [2, 3, 4, 5, 6] rfl)
set_option maxHeartbeats 4000000 in
set_option maxRecDepth 100000 in
theorem l_alike {p : Program} {l : Launch} {e : Env} {s : State} {m : MethodId} {b : Nat} {below : List Frame} {meth : Method} {c : Code} {Q : State → Prop} {L : Nat} {xs : Nat → Int32} {g : va_G} {ct ad : Nat → Nat} {i : Nat} {cS : St_} {x : Ax_} {d0 : Drawn} {H : Heap} {locs : List Loc} {cells slots : Nat} {ls : Array Slot} (h : LF p l s m b c L xs) (hi : i + 4 ≤ L) (hd0 : s.drawn.sameBut d0 lw_cs) (hC : CX s.heap.size g ct ad cS cS x (s.setDrawn d0) H) (hS : va_S (AA s.heap.size) s.heap H locs) (hcl : cells + 2 ≤ 601024 ∧ slots + 3010 ≤ 7293034) (hl : lv_has ls 9 (lvB ad b i)) (kk : NX p l e s m b below meth c Q g ct ad i cells slots) : W p l e room_1 (s.setDrawn d0) m #[Value.ref b] below meth c H locs cells slots Q (F0 m 296 ls []) := by
  obtain ⟨hx, hb, hml, hown, hts0, hX, hbl, hflags, hL⟩ := h
  have hts := dr_words hts0 d0
  have hX : va_X b L xs (s.setDrawn d0) s.heap := hX
  have hbA : ¬ AA s.heap.size b := Nat.not_le.mpr hbl
  have hI : Iv_ cS := hC.1.2.2.2.1
  have hB : s.heap.size ≤ (s.setDrawn d0).heap.size := Nat.le_refl _
  have hl : lv_has ls 9 [(4, .int (nI i)), (3, .ref (ad 11)), (2, .ref (ad 7)), (1, .ref (ad 0)), (0, .ref b)] := hl
  refine lv_aload_n hx hb dL_law_296 rfl (lv_at hl 3 rfl) ?_
  refine lv_aload_n hx hb dL_law_297 rfl (lv_at hl 4 rfl) ?_
  refine lv_iload hx hb dL_law_298 (lv_at hl 0 rfl) ?_
  refine lv_iconst (v := nI 1) hx hb dL_law_300 (by decide) ?_
  refine lv_iadd hx hb dL_law_301 ?_
  refine lv_tn (nI_add _ _) ?_
  refine va_sld hx hb hX hbl hbA hS (i := nI (i + 1)) (vp_in_nI (show i + 1 < L by omega) (by omega)) dL_law_302 ?_
  refine lv_tn (w := xs (i + 1)) (congrArg xs (nI_clamp (by omega))) ?_
  refine lv_aload_n hx hb dL_law_303 rfl (lv_at hl 4 rfl) ?_
  refine lv_iload hx hb dL_law_304 (lv_at hl 0 rfl) ?_
  refine lv_iconst (v := nI 2) hx hb dL_law_306 (by decide) ?_
  refine lv_iadd hx hb dL_law_307 ?_
  refine lv_tn (nI_add _ _) ?_
  refine va_sld hx hb hX hbl hbA hS (i := nI (i + 2)) (vp_in_nI (show i + 2 < L by omega) (by omega)) dL_law_308 ?_
  refine lv_tn (w := xs (i + 2)) (congrArg xs (nI_clamp (by omega))) ?_
  refine lv_aload_n hx hb dL_law_309 rfl (lv_at hl 1 rfl) ?_
  obtain ⟨K, V, c2, hW, hM⟩ := op_alike l s.heap.size g ct ad cS x hflags hI (xs (i + 1)) (xs (i + 2))
  refine k_wS (As := [.ref (ad 0), .int (xs (i + 1)), .int (xs (i + 2)), .ref (ad 11)]) (rest := []) hW hC hB hS ⟨hx, hb, hml, hown, hts⟩ (vx_cwSW 4 hts gL_law_L_alike rfl rfl rfl (by decide +kernel) ⟨Nat.le_of_ble_eq_true rfl, Nat.le_of_ble_eq_true rfl⟩) rfl hl.1 rfl (Nat.le_of_ble_eq_true rfl) dL_law_310 ⟨(by show cells + 1 ≤ 601024; omega), (by show slots + 6 ≤ 7293034; omega)⟩ (fun u H locs hu hC hS => ?_)
  refine lv_istore (lv' := [(5, .int K), (4, .int (nI i)), (3, .ref (ad 11)), (2, .ref (ad 7)), (1, .ref (ad 0)), (0, .ref b)]) hx hb dL_law_313 hl (by decide) rfl (fun ls hl => ?_)
  refine lv_aload_n hx hb dL_law_315 rfl (lv_at hl 3 rfl) ?_
  refine lv_aload_n hx hb dL_law_316 rfl (lv_at hl 5 rfl) ?_
  refine lv_iload hx hb dL_law_317 (lv_at hl 1 rfl) ?_
  refine lv_iconst (v := nI 1) hx hb dL_law_319 (by decide) ?_
  refine lv_iadd hx hb dL_law_320 ?_
  refine lv_tn (nI_add _ _) ?_
  refine va_sld hx hb hX hbl hbA hS (i := nI (i + 1)) (vp_in_nI (show i + 1 < L by omega) (by omega)) dL_law_321 ?_
  refine lv_tn (w := xs (i + 1)) (congrArg xs (nI_clamp (by omega))) ?_
  refine lv_aload_n hx hb dL_law_322 rfl (lv_at hl 5 rfl) ?_
  refine lv_iload hx hb dL_law_323 (lv_at hl 1 rfl) ?_
  refine lv_iconst (v := nI 2) hx hb dL_law_325 (by decide) ?_
  refine lv_iadd hx hb dL_law_326 ?_
  refine lv_tn (nI_add _ _) ?_
  refine va_sld hx hb hX hbl hbA hS (i := nI (i + 2)) (vp_in_nI (show i + 2 < L by omega) (by omega)) dL_law_327 ?_
  refine lv_tn (w := xs (i + 2)) (congrArg xs (nI_clamp (by omega))) ?_
  refine k_wV (As := [.int (xs (i + 1)), .int (xs (i + 2))]) (rest := []) (hM u) hC hB hS ⟨hx, hb, hml, hown, hts⟩ (cwV 2 hts gL_law_X1_alike rfl rfl rfl (by decide +kernel) ⟨Nat.le_of_ble_eq_true rfl, Nat.le_of_ble_eq_true rfl⟩) (rc1 hC) rfl hl.1 rfl (Nat.le_of_ble_eq_true rfl) dL_law_328 ⟨(by show cells + 1 + 0 ≤ 601024; omega), (by show slots + 6 + 0 ≤ 7293034; omega)⟩ (fun u2 H locs hu2 hC hS => ?_)
  subst hu2
  refine lv_istore (lv' := [(6, .int V), (5, .int K), (4, .int (nI i)), (3, .ref (ad 11)), (2, .ref (ad 7)), (1, .ref (ad 0)), (0, .ref b)]) hx hb dL_law_331 hl (by decide) rfl (fun ls hl => ?_)
  refine lv_aload_n hx hb dL_law_333 rfl (lv_at hl 4 rfl) ?_
  refine k_rV (As := []) (rest := []) (c_X1_thrown l s.heap.size g ct ad c2 c2 (ax_h u K)) hC ⟨hx, hb, hml, hown, hts⟩ (cwV 0 hts gL_law_X1_thrown rfl rfl rfl (by decide +kernel) ⟨Nat.le_of_ble_eq_true rfl, Nat.le_of_ble_eq_true rfl⟩) (rc1 hC) rfl hl.1 rfl (Nat.le_of_ble_eq_true rfl) dL_law_334 ⟨(by show cells + 1 + 0 ≤ 601024; omega), (by show slots + 6 + 0 ≤ 7293034; omega)⟩ ?_
  refine lv_iload hx hb dL_law_337 (lv_at hl 1 rfl) ?_
  refine lv_icmp_eq (tgt := 344) hx hb dL_law_339 (by decide) (fun _ => ?_) (fun h => absurd rfl h)
  refine lv_iload hx hb dL_law_344 (lv_at hl 1 rfl) ?_
  refine lv_if_ne (tgt := 368) hx hb dL_law_346 (by decide) (fun h5 => ?_) (fun h5 => ?_)
  · skip
    refine lv_goto (tgt := 1195) hx hb dL_law_368 (by decide) ?_
    refine W.widen (k := cells + 2) (n := slots + 3010) (by omega) (by omega) ?_
    exact kk c2 (ax_h u K) d0 H locs ls hd0 hC hS (lv_sub hl [2, 3, 4, 5, 6] rfl)
  · skip
    refine lv_aload_n hx hb dL_law_349 rfl (lv_at hl 3 rfl) ?_
    refine lv_iconst (v := nI 0) hx hb dL_law_350 (by decide) ?_
    refine r_lo hC hx hb dL_law_351 ?_
    refine lv_tl (w := LB_ V) (hu h5) ?_
    refine lv_iload hx hb dL_law_352 (lv_at hl 0 rfl) ?_
    refine lv_if_eq (tgt := 361) hx hb dL_law_354 (by decide) (fun h9 => ?_) (fun h9 => ?_)
    · skip
      refine lv_lconst (v := 0) hx hb dL_law_361 (by decide) ?_
      refine lv_lcmp_eq hx hb (if_pos h9) dL_law_362 ?_
      refine lv_if_eq (tgt := 368) hx hb dL_law_363 (by decide) (fun _ => ?_) (fun h => absurd rfl h)
      refine lv_goto (tgt := 1195) hx hb dL_law_368 (by decide) ?_
      refine W.widen (k := cells + 2) (n := slots + 3010) (by omega) (by omega) ?_
      exact kk c2 (ax_h u K) d0 H locs ls hd0 hC hS (lv_sub hl [2, 3, 4, 5, 6] rfl)
    · skip
      refine lv_lconst (v := 1) hx hb dL_law_357 (by decide) ?_
      refine lv_goto (tgt := 362) hx hb dL_law_358 (by decide) ?_
      refine lv_lcmp_eq hx hb (if_neg h9) dL_law_362 ?_
      refine lv_if_eq (tgt := 368) hx hb dL_law_363 (by decide) (fun _ => ?_) (fun h => absurd rfl h)
      refine lv_goto (tgt := 1195) hx hb dL_law_368 (by decide) ?_
      refine W.widen (k := cells + 2) (n := slots + 3010) (by omega) (by omega) ?_
      exact kk c2 (ax_h u K) d0 H locs ls hd0 hC hS (lv_sub hl [2, 3, 4, 5, 6] rfl)
set_option maxHeartbeats 4000000 in
set_option maxRecDepth 100000 in
theorem l_write {p : Program} {l : Launch} {e : Env} {s : State} {m : MethodId} {b : Nat} {below : List Frame} {meth : Method} {c : Code} {Q : State → Prop} {L : Nat} {xs : Nat → Int32} {g : va_G} {ct ad : Nat → Nat} {i : Nat} {cS : St_} {x : Ax_} {d0 : Drawn} {H : Heap} {locs : List Loc} {cells slots : Nat} {ls : Array Slot} (h : LF p l s m b c L xs) (hi : i + 4 ≤ L) (hd0 : s.drawn.sameBut d0 lw_cs) (hC : CX s.heap.size g ct ad cS cS x (s.setDrawn d0) H) (hS : va_S (AA s.heap.size) s.heap H locs) (hcl : cells + 2 ≤ 601024 ∧ slots + 3010 ≤ 7293034) (hl : lv_has ls 9 (lvB ad b i)) (kk : NX p l e s m b below meth c Q g ct ad i cells slots) : W p l e room_1 (s.setDrawn d0) m #[Value.ref b] below meth c H locs cells slots Q (F0 m 371 ls []) := by
  obtain ⟨hx, hb, hml, hown, hts0, hX, hbl, hflags, hL⟩ := h
  have hts := dr_words hts0 d0
  have hX : va_X b L xs (s.setDrawn d0) s.heap := hX
  have hbA : ¬ AA s.heap.size b := Nat.not_le.mpr hbl
  have hI : Iv_ cS := hC.1.2.2.2.1
  have hB : s.heap.size ≤ (s.setDrawn d0).heap.size := Nat.le_refl _
  have hl : lv_has ls 9 [(4, .int (nI i)), (3, .ref (ad 11)), (2, .ref (ad 7)), (1, .ref (ad 0)), (0, .ref b)] := hl
  refine lv_aload_n hx hb dL_law_371 rfl (lv_at hl 3 rfl) ?_
  refine lv_aload_n hx hb dL_law_372 rfl (lv_at hl 1 rfl) ?_
  obtain ⟨K, V, c2, hW, hM⟩ := op_write l s.heap.size g ct ad cS x hflags hI 
  refine k_wS (As := [.ref (ad 0), .ref (ad 11)]) (rest := []) hW hC hB hS ⟨hx, hb, hml, hown, hts⟩ (vx_cwSW 2 hts gL_law_L_write rfl rfl rfl (by decide +kernel) ⟨Nat.le_of_ble_eq_true rfl, Nat.le_of_ble_eq_true rfl⟩) rfl hl.1 rfl (Nat.le_of_ble_eq_true rfl) dL_law_373 ⟨(by show cells + 1 ≤ 601024; omega), (by show slots + 6 ≤ 7293034; omega)⟩ (fun u H locs hu hC hS => ?_)
  refine lv_istore (lv' := [(5, .int K), (4, .int (nI i)), (3, .ref (ad 11)), (2, .ref (ad 7)), (1, .ref (ad 0)), (0, .ref b)]) hx hb dL_law_376 hl (by decide) rfl (fun ls hl => ?_)
  refine lv_aload_n hx hb dL_law_378 rfl (lv_at hl 3 rfl) ?_
  refine k_wV (As := []) (rest := []) (hM u) hC hB hS ⟨hx, hb, hml, hown, hts⟩ (cwV 0 hts gL_law_X1_write rfl rfl rfl (by decide +kernel) ⟨Nat.le_of_ble_eq_true rfl, Nat.le_of_ble_eq_true rfl⟩) (rc1 hC) rfl hl.1 rfl (Nat.le_of_ble_eq_true rfl) dL_law_379 ⟨(by show cells + 1 + 0 ≤ 601024; omega), (by show slots + 6 + 0 ≤ 7293034; omega)⟩ (fun u2 H locs hu2 hC hS => ?_)
  subst hu2
  refine lv_istore (lv' := [(6, .int V), (5, .int K), (4, .int (nI i)), (3, .ref (ad 11)), (2, .ref (ad 7)), (1, .ref (ad 0)), (0, .ref b)]) hx hb dL_law_382 hl (by decide) rfl (fun ls hl => ?_)
  refine lv_aload_n hx hb dL_law_384 rfl (lv_at hl 4 rfl) ?_
  refine k_rV (As := []) (rest := []) (c_X1_thrown l s.heap.size g ct ad c2 c2 (ax_h u K)) hC ⟨hx, hb, hml, hown, hts⟩ (cwV 0 hts gL_law_X1_thrown rfl rfl rfl (by decide +kernel) ⟨Nat.le_of_ble_eq_true rfl, Nat.le_of_ble_eq_true rfl⟩) (rc1 hC) rfl hl.1 rfl (Nat.le_of_ble_eq_true rfl) dL_law_385 ⟨(by show cells + 1 + 0 ≤ 601024; omega), (by show slots + 6 + 0 ≤ 7293034; omega)⟩ ?_
  refine lv_iload hx hb dL_law_388 (lv_at hl 1 rfl) ?_
  refine lv_icmp_eq (tgt := 395) hx hb dL_law_390 (by decide) (fun _ => ?_) (fun h => absurd rfl h)
  refine lv_iload hx hb dL_law_395 (lv_at hl 1 rfl) ?_
  refine lv_if_ne (tgt := 412) hx hb dL_law_397 (by decide) (fun h5 => ?_) (fun h5 => ?_)
  · skip
    refine lv_goto (tgt := 1195) hx hb dL_law_412 (by decide) ?_
    refine W.widen (k := cells + 2) (n := slots + 3010) (by omega) (by omega) ?_
    exact kk c2 (ax_h u K) d0 H locs ls hd0 hC hS (lv_sub hl [2, 3, 4, 5, 6] rfl)
  · skip
    refine lv_aload_n hx hb dL_law_400 rfl (lv_at hl 3 rfl) ?_
    refine lv_iconst (v := nI 0) hx hb dL_law_401 (by decide) ?_
    refine r_lo hC hx hb dL_law_402 ?_
    refine lv_tl (w := LI_ V) (hu h5) ?_
    refine lv_iload hx hb dL_law_403 (lv_at hl 0 rfl) ?_
    refine lv_i2l (v := V.toInt64) hx hb dL_law_405 rfl ?_
    refine lv_lcmp_eq hx hb rfl dL_law_406 ?_
    refine lv_if_eq (tgt := 412) hx hb dL_law_407 (by decide) (fun _ => ?_) (fun h => absurd rfl h)
    refine lv_goto (tgt := 1195) hx hb dL_law_412 (by decide) ?_
    refine W.widen (k := cells + 2) (n := slots + 3010) (by omega) (by omega) ?_
    exact kk c2 (ax_h u K) d0 H locs ls hd0 hC hS (lv_sub hl [2, 3, 4, 5, 6] rfl)
set_option maxHeartbeats 4000000 in
set_option maxRecDepth 100000 in
theorem l_add {p : Program} {l : Launch} {e : Env} {s : State} {m : MethodId} {b : Nat} {below : List Frame} {meth : Method} {c : Code} {Q : State → Prop} {L : Nat} {xs : Nat → Int32} {g : va_G} {ct ad : Nat → Nat} {i : Nat} {cS : St_} {x : Ax_} {d0 : Drawn} {H : Heap} {locs : List Loc} {cells slots : Nat} {ls : Array Slot} (h : LF p l s m b c L xs) (hi : i + 4 ≤ L) (hd0 : s.drawn.sameBut d0 lw_cs) (hC : CX s.heap.size g ct ad cS cS x (s.setDrawn d0) H) (hS : va_S (AA s.heap.size) s.heap H locs) (hcl : cells + 2 ≤ 601024 ∧ slots + 3010 ≤ 7293034) (hl : lv_has ls 9 (lvB ad b i)) (kk : NX p l e s m b below meth c Q g ct ad i cells slots) : W p l e room_1 (s.setDrawn d0) m #[Value.ref b] below meth c H locs cells slots Q (F0 m 415 ls []) := by
  obtain ⟨hx, hb, hml, hown, hts0, hX, hbl, hflags, hL⟩ := h
  have hts := dr_words hts0 d0
  have hX : va_X b L xs (s.setDrawn d0) s.heap := hX
  have hbA : ¬ AA s.heap.size b := Nat.not_le.mpr hbl
  have hI : Iv_ cS := hC.1.2.2.2.1
  have hB : s.heap.size ≤ (s.setDrawn d0).heap.size := Nat.le_refl _
  have hl : lv_has ls 9 [(4, .int (nI i)), (3, .ref (ad 11)), (2, .ref (ad 7)), (1, .ref (ad 0)), (0, .ref b)] := hl
  refine lv_aload_n hx hb dL_law_415 rfl (lv_at hl 3 rfl) ?_
  refine lv_aload_n hx hb dL_law_416 rfl (lv_at hl 4 rfl) ?_
  refine lv_iload hx hb dL_law_417 (lv_at hl 0 rfl) ?_
  refine lv_iconst (v := nI 1) hx hb dL_law_419 (by decide) ?_
  refine lv_iadd hx hb dL_law_420 ?_
  refine lv_tn (nI_add _ _) ?_
  refine va_sld hx hb hX hbl hbA hS (i := nI (i + 1)) (vp_in_nI (show i + 1 < L by omega) (by omega)) dL_law_421 ?_
  refine lv_tn (w := xs (i + 1)) (congrArg xs (nI_clamp (by omega))) ?_
  refine lv_aload_n hx hb dL_law_422 rfl (lv_at hl 4 rfl) ?_
  refine lv_iload hx hb dL_law_423 (lv_at hl 0 rfl) ?_
  refine lv_iconst (v := nI 2) hx hb dL_law_425 (by decide) ?_
  refine lv_iadd hx hb dL_law_426 ?_
  refine lv_tn (nI_add _ _) ?_
  refine va_sld hx hb hX hbl hbA hS (i := nI (i + 2)) (vp_in_nI (show i + 2 < L by omega) (by omega)) dL_law_427 ?_
  refine lv_tn (w := xs (i + 2)) (congrArg xs (nI_clamp (by omega))) ?_
  refine lv_aload_n hx hb dL_law_428 rfl (lv_at hl 1 rfl) ?_
  obtain ⟨K, V, c2, hW, hM⟩ := op_add l s.heap.size g ct ad cS x hflags hI (xs (i + 1)) (xs (i + 2))
  refine k_wS (As := [.ref (ad 0), .int (xs (i + 1)), .int (xs (i + 2)), .ref (ad 11)]) (rest := []) hW hC hB hS ⟨hx, hb, hml, hown, hts⟩ (vx_cwSW 4 hts gL_law_L_add rfl rfl rfl (by decide +kernel) ⟨Nat.le_of_ble_eq_true rfl, Nat.le_of_ble_eq_true rfl⟩) rfl hl.1 rfl (Nat.le_of_ble_eq_true rfl) dL_law_429 ⟨(by show cells + 1 ≤ 601024; omega), (by show slots + 6 ≤ 7293034; omega)⟩ (fun u H locs hu hC hS => ?_)
  refine lv_istore (lv' := [(5, .int K), (4, .int (nI i)), (3, .ref (ad 11)), (2, .ref (ad 7)), (1, .ref (ad 0)), (0, .ref b)]) hx hb dL_law_432 hl (by decide) rfl (fun ls hl => ?_)
  refine lv_aload_n hx hb dL_law_434 rfl (lv_at hl 3 rfl) ?_
  refine lv_aload_n hx hb dL_law_435 rfl (lv_at hl 5 rfl) ?_
  refine lv_iload hx hb dL_law_436 (lv_at hl 1 rfl) ?_
  refine lv_iconst (v := nI 1) hx hb dL_law_438 (by decide) ?_
  refine lv_iadd hx hb dL_law_439 ?_
  refine lv_tn (nI_add _ _) ?_
  refine va_sld hx hb hX hbl hbA hS (i := nI (i + 1)) (vp_in_nI (show i + 1 < L by omega) (by omega)) dL_law_440 ?_
  refine lv_tn (w := xs (i + 1)) (congrArg xs (nI_clamp (by omega))) ?_
  refine lv_aload_n hx hb dL_law_441 rfl (lv_at hl 5 rfl) ?_
  refine lv_iload hx hb dL_law_442 (lv_at hl 1 rfl) ?_
  refine lv_iconst (v := nI 2) hx hb dL_law_444 (by decide) ?_
  refine lv_iadd hx hb dL_law_445 ?_
  refine lv_tn (nI_add _ _) ?_
  refine va_sld hx hb hX hbl hbA hS (i := nI (i + 2)) (vp_in_nI (show i + 2 < L by omega) (by omega)) dL_law_446 ?_
  refine lv_tn (w := xs (i + 2)) (congrArg xs (nI_clamp (by omega))) ?_
  refine k_wV (As := [.int (xs (i + 1)), .int (xs (i + 2))]) (rest := []) (hM u) hC hB hS ⟨hx, hb, hml, hown, hts⟩ (cwV 2 hts gL_law_X1_add rfl rfl rfl (by decide +kernel) ⟨Nat.le_of_ble_eq_true rfl, Nat.le_of_ble_eq_true rfl⟩) (rc1 hC) rfl hl.1 rfl (Nat.le_of_ble_eq_true rfl) dL_law_447 ⟨(by show cells + 1 + 0 ≤ 601024; omega), (by show slots + 6 + 0 ≤ 7293034; omega)⟩ (fun u2 H locs hu2 hC hS => ?_)
  subst hu2
  refine lv_istore (lv' := [(6, .int V), (5, .int K), (4, .int (nI i)), (3, .ref (ad 11)), (2, .ref (ad 7)), (1, .ref (ad 0)), (0, .ref b)]) hx hb dL_law_450 hl (by decide) rfl (fun ls hl => ?_)
  refine lv_aload_n hx hb dL_law_452 rfl (lv_at hl 4 rfl) ?_
  refine k_rV (As := []) (rest := []) (c_X1_thrown l s.heap.size g ct ad c2 c2 (ax_h u K)) hC ⟨hx, hb, hml, hown, hts⟩ (cwV 0 hts gL_law_X1_thrown rfl rfl rfl (by decide +kernel) ⟨Nat.le_of_ble_eq_true rfl, Nat.le_of_ble_eq_true rfl⟩) (rc1 hC) rfl hl.1 rfl (Nat.le_of_ble_eq_true rfl) dL_law_453 ⟨(by show cells + 1 + 0 ≤ 601024; omega), (by show slots + 6 + 0 ≤ 7293034; omega)⟩ ?_
  refine lv_iload hx hb dL_law_456 (lv_at hl 1 rfl) ?_
  refine lv_icmp_eq (tgt := 463) hx hb dL_law_458 (by decide) (fun _ => ?_) (fun h => absurd rfl h)
  refine lv_iload hx hb dL_law_463 (lv_at hl 1 rfl) ?_
  refine lv_if_ne (tgt := 480) hx hb dL_law_465 (by decide) (fun h5 => ?_) (fun h5 => ?_)
  · skip
    refine lv_goto (tgt := 1195) hx hb dL_law_480 (by decide) ?_
    refine W.widen (k := cells + 2) (n := slots + 3010) (by omega) (by omega) ?_
    exact kk c2 (ax_h u K) d0 H locs ls hd0 hC hS (lv_sub hl [2, 3, 4, 5, 6] rfl)
  · skip
    refine lv_aload_n hx hb dL_law_468 rfl (lv_at hl 3 rfl) ?_
    refine lv_iconst (v := nI 0) hx hb dL_law_469 (by decide) ?_
    refine r_lo hC hx hb dL_law_470 ?_
    refine lv_tl (w := LI_ V) (hu h5) ?_
    refine lv_iload hx hb dL_law_471 (lv_at hl 0 rfl) ?_
    refine lv_i2l (v := V.toInt64) hx hb dL_law_473 rfl ?_
    refine lv_lcmp_eq hx hb rfl dL_law_474 ?_
    refine lv_if_eq (tgt := 480) hx hb dL_law_475 (by decide) (fun _ => ?_) (fun h => absurd rfl h)
    refine lv_goto (tgt := 1195) hx hb dL_law_480 (by decide) ?_
    refine W.widen (k := cells + 2) (n := slots + 3010) (by omega) (by omega) ?_
    exact kk c2 (ax_h u K) d0 H locs ls hd0 hC hS (lv_sub hl [2, 3, 4, 5, 6] rfl)
set_option maxHeartbeats 4000000 in
set_option maxRecDepth 100000 in
theorem l_cut {p : Program} {l : Launch} {e : Env} {s : State} {m : MethodId} {b : Nat} {below : List Frame} {meth : Method} {c : Code} {Q : State → Prop} {L : Nat} {xs : Nat → Int32} {g : va_G} {ct ad : Nat → Nat} {i : Nat} {cS : St_} {x : Ax_} {d0 : Drawn} {H : Heap} {locs : List Loc} {cells slots : Nat} {ls : Array Slot} (h : LF p l s m b c L xs) (hi : i + 4 ≤ L) (hd0 : s.drawn.sameBut d0 lw_cs) (hC : CX s.heap.size g ct ad cS cS x (s.setDrawn d0) H) (hS : va_S (AA s.heap.size) s.heap H locs) (hcl : cells + 2 ≤ 601024 ∧ slots + 3010 ≤ 7293034) (hl : lv_has ls 9 (lvB ad b i)) (kk : NX p l e s m b below meth c Q g ct ad i cells slots) : W p l e room_1 (s.setDrawn d0) m #[Value.ref b] below meth c H locs cells slots Q (F0 m 483 ls []) := by
  obtain ⟨hx, hb, hml, hown, hts0, hX, hbl, hflags, hL⟩ := h
  have hts := dr_words hts0 d0
  have hX : va_X b L xs (s.setDrawn d0) s.heap := hX
  have hbA : ¬ AA s.heap.size b := Nat.not_le.mpr hbl
  have hI : Iv_ cS := hC.1.2.2.2.1
  have hB : s.heap.size ≤ (s.setDrawn d0).heap.size := Nat.le_refl _
  have hl : lv_has ls 9 [(4, .int (nI i)), (3, .ref (ad 11)), (2, .ref (ad 7)), (1, .ref (ad 0)), (0, .ref b)] := hl
  refine lv_aload_n hx hb dL_law_483 rfl (lv_at hl 3 rfl) ?_
  refine lv_aload_n hx hb dL_law_484 rfl (lv_at hl 4 rfl) ?_
  refine lv_iload hx hb dL_law_485 (lv_at hl 0 rfl) ?_
  refine lv_iconst (v := nI 1) hx hb dL_law_487 (by decide) ?_
  refine lv_iadd hx hb dL_law_488 ?_
  refine lv_tn (nI_add _ _) ?_
  refine va_sld hx hb hX hbl hbA hS (i := nI (i + 1)) (vp_in_nI (show i + 1 < L by omega) (by omega)) dL_law_489 ?_
  refine lv_tn (w := xs (i + 1)) (congrArg xs (nI_clamp (by omega))) ?_
  refine lv_aload_n hx hb dL_law_490 rfl (lv_at hl 1 rfl) ?_
  obtain ⟨K, V, c2, hW, hM⟩ := op_cut l s.heap.size g ct ad cS x hflags hI (xs (i + 1))
  refine k_wS (As := [.ref (ad 0), .int (xs (i + 1)), .ref (ad 11)]) (rest := []) hW hC hB hS ⟨hx, hb, hml, hown, hts⟩ (vx_cwSW 3 hts gL_law_L_cut rfl rfl rfl (by decide +kernel) ⟨Nat.le_of_ble_eq_true rfl, Nat.le_of_ble_eq_true rfl⟩) rfl hl.1 rfl (Nat.le_of_ble_eq_true rfl) dL_law_491 ⟨(by show cells + 1 ≤ 601024; omega), (by show slots + 6 ≤ 7293034; omega)⟩ (fun u H locs hu hC hS => ?_)
  refine lv_istore (lv' := [(5, .int K), (4, .int (nI i)), (3, .ref (ad 11)), (2, .ref (ad 7)), (1, .ref (ad 0)), (0, .ref b)]) hx hb dL_law_494 hl (by decide) rfl (fun ls hl => ?_)
  refine lv_aload_n hx hb dL_law_496 rfl (lv_at hl 3 rfl) ?_
  refine lv_aload_n hx hb dL_law_497 rfl (lv_at hl 5 rfl) ?_
  refine lv_iload hx hb dL_law_498 (lv_at hl 1 rfl) ?_
  refine lv_iconst (v := nI 1) hx hb dL_law_500 (by decide) ?_
  refine lv_iadd hx hb dL_law_501 ?_
  refine lv_tn (nI_add _ _) ?_
  refine va_sld hx hb hX hbl hbA hS (i := nI (i + 1)) (vp_in_nI (show i + 1 < L by omega) (by omega)) dL_law_502 ?_
  refine lv_tn (w := xs (i + 1)) (congrArg xs (nI_clamp (by omega))) ?_
  refine k_wV (As := [.int (xs (i + 1))]) (rest := []) (hM u) hC hB hS ⟨hx, hb, hml, hown, hts⟩ (cwV 1 hts gL_law_X1_cut rfl rfl rfl (by decide +kernel) ⟨Nat.le_of_ble_eq_true rfl, Nat.le_of_ble_eq_true rfl⟩) (rc1 hC) rfl hl.1 rfl (Nat.le_of_ble_eq_true rfl) dL_law_503 ⟨(by show cells + 1 + 0 ≤ 601024; omega), (by show slots + 6 + 0 ≤ 7293034; omega)⟩ (fun u2 H locs hu2 hC hS => ?_)
  subst hu2
  refine lv_istore (lv' := [(6, .int V), (5, .int K), (4, .int (nI i)), (3, .ref (ad 11)), (2, .ref (ad 7)), (1, .ref (ad 0)), (0, .ref b)]) hx hb dL_law_506 hl (by decide) rfl (fun ls hl => ?_)
  refine lv_aload_n hx hb dL_law_508 rfl (lv_at hl 4 rfl) ?_
  refine k_rV (As := []) (rest := []) (c_X1_thrown l s.heap.size g ct ad c2 c2 (ax_h u K)) hC ⟨hx, hb, hml, hown, hts⟩ (cwV 0 hts gL_law_X1_thrown rfl rfl rfl (by decide +kernel) ⟨Nat.le_of_ble_eq_true rfl, Nat.le_of_ble_eq_true rfl⟩) (rc1 hC) rfl hl.1 rfl (Nat.le_of_ble_eq_true rfl) dL_law_509 ⟨(by show cells + 1 + 0 ≤ 601024; omega), (by show slots + 6 + 0 ≤ 7293034; omega)⟩ ?_
  refine lv_iload hx hb dL_law_512 (lv_at hl 1 rfl) ?_
  refine lv_icmp_eq (tgt := 519) hx hb dL_law_514 (by decide) (fun _ => ?_) (fun h => absurd rfl h)
  refine lv_iload hx hb dL_law_519 (lv_at hl 1 rfl) ?_
  refine lv_if_ne (tgt := 536) hx hb dL_law_521 (by decide) (fun h5 => ?_) (fun h5 => ?_)
  · skip
    refine lv_goto (tgt := 1195) hx hb dL_law_536 (by decide) ?_
    refine W.widen (k := cells + 2) (n := slots + 3010) (by omega) (by omega) ?_
    exact kk c2 (ax_h u K) d0 H locs ls hd0 hC hS (lv_sub hl [2, 3, 4, 5, 6] rfl)
  · skip
    refine lv_aload_n hx hb dL_law_524 rfl (lv_at hl 3 rfl) ?_
    refine lv_iconst (v := nI 0) hx hb dL_law_525 (by decide) ?_
    refine r_lo hC hx hb dL_law_526 ?_
    refine lv_tl (w := LI_ V) (hu h5) ?_
    refine lv_iload hx hb dL_law_527 (lv_at hl 0 rfl) ?_
    refine lv_i2l (v := V.toInt64) hx hb dL_law_529 rfl ?_
    refine lv_lcmp_eq hx hb rfl dL_law_530 ?_
    refine lv_if_eq (tgt := 536) hx hb dL_law_531 (by decide) (fun _ => ?_) (fun h => absurd rfl h)
    refine lv_goto (tgt := 1195) hx hb dL_law_536 (by decide) ?_
    refine W.widen (k := cells + 2) (n := slots + 3010) (by omega) (by omega) ?_
    exact kk c2 (ax_h u K) d0 H locs ls hd0 hC hS (lv_sub hl [2, 3, 4, 5, 6] rfl)
set_option maxHeartbeats 4000000 in
set_option maxRecDepth 100000 in
theorem l_mark {p : Program} {l : Launch} {e : Env} {s : State} {m : MethodId} {b : Nat} {below : List Frame} {meth : Method} {c : Code} {Q : State → Prop} {L : Nat} {xs : Nat → Int32} {g : va_G} {ct ad : Nat → Nat} {i : Nat} {cS : St_} {x : Ax_} {d0 : Drawn} {H : Heap} {locs : List Loc} {cells slots : Nat} {ls : Array Slot} (h : LF p l s m b c L xs) (hi : i + 4 ≤ L) (hd0 : s.drawn.sameBut d0 lw_cs) (hC : CX s.heap.size g ct ad cS cS x (s.setDrawn d0) H) (hS : va_S (AA s.heap.size) s.heap H locs) (hcl : cells + 2 ≤ 601024 ∧ slots + 3010 ≤ 7293034) (hl : lv_has ls 9 (lvB ad b i)) (kk : NX p l e s m b below meth c Q g ct ad i cells slots) : W p l e room_1 (s.setDrawn d0) m #[Value.ref b] below meth c H locs cells slots Q (F0 m 539 ls []) := by
  obtain ⟨hx, hb, hml, hown, hts0, hX, hbl, hflags, hL⟩ := h
  have hts := dr_words hts0 d0
  have hX : va_X b L xs (s.setDrawn d0) s.heap := hX
  have hbA : ¬ AA s.heap.size b := Nat.not_le.mpr hbl
  have hI : Iv_ cS := hC.1.2.2.2.1
  have hB : s.heap.size ≤ (s.setDrawn d0).heap.size := Nat.le_refl _
  have hl : lv_has ls 9 [(4, .int (nI i)), (3, .ref (ad 11)), (2, .ref (ad 7)), (1, .ref (ad 0)), (0, .ref b)] := hl
  refine lv_aload_n hx hb dL_law_539 rfl (lv_at hl 3 rfl) ?_
  refine lv_aload_n hx hb dL_law_540 rfl (lv_at hl 4 rfl) ?_
  refine lv_iload hx hb dL_law_541 (lv_at hl 0 rfl) ?_
  refine lv_iconst (v := nI 1) hx hb dL_law_543 (by decide) ?_
  refine lv_iadd hx hb dL_law_544 ?_
  refine lv_tn (nI_add _ _) ?_
  refine va_sld hx hb hX hbl hbA hS (i := nI (i + 1)) (vp_in_nI (show i + 1 < L by omega) (by omega)) dL_law_545 ?_
  refine lv_tn (w := xs (i + 1)) (congrArg xs (nI_clamp (by omega))) ?_
  refine lv_aload_n hx hb dL_law_546 rfl (lv_at hl 4 rfl) ?_
  refine lv_iload hx hb dL_law_547 (lv_at hl 0 rfl) ?_
  refine lv_iconst (v := nI 2) hx hb dL_law_549 (by decide) ?_
  refine lv_iadd hx hb dL_law_550 ?_
  refine lv_tn (nI_add _ _) ?_
  refine va_sld hx hb hX hbl hbA hS (i := nI (i + 2)) (vp_in_nI (show i + 2 < L by omega) (by omega)) dL_law_551 ?_
  refine lv_tn (w := xs (i + 2)) (congrArg xs (nI_clamp (by omega))) ?_
  refine lv_aload_n hx hb dL_law_552 rfl (lv_at hl 4 rfl) ?_
  refine lv_iload hx hb dL_law_553 (lv_at hl 0 rfl) ?_
  refine lv_iconst (v := nI 3) hx hb dL_law_555 (by decide) ?_
  refine lv_iadd hx hb dL_law_556 ?_
  refine lv_tn (nI_add _ _) ?_
  refine va_sld hx hb hX hbl hbA hS (i := nI (i + 3)) (vp_in_nI (show i + 3 < L by omega) (by omega)) dL_law_557 ?_
  refine lv_tn (w := xs (i + 3)) (congrArg xs (nI_clamp (by omega))) ?_
  refine lv_aload_n hx hb dL_law_558 rfl (lv_at hl 1 rfl) ?_
  obtain ⟨K, V, c2, hW, hM⟩ := op_mark l s.heap.size g ct ad cS x hflags hI (xs (i + 1)) (xs (i + 2)) (xs (i + 3))
  refine k_wS (As := [.ref (ad 0), .int (xs (i + 1)), .int (xs (i + 2)), .int (xs (i + 3)), .ref (ad 11)]) (rest := []) hW hC hB hS ⟨hx, hb, hml, hown, hts⟩ (vx_cwSW 5 hts gL_law_L_mark rfl rfl rfl (by decide +kernel) ⟨Nat.le_of_ble_eq_true rfl, Nat.le_of_ble_eq_true rfl⟩) rfl hl.1 rfl (Nat.le_of_ble_eq_true rfl) dL_law_559 ⟨(by show cells + 1 ≤ 601024; omega), (by show slots + 6 ≤ 7293034; omega)⟩ (fun u H locs hu hC hS => ?_)
  refine lv_istore (lv' := [(5, .int K), (4, .int (nI i)), (3, .ref (ad 11)), (2, .ref (ad 7)), (1, .ref (ad 0)), (0, .ref b)]) hx hb dL_law_562 hl (by decide) rfl (fun ls hl => ?_)
  refine lv_aload_n hx hb dL_law_564 rfl (lv_at hl 3 rfl) ?_
  refine lv_aload_n hx hb dL_law_565 rfl (lv_at hl 5 rfl) ?_
  refine lv_iload hx hb dL_law_566 (lv_at hl 1 rfl) ?_
  refine lv_iconst (v := nI 1) hx hb dL_law_568 (by decide) ?_
  refine lv_iadd hx hb dL_law_569 ?_
  refine lv_tn (nI_add _ _) ?_
  refine va_sld hx hb hX hbl hbA hS (i := nI (i + 1)) (vp_in_nI (show i + 1 < L by omega) (by omega)) dL_law_570 ?_
  refine lv_tn (w := xs (i + 1)) (congrArg xs (nI_clamp (by omega))) ?_
  refine lv_aload_n hx hb dL_law_571 rfl (lv_at hl 5 rfl) ?_
  refine lv_iload hx hb dL_law_572 (lv_at hl 1 rfl) ?_
  refine lv_iconst (v := nI 2) hx hb dL_law_574 (by decide) ?_
  refine lv_iadd hx hb dL_law_575 ?_
  refine lv_tn (nI_add _ _) ?_
  refine va_sld hx hb hX hbl hbA hS (i := nI (i + 2)) (vp_in_nI (show i + 2 < L by omega) (by omega)) dL_law_576 ?_
  refine lv_tn (w := xs (i + 2)) (congrArg xs (nI_clamp (by omega))) ?_
  refine lv_aload_n hx hb dL_law_577 rfl (lv_at hl 5 rfl) ?_
  refine lv_iload hx hb dL_law_578 (lv_at hl 1 rfl) ?_
  refine lv_iconst (v := nI 3) hx hb dL_law_580 (by decide) ?_
  refine lv_iadd hx hb dL_law_581 ?_
  refine lv_tn (nI_add _ _) ?_
  refine va_sld hx hb hX hbl hbA hS (i := nI (i + 3)) (vp_in_nI (show i + 3 < L by omega) (by omega)) dL_law_582 ?_
  refine lv_tn (w := xs (i + 3)) (congrArg xs (nI_clamp (by omega))) ?_
  refine k_wV (As := [.int (xs (i + 1)), .int (xs (i + 2)), .int (xs (i + 3))]) (rest := []) (hM u) hC hB hS ⟨hx, hb, hml, hown, hts⟩ (cwV 3 hts gL_law_X1_mark rfl rfl rfl (by decide +kernel) ⟨Nat.le_of_ble_eq_true rfl, Nat.le_of_ble_eq_true rfl⟩) (rc1 hC) rfl hl.1 rfl (Nat.le_of_ble_eq_true rfl) dL_law_583 ⟨(by show cells + 1 + 0 ≤ 601024; omega), (by show slots + 6 + 0 ≤ 7293034; omega)⟩ (fun u2 H locs hu2 hC hS => ?_)
  subst hu2
  refine lv_istore (lv' := [(6, .int V), (5, .int K), (4, .int (nI i)), (3, .ref (ad 11)), (2, .ref (ad 7)), (1, .ref (ad 0)), (0, .ref b)]) hx hb dL_law_586 hl (by decide) rfl (fun ls hl => ?_)
  refine lv_aload_n hx hb dL_law_588 rfl (lv_at hl 4 rfl) ?_
  refine k_rV (As := []) (rest := []) (c_X1_thrown l s.heap.size g ct ad c2 c2 (ax_h u K)) hC ⟨hx, hb, hml, hown, hts⟩ (cwV 0 hts gL_law_X1_thrown rfl rfl rfl (by decide +kernel) ⟨Nat.le_of_ble_eq_true rfl, Nat.le_of_ble_eq_true rfl⟩) (rc1 hC) rfl hl.1 rfl (Nat.le_of_ble_eq_true rfl) dL_law_589 ⟨(by show cells + 1 + 0 ≤ 601024; omega), (by show slots + 6 + 0 ≤ 7293034; omega)⟩ ?_
  refine lv_iload hx hb dL_law_592 (lv_at hl 1 rfl) ?_
  refine lv_icmp_eq (tgt := 599) hx hb dL_law_594 (by decide) (fun _ => ?_) (fun h => absurd rfl h)
  refine lv_iload hx hb dL_law_599 (lv_at hl 1 rfl) ?_
  refine lv_if_ne (tgt := 623) hx hb dL_law_601 (by decide) (fun h5 => ?_) (fun h5 => ?_)
  · skip
    refine lv_goto (tgt := 1195) hx hb dL_law_623 (by decide) ?_
    refine W.widen (k := cells + 2) (n := slots + 3010) (by omega) (by omega) ?_
    exact kk c2 (ax_h u K) d0 H locs ls hd0 hC hS (lv_sub hl [2, 3, 4, 5, 6] rfl)
  · skip
    refine lv_aload_n hx hb dL_law_604 rfl (lv_at hl 3 rfl) ?_
    refine lv_iconst (v := nI 0) hx hb dL_law_605 (by decide) ?_
    refine r_lo hC hx hb dL_law_606 ?_
    refine lv_tl (w := LB_ V) (hu h5) ?_
    refine lv_iload hx hb dL_law_607 (lv_at hl 0 rfl) ?_
    refine lv_if_eq (tgt := 616) hx hb dL_law_609 (by decide) (fun h9 => ?_) (fun h9 => ?_)
    · skip
      refine lv_lconst (v := 0) hx hb dL_law_616 (by decide) ?_
      refine lv_lcmp_eq hx hb (if_pos h9) dL_law_617 ?_
      refine lv_if_eq (tgt := 623) hx hb dL_law_618 (by decide) (fun _ => ?_) (fun h => absurd rfl h)
      refine lv_goto (tgt := 1195) hx hb dL_law_623 (by decide) ?_
      refine W.widen (k := cells + 2) (n := slots + 3010) (by omega) (by omega) ?_
      exact kk c2 (ax_h u K) d0 H locs ls hd0 hC hS (lv_sub hl [2, 3, 4, 5, 6] rfl)
    · skip
      refine lv_lconst (v := 1) hx hb dL_law_612 (by decide) ?_
      refine lv_goto (tgt := 617) hx hb dL_law_613 (by decide) ?_
      refine lv_lcmp_eq hx hb (if_neg h9) dL_law_617 ?_
      refine lv_if_eq (tgt := 623) hx hb dL_law_618 (by decide) (fun _ => ?_) (fun h => absurd rfl h)
      refine lv_goto (tgt := 1195) hx hb dL_law_623 (by decide) ?_
      refine W.widen (k := cells + 2) (n := slots + 3010) (by omega) (by omega) ?_
      exact kk c2 (ax_h u K) d0 H locs ls hd0 hC hS (lv_sub hl [2, 3, 4, 5, 6] rfl)
set_option maxHeartbeats 4000000 in
set_option maxRecDepth 100000 in
theorem l_word {p : Program} {l : Launch} {e : Env} {s : State} {m : MethodId} {b : Nat} {below : List Frame} {meth : Method} {c : Code} {Q : State → Prop} {L : Nat} {xs : Nat → Int32} {g : va_G} {ct ad : Nat → Nat} {i : Nat} {cS : St_} {x : Ax_} {d0 : Drawn} {H : Heap} {locs : List Loc} {cells slots : Nat} {ls : Array Slot} (h : LF p l s m b c L xs) (hi : i + 4 ≤ L) (hd0 : s.drawn.sameBut d0 lw_cs) (hC : CX s.heap.size g ct ad cS cS x (s.setDrawn d0) H) (hS : va_S (AA s.heap.size) s.heap H locs) (hcl : cells + 2 ≤ 601024 ∧ slots + 3010 ≤ 7293034) (hl : lv_has ls 9 (lvB ad b i)) (kk : NX p l e s m b below meth c Q g ct ad i cells slots) : W p l e room_1 (s.setDrawn d0) m #[Value.ref b] below meth c H locs cells slots Q (F0 m 626 ls []) := by
  obtain ⟨hx, hb, hml, hown, hts0, hX, hbl, hflags, hL⟩ := h
  have hts := dr_words hts0 d0
  have hX : va_X b L xs (s.setDrawn d0) s.heap := hX
  have hbA : ¬ AA s.heap.size b := Nat.not_le.mpr hbl
  have hI : Iv_ cS := hC.1.2.2.2.1
  have hB : s.heap.size ≤ (s.setDrawn d0).heap.size := Nat.le_refl _
  have hl : lv_has ls 9 [(4, .int (nI i)), (3, .ref (ad 11)), (2, .ref (ad 7)), (1, .ref (ad 0)), (0, .ref b)] := hl
  refine lv_aload_n hx hb dL_law_626 rfl (lv_at hl 3 rfl) ?_
  refine lv_aload_n hx hb dL_law_627 rfl (lv_at hl 4 rfl) ?_
  refine lv_iload hx hb dL_law_628 (lv_at hl 0 rfl) ?_
  refine lv_iconst (v := nI 1) hx hb dL_law_630 (by decide) ?_
  refine lv_iadd hx hb dL_law_631 ?_
  refine lv_tn (nI_add _ _) ?_
  refine va_sld hx hb hX hbl hbA hS (i := nI (i + 1)) (vp_in_nI (show i + 1 < L by omega) (by omega)) dL_law_632 ?_
  refine lv_tn (w := xs (i + 1)) (congrArg xs (nI_clamp (by omega))) ?_
  refine lv_aload_n hx hb dL_law_633 rfl (lv_at hl 4 rfl) ?_
  refine lv_iload hx hb dL_law_634 (lv_at hl 0 rfl) ?_
  refine lv_iconst (v := nI 2) hx hb dL_law_636 (by decide) ?_
  refine lv_iadd hx hb dL_law_637 ?_
  refine lv_tn (nI_add _ _) ?_
  refine va_sld hx hb hX hbl hbA hS (i := nI (i + 2)) (vp_in_nI (show i + 2 < L by omega) (by omega)) dL_law_638 ?_
  refine lv_tn (w := xs (i + 2)) (congrArg xs (nI_clamp (by omega))) ?_
  refine lv_aload_n hx hb dL_law_639 rfl (lv_at hl 4 rfl) ?_
  refine lv_iload hx hb dL_law_640 (lv_at hl 0 rfl) ?_
  refine lv_iconst (v := nI 3) hx hb dL_law_642 (by decide) ?_
  refine lv_iadd hx hb dL_law_643 ?_
  refine lv_tn (nI_add _ _) ?_
  refine va_sld hx hb hX hbl hbA hS (i := nI (i + 3)) (vp_in_nI (show i + 3 < L by omega) (by omega)) dL_law_644 ?_
  refine lv_tn (w := xs (i + 3)) (congrArg xs (nI_clamp (by omega))) ?_
  refine lv_aload_n hx hb dL_law_645 rfl (lv_at hl 1 rfl) ?_
  obtain ⟨K, V, c2, hW, hM⟩ := op_word l s.heap.size g ct ad cS x hflags hI (xs (i + 1)) (xs (i + 2)) (xs (i + 3))
  refine k_wS (As := [.ref (ad 0), .int (xs (i + 1)), .int (xs (i + 2)), .int (xs (i + 3)), .ref (ad 11)]) (rest := []) hW hC hB hS ⟨hx, hb, hml, hown, hts⟩ (vx_cwSW 5 hts gL_law_L_word rfl rfl rfl (by decide +kernel) ⟨Nat.le_of_ble_eq_true rfl, Nat.le_of_ble_eq_true rfl⟩) rfl hl.1 rfl (Nat.le_of_ble_eq_true rfl) dL_law_646 ⟨(by show cells + 1 ≤ 601024; omega), (by show slots + 6 ≤ 7293034; omega)⟩ (fun u H locs hu hC hS => ?_)
  refine lv_istore (lv' := [(5, .int K), (4, .int (nI i)), (3, .ref (ad 11)), (2, .ref (ad 7)), (1, .ref (ad 0)), (0, .ref b)]) hx hb dL_law_649 hl (by decide) rfl (fun ls hl => ?_)
  refine lv_aload_n hx hb dL_law_651 rfl (lv_at hl 3 rfl) ?_
  refine lv_aload_n hx hb dL_law_652 rfl (lv_at hl 5 rfl) ?_
  refine lv_iload hx hb dL_law_653 (lv_at hl 1 rfl) ?_
  refine lv_iconst (v := nI 1) hx hb dL_law_655 (by decide) ?_
  refine lv_iadd hx hb dL_law_656 ?_
  refine lv_tn (nI_add _ _) ?_
  refine va_sld hx hb hX hbl hbA hS (i := nI (i + 1)) (vp_in_nI (show i + 1 < L by omega) (by omega)) dL_law_657 ?_
  refine lv_tn (w := xs (i + 1)) (congrArg xs (nI_clamp (by omega))) ?_
  refine lv_aload_n hx hb dL_law_658 rfl (lv_at hl 5 rfl) ?_
  refine lv_iload hx hb dL_law_659 (lv_at hl 1 rfl) ?_
  refine lv_iconst (v := nI 2) hx hb dL_law_661 (by decide) ?_
  refine lv_iadd hx hb dL_law_662 ?_
  refine lv_tn (nI_add _ _) ?_
  refine va_sld hx hb hX hbl hbA hS (i := nI (i + 2)) (vp_in_nI (show i + 2 < L by omega) (by omega)) dL_law_663 ?_
  refine lv_tn (w := xs (i + 2)) (congrArg xs (nI_clamp (by omega))) ?_
  refine lv_aload_n hx hb dL_law_664 rfl (lv_at hl 5 rfl) ?_
  refine lv_iload hx hb dL_law_665 (lv_at hl 1 rfl) ?_
  refine lv_iconst (v := nI 3) hx hb dL_law_667 (by decide) ?_
  refine lv_iadd hx hb dL_law_668 ?_
  refine lv_tn (nI_add _ _) ?_
  refine va_sld hx hb hX hbl hbA hS (i := nI (i + 3)) (vp_in_nI (show i + 3 < L by omega) (by omega)) dL_law_669 ?_
  refine lv_tn (w := xs (i + 3)) (congrArg xs (nI_clamp (by omega))) ?_
  refine k_wV (As := [.int (xs (i + 1)), .int (xs (i + 2)), .int (xs (i + 3))]) (rest := []) (hM u) hC hB hS ⟨hx, hb, hml, hown, hts⟩ (cwV 3 hts gL_law_X1_word rfl rfl rfl (by decide +kernel) ⟨Nat.le_of_ble_eq_true rfl, Nat.le_of_ble_eq_true rfl⟩) (rc1 hC) rfl hl.1 rfl (Nat.le_of_ble_eq_true rfl) dL_law_670 ⟨(by show cells + 1 + 0 ≤ 601024; omega), (by show slots + 6 + 0 ≤ 7293034; omega)⟩ (fun u2 H locs hu2 hC hS => ?_)
  subst hu2
  refine lv_istore (lv' := [(6, .int V), (5, .int K), (4, .int (nI i)), (3, .ref (ad 11)), (2, .ref (ad 7)), (1, .ref (ad 0)), (0, .ref b)]) hx hb dL_law_673 hl (by decide) rfl (fun ls hl => ?_)
  refine lv_aload_n hx hb dL_law_675 rfl (lv_at hl 4 rfl) ?_
  refine k_rV (As := []) (rest := []) (c_X1_thrown l s.heap.size g ct ad c2 c2 (ax_h u K)) hC ⟨hx, hb, hml, hown, hts⟩ (cwV 0 hts gL_law_X1_thrown rfl rfl rfl (by decide +kernel) ⟨Nat.le_of_ble_eq_true rfl, Nat.le_of_ble_eq_true rfl⟩) (rc1 hC) rfl hl.1 rfl (Nat.le_of_ble_eq_true rfl) dL_law_676 ⟨(by show cells + 1 + 0 ≤ 601024; omega), (by show slots + 6 + 0 ≤ 7293034; omega)⟩ ?_
  refine lv_iload hx hb dL_law_679 (lv_at hl 1 rfl) ?_
  refine lv_icmp_eq (tgt := 686) hx hb dL_law_681 (by decide) (fun _ => ?_) (fun h => absurd rfl h)
  refine lv_iload hx hb dL_law_686 (lv_at hl 1 rfl) ?_
  refine lv_if_ne (tgt := 703) hx hb dL_law_688 (by decide) (fun h5 => ?_) (fun h5 => ?_)
  · skip
    refine lv_goto (tgt := 1195) hx hb dL_law_703 (by decide) ?_
    refine W.widen (k := cells + 2) (n := slots + 3010) (by omega) (by omega) ?_
    exact kk c2 (ax_h u K) d0 H locs ls hd0 hC hS (lv_sub hl [2, 3, 4, 5, 6] rfl)
  · skip
    refine lv_aload_n hx hb dL_law_691 rfl (lv_at hl 3 rfl) ?_
    refine lv_iconst (v := nI 0) hx hb dL_law_692 (by decide) ?_
    refine r_lo hC hx hb dL_law_693 ?_
    refine lv_tl (w := LI_ V) (hu h5) ?_
    refine lv_iload hx hb dL_law_694 (lv_at hl 0 rfl) ?_
    refine lv_i2l (v := V.toInt64) hx hb dL_law_696 rfl ?_
    refine lv_lcmp_eq hx hb rfl dL_law_697 ?_
    refine lv_if_eq (tgt := 703) hx hb dL_law_698 (by decide) (fun _ => ?_) (fun h => absurd rfl h)
    refine lv_goto (tgt := 1195) hx hb dL_law_703 (by decide) ?_
    refine W.widen (k := cells + 2) (n := slots + 3010) (by omega) (by omega) ?_
    exact kk c2 (ax_h u K) d0 H locs ls hd0 hC hS (lv_sub hl [2, 3, 4, 5, 6] rfl)
set_option maxHeartbeats 4000000 in
set_option maxRecDepth 100000 in
theorem l_line {p : Program} {l : Launch} {e : Env} {s : State} {m : MethodId} {b : Nat} {below : List Frame} {meth : Method} {c : Code} {Q : State → Prop} {L : Nat} {xs : Nat → Int32} {g : va_G} {ct ad : Nat → Nat} {i : Nat} {cS : St_} {x : Ax_} {d0 : Drawn} {H : Heap} {locs : List Loc} {cells slots : Nat} {ls : Array Slot} (h : LF p l s m b c L xs) (hi : i + 4 ≤ L) (hd0 : s.drawn.sameBut d0 lw_cs) (hC : CX s.heap.size g ct ad cS cS x (s.setDrawn d0) H) (hS : va_S (AA s.heap.size) s.heap H locs) (hcl : cells + 2 ≤ 601024 ∧ slots + 3010 ≤ 7293034) (hl : lv_has ls 9 (lvB ad b i)) (kk : NX p l e s m b below meth c Q g ct ad i cells slots) : W p l e room_1 (s.setDrawn d0) m #[Value.ref b] below meth c H locs cells slots Q (F0 m 706 ls []) := by
  obtain ⟨hx, hb, hml, hown, hts0, hX, hbl, hflags, hL⟩ := h
  have hts := dr_words hts0 d0
  have hX : va_X b L xs (s.setDrawn d0) s.heap := hX
  have hbA : ¬ AA s.heap.size b := Nat.not_le.mpr hbl
  have hI : Iv_ cS := hC.1.2.2.2.1
  have hB : s.heap.size ≤ (s.setDrawn d0).heap.size := Nat.le_refl _
  have hl : lv_has ls 9 [(4, .int (nI i)), (3, .ref (ad 11)), (2, .ref (ad 7)), (1, .ref (ad 0)), (0, .ref b)] := hl
  refine lv_aload_n hx hb dL_law_706 rfl (lv_at hl 3 rfl) ?_
  refine lv_aload_n hx hb dL_law_707 rfl (lv_at hl 4 rfl) ?_
  refine lv_iload hx hb dL_law_708 (lv_at hl 0 rfl) ?_
  refine lv_iconst (v := nI 1) hx hb dL_law_710 (by decide) ?_
  refine lv_iadd hx hb dL_law_711 ?_
  refine lv_tn (nI_add _ _) ?_
  refine va_sld hx hb hX hbl hbA hS (i := nI (i + 1)) (vp_in_nI (show i + 1 < L by omega) (by omega)) dL_law_712 ?_
  refine lv_tn (w := xs (i + 1)) (congrArg xs (nI_clamp (by omega))) ?_
  refine lv_aload_n hx hb dL_law_713 rfl (lv_at hl 4 rfl) ?_
  refine lv_iload hx hb dL_law_714 (lv_at hl 0 rfl) ?_
  refine lv_iconst (v := nI 2) hx hb dL_law_716 (by decide) ?_
  refine lv_iadd hx hb dL_law_717 ?_
  refine lv_tn (nI_add _ _) ?_
  refine va_sld hx hb hX hbl hbA hS (i := nI (i + 2)) (vp_in_nI (show i + 2 < L by omega) (by omega)) dL_law_718 ?_
  refine lv_tn (w := xs (i + 2)) (congrArg xs (nI_clamp (by omega))) ?_
  refine lv_aload_n hx hb dL_law_719 rfl (lv_at hl 1 rfl) ?_
  obtain ⟨K, V, c2, hW, hM⟩ := op_line l s.heap.size g ct ad cS x hflags hI (xs (i + 1)) (xs (i + 2))
  refine k_wS (As := [.ref (ad 0), .int (xs (i + 1)), .int (xs (i + 2)), .ref (ad 11)]) (rest := []) hW hC hB hS ⟨hx, hb, hml, hown, hts⟩ (vx_cwSW 4 hts gL_law_L_line rfl rfl rfl (by decide +kernel) ⟨Nat.le_of_ble_eq_true rfl, Nat.le_of_ble_eq_true rfl⟩) rfl hl.1 rfl (Nat.le_of_ble_eq_true rfl) dL_law_720 ⟨(by show cells + 1 ≤ 601024; omega), (by show slots + 6 ≤ 7293034; omega)⟩ (fun u H locs hu hC hS => ?_)
  refine lv_istore (lv' := [(5, .int K), (4, .int (nI i)), (3, .ref (ad 11)), (2, .ref (ad 7)), (1, .ref (ad 0)), (0, .ref b)]) hx hb dL_law_723 hl (by decide) rfl (fun ls hl => ?_)
  refine lv_aload_n hx hb dL_law_725 rfl (lv_at hl 3 rfl) ?_
  refine lv_aload_n hx hb dL_law_726 rfl (lv_at hl 5 rfl) ?_
  refine lv_iload hx hb dL_law_727 (lv_at hl 1 rfl) ?_
  refine lv_iconst (v := nI 1) hx hb dL_law_729 (by decide) ?_
  refine lv_iadd hx hb dL_law_730 ?_
  refine lv_tn (nI_add _ _) ?_
  refine va_sld hx hb hX hbl hbA hS (i := nI (i + 1)) (vp_in_nI (show i + 1 < L by omega) (by omega)) dL_law_731 ?_
  refine lv_tn (w := xs (i + 1)) (congrArg xs (nI_clamp (by omega))) ?_
  refine lv_aload_n hx hb dL_law_732 rfl (lv_at hl 5 rfl) ?_
  refine lv_iload hx hb dL_law_733 (lv_at hl 1 rfl) ?_
  refine lv_iconst (v := nI 2) hx hb dL_law_735 (by decide) ?_
  refine lv_iadd hx hb dL_law_736 ?_
  refine lv_tn (nI_add _ _) ?_
  refine va_sld hx hb hX hbl hbA hS (i := nI (i + 2)) (vp_in_nI (show i + 2 < L by omega) (by omega)) dL_law_737 ?_
  refine lv_tn (w := xs (i + 2)) (congrArg xs (nI_clamp (by omega))) ?_
  refine k_wV (As := [.int (xs (i + 1)), .int (xs (i + 2))]) (rest := []) (hM u) hC hB hS ⟨hx, hb, hml, hown, hts⟩ (cwV 2 hts gL_law_X1_line rfl rfl rfl (by decide +kernel) ⟨Nat.le_of_ble_eq_true rfl, Nat.le_of_ble_eq_true rfl⟩) (rc1 hC) rfl hl.1 rfl (Nat.le_of_ble_eq_true rfl) dL_law_738 ⟨(by show cells + 1 + 0 ≤ 601024; omega), (by show slots + 6 + 0 ≤ 7293034; omega)⟩ (fun u2 H locs hu2 hC hS => ?_)
  subst hu2
  refine lv_istore (lv' := [(6, .int V), (5, .int K), (4, .int (nI i)), (3, .ref (ad 11)), (2, .ref (ad 7)), (1, .ref (ad 0)), (0, .ref b)]) hx hb dL_law_741 hl (by decide) rfl (fun ls hl => ?_)
  refine lv_aload_n hx hb dL_law_743 rfl (lv_at hl 4 rfl) ?_
  refine k_rV (As := []) (rest := []) (c_X1_thrown l s.heap.size g ct ad c2 c2 (ax_h u K)) hC ⟨hx, hb, hml, hown, hts⟩ (cwV 0 hts gL_law_X1_thrown rfl rfl rfl (by decide +kernel) ⟨Nat.le_of_ble_eq_true rfl, Nat.le_of_ble_eq_true rfl⟩) (rc1 hC) rfl hl.1 rfl (Nat.le_of_ble_eq_true rfl) dL_law_744 ⟨(by show cells + 1 + 0 ≤ 601024; omega), (by show slots + 6 + 0 ≤ 7293034; omega)⟩ ?_
  refine lv_iload hx hb dL_law_747 (lv_at hl 1 rfl) ?_
  refine lv_icmp_eq (tgt := 754) hx hb dL_law_749 (by decide) (fun _ => ?_) (fun h => absurd rfl h)
  refine lv_iload hx hb dL_law_754 (lv_at hl 1 rfl) ?_
  refine lv_if_ne (tgt := 771) hx hb dL_law_756 (by decide) (fun h5 => ?_) (fun h5 => ?_)
  · skip
    refine lv_goto (tgt := 1195) hx hb dL_law_771 (by decide) ?_
    refine W.widen (k := cells + 2) (n := slots + 3010) (by omega) (by omega) ?_
    exact kk c2 (ax_h u K) d0 H locs ls hd0 hC hS (lv_sub hl [2, 3, 4, 5, 6] rfl)
  · skip
    refine lv_aload_n hx hb dL_law_759 rfl (lv_at hl 3 rfl) ?_
    refine lv_iconst (v := nI 0) hx hb dL_law_760 (by decide) ?_
    refine r_lo hC hx hb dL_law_761 ?_
    refine lv_tl (w := LI_ V) (hu h5) ?_
    refine lv_iload hx hb dL_law_762 (lv_at hl 0 rfl) ?_
    refine lv_i2l (v := V.toInt64) hx hb dL_law_764 rfl ?_
    refine lv_lcmp_eq hx hb rfl dL_law_765 ?_
    refine lv_if_eq (tgt := 771) hx hb dL_law_766 (by decide) (fun _ => ?_) (fun h => absurd rfl h)
    refine lv_goto (tgt := 1195) hx hb dL_law_771 (by decide) ?_
    refine W.widen (k := cells + 2) (n := slots + 3010) (by omega) (by omega) ?_
    exact kk c2 (ax_h u K) d0 H locs ls hd0 hC hS (lv_sub hl [2, 3, 4, 5, 6] rfl)
set_option maxHeartbeats 4000000 in
set_option maxRecDepth 100000 in
theorem l_told {p : Program} {l : Launch} {e : Env} {s : State} {m : MethodId} {b : Nat} {below : List Frame} {meth : Method} {c : Code} {Q : State → Prop} {L : Nat} {xs : Nat → Int32} {g : va_G} {ct ad : Nat → Nat} {i : Nat} {cS : St_} {x : Ax_} {d0 : Drawn} {H : Heap} {locs : List Loc} {cells slots : Nat} {ls : Array Slot} (h : LF p l s m b c L xs) (hi : i + 4 ≤ L) (hd0 : s.drawn.sameBut d0 lw_cs) (hC : CX s.heap.size g ct ad cS cS x (s.setDrawn d0) H) (hS : va_S (AA s.heap.size) s.heap H locs) (hcl : cells + 2 ≤ 601024 ∧ slots + 3010 ≤ 7293034) (hl : lv_has ls 9 (lvB ad b i)) (kk : NX p l e s m b below meth c Q g ct ad i cells slots) : W p l e room_1 (s.setDrawn d0) m #[Value.ref b] below meth c H locs cells slots Q (F0 m 774 ls []) := by
  obtain ⟨hx, hb, hml, hown, hts0, hX, hbl, hflags, hL⟩ := h
  have hts := dr_words hts0 d0
  have hX : va_X b L xs (s.setDrawn d0) s.heap := hX
  have hbA : ¬ AA s.heap.size b := Nat.not_le.mpr hbl
  have hI : Iv_ cS := hC.1.2.2.2.1
  have hB : s.heap.size ≤ (s.setDrawn d0).heap.size := Nat.le_refl _
  have hl : lv_has ls 9 [(4, .int (nI i)), (3, .ref (ad 11)), (2, .ref (ad 7)), (1, .ref (ad 0)), (0, .ref b)] := hl
  refine lv_aload_n hx hb dL_law_774 rfl (lv_at hl 3 rfl) ?_
  refine lv_aload_n hx hb dL_law_775 rfl (lv_at hl 4 rfl) ?_
  refine lv_iload hx hb dL_law_776 (lv_at hl 0 rfl) ?_
  refine lv_iconst (v := nI 1) hx hb dL_law_778 (by decide) ?_
  refine lv_iadd hx hb dL_law_779 ?_
  refine lv_tn (nI_add _ _) ?_
  refine va_sld hx hb hX hbl hbA hS (i := nI (i + 1)) (vp_in_nI (show i + 1 < L by omega) (by omega)) dL_law_780 ?_
  refine lv_tn (w := xs (i + 1)) (congrArg xs (nI_clamp (by omega))) ?_
  refine lv_aload_n hx hb dL_law_781 rfl (lv_at hl 1 rfl) ?_
  obtain ⟨K, V, c2, hW, hM⟩ := op_told l s.heap.size g ct ad cS x hflags hI (xs (i + 1))
  refine k_wS (As := [.ref (ad 0), .int (xs (i + 1)), .ref (ad 11)]) (rest := []) hW hC hB hS ⟨hx, hb, hml, hown, hts⟩ (vx_cwSW 3 hts gL_law_L_told rfl rfl rfl (by decide +kernel) ⟨Nat.le_of_ble_eq_true rfl, Nat.le_of_ble_eq_true rfl⟩) rfl hl.1 rfl (Nat.le_of_ble_eq_true rfl) dL_law_782 ⟨(by show cells + 1 ≤ 601024; omega), (by show slots + 6 ≤ 7293034; omega)⟩ (fun u H locs hu hC hS => ?_)
  refine lv_istore (lv' := [(5, .int K), (4, .int (nI i)), (3, .ref (ad 11)), (2, .ref (ad 7)), (1, .ref (ad 0)), (0, .ref b)]) hx hb dL_law_785 hl (by decide) rfl (fun ls hl => ?_)
  refine lv_aload_n hx hb dL_law_787 rfl (lv_at hl 3 rfl) ?_
  refine lv_aload_n hx hb dL_law_788 rfl (lv_at hl 5 rfl) ?_
  refine lv_iload hx hb dL_law_789 (lv_at hl 1 rfl) ?_
  refine lv_iconst (v := nI 1) hx hb dL_law_791 (by decide) ?_
  refine lv_iadd hx hb dL_law_792 ?_
  refine lv_tn (nI_add _ _) ?_
  refine va_sld hx hb hX hbl hbA hS (i := nI (i + 1)) (vp_in_nI (show i + 1 < L by omega) (by omega)) dL_law_793 ?_
  refine lv_tn (w := xs (i + 1)) (congrArg xs (nI_clamp (by omega))) ?_
  refine k_wV (As := [.int (xs (i + 1))]) (rest := []) (hM u) hC hB hS ⟨hx, hb, hml, hown, hts⟩ (cwV 1 hts gL_law_X1_told rfl rfl rfl (by decide +kernel) ⟨Nat.le_of_ble_eq_true rfl, Nat.le_of_ble_eq_true rfl⟩) (rc1 hC) rfl hl.1 rfl (Nat.le_of_ble_eq_true rfl) dL_law_794 ⟨(by show cells + 1 + 0 ≤ 601024; omega), (by show slots + 6 + 0 ≤ 7293034; omega)⟩ (fun u2 H locs hu2 hC hS => ?_)
  subst hu2
  refine lv_istore (lv' := [(6, .int V), (5, .int K), (4, .int (nI i)), (3, .ref (ad 11)), (2, .ref (ad 7)), (1, .ref (ad 0)), (0, .ref b)]) hx hb dL_law_797 hl (by decide) rfl (fun ls hl => ?_)
  refine lv_aload_n hx hb dL_law_799 rfl (lv_at hl 4 rfl) ?_
  refine k_rV (As := []) (rest := []) (c_X1_thrown l s.heap.size g ct ad c2 c2 (ax_h u K)) hC ⟨hx, hb, hml, hown, hts⟩ (cwV 0 hts gL_law_X1_thrown rfl rfl rfl (by decide +kernel) ⟨Nat.le_of_ble_eq_true rfl, Nat.le_of_ble_eq_true rfl⟩) (rc1 hC) rfl hl.1 rfl (Nat.le_of_ble_eq_true rfl) dL_law_800 ⟨(by show cells + 1 + 0 ≤ 601024; omega), (by show slots + 6 + 0 ≤ 7293034; omega)⟩ ?_
  refine lv_iload hx hb dL_law_803 (lv_at hl 1 rfl) ?_
  refine lv_icmp_eq (tgt := 810) hx hb dL_law_805 (by decide) (fun _ => ?_) (fun h => absurd rfl h)
  refine lv_iload hx hb dL_law_810 (lv_at hl 1 rfl) ?_
  refine lv_if_ne (tgt := 827) hx hb dL_law_812 (by decide) (fun h5 => ?_) (fun h5 => ?_)
  · skip
    refine lv_goto (tgt := 1195) hx hb dL_law_827 (by decide) ?_
    refine W.widen (k := cells + 2) (n := slots + 3010) (by omega) (by omega) ?_
    exact kk c2 (ax_h u K) d0 H locs ls hd0 hC hS (lv_sub hl [2, 3, 4, 5, 6] rfl)
  · skip
    refine lv_aload_n hx hb dL_law_815 rfl (lv_at hl 3 rfl) ?_
    refine lv_iconst (v := nI 0) hx hb dL_law_816 (by decide) ?_
    refine r_lo hC hx hb dL_law_817 ?_
    refine lv_tl (w := LI_ V) (hu h5) ?_
    refine lv_iload hx hb dL_law_818 (lv_at hl 0 rfl) ?_
    refine lv_i2l (v := V.toInt64) hx hb dL_law_820 rfl ?_
    refine lv_lcmp_eq hx hb rfl dL_law_821 ?_
    refine lv_if_eq (tgt := 827) hx hb dL_law_822 (by decide) (fun _ => ?_) (fun h => absurd rfl h)
    refine lv_goto (tgt := 1195) hx hb dL_law_827 (by decide) ?_
    refine W.widen (k := cells + 2) (n := slots + 3010) (by omega) (by omega) ?_
    exact kk c2 (ax_h u K) d0 H locs ls hd0 hC hS (lv_sub hl [2, 3, 4, 5, 6] rfl)
set_option maxHeartbeats 4000000 in
set_option maxRecDepth 100000 in
theorem l_hidden {p : Program} {l : Launch} {e : Env} {s : State} {m : MethodId} {b : Nat} {below : List Frame} {meth : Method} {c : Code} {Q : State → Prop} {L : Nat} {xs : Nat → Int32} {g : va_G} {ct ad : Nat → Nat} {i : Nat} {cS : St_} {x : Ax_} {d0 : Drawn} {H : Heap} {locs : List Loc} {cells slots : Nat} {ls : Array Slot} (h : LF p l s m b c L xs) (hi : i + 4 ≤ L) (hd0 : s.drawn.sameBut d0 lw_cs) (hC : CX s.heap.size g ct ad cS cS x (s.setDrawn d0) H) (hS : va_S (AA s.heap.size) s.heap H locs) (hcl : cells + 2 ≤ 601024 ∧ slots + 3010 ≤ 7293034) (hl : lv_has ls 9 (lvB ad b i)) (kk : NX p l e s m b below meth c Q g ct ad i cells slots) : W p l e room_1 (s.setDrawn d0) m #[Value.ref b] below meth c H locs cells slots Q (F0 m 830 ls []) := by
  obtain ⟨hx, hb, hml, hown, hts0, hX, hbl, hflags, hL⟩ := h
  have hts := dr_words hts0 d0
  have hX : va_X b L xs (s.setDrawn d0) s.heap := hX
  have hbA : ¬ AA s.heap.size b := Nat.not_le.mpr hbl
  have hI : Iv_ cS := hC.1.2.2.2.1
  have hB : s.heap.size ≤ (s.setDrawn d0).heap.size := Nat.le_refl _
  have hl : lv_has ls 9 [(4, .int (nI i)), (3, .ref (ad 11)), (2, .ref (ad 7)), (1, .ref (ad 0)), (0, .ref b)] := hl
  refine lv_aload_n hx hb dL_law_830 rfl (lv_at hl 3 rfl) ?_
  refine lv_aload_n hx hb dL_law_831 rfl (lv_at hl 4 rfl) ?_
  refine lv_iload hx hb dL_law_832 (lv_at hl 0 rfl) ?_
  refine lv_iconst (v := nI 1) hx hb dL_law_834 (by decide) ?_
  refine lv_iadd hx hb dL_law_835 ?_
  refine lv_tn (nI_add _ _) ?_
  refine va_sld hx hb hX hbl hbA hS (i := nI (i + 1)) (vp_in_nI (show i + 1 < L by omega) (by omega)) dL_law_836 ?_
  refine lv_tn (w := xs (i + 1)) (congrArg xs (nI_clamp (by omega))) ?_
  refine lv_aload_n hx hb dL_law_837 rfl (lv_at hl 4 rfl) ?_
  refine lv_iload hx hb dL_law_838 (lv_at hl 0 rfl) ?_
  refine lv_iconst (v := nI 2) hx hb dL_law_840 (by decide) ?_
  refine lv_iadd hx hb dL_law_841 ?_
  refine lv_tn (nI_add _ _) ?_
  refine va_sld hx hb hX hbl hbA hS (i := nI (i + 2)) (vp_in_nI (show i + 2 < L by omega) (by omega)) dL_law_842 ?_
  refine lv_tn (w := xs (i + 2)) (congrArg xs (nI_clamp (by omega))) ?_
  refine lv_aload_n hx hb dL_law_843 rfl (lv_at hl 1 rfl) ?_
  obtain ⟨K, V, c2, hW, hM⟩ := op_hidden l s.heap.size g ct ad cS x hflags hI (xs (i + 1)) (xs (i + 2))
  refine k_wS (As := [.ref (ad 0), .int (xs (i + 1)), .int (xs (i + 2)), .ref (ad 11)]) (rest := []) hW hC hB hS ⟨hx, hb, hml, hown, hts⟩ (vx_cwSW 4 hts gL_law_L_hidden rfl rfl rfl (by decide +kernel) ⟨Nat.le_of_ble_eq_true rfl, Nat.le_of_ble_eq_true rfl⟩) rfl hl.1 rfl (Nat.le_of_ble_eq_true rfl) dL_law_844 ⟨(by show cells + 1 ≤ 601024; omega), (by show slots + 6 ≤ 7293034; omega)⟩ (fun u H locs hu hC hS => ?_)
  refine lv_istore (lv' := [(5, .int K), (4, .int (nI i)), (3, .ref (ad 11)), (2, .ref (ad 7)), (1, .ref (ad 0)), (0, .ref b)]) hx hb dL_law_847 hl (by decide) rfl (fun ls hl => ?_)
  refine lv_aload_n hx hb dL_law_849 rfl (lv_at hl 3 rfl) ?_
  refine lv_aload_n hx hb dL_law_850 rfl (lv_at hl 5 rfl) ?_
  refine lv_iload hx hb dL_law_851 (lv_at hl 1 rfl) ?_
  refine lv_iconst (v := nI 1) hx hb dL_law_853 (by decide) ?_
  refine lv_iadd hx hb dL_law_854 ?_
  refine lv_tn (nI_add _ _) ?_
  refine va_sld hx hb hX hbl hbA hS (i := nI (i + 1)) (vp_in_nI (show i + 1 < L by omega) (by omega)) dL_law_855 ?_
  refine lv_tn (w := xs (i + 1)) (congrArg xs (nI_clamp (by omega))) ?_
  refine lv_aload_n hx hb dL_law_856 rfl (lv_at hl 5 rfl) ?_
  refine lv_iload hx hb dL_law_857 (lv_at hl 1 rfl) ?_
  refine lv_iconst (v := nI 2) hx hb dL_law_859 (by decide) ?_
  refine lv_iadd hx hb dL_law_860 ?_
  refine lv_tn (nI_add _ _) ?_
  refine va_sld hx hb hX hbl hbA hS (i := nI (i + 2)) (vp_in_nI (show i + 2 < L by omega) (by omega)) dL_law_861 ?_
  refine lv_tn (w := xs (i + 2)) (congrArg xs (nI_clamp (by omega))) ?_
  refine k_wV (As := [.int (xs (i + 1)), .int (xs (i + 2))]) (rest := []) (hM u) hC hB hS ⟨hx, hb, hml, hown, hts⟩ (cwV 2 hts gL_law_X1_hidden rfl rfl rfl (by decide +kernel) ⟨Nat.le_of_ble_eq_true rfl, Nat.le_of_ble_eq_true rfl⟩) (rc1 hC) rfl hl.1 rfl (Nat.le_of_ble_eq_true rfl) dL_law_862 ⟨(by show cells + 1 + 0 ≤ 601024; omega), (by show slots + 6 + 0 ≤ 7293034; omega)⟩ (fun u2 H locs hu2 hC hS => ?_)
  subst hu2
  refine lv_istore (lv' := [(6, .int V), (5, .int K), (4, .int (nI i)), (3, .ref (ad 11)), (2, .ref (ad 7)), (1, .ref (ad 0)), (0, .ref b)]) hx hb dL_law_865 hl (by decide) rfl (fun ls hl => ?_)
  refine lv_aload_n hx hb dL_law_867 rfl (lv_at hl 4 rfl) ?_
  refine k_rV (As := []) (rest := []) (c_X1_thrown l s.heap.size g ct ad c2 c2 (ax_h u K)) hC ⟨hx, hb, hml, hown, hts⟩ (cwV 0 hts gL_law_X1_thrown rfl rfl rfl (by decide +kernel) ⟨Nat.le_of_ble_eq_true rfl, Nat.le_of_ble_eq_true rfl⟩) (rc1 hC) rfl hl.1 rfl (Nat.le_of_ble_eq_true rfl) dL_law_868 ⟨(by show cells + 1 + 0 ≤ 601024; omega), (by show slots + 6 + 0 ≤ 7293034; omega)⟩ ?_
  refine lv_iload hx hb dL_law_871 (lv_at hl 1 rfl) ?_
  refine lv_icmp_eq (tgt := 878) hx hb dL_law_873 (by decide) (fun _ => ?_) (fun h => absurd rfl h)
  refine lv_iload hx hb dL_law_878 (lv_at hl 1 rfl) ?_
  refine lv_if_ne (tgt := 895) hx hb dL_law_880 (by decide) (fun h5 => ?_) (fun h5 => ?_)
  · skip
    refine lv_goto (tgt := 1195) hx hb dL_law_895 (by decide) ?_
    refine W.widen (k := cells + 2) (n := slots + 3010) (by omega) (by omega) ?_
    exact kk c2 (ax_h u K) d0 H locs ls hd0 hC hS (lv_sub hl [2, 3, 4, 5, 6] rfl)
  · skip
    refine lv_aload_n hx hb dL_law_883 rfl (lv_at hl 3 rfl) ?_
    refine lv_iconst (v := nI 0) hx hb dL_law_884 (by decide) ?_
    refine r_lo hC hx hb dL_law_885 ?_
    refine lv_tl (w := LI_ V) (hu h5) ?_
    refine lv_iload hx hb dL_law_886 (lv_at hl 0 rfl) ?_
    refine lv_i2l (v := V.toInt64) hx hb dL_law_888 rfl ?_
    refine lv_lcmp_eq hx hb rfl dL_law_889 ?_
    refine lv_if_eq (tgt := 895) hx hb dL_law_890 (by decide) (fun _ => ?_) (fun h => absurd rfl h)
    refine lv_goto (tgt := 1195) hx hb dL_law_895 (by decide) ?_
    refine W.widen (k := cells + 2) (n := slots + 3010) (by omega) (by omega) ?_
    exact kk c2 (ax_h u K) d0 H locs ls hd0 hC hS (lv_sub hl [2, 3, 4, 5, 6] rfl)
set_option maxHeartbeats 4000000 in
set_option maxRecDepth 100000 in
theorem l_hides {p : Program} {l : Launch} {e : Env} {s : State} {m : MethodId} {b : Nat} {below : List Frame} {meth : Method} {c : Code} {Q : State → Prop} {L : Nat} {xs : Nat → Int32} {g : va_G} {ct ad : Nat → Nat} {i : Nat} {cS : St_} {x : Ax_} {d0 : Drawn} {H : Heap} {locs : List Loc} {cells slots : Nat} {ls : Array Slot} (h : LF p l s m b c L xs) (hi : i + 4 ≤ L) (hd0 : s.drawn.sameBut d0 lw_cs) (hC : CX s.heap.size g ct ad cS cS x (s.setDrawn d0) H) (hS : va_S (AA s.heap.size) s.heap H locs) (hcl : cells + 2 ≤ 601024 ∧ slots + 3010 ≤ 7293034) (hl : lv_has ls 9 (lvB ad b i)) (kk : NX p l e s m b below meth c Q g ct ad i cells slots) : W p l e room_1 (s.setDrawn d0) m #[Value.ref b] below meth c H locs cells slots Q (F0 m 898 ls []) := by
  obtain ⟨hx, hb, hml, hown, hts0, hX, hbl, hflags, hL⟩ := h
  have hts := dr_words hts0 d0
  have hX : va_X b L xs (s.setDrawn d0) s.heap := hX
  have hbA : ¬ AA s.heap.size b := Nat.not_le.mpr hbl
  have hI : Iv_ cS := hC.1.2.2.2.1
  have hB : s.heap.size ≤ (s.setDrawn d0).heap.size := Nat.le_refl _
  have hl : lv_has ls 9 [(4, .int (nI i)), (3, .ref (ad 11)), (2, .ref (ad 7)), (1, .ref (ad 0)), (0, .ref b)] := hl
  refine lv_aload_n hx hb dL_law_898 rfl (lv_at hl 3 rfl) ?_
  refine lv_aload_n hx hb dL_law_899 rfl (lv_at hl 4 rfl) ?_
  refine lv_iload hx hb dL_law_900 (lv_at hl 0 rfl) ?_
  refine lv_iconst (v := nI 1) hx hb dL_law_902 (by decide) ?_
  refine lv_iadd hx hb dL_law_903 ?_
  refine lv_tn (nI_add _ _) ?_
  refine va_sld hx hb hX hbl hbA hS (i := nI (i + 1)) (vp_in_nI (show i + 1 < L by omega) (by omega)) dL_law_904 ?_
  refine lv_tn (w := xs (i + 1)) (congrArg xs (nI_clamp (by omega))) ?_
  refine k_rV (As := [.int (xs (i + 1))]) (rest := []) (c_X0_hides l s.heap.size g ct ad cS cS x (xs (i + 1))) hC ⟨hx, hb, hml, hown, hts⟩ (cwV 1 hts gL_law_X0_hides rfl rfl rfl (by decide +kernel) ⟨Nat.le_of_ble_eq_true rfl, Nat.le_of_ble_eq_true rfl⟩) (rc0 hC) rfl hl.1 rfl (Nat.le_of_ble_eq_true rfl) dL_law_905 ⟨(by show cells ≤ 601024; omega), (by show slots ≤ 7293034; omega)⟩ ?_
  refine lv_aload_n hx hb dL_law_908 rfl (lv_at hl 2 rfl) ?_
  refine lv_aload_n hx hb dL_law_909 rfl (lv_at hl 4 rfl) ?_
  refine lv_iload hx hb dL_law_910 (lv_at hl 0 rfl) ?_
  refine lv_iconst (v := nI 1) hx hb dL_law_912 (by decide) ?_
  refine lv_iadd hx hb dL_law_913 ?_
  refine lv_tn (nI_add _ _) ?_
  refine va_sld hx hb hX hbl hbA hS (i := nI (i + 1)) (vp_in_nI (show i + 1 < L by omega) (by omega)) dL_law_914 ?_
  refine lv_tn (w := xs (i + 1)) (congrArg xs (nI_clamp (by omega))) ?_
  refine k_wV (As := [.int (xs (i + 1))]) (rest := [.int (nI (hs_ cS (xs (i + 1))))]) (c_X1_hides l s.heap.size g ct ad cS cS x (xs (i + 1))) hC hB hS ⟨hx, hb, hml, hown, hts⟩ (cwV 1 hts gL_law_X1_hides rfl rfl rfl (by decide +kernel) ⟨Nat.le_of_ble_eq_true rfl, Nat.le_of_ble_eq_true rfl⟩) (rc1 hC) rfl hl.1 rfl (Nat.le_of_ble_eq_true rfl) dL_law_915 ⟨(by show cells + 0 ≤ 601024; omega), (by show slots + 0 ≤ 7293034; omega)⟩ (fun u2 H locs hu2 hC hS => ?_)
  refine lv_icmp_eq (tgt := 1195) hx hb dL_law_918 (by decide) (fun _ => ?_) (fun h => absurd rfl h)
  refine W.widen (k := cells + 2) (n := slots + 3010) (by omega) (by omega) ?_
  exact kk cS u2 d0 H locs ls hd0 hC hS (lv_sub hl [0, 1, 2, 3, 4] rfl)
set_option maxHeartbeats 4000000 in
set_option maxRecDepth 100000 in
theorem l_lacks {p : Program} {l : Launch} {e : Env} {s : State} {m : MethodId} {b : Nat} {below : List Frame} {meth : Method} {c : Code} {Q : State → Prop} {L : Nat} {xs : Nat → Int32} {g : va_G} {ct ad : Nat → Nat} {i : Nat} {cS : St_} {x : Ax_} {d0 : Drawn} {H : Heap} {locs : List Loc} {cells slots : Nat} {ls : Array Slot} (h : LF p l s m b c L xs) (hi : i + 4 ≤ L) (hd0 : s.drawn.sameBut d0 lw_cs) (hC : CX s.heap.size g ct ad cS cS x (s.setDrawn d0) H) (hS : va_S (AA s.heap.size) s.heap H locs) (hcl : cells + 2 ≤ 601024 ∧ slots + 3010 ≤ 7293034) (hl : lv_has ls 9 (lvB ad b i)) (kk : NX p l e s m b below meth c Q g ct ad i cells slots) : W p l e room_1 (s.setDrawn d0) m #[Value.ref b] below meth c H locs cells slots Q (F0 m 923 ls []) := by
  obtain ⟨hx, hb, hml, hown, hts0, hX, hbl, hflags, hL⟩ := h
  have hts := dr_words hts0 d0
  have hX : va_X b L xs (s.setDrawn d0) s.heap := hX
  have hbA : ¬ AA s.heap.size b := Nat.not_le.mpr hbl
  have hI : Iv_ cS := hC.1.2.2.2.1
  have hB : s.heap.size ≤ (s.setDrawn d0).heap.size := Nat.le_refl _
  have hl : lv_has ls 9 [(4, .int (nI i)), (3, .ref (ad 11)), (2, .ref (ad 7)), (1, .ref (ad 0)), (0, .ref b)] := hl
  refine lv_aload_n hx hb dL_law_923 rfl (lv_at hl 3 rfl) ?_
  refine lv_aload_n hx hb dL_law_924 rfl (lv_at hl 4 rfl) ?_
  refine lv_iload hx hb dL_law_925 (lv_at hl 0 rfl) ?_
  refine lv_iconst (v := nI 1) hx hb dL_law_927 (by decide) ?_
  refine lv_iadd hx hb dL_law_928 ?_
  refine lv_tn (nI_add _ _) ?_
  refine va_sld hx hb hX hbl hbA hS (i := nI (i + 1)) (vp_in_nI (show i + 1 < L by omega) (by omega)) dL_law_929 ?_
  refine lv_tn (w := xs (i + 1)) (congrArg xs (nI_clamp (by omega))) ?_
  refine lv_aload_n hx hb dL_law_930 rfl (lv_at hl 4 rfl) ?_
  refine lv_iload hx hb dL_law_931 (lv_at hl 0 rfl) ?_
  refine lv_iconst (v := nI 2) hx hb dL_law_933 (by decide) ?_
  refine lv_iadd hx hb dL_law_934 ?_
  refine lv_tn (nI_add _ _) ?_
  refine va_sld hx hb hX hbl hbA hS (i := nI (i + 2)) (vp_in_nI (show i + 2 < L by omega) (by omega)) dL_law_935 ?_
  refine lv_tn (w := xs (i + 2)) (congrArg xs (nI_clamp (by omega))) ?_
  refine lv_aload_n hx hb dL_law_936 rfl (lv_at hl 1 rfl) ?_
  obtain ⟨K, V, c2, hW, hM⟩ := op_lacks l s.heap.size g ct ad cS x hflags hI (xs (i + 1)) (xs (i + 2))
  refine k_wS (As := [.ref (ad 0), .int (xs (i + 1)), .int (xs (i + 2)), .ref (ad 11)]) (rest := []) hW hC hB hS ⟨hx, hb, hml, hown, hts⟩ (vx_cwSW 4 hts gL_law_L_lacks rfl rfl rfl (by decide +kernel) ⟨Nat.le_of_ble_eq_true rfl, Nat.le_of_ble_eq_true rfl⟩) rfl hl.1 rfl (Nat.le_of_ble_eq_true rfl) dL_law_937 ⟨(by show cells + 1 ≤ 601024; omega), (by show slots + 6 ≤ 7293034; omega)⟩ (fun u H locs hu hC hS => ?_)
  refine lv_istore (lv' := [(5, .int K), (4, .int (nI i)), (3, .ref (ad 11)), (2, .ref (ad 7)), (1, .ref (ad 0)), (0, .ref b)]) hx hb dL_law_940 hl (by decide) rfl (fun ls hl => ?_)
  refine lv_aload_n hx hb dL_law_942 rfl (lv_at hl 3 rfl) ?_
  refine lv_aload_n hx hb dL_law_943 rfl (lv_at hl 5 rfl) ?_
  refine lv_iload hx hb dL_law_944 (lv_at hl 1 rfl) ?_
  refine lv_iconst (v := nI 1) hx hb dL_law_946 (by decide) ?_
  refine lv_iadd hx hb dL_law_947 ?_
  refine lv_tn (nI_add _ _) ?_
  refine va_sld hx hb hX hbl hbA hS (i := nI (i + 1)) (vp_in_nI (show i + 1 < L by omega) (by omega)) dL_law_948 ?_
  refine lv_tn (w := xs (i + 1)) (congrArg xs (nI_clamp (by omega))) ?_
  refine lv_aload_n hx hb dL_law_949 rfl (lv_at hl 5 rfl) ?_
  refine lv_iload hx hb dL_law_950 (lv_at hl 1 rfl) ?_
  refine lv_iconst (v := nI 2) hx hb dL_law_952 (by decide) ?_
  refine lv_iadd hx hb dL_law_953 ?_
  refine lv_tn (nI_add _ _) ?_
  refine va_sld hx hb hX hbl hbA hS (i := nI (i + 2)) (vp_in_nI (show i + 2 < L by omega) (by omega)) dL_law_954 ?_
  refine lv_tn (w := xs (i + 2)) (congrArg xs (nI_clamp (by omega))) ?_
  refine k_wV (As := [.int (xs (i + 1)), .int (xs (i + 2))]) (rest := []) (hM u) hC hB hS ⟨hx, hb, hml, hown, hts⟩ (cwV 2 hts gL_law_X1_lacks rfl rfl rfl (by decide +kernel) ⟨Nat.le_of_ble_eq_true rfl, Nat.le_of_ble_eq_true rfl⟩) (rc1 hC) rfl hl.1 rfl (Nat.le_of_ble_eq_true rfl) dL_law_955 ⟨(by show cells + 1 + 0 ≤ 601024; omega), (by show slots + 6 + 0 ≤ 7293034; omega)⟩ (fun u2 H locs hu2 hC hS => ?_)
  subst hu2
  refine lv_istore (lv' := [(6, .int V), (5, .int K), (4, .int (nI i)), (3, .ref (ad 11)), (2, .ref (ad 7)), (1, .ref (ad 0)), (0, .ref b)]) hx hb dL_law_958 hl (by decide) rfl (fun ls hl => ?_)
  refine lv_aload_n hx hb dL_law_960 rfl (lv_at hl 4 rfl) ?_
  refine k_rV (As := []) (rest := []) (c_X1_thrown l s.heap.size g ct ad c2 c2 (ax_h u K)) hC ⟨hx, hb, hml, hown, hts⟩ (cwV 0 hts gL_law_X1_thrown rfl rfl rfl (by decide +kernel) ⟨Nat.le_of_ble_eq_true rfl, Nat.le_of_ble_eq_true rfl⟩) (rc1 hC) rfl hl.1 rfl (Nat.le_of_ble_eq_true rfl) dL_law_961 ⟨(by show cells + 1 + 0 ≤ 601024; omega), (by show slots + 6 + 0 ≤ 7293034; omega)⟩ ?_
  refine lv_iload hx hb dL_law_964 (lv_at hl 1 rfl) ?_
  refine lv_icmp_eq (tgt := 971) hx hb dL_law_966 (by decide) (fun _ => ?_) (fun h => absurd rfl h)
  refine lv_iload hx hb dL_law_971 (lv_at hl 1 rfl) ?_
  refine lv_if_ne (tgt := 988) hx hb dL_law_973 (by decide) (fun h5 => ?_) (fun h5 => ?_)
  · skip
    refine lv_goto (tgt := 1195) hx hb dL_law_988 (by decide) ?_
    refine W.widen (k := cells + 2) (n := slots + 3010) (by omega) (by omega) ?_
    exact kk c2 (ax_h u K) d0 H locs ls hd0 hC hS (lv_sub hl [2, 3, 4, 5, 6] rfl)
  · skip
    refine lv_aload_n hx hb dL_law_976 rfl (lv_at hl 3 rfl) ?_
    refine lv_iconst (v := nI 0) hx hb dL_law_977 (by decide) ?_
    refine r_lo hC hx hb dL_law_978 ?_
    refine lv_tl (w := LI_ V) (hu h5) ?_
    refine lv_iload hx hb dL_law_979 (lv_at hl 0 rfl) ?_
    refine lv_i2l (v := V.toInt64) hx hb dL_law_981 rfl ?_
    refine lv_lcmp_eq hx hb rfl dL_law_982 ?_
    refine lv_if_eq (tgt := 988) hx hb dL_law_983 (by decide) (fun _ => ?_) (fun h => absurd rfl h)
    refine lv_goto (tgt := 1195) hx hb dL_law_988 (by decide) ?_
    refine W.widen (k := cells + 2) (n := slots + 3010) (by omega) (by omega) ?_
    exact kk c2 (ax_h u K) d0 H locs ls hd0 hC hS (lv_sub hl [2, 3, 4, 5, 6] rfl)
set_option maxHeartbeats 4000000 in
set_option maxRecDepth 100000 in
theorem l_nearest {p : Program} {l : Launch} {e : Env} {s : State} {m : MethodId} {b : Nat} {below : List Frame} {meth : Method} {c : Code} {Q : State → Prop} {L : Nat} {xs : Nat → Int32} {g : va_G} {ct ad : Nat → Nat} {i : Nat} {cS : St_} {x : Ax_} {d0 : Drawn} {H : Heap} {locs : List Loc} {cells slots : Nat} {ls : Array Slot} (h : LF p l s m b c L xs) (hi : i + 4 ≤ L) (hd0 : s.drawn.sameBut d0 lw_cs) (hC : CX s.heap.size g ct ad cS cS x (s.setDrawn d0) H) (hS : va_S (AA s.heap.size) s.heap H locs) (hcl : cells + 2 ≤ 601024 ∧ slots + 3010 ≤ 7293034) (hl : lv_has ls 9 (lvB ad b i)) (kk : NX p l e s m b below meth c Q g ct ad i cells slots) : W p l e room_1 (s.setDrawn d0) m #[Value.ref b] below meth c H locs cells slots Q (F0 m 991 ls []) := by
  obtain ⟨hx, hb, hml, hown, hts0, hX, hbl, hflags, hL⟩ := h
  have hts := dr_words hts0 d0
  have hX : va_X b L xs (s.setDrawn d0) s.heap := hX
  have hbA : ¬ AA s.heap.size b := Nat.not_le.mpr hbl
  have hI : Iv_ cS := hC.1.2.2.2.1
  have hB : s.heap.size ≤ (s.setDrawn d0).heap.size := Nat.le_refl _
  have hl : lv_has ls 9 [(4, .int (nI i)), (3, .ref (ad 11)), (2, .ref (ad 7)), (1, .ref (ad 0)), (0, .ref b)] := hl
  refine lv_aload_n hx hb dL_law_991 rfl (lv_at hl 3 rfl) ?_
  refine lv_aload_n hx hb dL_law_992 rfl (lv_at hl 4 rfl) ?_
  refine lv_iload hx hb dL_law_993 (lv_at hl 0 rfl) ?_
  refine lv_iconst (v := nI 1) hx hb dL_law_995 (by decide) ?_
  refine lv_iadd hx hb dL_law_996 ?_
  refine lv_tn (nI_add _ _) ?_
  refine va_sld hx hb hX hbl hbA hS (i := nI (i + 1)) (vp_in_nI (show i + 1 < L by omega) (by omega)) dL_law_997 ?_
  refine lv_tn (w := xs (i + 1)) (congrArg xs (nI_clamp (by omega))) ?_
  refine k_rV (As := [.int (xs (i + 1))]) (rest := []) (c_X0_nearest l s.heap.size g ct ad cS cS x (xs (i + 1))) hC ⟨hx, hb, hml, hown, hts⟩ (cwV 1 hts gL_law_X0_nearest rfl rfl rfl (by decide +kernel) ⟨Nat.le_of_ble_eq_true rfl, Nat.le_of_ble_eq_true rfl⟩) (rc0 hC) rfl hl.1 rfl (Nat.le_of_ble_eq_true rfl) dL_law_998 ⟨(by show cells ≤ 601024; omega), (by show slots ≤ 7293034; omega)⟩ ?_
  refine lv_aload_n hx hb dL_law_1001 rfl (lv_at hl 2 rfl) ?_
  refine lv_aload_n hx hb dL_law_1002 rfl (lv_at hl 4 rfl) ?_
  refine lv_iload hx hb dL_law_1003 (lv_at hl 0 rfl) ?_
  refine lv_iconst (v := nI 1) hx hb dL_law_1005 (by decide) ?_
  refine lv_iadd hx hb dL_law_1006 ?_
  refine lv_tn (nI_add _ _) ?_
  refine va_sld hx hb hX hbl hbA hS (i := nI (i + 1)) (vp_in_nI (show i + 1 < L by omega) (by omega)) dL_law_1007 ?_
  refine lv_tn (w := xs (i + 1)) (congrArg xs (nI_clamp (by omega))) ?_
  refine k_wV (As := [.int (xs (i + 1))]) (rest := [.int (ni_ (nr_ cS (xs (i + 1)) (sn cS)))]) (c_X1_nearest l s.heap.size g ct ad cS cS x (xs (i + 1))) hC hB hS ⟨hx, hb, hml, hown, hts⟩ (cwV 1 hts gL_law_X1_nearest rfl rfl rfl (by decide +kernel) ⟨Nat.le_of_ble_eq_true rfl, Nat.le_of_ble_eq_true rfl⟩) (rc1 hC) rfl hl.1 rfl (Nat.le_of_ble_eq_true rfl) dL_law_1008 ⟨(by show cells + 0 ≤ 601024; omega), (by show slots + 0 ≤ 7293034; omega)⟩ (fun u2 H locs hu2 hC hS => ?_)
  refine lv_icmp_eq (tgt := 1195) hx hb dL_law_1011 (by decide) (fun _ => ?_) (fun h => absurd rfl h)
  refine W.widen (k := cells + 2) (n := slots + 3010) (by omega) (by omega) ?_
  exact kk cS u2 d0 H locs ls hd0 hC hS (lv_sub hl [0, 1, 2, 3, 4] rfl)
set_option maxHeartbeats 4000000 in
set_option maxRecDepth 100000 in
theorem l_letters {p : Program} {l : Launch} {e : Env} {s : State} {m : MethodId} {b : Nat} {below : List Frame} {meth : Method} {c : Code} {Q : State → Prop} {L : Nat} {xs : Nat → Int32} {g : va_G} {ct ad : Nat → Nat} {i : Nat} {cS : St_} {x : Ax_} {d0 : Drawn} {H : Heap} {locs : List Loc} {cells slots : Nat} {ls : Array Slot} (h : LF p l s m b c L xs) (hi : i + 4 ≤ L) (hd0 : s.drawn.sameBut d0 lw_cs) (hC : CX s.heap.size g ct ad cS cS x (s.setDrawn d0) H) (hS : va_S (AA s.heap.size) s.heap H locs) (hcl : cells + 2 ≤ 601024 ∧ slots + 3010 ≤ 7293034) (hl : lv_has ls 9 (lvB ad b i)) (kk : NX p l e s m b below meth c Q g ct ad i cells slots) : W p l e room_1 (s.setDrawn d0) m #[Value.ref b] below meth c H locs cells slots Q (F0 m 1016 ls []) := by
  obtain ⟨hx, hb, hml, hown, hts0, hX, hbl, hflags, hL⟩ := h
  have hts := dr_words hts0 d0
  have hX : va_X b L xs (s.setDrawn d0) s.heap := hX
  have hbA : ¬ AA s.heap.size b := Nat.not_le.mpr hbl
  have hI : Iv_ cS := hC.1.2.2.2.1
  have hB : s.heap.size ≤ (s.setDrawn d0).heap.size := Nat.le_refl _
  have hl : lv_has ls 9 [(4, .int (nI i)), (3, .ref (ad 11)), (2, .ref (ad 7)), (1, .ref (ad 0)), (0, .ref b)] := hl
  refine lv_aload_n hx hb dL_law_1016 rfl (lv_at hl 3 rfl) ?_
  refine lv_aload_n hx hb dL_law_1017 rfl (lv_at hl 4 rfl) ?_
  refine lv_iload hx hb dL_law_1018 (lv_at hl 0 rfl) ?_
  refine lv_iconst (v := nI 1) hx hb dL_law_1020 (by decide) ?_
  refine lv_iadd hx hb dL_law_1021 ?_
  refine lv_tn (nI_add _ _) ?_
  refine va_sld hx hb hX hbl hbA hS (i := nI (i + 1)) (vp_in_nI (show i + 1 < L by omega) (by omega)) dL_law_1022 ?_
  refine lv_tn (w := xs (i + 1)) (congrArg xs (nI_clamp (by omega))) ?_
  refine lv_aload_n hx hb dL_law_1023 rfl (lv_at hl 1 rfl) ?_
  obtain ⟨K, V, c2, hW, hM⟩ := op_letters l s.heap.size g ct ad cS x hflags hI (xs (i + 1))
  refine k_wS (As := [.ref (ad 0), .int (xs (i + 1)), .ref (ad 11)]) (rest := []) hW hC hB hS ⟨hx, hb, hml, hown, hts⟩ (vx_cwSW 3 hts gL_law_L_letters rfl rfl rfl (by decide +kernel) ⟨Nat.le_of_ble_eq_true rfl, Nat.le_of_ble_eq_true rfl⟩) rfl hl.1 rfl (Nat.le_of_ble_eq_true rfl) dL_law_1024 ⟨(by show cells + 1 ≤ 601024; omega), (by show slots + 6 ≤ 7293034; omega)⟩ (fun u H locs hu hC hS => ?_)
  refine lv_istore (lv' := [(5, .int K), (4, .int (nI i)), (3, .ref (ad 11)), (2, .ref (ad 7)), (1, .ref (ad 0)), (0, .ref b)]) hx hb dL_law_1027 hl (by decide) rfl (fun ls hl => ?_)
  refine lv_aload_n hx hb dL_law_1029 rfl (lv_at hl 3 rfl) ?_
  refine lv_aload_n hx hb dL_law_1030 rfl (lv_at hl 5 rfl) ?_
  refine lv_iload hx hb dL_law_1031 (lv_at hl 1 rfl) ?_
  refine lv_iconst (v := nI 1) hx hb dL_law_1033 (by decide) ?_
  refine lv_iadd hx hb dL_law_1034 ?_
  refine lv_tn (nI_add _ _) ?_
  refine va_sld hx hb hX hbl hbA hS (i := nI (i + 1)) (vp_in_nI (show i + 1 < L by omega) (by omega)) dL_law_1035 ?_
  refine lv_tn (w := xs (i + 1)) (congrArg xs (nI_clamp (by omega))) ?_
  refine k_wV (As := [.int (xs (i + 1))]) (rest := []) (hM u) hC hB hS ⟨hx, hb, hml, hown, hts⟩ (cwV 1 hts gL_law_X1_letters rfl rfl rfl (by decide +kernel) ⟨Nat.le_of_ble_eq_true rfl, Nat.le_of_ble_eq_true rfl⟩) (rc1 hC) rfl hl.1 rfl (Nat.le_of_ble_eq_true rfl) dL_law_1036 ⟨(by show cells + 1 + 1 ≤ 601024; omega), (by show slots + 6 + 3001 ≤ 7293034; omega)⟩ (fun u2 H locs hu2 hC hS => ?_)
  subst hu2
  refine lv_istore (lv' := [(6, .int V), (5, .int K), (4, .int (nI i)), (3, .ref (ad 11)), (2, .ref (ad 7)), (1, .ref (ad 0)), (0, .ref b)]) hx hb dL_law_1039 hl (by decide) rfl (fun ls hl => ?_)
  refine lv_aload_n hx hb dL_law_1041 rfl (lv_at hl 4 rfl) ?_
  refine k_rV (As := []) (rest := []) (c_X1_thrown l s.heap.size g ct ad c2 c2 (ax_h u K)) hC ⟨hx, hb, hml, hown, hts⟩ (cwV 0 hts gL_law_X1_thrown rfl rfl rfl (by decide +kernel) ⟨Nat.le_of_ble_eq_true rfl, Nat.le_of_ble_eq_true rfl⟩) (rc1 hC) rfl hl.1 rfl (Nat.le_of_ble_eq_true rfl) dL_law_1042 ⟨(by show cells + 1 + 1 ≤ 601024; omega), (by show slots + 6 + 3001 ≤ 7293034; omega)⟩ ?_
  refine lv_iload hx hb dL_law_1045 (lv_at hl 1 rfl) ?_
  refine lv_icmp_eq (tgt := 1052) hx hb dL_law_1047 (by decide) (fun _ => ?_) (fun h => absurd rfl h)
  refine lv_iload hx hb dL_law_1052 (lv_at hl 1 rfl) ?_
  refine lv_if_ne (tgt := 1069) hx hb dL_law_1054 (by decide) (fun h5 => ?_) (fun h5 => ?_)
  · skip
    refine lv_goto (tgt := 1195) hx hb dL_law_1069 (by decide) ?_
    refine W.widen (k := cells + 2) (n := slots + 3010) (by omega) (by omega) ?_
    exact kk c2 (ax_h u K) d0 H locs ls hd0 hC hS (lv_sub hl [2, 3, 4, 5, 6] rfl)
  · skip
    refine lv_aload_n hx hb dL_law_1057 rfl (lv_at hl 3 rfl) ?_
    refine lv_iconst (v := nI 0) hx hb dL_law_1058 (by decide) ?_
    refine r_lo hC hx hb dL_law_1059 ?_
    refine lv_tl (w := LI_ V) (hu h5) ?_
    refine lv_iload hx hb dL_law_1060 (lv_at hl 0 rfl) ?_
    refine lv_i2l (v := V.toInt64) hx hb dL_law_1062 rfl ?_
    refine lv_lcmp_eq hx hb rfl dL_law_1063 ?_
    refine lv_if_eq (tgt := 1069) hx hb dL_law_1064 (by decide) (fun _ => ?_) (fun h => absurd rfl h)
    refine lv_goto (tgt := 1195) hx hb dL_law_1069 (by decide) ?_
    refine W.widen (k := cells + 2) (n := slots + 3010) (by omega) (by omega) ?_
    exact kk c2 (ax_h u K) d0 H locs ls hd0 hC hS (lv_sub hl [2, 3, 4, 5, 6] rfl)
set_option maxHeartbeats 4000000 in
set_option maxRecDepth 100000 in
theorem l_spell {p : Program} {l : Launch} {e : Env} {s : State} {m : MethodId} {b : Nat} {below : List Frame} {meth : Method} {c : Code} {Q : State → Prop} {L : Nat} {xs : Nat → Int32} {g : va_G} {ct ad : Nat → Nat} {i : Nat} {cS : St_} {x : Ax_} {d0 : Drawn} {H : Heap} {locs : List Loc} {cells slots : Nat} {ls : Array Slot} (h : LF p l s m b c L xs) (hi : i + 4 ≤ L) (hd0 : s.drawn.sameBut d0 lw_cs) (hC : CX s.heap.size g ct ad cS cS x (s.setDrawn d0) H) (hS : va_S (AA s.heap.size) s.heap H locs) (hcl : cells + 2 ≤ 601024 ∧ slots + 3010 ≤ 7293034) (hl : lv_has ls 9 (lvB ad b i)) (kk : NX p l e s m b below meth c Q g ct ad i cells slots) : W p l e room_1 (s.setDrawn d0) m #[Value.ref b] below meth c H locs cells slots Q (F0 m 1072 ls []) := by
  obtain ⟨hx, hb, hml, hown, hts0, hX, hbl, hflags, hL⟩ := h
  have hts := dr_words hts0 d0
  have hX : va_X b L xs (s.setDrawn d0) s.heap := hX
  have hbA : ¬ AA s.heap.size b := Nat.not_le.mpr hbl
  have hI : Iv_ cS := hC.1.2.2.2.1
  have hB : s.heap.size ≤ (s.setDrawn d0).heap.size := Nat.le_refl _
  have hl : lv_has ls 9 [(4, .int (nI i)), (3, .ref (ad 11)), (2, .ref (ad 7)), (1, .ref (ad 0)), (0, .ref b)] := hl
  refine lv_aload_n hx hb dL_law_1072 rfl (lv_at hl 3 rfl) ?_
  refine lv_aload_n hx hb dL_law_1073 rfl (lv_at hl 4 rfl) ?_
  refine lv_iload hx hb dL_law_1074 (lv_at hl 0 rfl) ?_
  refine lv_iconst (v := nI 1) hx hb dL_law_1076 (by decide) ?_
  refine lv_iadd hx hb dL_law_1077 ?_
  refine lv_tn (nI_add _ _) ?_
  refine va_sld hx hb hX hbl hbA hS (i := nI (i + 1)) (vp_in_nI (show i + 1 < L by omega) (by omega)) dL_law_1078 ?_
  refine lv_tn (w := xs (i + 1)) (congrArg xs (nI_clamp (by omega))) ?_
  refine lv_aload_n hx hb dL_law_1079 rfl (lv_at hl 4 rfl) ?_
  refine lv_iload hx hb dL_law_1080 (lv_at hl 0 rfl) ?_
  refine lv_iconst (v := nI 2) hx hb dL_law_1082 (by decide) ?_
  refine lv_iadd hx hb dL_law_1083 ?_
  refine lv_tn (nI_add _ _) ?_
  refine va_sld hx hb hX hbl hbA hS (i := nI (i + 2)) (vp_in_nI (show i + 2 < L by omega) (by omega)) dL_law_1084 ?_
  refine lv_tn (w := xs (i + 2)) (congrArg xs (nI_clamp (by omega))) ?_
  refine lv_aload_n hx hb dL_law_1085 rfl (lv_at hl 1 rfl) ?_
  obtain ⟨K, V, c2, hW, hM⟩ := op_spell l s.heap.size g ct ad cS x hflags hI (xs (i + 1)) (xs (i + 2))
  refine k_wS (As := [.ref (ad 0), .int (xs (i + 1)), .int (xs (i + 2)), .ref (ad 11)]) (rest := []) hW hC hB hS ⟨hx, hb, hml, hown, hts⟩ (vx_cwSW 4 hts gL_law_L_spell rfl rfl rfl (by decide +kernel) ⟨Nat.le_of_ble_eq_true rfl, Nat.le_of_ble_eq_true rfl⟩) rfl hl.1 rfl (Nat.le_of_ble_eq_true rfl) dL_law_1086 ⟨(by show cells + 1 ≤ 601024; omega), (by show slots + 6 ≤ 7293034; omega)⟩ (fun u H locs hu hC hS => ?_)
  refine lv_istore (lv' := [(5, .int K), (4, .int (nI i)), (3, .ref (ad 11)), (2, .ref (ad 7)), (1, .ref (ad 0)), (0, .ref b)]) hx hb dL_law_1089 hl (by decide) rfl (fun ls hl => ?_)
  refine lv_aload_n hx hb dL_law_1091 rfl (lv_at hl 3 rfl) ?_
  refine lv_aload_n hx hb dL_law_1092 rfl (lv_at hl 5 rfl) ?_
  refine lv_iload hx hb dL_law_1093 (lv_at hl 1 rfl) ?_
  refine lv_iconst (v := nI 1) hx hb dL_law_1095 (by decide) ?_
  refine lv_iadd hx hb dL_law_1096 ?_
  refine lv_tn (nI_add _ _) ?_
  refine va_sld hx hb hX hbl hbA hS (i := nI (i + 1)) (vp_in_nI (show i + 1 < L by omega) (by omega)) dL_law_1097 ?_
  refine lv_tn (w := xs (i + 1)) (congrArg xs (nI_clamp (by omega))) ?_
  refine lv_aload_n hx hb dL_law_1098 rfl (lv_at hl 5 rfl) ?_
  refine lv_iload hx hb dL_law_1099 (lv_at hl 1 rfl) ?_
  refine lv_iconst (v := nI 2) hx hb dL_law_1101 (by decide) ?_
  refine lv_iadd hx hb dL_law_1102 ?_
  refine lv_tn (nI_add _ _) ?_
  refine va_sld hx hb hX hbl hbA hS (i := nI (i + 2)) (vp_in_nI (show i + 2 < L by omega) (by omega)) dL_law_1103 ?_
  refine lv_tn (w := xs (i + 2)) (congrArg xs (nI_clamp (by omega))) ?_
  refine k_wV (As := [.int (xs (i + 1)), .int (xs (i + 2))]) (rest := []) (hM u) hC hB hS ⟨hx, hb, hml, hown, hts⟩ (cwV 2 hts gL_law_X1_spell rfl rfl rfl (by decide +kernel) ⟨Nat.le_of_ble_eq_true rfl, Nat.le_of_ble_eq_true rfl⟩) (rc1 hC) rfl hl.1 rfl (Nat.le_of_ble_eq_true rfl) dL_law_1104 ⟨(by show cells + 1 + 1 ≤ 601024; omega), (by show slots + 6 + 3001 ≤ 7293034; omega)⟩ (fun u2 H locs hu2 hC hS => ?_)
  subst hu2
  refine lv_istore (lv' := [(6, .int V), (5, .int K), (4, .int (nI i)), (3, .ref (ad 11)), (2, .ref (ad 7)), (1, .ref (ad 0)), (0, .ref b)]) hx hb dL_law_1107 hl (by decide) rfl (fun ls hl => ?_)
  refine lv_aload_n hx hb dL_law_1109 rfl (lv_at hl 4 rfl) ?_
  refine k_rV (As := []) (rest := []) (c_X1_thrown l s.heap.size g ct ad c2 c2 (ax_h u K)) hC ⟨hx, hb, hml, hown, hts⟩ (cwV 0 hts gL_law_X1_thrown rfl rfl rfl (by decide +kernel) ⟨Nat.le_of_ble_eq_true rfl, Nat.le_of_ble_eq_true rfl⟩) (rc1 hC) rfl hl.1 rfl (Nat.le_of_ble_eq_true rfl) dL_law_1110 ⟨(by show cells + 1 + 1 ≤ 601024; omega), (by show slots + 6 + 3001 ≤ 7293034; omega)⟩ ?_
  refine lv_iload hx hb dL_law_1113 (lv_at hl 1 rfl) ?_
  refine lv_icmp_eq (tgt := 1120) hx hb dL_law_1115 (by decide) (fun _ => ?_) (fun h => absurd rfl h)
  refine lv_iload hx hb dL_law_1120 (lv_at hl 1 rfl) ?_
  refine lv_if_ne (tgt := 1137) hx hb dL_law_1122 (by decide) (fun h5 => ?_) (fun h5 => ?_)
  · skip
    refine lv_goto (tgt := 1195) hx hb dL_law_1137 (by decide) ?_
    refine W.widen (k := cells + 2) (n := slots + 3010) (by omega) (by omega) ?_
    exact kk c2 (ax_h u K) d0 H locs ls hd0 hC hS (lv_sub hl [2, 3, 4, 5, 6] rfl)
  · skip
    refine lv_aload_n hx hb dL_law_1125 rfl (lv_at hl 3 rfl) ?_
    refine lv_iconst (v := nI 0) hx hb dL_law_1126 (by decide) ?_
    refine r_lo hC hx hb dL_law_1127 ?_
    refine lv_tl (w := LI_ V) (hu h5) ?_
    refine lv_iload hx hb dL_law_1128 (lv_at hl 0 rfl) ?_
    refine lv_i2l (v := V.toInt64) hx hb dL_law_1130 rfl ?_
    refine lv_lcmp_eq hx hb rfl dL_law_1131 ?_
    refine lv_if_eq (tgt := 1137) hx hb dL_law_1132 (by decide) (fun _ => ?_) (fun h => absurd rfl h)
    refine lv_goto (tgt := 1195) hx hb dL_law_1137 (by decide) ?_
    refine W.widen (k := cells + 2) (n := slots + 3010) (by omega) (by omega) ?_
    exact kk c2 (ax_h u K) d0 H locs ls hd0 hC hS (lv_sub hl [2, 3, 4, 5, 6] rfl)
set_option maxHeartbeats 4000000 in
set_option maxRecDepth 100000 in
theorem l_digest {p : Program} {l : Launch} {e : Env} {s : State} {m : MethodId} {b : Nat} {below : List Frame} {meth : Method} {c : Code} {Q : State → Prop} {L : Nat} {xs : Nat → Int32} {g : va_G} {ct ad : Nat → Nat} {i : Nat} {cS : St_} {x : Ax_} {d0 : Drawn} {H : Heap} {locs : List Loc} {cells slots : Nat} {ls : Array Slot} (h : LF p l s m b c L xs) (hi : i + 4 ≤ L) (hd0 : s.drawn.sameBut d0 lw_cs) (hC : CX s.heap.size g ct ad cS cS x (s.setDrawn d0) H) (hS : va_S (AA s.heap.size) s.heap H locs) (hcl : cells + 2 ≤ 601024 ∧ slots + 3010 ≤ 7293034) (hl : lv_has ls 9 (lvB ad b i)) (kk : NX p l e s m b below meth c Q g ct ad i cells slots) : W p l e room_1 (s.setDrawn d0) m #[Value.ref b] below meth c H locs cells slots Q (F0 m 1181 ls []) := by
  obtain ⟨hx, hb, hml, hown, hts0, hX, hbl, hflags, hL⟩ := h
  have hts := dr_words hts0 d0
  have hX : va_X b L xs (s.setDrawn d0) s.heap := hX
  have hbA : ¬ AA s.heap.size b := Nat.not_le.mpr hbl
  have hI : Iv_ cS := hC.1.2.2.2.1
  have hB : s.heap.size ≤ (s.setDrawn d0).heap.size := Nat.le_refl _
  have hl : lv_has ls 9 [(4, .int (nI i)), (3, .ref (ad 11)), (2, .ref (ad 7)), (1, .ref (ad 0)), (0, .ref b)] := hl
  refine lv_aload_n hx hb dL_law_1181 rfl (lv_at hl 3 rfl) ?_
  refine k_wL (As := []) (rest := []) (c_X0_digest l s.heap.size g ct ad cS cS x) hC hB hS ⟨hx, hb, hml, hown, hts⟩ (cwV 0 hts gL_law_X0_digest rfl rfl rfl (by decide +kernel) ⟨Nat.le_of_ble_eq_true rfl, Nat.le_of_ble_eq_true rfl⟩) (rc0 hC) rfl hl.1 rfl (Nat.le_of_ble_eq_true rfl) dL_law_1182 ⟨(by show cells + 0 ≤ 601024; omega), (by show slots + 0 ≤ 7293034; omega)⟩ (fun u H locs hu hC hS => ?_)
  refine lv_aload_n hx hb dL_law_1185 rfl (lv_at hl 2 rfl) ?_
  refine k_wL (As := []) (rest := [.long (dg_ cS)]) (c_X1_digest l s.heap.size g ct ad cS cS u) hC hB hS ⟨hx, hb, hml, hown, hts⟩ (cwV 0 hts gL_law_X1_digest rfl rfl rfl (by decide +kernel) ⟨Nat.le_of_ble_eq_true rfl, Nat.le_of_ble_eq_true rfl⟩) (rc1 hC) rfl hl.1 rfl (Nat.le_of_ble_eq_true rfl) dL_law_1186 ⟨(by show cells + 0 + 0 ≤ 601024; omega), (by show slots + 0 + 0 ≤ 7293034; omega)⟩ (fun u2 H locs hu2 hC hS => ?_)
  refine lv_lcmp_eq hx hb rfl dL_law_1189 ?_
  refine lv_if_eq (tgt := 1195) hx hb dL_law_1190 (by decide) (fun _ => ?_) (fun h => absurd rfl h)
  refine W.widen (k := cells + 2) (n := slots + 3010) (by omega) (by omega) ?_
  exact kk cS u2 d0 H locs ls hd0 hC hS (lv_sub hl [0, 1, 2, 3, 4] rfl)
set_option maxHeartbeats 4000000 in
set_option maxRecDepth 100000 in
theorem l_mean {p : Program} {l : Launch} {e : Env} {s : State} {m : MethodId} {b : Nat} {below : List Frame} {meth : Method} {c : Code} {Q : State → Prop} {L : Nat} {xs : Nat → Int32} {g : va_G} {ct ad : Nat → Nat} {i : Nat} {cS : St_} {x : Ax_} {d0 : Drawn} {H : Heap} {locs : List Loc} {cells slots : Nat} {ls : Array Slot} (h : LF p l s m b c L xs) (hi : i + 4 ≤ L) (hd0 : s.drawn.sameBut d0 lw_cs) (hC : CX s.heap.size g ct ad cS cS x (s.setDrawn d0) H) (hS : va_S (AA s.heap.size) s.heap H locs) (hcl : cells + 2 ≤ 601024 ∧ slots + 3010 ≤ 7293034) (hl : lv_has ls 9 (lvB ad b i)) (kk : NX p l e s m b below meth c Q g ct ad i cells slots) : W p l e room_1 (s.setDrawn d0) m #[Value.ref b] below meth c H locs cells slots Q (F0 m 1140 ls []) := by
  obtain ⟨hx, hb, hml, hown, hts0, hX, hbl, hflags, hL⟩ := h
  have hts := dr_words hts0 d0
  have hX : va_X b L xs (s.setDrawn d0) s.heap := hX
  have hbA : ¬ AA s.heap.size b := Nat.not_le.mpr hbl
  have hI : Iv_ cS := hC.1.2.2.2.1
  have hB : s.heap.size ≤ (s.setDrawn d0).heap.size := Nat.le_refl _
  have hl : lv_has ls 9 [(4, .int (nI i)), (3, .ref (ad 11)), (2, .ref (ad 7)), (1, .ref (ad 0)), (0, .ref b)] := hl
  refine lv_aload_n hx hb dL_law_1140 rfl (lv_at hl 3 rfl) ?_
  refine k_dV (As := []) (rest := []) hd0 (c_X0_mean l s.heap.size g ct ad cS cS x) hC hB hS ⟨hx, hb, hml, hown, hts⟩ (cwV 0 hts gL_law_X0_mean rfl rfl rfl (by decide +kernel) ⟨Nat.le_of_ble_eq_true rfl, Nat.le_of_ble_eq_true rfl⟩) (rc0 hC) rfl hl.1 rfl (Nat.le_of_ble_eq_true rfl) dL_law_1141 ⟨(by show cells + 0 ≤ 601024; omega), (by show slots + 0 ≤ 7293034; omega)⟩ (fun ra u d1 H locs hu hd1 hC hS => ?_)
  have hts := dr_words hts0 d1
  refine lv_dstore (lv' := [(5, .double ra), (4, .int (nI i)), (3, .ref (ad 11)), (2, .ref (ad 7)), (1, .ref (ad 0)), (0, .ref b)]) hx hb dL_law_1144 hl (by decide) rfl (fun ls hl => ?_)
  refine lv_aload_n hx hb dL_law_1146 rfl (lv_at hl 3 rfl) ?_
  refine k_dV (As := []) (rest := []) hd1 (c_X1_mean l s.heap.size g ct ad cS cS u) hC hB hS ⟨hx, hb, hml, hown, hts⟩ (cwV 0 hts gL_law_X1_mean rfl rfl rfl (by decide +kernel) ⟨Nat.le_of_ble_eq_true rfl, Nat.le_of_ble_eq_true rfl⟩) (rc1 hC) rfl hl.1 rfl (Nat.le_of_ble_eq_true rfl) dL_law_1147 ⟨(by show cells + 0 + 0 ≤ 601024; omega), (by show slots + 0 + 0 ≤ 7293034; omega)⟩ (fun rb u2 d2 H locs hu2 hd2 hC hS => ?_)
  refine lv_dstore (lv' := [(7, .double rb), (5, .double ra), (4, .int (nI i)), (3, .ref (ad 11)), (2, .ref (ad 7)), (1, .ref (ad 0)), (0, .ref b)]) hx hb dL_law_1150 hl (by decide) rfl (fun ls hl => ?_)
  refine lv_dload hx hb dL_law_1152 (lv_at hl 1 rfl) ?_
  refine lv_dload hx hb dL_law_1154 (lv_at hl 0 rfl) ?_
  refine lv_dcmp hx hb dL_law_1156 ?_
  refine lv_if_eq (tgt := 1178) hx hb dL_law_1157 (by decide) (fun _ => ?_) (fun h0 => ?_)
  · skip
    refine lv_goto (tgt := 1195) hx hb dL_law_1178 (by decide) ?_
    refine W.widen (k := cells + 2) (n := slots + 3010) (by omega) (by omega) ?_
    exact kk cS u2 d2 H locs ls hd2 hC hS (lv_sub hl [2, 3, 4, 5, 6] rfl)
  · skip
    obtain ⟨ha, hb2⟩ := me_t hu.1 hu2.1 h0
    refine lv_dload hx hb dL_law_1160 (lv_at hl 1 rfl) ?_
    refine lv_dload hx hb dL_law_1162 (lv_at hl 1 rfl) ?_
    refine lv_dcmp hx hb dL_law_1164 ?_
    refine lv_if_eq (tgt := 1176) hx hb dL_law_1165 (by decide) (fun h => absurd h ha) (fun _ => ?_)
    refine lv_dload hx hb dL_law_1168 (lv_at hl 0 rfl) ?_
    refine lv_dload hx hb dL_law_1170 (lv_at hl 0 rfl) ?_
    refine lv_dcmp hx hb dL_law_1172 ?_
    refine lv_if_ne (tgt := 1178) hx hb dL_law_1173 (by decide) (fun _ => ?_) (fun h => absurd h hb2)
    refine lv_goto (tgt := 1195) hx hb dL_law_1178 (by decide) ?_
    refine W.widen (k := cells + 2) (n := slots + 3010) (by omega) (by omega) ?_
    exact kk cS u2 d2 H locs ls hd2 hC hS (lv_sub hl [2, 3, 4, 5, 6] rfl)
