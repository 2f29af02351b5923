/-! ===== the law's wrappers ===== -/
theorem ax_o0 {x : Ax_} {v : Int64} : xo (ax_o x v) 0 = v := by show vp_updL (xo x) 0 v 0 = v; simp [vp_updL]
set_option maxHeartbeats 4000000 in
set_option maxRecDepth 100000 in
theorem w_count (l : Launch) (B0 : Nat) (g : va_G) (ct ad : Nat → Nat) (cS mS : St_) (x : Ax_) (o : Nat) (ho : o < 3) : WI l yL_count wsL_count 9 1 6 B0 g ct ad cS mS x [.ref (ad 0), .int (nI o), .ref (ad 11)] (nI 0) (st_count cS o) mS (fun u : Ax_ => nI 0 = 0 → xo u 0 = (nI (so cS)).toInt64) := by
  refine va_MetW (cc := cL_count) (maxL := 4) (ret := (some .int)) (by decide) rfl ?_
  intro p e s m args below meth c s₁ B hml hv
  obtain ⟨rfl, hC⟩ := hv
  have hx := B.exec
  have hb := B.bytes
  have hr := B.returns
  have hts := atoms_spec (ws := wsL_count) B.pre
  have hown : s.vm.findClass RL = some m.cls := findClass_of_methodNamed B.named
  have hlocks := B.notSynchronized
  have htab := vx_table (x := yL_count) B (hts _ List.mem_cons_self)
  have hS : va_S (AA B0) s.heap s.heap [] := va_S.rf
  have hB : B0 ≤ s.heap.size := hC.1.2.2.1
  have hl := lv_entry ([.ref (ad 0), .int (nI o), .ref (ad 11)]) (n := 4) (Nat.le_of_ble_eq_true rfl)
  rw [lg_entry_eq]
  generalize (lg_sl ([.ref (ad 0), .int (nI o), .ref (ad 11)]) ++ List.replicate (4 - (lg_sl ([.ref (ad 0), .int (nI o), .ref (ad 11)])).length) Slot.unset).toArray = ls at hl ⊢
  have hl : lv_has ls 4 [(0, .ref (ad 0)), (1, .int (nI o)), (2, .ref (ad 11))] := hl
  refine lv_aload_n hx hb dL_count_0 rfl (lv_at hl 2 rfl) ?_
  refine lv_iconst (v := nI 0) hx hb dL_count_1 (by decide) ?_
  refine lv_aload_n hx hb dL_count_2 rfl (lv_at hl 0 rfl) ?_
  refine lv_iload_n hx hb dL_count_3 rfl (lv_at hl 1 rfl) ?_
  refine k_wV (As := [.int (nI o)]) (rest := [.int (nI 0), .ref (ad 11)]) (c_X0_count l B0 g ct ad cS mS x o ho) hC hB hS ⟨hx, hb, hml, hown, hts⟩ (cwV 1 hts gL_count_X0_count rfl rfl rfl (by decide +kernel) ⟨Nat.le_of_ble_eq_true rfl, Nat.le_of_ble_eq_true rfl⟩) (rc0 hC) rfl hl.1 rfl (Nat.le_of_ble_eq_true rfl) dL_count_4 ⟨Nat.le_of_ble_eq_true rfl, Nat.le_of_ble_eq_true rfl⟩ (fun u1 H locs hu1 hC hS => ?_)
  refine lv_i2l (v := (nI (so cS)).toInt64) hx hb dL_count_7 rfl ?_
  refine w_lo hC hB hS hx hb dL_count_8 (v := (nI (so cS)).toInt64) (fun H locs hC hS => ?_)
  refine lv_goto (tgt := 15) hx hb dL_count_9 (by decide) ?_
  refine lv_iconst (v := nI 0) hx hb dL_count_15 (by decide) ?_
  refine W.widen (k := 1) (n := 6) (Nat.le_of_ble_eq_true rfl) (Nat.le_of_ble_eq_true rfl) ?_
  exact W.iret hx hb hr (fun t ht hW => ⟨⟨_, ax_o u1 ((nI (so cS)).toInt64), rfl, ⟨rfl, (fun _ => ax_o0)⟩, (by show CW B0 g ct ad (st_count cS o) mS (ax_o u1 ((nI (so cS)).toInt64)) t.heap; rw [ht]; exact hC.1)⟩, hS.F ht⟩) hS.2.2 dL_count_16
set_option maxHeartbeats 4000000 in
set_option maxRecDepth 100000 in
theorem w_count_1 (l : Launch) (B0 : Nat) (g : va_G) (ct ad : Nat → Nat) (cS mS : St_) (x : Ax_) (hflags : l.stackTraces = false) (v0 : Int64) (o : Int32) (h : o < 0 ∨ nI 3 ≤ o) : WI l yL_count wsL_count 9 1 6 B0 g ct ad cS mS x [.ref (ad 0), .int o, .ref (ad 11)] (nI 1) cS mS (fun u : Ax_ => nI 1 = 0 → xo u 0 = v0) := by
  refine va_MetW (cc := cL_count) (maxL := 4) (ret := (some .int)) (by decide) rfl ?_
  intro p e s m args below meth c s₁ B hml hv
  obtain ⟨rfl, hC⟩ := hv
  have hx := B.exec
  have hb := B.bytes
  have hr := B.returns
  have hts := atoms_spec (ws := wsL_count) B.pre
  have hown : s.vm.findClass RL = some m.cls := findClass_of_methodNamed B.named
  have hlocks := B.notSynchronized
  have htab := vx_table (x := yL_count) B (hts _ List.mem_cons_self)
  have hS : va_S (AA B0) s.heap s.heap [] := va_S.rf
  have hB : B0 ≤ s.heap.size := hC.1.2.2.1
  have hl := lv_entry ([.ref (ad 0), .int o, .ref (ad 11)]) (n := 4) (Nat.le_of_ble_eq_true rfl)
  rw [lg_entry_eq]
  generalize (lg_sl ([.ref (ad 0), .int o, .ref (ad 11)]) ++ List.replicate (4 - (lg_sl ([.ref (ad 0), .int o, .ref (ad 11)])).length) Slot.unset).toArray = ls at hl ⊢
  have hl : lv_has ls 4 [(0, .ref (ad 0)), (1, .int o), (2, .ref (ad 11))] := hl
  refine lv_aload_n hx hb dL_count_0 rfl (lv_at hl 2 rfl) ?_
  refine lv_iconst (v := nI 0) hx hb dL_count_1 (by decide) ?_
  refine lv_aload_n hx hb dL_count_2 rfl (lv_at hl 0 rfl) ?_
  refine lv_iload_n hx hb dL_count_3 rfl (lv_at hl 1 rfl) ?_
  refine k_tV (As := [.int o]) (rest := [.int (nI 0), .ref (ad 11)]) (t_X0_count l B0 g ct ad cS mS x hflags o h) hC hB hS ⟨hx, hb, hml, hown, hts⟩ (cwV 1 hts gL_count_X0_count rfl rfl rfl (by decide +kernel) ⟨Nat.le_of_ble_eq_true rfl, Nat.le_of_ble_eq_true rfl⟩) (rc0 hC) rfl hl.1 rfl (Nat.le_of_ble_eq_true rfl) dL_count_4 ⟨Nat.le_of_ble_eq_true rfl, Nat.le_of_ble_eq_true rfl⟩ (fun ce_ q9_ H locs hC hS hce_ hcv_ hcl_ => ?_)
  refine vx_catch (own := RL) (name := EI_) (E := EI_) hown [] ⟨0, 9, 12, 13⟩ [] (htab.trans rfl) (fun z hz => absurd hz List.not_mem_nil) rfl (by decide) (hts (.classLink RL 13 EI_) (by decide +kernel)) (va_Nw.use rfl (hC.2.2.2.2.2.1 EI_ (by decide))) hce_ hcv_ hcl_ ?_
  refine lv_astore_n (lv' := [(3, .ref q9_), (0, .ref (ad 0)), (1, .int o), (2, .ref (ad 11))]) hx hb dL_count_12 rfl hl (by decide) rfl (fun ls hl => ?_)
  refine lv_iconst (v := nI 1) hx hb dL_count_13 (by decide) ?_
  refine W.widen (k := 1) (n := 6) (Nat.le_of_ble_eq_true rfl) (Nat.le_of_ble_eq_true rfl) ?_
  exact W.iret hx hb hr (fun t ht hW => ⟨⟨_, x, rfl, ⟨rfl, (fun h => absurd h (by decide))⟩, (by show CW B0 g ct ad cS mS x t.heap; rw [ht]; exact hC.1)⟩, hS.F ht⟩) hS.2.2 dL_count_14
set_option maxHeartbeats 4000000 in
set_option maxRecDepth 100000 in
theorem w_letter (l : Launch) (B0 : Nat) (g : va_G) (ct ad : Nat → Nat) (cS mS : St_) (x : Ax_) (k : Nat) (h1 : 1 ≤ k) (h2 : k ≤ 26) : WI l yL_letter wsL_letter 9 1 6 B0 g ct ad cS mS x [.ref (ad 0), .int (nI k), .ref (ad 11)] (nI 0) cS mS (fun u : Ax_ => nI 0 = 0 → xo u 0 = (nI (vl_ (so cS) k)).toInt64) := by
  refine va_MetW (cc := cL_letter) (maxL := 4) (ret := (some .int)) (by decide) rfl ?_
  intro p e s m args below meth c s₁ B hml hv
  obtain ⟨rfl, hC⟩ := hv
  have hx := B.exec
  have hb := B.bytes
  have hr := B.returns
  have hts := atoms_spec (ws := wsL_letter) B.pre
  have hown : s.vm.findClass RL = some m.cls := findClass_of_methodNamed B.named
  have hlocks := B.notSynchronized
  have htab := vx_table (x := yL_letter) B (hts _ List.mem_cons_self)
  have hS : va_S (AA B0) s.heap s.heap [] := va_S.rf
  have hB : B0 ≤ s.heap.size := hC.1.2.2.1
  have hl := lv_entry ([.ref (ad 0), .int (nI k), .ref (ad 11)]) (n := 4) (Nat.le_of_ble_eq_true rfl)
  rw [lg_entry_eq]
  generalize (lg_sl ([.ref (ad 0), .int (nI k), .ref (ad 11)]) ++ List.replicate (4 - (lg_sl ([.ref (ad 0), .int (nI k), .ref (ad 11)])).length) Slot.unset).toArray = ls at hl ⊢
  have hl : lv_has ls 4 [(0, .ref (ad 0)), (1, .int (nI k)), (2, .ref (ad 11))] := hl
  refine lv_aload_n hx hb dL_letter_0 rfl (lv_at hl 2 rfl) ?_
  refine lv_iconst (v := nI 0) hx hb dL_letter_1 (by decide) ?_
  refine lv_aload_n hx hb dL_letter_2 rfl (lv_at hl 0 rfl) ?_
  refine lv_iload_n hx hb dL_letter_3 rfl (lv_at hl 1 rfl) ?_
  refine k_rV (As := [.int (nI k)]) (rest := [.int (nI 0), .ref (ad 11)]) (c_X0_letter l B0 g ct ad cS mS x k h1 h2) hC ⟨hx, hb, hml, hown, hts⟩ (cwV 1 hts gL_letter_X0_letter rfl rfl rfl (by decide +kernel) ⟨Nat.le_of_ble_eq_true rfl, Nat.le_of_ble_eq_true rfl⟩) (rc0 hC) rfl hl.1 rfl (Nat.le_of_ble_eq_true rfl) dL_letter_4 ⟨Nat.le_of_ble_eq_true rfl, Nat.le_of_ble_eq_true rfl⟩ ?_
  refine lv_i2l (v := (nI (vl_ (so cS) k)).toInt64) hx hb dL_letter_7 rfl ?_
  refine w_lo hC hB hS hx hb dL_letter_8 (v := (nI (vl_ (so cS) k)).toInt64) (fun H locs hC hS => ?_)
  refine lv_goto (tgt := 15) hx hb dL_letter_9 (by decide) ?_
  refine lv_iconst (v := nI 0) hx hb dL_letter_15 (by decide) ?_
  refine W.widen (k := 1) (n := 6) (Nat.le_of_ble_eq_true rfl) (Nat.le_of_ble_eq_true rfl) ?_
  exact W.iret hx hb hr (fun t ht hW => ⟨⟨_, ax_o x ((nI (vl_ (so cS) k)).toInt64), rfl, ⟨rfl, (fun _ => ax_o0)⟩, (by show CW B0 g ct ad cS mS (ax_o x ((nI (vl_ (so cS) k)).toInt64)) t.heap; rw [ht]; exact hC.1)⟩, hS.F ht⟩) hS.2.2 dL_letter_16
set_option maxHeartbeats 4000000 in
set_option maxRecDepth 100000 in
theorem w_letter_1 (l : Launch) (B0 : Nat) (g : va_G) (ct ad : Nat → Nat) (cS mS : St_) (x : Ax_) (hflags : l.stackTraces = false) (v0 : Int64) (k : Int32) (h : k < nI 1 ∨ nI 26 < k) : WI l yL_letter wsL_letter 9 1 6 B0 g ct ad cS mS x [.ref (ad 0), .int k, .ref (ad 11)] (nI 1) cS mS (fun u : Ax_ => nI 1 = 0 → xo u 0 = v0) := by
  refine va_MetW (cc := cL_letter) (maxL := 4) (ret := (some .int)) (by decide) rfl ?_
  intro p e s m args below meth c s₁ B hml hv
  obtain ⟨rfl, hC⟩ := hv
  have hx := B.exec
  have hb := B.bytes
  have hr := B.returns
  have hts := atoms_spec (ws := wsL_letter) B.pre
  have hown : s.vm.findClass RL = some m.cls := findClass_of_methodNamed B.named
  have hlocks := B.notSynchronized
  have htab := vx_table (x := yL_letter) B (hts _ List.mem_cons_self)
  have hS : va_S (AA B0) s.heap s.heap [] := va_S.rf
  have hB : B0 ≤ s.heap.size := hC.1.2.2.1
  have hl := lv_entry ([.ref (ad 0), .int k, .ref (ad 11)]) (n := 4) (Nat.le_of_ble_eq_true rfl)
  rw [lg_entry_eq]
  generalize (lg_sl ([.ref (ad 0), .int k, .ref (ad 11)]) ++ List.replicate (4 - (lg_sl ([.ref (ad 0), .int k, .ref (ad 11)])).length) Slot.unset).toArray = ls at hl ⊢
  have hl : lv_has ls 4 [(0, .ref (ad 0)), (1, .int k), (2, .ref (ad 11))] := hl
  refine lv_aload_n hx hb dL_letter_0 rfl (lv_at hl 2 rfl) ?_
  refine lv_iconst (v := nI 0) hx hb dL_letter_1 (by decide) ?_
  refine lv_aload_n hx hb dL_letter_2 rfl (lv_at hl 0 rfl) ?_
  refine lv_iload_n hx hb dL_letter_3 rfl (lv_at hl 1 rfl) ?_
  refine k_tV (As := [.int k]) (rest := [.int (nI 0), .ref (ad 11)]) (t_X0_letter l B0 g ct ad cS mS x hflags k h) hC hB hS ⟨hx, hb, hml, hown, hts⟩ (cwV 1 hts gL_letter_X0_letter rfl rfl rfl (by decide +kernel) ⟨Nat.le_of_ble_eq_true rfl, Nat.le_of_ble_eq_true rfl⟩) (rc0 hC) rfl hl.1 rfl (Nat.le_of_ble_eq_true rfl) dL_letter_4 ⟨Nat.le_of_ble_eq_true rfl, Nat.le_of_ble_eq_true rfl⟩ (fun ce_ q9_ H locs hC hS hce_ hcv_ hcl_ => ?_)
  refine vx_catch (own := RL) (name := EI_) (E := EI_) hown [] ⟨0, 9, 12, 13⟩ [] (htab.trans rfl) (fun z hz => absurd hz List.not_mem_nil) rfl (by decide) (hts (.classLink RL 13 EI_) (by decide +kernel)) (va_Nw.use rfl (hC.2.2.2.2.2.1 EI_ (by decide))) hce_ hcv_ hcl_ ?_
  refine lv_astore_n (lv' := [(3, .ref q9_), (0, .ref (ad 0)), (1, .int k), (2, .ref (ad 11))]) hx hb dL_letter_12 rfl hl (by decide) rfl (fun ls hl => ?_)
  refine lv_iconst (v := nI 1) hx hb dL_letter_13 (by decide) ?_
  refine W.widen (k := 1) (n := 6) (Nat.le_of_ble_eq_true rfl) (Nat.le_of_ble_eq_true rfl) ?_
  exact W.iret hx hb hr (fun t ht hW => ⟨⟨_, x, rfl, ⟨rfl, (fun h => absurd h (by decide))⟩, (by show CW B0 g ct ad cS mS x t.heap; rw [ht]; exact hC.1)⟩, hS.F ht⟩) hS.2.2 dL_letter_14
set_option maxHeartbeats 4000000 in
set_option maxRecDepth 100000 in
theorem w_value (l : Launch) (B0 : Nat) (g : va_G) (ct ad : Nat → Nat) (cS mS : St_) (x : Ax_) (w : Nat) (hw : w < 387420489) (h : wd_ (nI w) = true) : WI l yL_value wsL_value 9 1 6 B0 g ct ad cS mS x [.ref (ad 0), .int (nI w), .ref (ad 11)] (nI 0) cS mS (fun u : Ax_ => nI 0 = 0 → xo u 0 = (nI (ws0 (so cS) w)).toInt64) := by
  refine va_MetW (cc := cL_value) (maxL := 4) (ret := (some .int)) (by decide) rfl ?_
  intro p e s m args below meth c s₁ B hml hv
  obtain ⟨rfl, hC⟩ := hv
  have hx := B.exec
  have hb := B.bytes
  have hr := B.returns
  have hts := atoms_spec (ws := wsL_value) B.pre
  have hown : s.vm.findClass RL = some m.cls := findClass_of_methodNamed B.named
  have hlocks := B.notSynchronized
  have htab := vx_table (x := yL_value) B (hts _ List.mem_cons_self)
  have hS : va_S (AA B0) s.heap s.heap [] := va_S.rf
  have hB : B0 ≤ s.heap.size := hC.1.2.2.1
  have hl := lv_entry ([.ref (ad 0), .int (nI w), .ref (ad 11)]) (n := 4) (Nat.le_of_ble_eq_true rfl)
  rw [lg_entry_eq]
  generalize (lg_sl ([.ref (ad 0), .int (nI w), .ref (ad 11)]) ++ List.replicate (4 - (lg_sl ([.ref (ad 0), .int (nI w), .ref (ad 11)])).length) Slot.unset).toArray = ls at hl ⊢
  have hl : lv_has ls 4 [(0, .ref (ad 0)), (1, .int (nI w)), (2, .ref (ad 11))] := hl
  refine lv_aload_n hx hb dL_value_0 rfl (lv_at hl 2 rfl) ?_
  refine lv_iconst (v := nI 0) hx hb dL_value_1 (by decide) ?_
  refine lv_aload_n hx hb dL_value_2 rfl (lv_at hl 0 rfl) ?_
  refine lv_iload_n hx hb dL_value_3 rfl (lv_at hl 1 rfl) ?_
  refine k_rV (As := [.int (nI w)]) (rest := [.int (nI 0), .ref (ad 11)]) (c_X0_value l B0 g ct ad cS mS x w hw h) hC ⟨hx, hb, hml, hown, hts⟩ (cwV 1 hts gL_value_X0_value rfl rfl rfl (by decide +kernel) ⟨Nat.le_of_ble_eq_true rfl, Nat.le_of_ble_eq_true rfl⟩) (rc0 hC) rfl hl.1 rfl (Nat.le_of_ble_eq_true rfl) dL_value_4 ⟨Nat.le_of_ble_eq_true rfl, Nat.le_of_ble_eq_true rfl⟩ ?_
  refine lv_i2l (v := (nI (ws0 (so cS) w)).toInt64) hx hb dL_value_7 rfl ?_
  refine w_lo hC hB hS hx hb dL_value_8 (v := (nI (ws0 (so cS) w)).toInt64) (fun H locs hC hS => ?_)
  refine lv_goto (tgt := 15) hx hb dL_value_9 (by decide) ?_
  refine lv_iconst (v := nI 0) hx hb dL_value_15 (by decide) ?_
  refine W.widen (k := 1) (n := 6) (Nat.le_of_ble_eq_true rfl) (Nat.le_of_ble_eq_true rfl) ?_
  exact W.iret hx hb hr (fun t ht hW => ⟨⟨_, ax_o x ((nI (ws0 (so cS) w)).toInt64), rfl, ⟨rfl, (fun _ => ax_o0)⟩, (by show CW B0 g ct ad cS mS (ax_o x ((nI (ws0 (so cS) w)).toInt64)) t.heap; rw [ht]; exact hC.1)⟩, hS.F ht⟩) hS.2.2 dL_value_16
set_option maxHeartbeats 4000000 in
set_option maxRecDepth 100000 in
theorem w_value_1 (l : Launch) (B0 : Nat) (g : va_G) (ct ad : Nat → Nat) (cS mS : St_) (x : Ax_) (hflags : l.stackTraces = false) (v0 : Int64) (w : Int32) (h : wd_ w = false) : WI l yL_value wsL_value 9 1 6 B0 g ct ad cS mS x [.ref (ad 0), .int w, .ref (ad 11)] (nI 1) cS mS (fun u : Ax_ => nI 1 = 0 → xo u 0 = v0) := by
  refine va_MetW (cc := cL_value) (maxL := 4) (ret := (some .int)) (by decide) rfl ?_
  intro p e s m args below meth c s₁ B hml hv
  obtain ⟨rfl, hC⟩ := hv
  have hx := B.exec
  have hb := B.bytes
  have hr := B.returns
  have hts := atoms_spec (ws := wsL_value) B.pre
  have hown : s.vm.findClass RL = some m.cls := findClass_of_methodNamed B.named
  have hlocks := B.notSynchronized
  have htab := vx_table (x := yL_value) B (hts _ List.mem_cons_self)
  have hS : va_S (AA B0) s.heap s.heap [] := va_S.rf
  have hB : B0 ≤ s.heap.size := hC.1.2.2.1
  have hl := lv_entry ([.ref (ad 0), .int w, .ref (ad 11)]) (n := 4) (Nat.le_of_ble_eq_true rfl)
  rw [lg_entry_eq]
  generalize (lg_sl ([.ref (ad 0), .int w, .ref (ad 11)]) ++ List.replicate (4 - (lg_sl ([.ref (ad 0), .int w, .ref (ad 11)])).length) Slot.unset).toArray = ls at hl ⊢
  have hl : lv_has ls 4 [(0, .ref (ad 0)), (1, .int w), (2, .ref (ad 11))] := hl
  refine lv_aload_n hx hb dL_value_0 rfl (lv_at hl 2 rfl) ?_
  refine lv_iconst (v := nI 0) hx hb dL_value_1 (by decide) ?_
  refine lv_aload_n hx hb dL_value_2 rfl (lv_at hl 0 rfl) ?_
  refine lv_iload_n hx hb dL_value_3 rfl (lv_at hl 1 rfl) ?_
  refine k_tV (As := [.int w]) (rest := [.int (nI 0), .ref (ad 11)]) (t_X0_value l B0 g ct ad cS mS x hflags w h) hC hB hS ⟨hx, hb, hml, hown, hts⟩ (cwV 1 hts gL_value_X0_value rfl rfl rfl (by decide +kernel) ⟨Nat.le_of_ble_eq_true rfl, Nat.le_of_ble_eq_true rfl⟩) (rc0 hC) rfl hl.1 rfl (Nat.le_of_ble_eq_true rfl) dL_value_4 ⟨Nat.le_of_ble_eq_true rfl, Nat.le_of_ble_eq_true rfl⟩ (fun ce_ q9_ H locs hC hS hce_ hcv_ hcl_ => ?_)
  refine vx_catch (own := RL) (name := EA_) (E := EA_) hown [] ⟨0, 9, 12, 21⟩ [] (htab.trans rfl) (fun z hz => absurd hz List.not_mem_nil) rfl (by decide) (hts (.classLink RL 21 EA_) (by decide +kernel)) (va_Nw.use rfl (hC.2.2.2.2.2.1 EA_ (by decide))) hce_ hcv_ hcl_ ?_
  refine lv_astore_n (lv' := [(3, .ref q9_), (0, .ref (ad 0)), (1, .int w), (2, .ref (ad 11))]) hx hb dL_value_12 rfl hl (by decide) rfl (fun ls hl => ?_)
  refine lv_iconst (v := nI 1) hx hb dL_value_13 (by decide) ?_
  refine W.widen (k := 1) (n := 6) (Nat.le_of_ble_eq_true rfl) (Nat.le_of_ble_eq_true rfl) ?_
  exact W.iret hx hb hr (fun t ht hW => ⟨⟨_, x, rfl, ⟨rfl, (fun h => absurd h (by decide))⟩, (by show CW B0 g ct ad cS mS x t.heap; rw [ht]; exact hC.1)⟩, hS.F ht⟩) hS.2.2 dL_value_14
set_option maxHeartbeats 4000000 in
set_option maxRecDepth 100000 in
theorem w_alike (l : Launch) (B0 : Nat) (g : va_G) (ct ad : Nat → Nat) (cS mS : St_) (x : Ax_) (a b : Nat) (ha : a < 387420489) (hb_ : b < 387420489) (h : wd_ (nI a) = true) (h2 : wd_ (nI b) = true) : WI l yL_alike wsL_alike 9 1 6 B0 g ct ad cS mS x [.ref (ad 0), .int (nI a), .int (nI b), .ref (ad 11)] (nI 0) cS mS (fun u : Ax_ => nI 0 = 0 → xo u 0 = if b2_ (ak_ a b 26 1) = 0 then 0 else 1) := by
  refine va_MetW (cc := cL_alike) (maxL := 5) (ret := (some .int)) (by decide) rfl ?_
  intro p e s m args below meth c s₁ B hml hv
  obtain ⟨rfl, hC⟩ := hv
  have hx := B.exec
  have hb := B.bytes
  have hr := B.returns
  have hts := atoms_spec (ws := wsL_alike) B.pre
  have hown : s.vm.findClass RL = some m.cls := findClass_of_methodNamed B.named
  have hlocks := B.notSynchronized
  have htab := vx_table (x := yL_alike) B (hts _ List.mem_cons_self)
  have hS : va_S (AA B0) s.heap s.heap [] := va_S.rf
  have hB : B0 ≤ s.heap.size := hC.1.2.2.1
  have hl := lv_entry ([.ref (ad 0), .int (nI a), .int (nI b), .ref (ad 11)]) (n := 5) (Nat.le_of_ble_eq_true rfl)
  rw [lg_entry_eq]
  generalize (lg_sl ([.ref (ad 0), .int (nI a), .int (nI b), .ref (ad 11)]) ++ List.replicate (5 - (lg_sl ([.ref (ad 0), .int (nI a), .int (nI b), .ref (ad 11)])).length) Slot.unset).toArray = ls at hl ⊢
  have hl : lv_has ls 5 [(0, .ref (ad 0)), (1, .int (nI a)), (2, .int (nI b)), (3, .ref (ad 11))] := hl
  refine lv_aload_n hx hb dL_alike_0 rfl (lv_at hl 3 rfl) ?_
  refine lv_iconst (v := nI 0) hx hb dL_alike_1 (by decide) ?_
  refine lv_aload_n hx hb dL_alike_2 rfl (lv_at hl 0 rfl) ?_
  refine lv_iload_n hx hb dL_alike_3 rfl (lv_at hl 1 rfl) ?_
  refine lv_iload_n hx hb dL_alike_4 rfl (lv_at hl 2 rfl) ?_
  refine k_rV (As := [.int (nI a), .int (nI b)]) (rest := [.int (nI 0), .ref (ad 11)]) (c_X0_alike l B0 g ct ad cS mS x a b ha hb_ h h2) hC ⟨hx, hb, hml, hown, hts⟩ (cwV 2 hts gL_alike_X0_alike rfl rfl rfl (by decide +kernel) ⟨Nat.le_of_ble_eq_true rfl, Nat.le_of_ble_eq_true rfl⟩) (rc0 hC) rfl hl.1 rfl (Nat.le_of_ble_eq_true rfl) dL_alike_5 ⟨Nat.le_of_ble_eq_true rfl, Nat.le_of_ble_eq_true rfl⟩ ?_
  refine lv_if_eq (tgt := 15) hx hb dL_alike_8 (by decide) (fun h9 => ?_) (fun h9 => ?_)
  · skip
    refine lv_lconst (v := 0) hx hb dL_alike_15 (by decide) ?_
    refine w_lo hC hB hS hx hb dL_alike_16 (v := 0) (fun H locs hC hS => ?_)
    refine lv_goto (tgt := 24) hx hb dL_alike_17 (by decide) ?_
    refine lv_iconst (v := nI 0) hx hb dL_alike_24 (by decide) ?_
    refine W.widen (k := 1) (n := 6) (Nat.le_of_ble_eq_true rfl) (Nat.le_of_ble_eq_true rfl) ?_
    exact W.iret hx hb hr (fun t ht hW => ⟨⟨_, ax_o x (0), rfl, ⟨rfl, (fun _ => by rw [if_pos h9]; exact ax_o0)⟩, (by show CW B0 g ct ad cS mS (ax_o x (0)) t.heap; rw [ht]; exact hC.1)⟩, hS.F ht⟩) hS.2.2 dL_alike_25
  · skip
    refine lv_lconst (v := 1) hx hb dL_alike_11 (by decide) ?_
    refine lv_goto (tgt := 16) hx hb dL_alike_12 (by decide) ?_
    refine w_lo hC hB hS hx hb dL_alike_16 (v := 1) (fun H locs hC hS => ?_)
    refine lv_goto (tgt := 24) hx hb dL_alike_17 (by decide) ?_
    refine lv_iconst (v := nI 0) hx hb dL_alike_24 (by decide) ?_
    refine W.widen (k := 1) (n := 6) (Nat.le_of_ble_eq_true rfl) (Nat.le_of_ble_eq_true rfl) ?_
    exact W.iret hx hb hr (fun t ht hW => ⟨⟨_, ax_o x (1), rfl, ⟨rfl, (fun _ => by rw [if_neg h9]; exact ax_o0)⟩, (by show CW B0 g ct ad cS mS (ax_o x (1)) t.heap; rw [ht]; exact hC.1)⟩, hS.F ht⟩) hS.2.2 dL_alike_25
set_option maxHeartbeats 4000000 in
set_option maxRecDepth 100000 in
theorem w_alike_1 (l : Launch) (B0 : Nat) (g : va_G) (ct ad : Nat → Nat) (cS mS : St_) (x : Ax_) (hflags : l.stackTraces = false) (v0 : Int64) (a b : Int32) (h : wd_ a = false) : WI l yL_alike wsL_alike 9 1 6 B0 g ct ad cS mS x [.ref (ad 0), .int a, .int b, .ref (ad 11)] (nI 1) cS mS (fun u : Ax_ => nI 1 = 0 → xo u 0 = v0) := by
  refine va_MetW (cc := cL_alike) (maxL := 5) (ret := (some .int)) (by decide) rfl ?_
  intro p e s m args below meth c s₁ B hml hv
  obtain ⟨rfl, hC⟩ := hv
  have hx := B.exec
  have hb := B.bytes
  have hr := B.returns
  have hts := atoms_spec (ws := wsL_alike) B.pre
  have hown : s.vm.findClass RL = some m.cls := findClass_of_methodNamed B.named
  have hlocks := B.notSynchronized
  have htab := vx_table (x := yL_alike) B (hts _ List.mem_cons_self)
  have hS : va_S (AA B0) s.heap s.heap [] := va_S.rf
  have hB : B0 ≤ s.heap.size := hC.1.2.2.1
  have hl := lv_entry ([.ref (ad 0), .int a, .int b, .ref (ad 11)]) (n := 5) (Nat.le_of_ble_eq_true rfl)
  rw [lg_entry_eq]
  generalize (lg_sl ([.ref (ad 0), .int a, .int b, .ref (ad 11)]) ++ List.replicate (5 - (lg_sl ([.ref (ad 0), .int a, .int b, .ref (ad 11)])).length) Slot.unset).toArray = ls at hl ⊢
  have hl : lv_has ls 5 [(0, .ref (ad 0)), (1, .int a), (2, .int b), (3, .ref (ad 11))] := hl
  refine lv_aload_n hx hb dL_alike_0 rfl (lv_at hl 3 rfl) ?_
  refine lv_iconst (v := nI 0) hx hb dL_alike_1 (by decide) ?_
  refine lv_aload_n hx hb dL_alike_2 rfl (lv_at hl 0 rfl) ?_
  refine lv_iload_n hx hb dL_alike_3 rfl (lv_at hl 1 rfl) ?_
  refine lv_iload_n hx hb dL_alike_4 rfl (lv_at hl 2 rfl) ?_
  refine k_tV (As := [.int a, .int b]) (rest := [.int (nI 0), .ref (ad 11)]) (t_X0_alike_1 l B0 g ct ad cS mS x hflags a b h) hC hB hS ⟨hx, hb, hml, hown, hts⟩ (cwV 2 hts gL_alike_X0_alike rfl rfl rfl (by decide +kernel) ⟨Nat.le_of_ble_eq_true rfl, Nat.le_of_ble_eq_true rfl⟩) (rc0 hC) rfl hl.1 rfl (Nat.le_of_ble_eq_true rfl) dL_alike_5 ⟨Nat.le_of_ble_eq_true rfl, Nat.le_of_ble_eq_true rfl⟩ (fun ce_ q9_ H locs hC hS hce_ hcv_ hcl_ => ?_)
  refine vx_catch (own := RL) (name := EA_) (E := EA_) hown [] ⟨0, 17, 20, 21⟩ [] (htab.trans rfl) (fun z hz => absurd hz List.not_mem_nil) rfl (by decide) (hts (.classLink RL 21 EA_) (by decide +kernel)) (va_Nw.use rfl (hC.2.2.2.2.2.1 EA_ (by decide))) hce_ hcv_ hcl_ ?_
  refine lv_astore (lv' := [(4, .ref q9_), (0, .ref (ad 0)), (1, .int a), (2, .int b), (3, .ref (ad 11))]) hx hb dL_alike_20 hl (by decide) rfl (fun ls hl => ?_)
  refine lv_iconst (v := nI 1) hx hb dL_alike_22 (by decide) ?_
  refine W.widen (k := 1) (n := 6) (Nat.le_of_ble_eq_true rfl) (Nat.le_of_ble_eq_true rfl) ?_
  exact W.iret hx hb hr (fun t ht hW => ⟨⟨_, x, rfl, ⟨rfl, (fun h => absurd h (by decide))⟩, (by show CW B0 g ct ad cS mS x t.heap; rw [ht]; exact hC.1)⟩, hS.F ht⟩) hS.2.2 dL_alike_23
set_option maxHeartbeats 4000000 in
set_option maxRecDepth 100000 in
theorem w_alike_2 (l : Launch) (B0 : Nat) (g : va_G) (ct ad : Nat → Nat) (cS mS : St_) (x : Ax_) (hflags : l.stackTraces = false) (v0 : Int64) (a b : Int32) (h : wd_ a = true) (h2 : wd_ b = false) : WI l yL_alike wsL_alike 9 1 6 B0 g ct ad cS mS x [.ref (ad 0), .int a, .int b, .ref (ad 11)] (nI 1) cS mS (fun u : Ax_ => nI 1 = 0 → xo u 0 = v0) := by
  refine va_MetW (cc := cL_alike) (maxL := 5) (ret := (some .int)) (by decide) rfl ?_
  intro p e s m args below meth c s₁ B hml hv
  obtain ⟨rfl, hC⟩ := hv
  have hx := B.exec
  have hb := B.bytes
  have hr := B.returns
  have hts := atoms_spec (ws := wsL_alike) B.pre
  have hown : s.vm.findClass RL = some m.cls := findClass_of_methodNamed B.named
  have hlocks := B.notSynchronized
  have htab := vx_table (x := yL_alike) B (hts _ List.mem_cons_self)
  have hS : va_S (AA B0) s.heap s.heap [] := va_S.rf
  have hB : B0 ≤ s.heap.size := hC.1.2.2.1
  have hl := lv_entry ([.ref (ad 0), .int a, .int b, .ref (ad 11)]) (n := 5) (Nat.le_of_ble_eq_true rfl)
  rw [lg_entry_eq]
  generalize (lg_sl ([.ref (ad 0), .int a, .int b, .ref (ad 11)]) ++ List.replicate (5 - (lg_sl ([.ref (ad 0), .int a, .int b, .ref (ad 11)])).length) Slot.unset).toArray = ls at hl ⊢
  have hl : lv_has ls 5 [(0, .ref (ad 0)), (1, .int a), (2, .int b), (3, .ref (ad 11))] := hl
  refine lv_aload_n hx hb dL_alike_0 rfl (lv_at hl 3 rfl) ?_
  refine lv_iconst (v := nI 0) hx hb dL_alike_1 (by decide) ?_
  refine lv_aload_n hx hb dL_alike_2 rfl (lv_at hl 0 rfl) ?_
  refine lv_iload_n hx hb dL_alike_3 rfl (lv_at hl 1 rfl) ?_
  refine lv_iload_n hx hb dL_alike_4 rfl (lv_at hl 2 rfl) ?_
  refine k_tV (As := [.int a, .int b]) (rest := [.int (nI 0), .ref (ad 11)]) (t_X0_alike_2 l B0 g ct ad cS mS x hflags a b h h2) hC hB hS ⟨hx, hb, hml, hown, hts⟩ (cwV 2 hts gL_alike_X0_alike rfl rfl rfl (by decide +kernel) ⟨Nat.le_of_ble_eq_true rfl, Nat.le_of_ble_eq_true rfl⟩) (rc0 hC) rfl hl.1 rfl (Nat.le_of_ble_eq_true rfl) dL_alike_5 ⟨Nat.le_of_ble_eq_true rfl, Nat.le_of_ble_eq_true rfl⟩ (fun ce_ q9_ H locs hC hS hce_ hcv_ hcl_ => ?_)
  refine vx_catch (own := RL) (name := EA_) (E := EA_) hown [] ⟨0, 17, 20, 21⟩ [] (htab.trans rfl) (fun z hz => absurd hz List.not_mem_nil) rfl (by decide) (hts (.classLink RL 21 EA_) (by decide +kernel)) (va_Nw.use rfl (hC.2.2.2.2.2.1 EA_ (by decide))) hce_ hcv_ hcl_ ?_
  refine lv_astore (lv' := [(4, .ref q9_), (0, .ref (ad 0)), (1, .int a), (2, .int b), (3, .ref (ad 11))]) hx hb dL_alike_20 hl (by decide) rfl (fun ls hl => ?_)
  refine lv_iconst (v := nI 1) hx hb dL_alike_22 (by decide) ?_
  refine W.widen (k := 1) (n := 6) (Nat.le_of_ble_eq_true rfl) (Nat.le_of_ble_eq_true rfl) ?_
  exact W.iret hx hb hr (fun t ht hW => ⟨⟨_, x, rfl, ⟨rfl, (fun h => absurd h (by decide))⟩, (by show CW B0 g ct ad cS mS x t.heap; rw [ht]; exact hC.1)⟩, hS.F ht⟩) hS.2.2 dL_alike_23
set_option maxHeartbeats 4000000 in
set_option maxRecDepth 100000 in
theorem w_write (l : Launch) (B0 : Nat) (g : va_G) (ct ad : Nat → Nat) (cS mS : St_) (x : Ax_) (hn : sn cS < 12) : WI l yL_write wsL_write 9 1 6 B0 g ct ad cS mS x [.ref (ad 0), .ref (ad 11)] (nI 0) (st_write cS) mS (fun u : Ax_ => nI 0 = 0 → xo u 0 = (nI (sn cS)).toInt64) := by
  refine va_MetW (cc := cL_write) (maxL := 3) (ret := (some .int)) (by decide) rfl ?_
  intro p e s m args below meth c s₁ B hml hv
  obtain ⟨rfl, hC⟩ := hv
  have hx := B.exec
  have hb := B.bytes
  have hr := B.returns
  have hts := atoms_spec (ws := wsL_write) B.pre
  have hown : s.vm.findClass RL = some m.cls := findClass_of_methodNamed B.named
  have hlocks := B.notSynchronized
  have htab := vx_table (x := yL_write) B (hts _ List.mem_cons_self)
  have hS : va_S (AA B0) s.heap s.heap [] := va_S.rf
  have hB : B0 ≤ s.heap.size := hC.1.2.2.1
  have hl := lv_entry ([.ref (ad 0), .ref (ad 11)]) (n := 3) (Nat.le_of_ble_eq_true rfl)
  rw [lg_entry_eq]
  generalize (lg_sl ([.ref (ad 0), .ref (ad 11)]) ++ List.replicate (3 - (lg_sl ([.ref (ad 0), .ref (ad 11)])).length) Slot.unset).toArray = ls at hl ⊢
  have hl : lv_has ls 3 [(0, .ref (ad 0)), (1, .ref (ad 11))] := hl
  refine lv_aload_n hx hb dL_write_0 rfl (lv_at hl 1 rfl) ?_
  refine lv_iconst (v := nI 0) hx hb dL_write_1 (by decide) ?_
  refine lv_aload_n hx hb dL_write_2 rfl (lv_at hl 0 rfl) ?_
  refine k_wV (As := []) (rest := [.int (nI 0), .ref (ad 11)]) (c_X0_write l B0 g ct ad cS mS x hn) hC hB hS ⟨hx, hb, hml, hown, hts⟩ (cwV 0 hts gL_write_X0_write rfl rfl rfl (by decide +kernel) ⟨Nat.le_of_ble_eq_true rfl, Nat.le_of_ble_eq_true rfl⟩) (rc0 hC) rfl hl.1 rfl (Nat.le_of_ble_eq_true rfl) dL_write_3 ⟨Nat.le_of_ble_eq_true rfl, Nat.le_of_ble_eq_true rfl⟩ (fun u1 H locs hu1 hC hS => ?_)
  refine lv_i2l (v := (nI (sn cS)).toInt64) hx hb dL_write_6 rfl ?_
  refine w_lo hC hB hS hx hb dL_write_7 (v := (nI (sn cS)).toInt64) (fun H locs hC hS => ?_)
  refine lv_goto (tgt := 14) hx hb dL_write_8 (by decide) ?_
  refine lv_iconst (v := nI 0) hx hb dL_write_14 (by decide) ?_
  refine W.widen (k := 1) (n := 6) (Nat.le_of_ble_eq_true rfl) (Nat.le_of_ble_eq_true rfl) ?_
  exact W.iret hx hb hr (fun t ht hW => ⟨⟨_, ax_o u1 ((nI (sn cS)).toInt64), rfl, ⟨rfl, (fun _ => ax_o0)⟩, (by show CW B0 g ct ad (st_write cS) mS (ax_o u1 ((nI (sn cS)).toInt64)) t.heap; rw [ht]; exact hC.1)⟩, hS.F ht⟩) hS.2.2 dL_write_15
set_option maxHeartbeats 4000000 in
set_option maxRecDepth 100000 in
theorem w_write_1 (l : Launch) (B0 : Nat) (g : va_G) (ct ad : Nat → Nat) (cS mS : St_) (x : Ax_) (hflags : l.stackTraces = false) (v0 : Int64) (hn : ¬ sn cS < 12) : WI l yL_write wsL_write 9 1 6 B0 g ct ad cS mS x [.ref (ad 0), .ref (ad 11)] (nI 1) cS mS (fun u : Ax_ => nI 1 = 0 → xo u 0 = v0) := by
  refine va_MetW (cc := cL_write) (maxL := 3) (ret := (some .int)) (by decide) rfl ?_
  intro p e s m args below meth c s₁ B hml hv
  obtain ⟨rfl, hC⟩ := hv
  have hx := B.exec
  have hb := B.bytes
  have hr := B.returns
  have hts := atoms_spec (ws := wsL_write) B.pre
  have hown : s.vm.findClass RL = some m.cls := findClass_of_methodNamed B.named
  have hlocks := B.notSynchronized
  have htab := vx_table (x := yL_write) B (hts _ List.mem_cons_self)
  have hS : va_S (AA B0) s.heap s.heap [] := va_S.rf
  have hB : B0 ≤ s.heap.size := hC.1.2.2.1
  have hl := lv_entry ([.ref (ad 0), .ref (ad 11)]) (n := 3) (Nat.le_of_ble_eq_true rfl)
  rw [lg_entry_eq]
  generalize (lg_sl ([.ref (ad 0), .ref (ad 11)]) ++ List.replicate (3 - (lg_sl ([.ref (ad 0), .ref (ad 11)])).length) Slot.unset).toArray = ls at hl ⊢
  have hl : lv_has ls 3 [(0, .ref (ad 0)), (1, .ref (ad 11))] := hl
  refine lv_aload_n hx hb dL_write_0 rfl (lv_at hl 1 rfl) ?_
  refine lv_iconst (v := nI 0) hx hb dL_write_1 (by decide) ?_
  refine lv_aload_n hx hb dL_write_2 rfl (lv_at hl 0 rfl) ?_
  refine k_tV (As := []) (rest := [.int (nI 0), .ref (ad 11)]) (t_X0_write l B0 g ct ad cS mS x hflags hn) hC hB hS ⟨hx, hb, hml, hown, hts⟩ (cwV 0 hts gL_write_X0_write rfl rfl rfl (by decide +kernel) ⟨Nat.le_of_ble_eq_true rfl, Nat.le_of_ble_eq_true rfl⟩) (rc0 hC) rfl hl.1 rfl (Nat.le_of_ble_eq_true rfl) dL_write_3 ⟨Nat.le_of_ble_eq_true rfl, Nat.le_of_ble_eq_true rfl⟩ (fun ce_ q9_ H locs hC hS hce_ hcv_ hcl_ => ?_)
  refine vx_catch (own := RL) (name := ES_) (E := ES_) hown [] ⟨0, 8, 11, 31⟩ [] (htab.trans rfl) (fun z hz => absurd hz List.not_mem_nil) rfl (by decide) (hts (.classLink RL 31 ES_) (by decide +kernel)) (va_Nw.use rfl (hC.2.2.2.2.2.1 ES_ (by decide))) hce_ hcv_ hcl_ ?_
  refine lv_astore_n (lv' := [(2, .ref q9_), (0, .ref (ad 0)), (1, .ref (ad 11))]) hx hb dL_write_11 rfl hl (by decide) rfl (fun ls hl => ?_)
  refine lv_iconst (v := nI 1) hx hb dL_write_12 (by decide) ?_
  refine W.widen (k := 1) (n := 6) (Nat.le_of_ble_eq_true rfl) (Nat.le_of_ble_eq_true rfl) ?_
  exact W.iret hx hb hr (fun t ht hW => ⟨⟨_, x, rfl, ⟨rfl, (fun h => absurd h (by decide))⟩, (by show CW B0 g ct ad cS mS x t.heap; rw [ht]; exact hC.1)⟩, hS.F ht⟩) hS.2.2 dL_write_13
set_option maxHeartbeats 4000000 in
set_option maxRecDepth 100000 in
theorem w_add (l : Launch) (B0 : Nat) (g : va_G) (ct ad : Nat → Nat) (cS mS : St_) (x : Ax_) (i w : Nat) (hi : i < sn cS) (hw : w < 387420489) (hwd : wd_ (nI w) = true) (hs : ss cS i < 10) : WI l yL_add wsL_add 9 1 6 B0 g ct ad cS mS x [.ref (ad 0), .int (nI i), .int (nI w), .ref (ad 11)] (nI 0) (st_add cS i w) mS (fun u : Ax_ => nI 0 = 0 → xo u 0 = (nI (ss cS i + 1)).toInt64) := by
  refine va_MetW (cc := cL_add) (maxL := 5) (ret := (some .int)) (by decide) rfl ?_
  intro p e s m args below meth c s₁ B hml hv
  obtain ⟨rfl, hC⟩ := hv
  have hx := B.exec
  have hb := B.bytes
  have hr := B.returns
  have hts := atoms_spec (ws := wsL_add) B.pre
  have hown : s.vm.findClass RL = some m.cls := findClass_of_methodNamed B.named
  have hlocks := B.notSynchronized
  have htab := vx_table (x := yL_add) B (hts _ List.mem_cons_self)
  have hS : va_S (AA B0) s.heap s.heap [] := va_S.rf
  have hB : B0 ≤ s.heap.size := hC.1.2.2.1
  have hl := lv_entry ([.ref (ad 0), .int (nI i), .int (nI w), .ref (ad 11)]) (n := 5) (Nat.le_of_ble_eq_true rfl)
  rw [lg_entry_eq]
  generalize (lg_sl ([.ref (ad 0), .int (nI i), .int (nI w), .ref (ad 11)]) ++ List.replicate (5 - (lg_sl ([.ref (ad 0), .int (nI i), .int (nI w), .ref (ad 11)])).length) Slot.unset).toArray = ls at hl ⊢
  have hl : lv_has ls 5 [(0, .ref (ad 0)), (1, .int (nI i)), (2, .int (nI w)), (3, .ref (ad 11))] := hl
  refine lv_aload_n hx hb dL_add_0 rfl (lv_at hl 3 rfl) ?_
  refine lv_iconst (v := nI 0) hx hb dL_add_1 (by decide) ?_
  refine lv_aload_n hx hb dL_add_2 rfl (lv_at hl 0 rfl) ?_
  refine lv_iload_n hx hb dL_add_3 rfl (lv_at hl 1 rfl) ?_
  refine lv_iload_n hx hb dL_add_4 rfl (lv_at hl 2 rfl) ?_
  refine k_wV (As := [.int (nI i), .int (nI w)]) (rest := [.int (nI 0), .ref (ad 11)]) (c_X0_add l B0 g ct ad cS mS x i w hi hw hwd hs) hC hB hS ⟨hx, hb, hml, hown, hts⟩ (cwV 2 hts gL_add_X0_add rfl rfl rfl (by decide +kernel) ⟨Nat.le_of_ble_eq_true rfl, Nat.le_of_ble_eq_true rfl⟩) (rc0 hC) rfl hl.1 rfl (Nat.le_of_ble_eq_true rfl) dL_add_5 ⟨Nat.le_of_ble_eq_true rfl, Nat.le_of_ble_eq_true rfl⟩ (fun u1 H locs hu1 hC hS => ?_)
  refine lv_i2l (v := (nI (ss cS i + 1)).toInt64) hx hb dL_add_8 rfl ?_
  refine w_lo hC hB hS hx hb dL_add_9 (v := (nI (ss cS i + 1)).toInt64) (fun H locs hC hS => ?_)
  refine lv_goto (tgt := 25) hx hb dL_add_10 (by decide) ?_
  refine lv_iconst (v := nI 0) hx hb dL_add_25 (by decide) ?_
  refine W.widen (k := 1) (n := 6) (Nat.le_of_ble_eq_true rfl) (Nat.le_of_ble_eq_true rfl) ?_
  exact W.iret hx hb hr (fun t ht hW => ⟨⟨_, ax_o u1 ((nI (ss cS i + 1)).toInt64), rfl, ⟨rfl, (fun _ => ax_o0)⟩, (by show CW B0 g ct ad (st_add cS i w) mS (ax_o u1 ((nI (ss cS i + 1)).toInt64)) t.heap; rw [ht]; exact hC.1)⟩, hS.F ht⟩) hS.2.2 dL_add_26
set_option maxHeartbeats 4000000 in
set_option maxRecDepth 100000 in
theorem w_add_1 (l : Launch) (B0 : Nat) (g : va_G) (ct ad : Nat → Nat) (cS mS : St_) (x : Ax_) (hflags : l.stackTraces = false) (v0 : Int64) (li : Int32) (h : li < 0 ∨ nI (sn cS) ≤ li) (w : Int32) : WI l yL_add wsL_add 9 1 6 B0 g ct ad cS mS x [.ref (ad 0), .int li, .int w, .ref (ad 11)] (nI 1) cS mS (fun u : Ax_ => nI 1 = 0 → xo u 0 = v0) := by
  refine va_MetW (cc := cL_add) (maxL := 5) (ret := (some .int)) (by decide) rfl ?_
  intro p e s m args below meth c s₁ B hml hv
  obtain ⟨rfl, hC⟩ := hv
  have hx := B.exec
  have hb := B.bytes
  have hr := B.returns
  have hts := atoms_spec (ws := wsL_add) B.pre
  have hown : s.vm.findClass RL = some m.cls := findClass_of_methodNamed B.named
  have hlocks := B.notSynchronized
  have htab := vx_table (x := yL_add) B (hts _ List.mem_cons_self)
  have hS : va_S (AA B0) s.heap s.heap [] := va_S.rf
  have hB : B0 ≤ s.heap.size := hC.1.2.2.1
  have hl := lv_entry ([.ref (ad 0), .int li, .int w, .ref (ad 11)]) (n := 5) (Nat.le_of_ble_eq_true rfl)
  rw [lg_entry_eq]
  generalize (lg_sl ([.ref (ad 0), .int li, .int w, .ref (ad 11)]) ++ List.replicate (5 - (lg_sl ([.ref (ad 0), .int li, .int w, .ref (ad 11)])).length) Slot.unset).toArray = ls at hl ⊢
  have hl : lv_has ls 5 [(0, .ref (ad 0)), (1, .int li), (2, .int w), (3, .ref (ad 11))] := hl
  refine lv_aload_n hx hb dL_add_0 rfl (lv_at hl 3 rfl) ?_
  refine lv_iconst (v := nI 0) hx hb dL_add_1 (by decide) ?_
  refine lv_aload_n hx hb dL_add_2 rfl (lv_at hl 0 rfl) ?_
  refine lv_iload_n hx hb dL_add_3 rfl (lv_at hl 1 rfl) ?_
  refine lv_iload_n hx hb dL_add_4 rfl (lv_at hl 2 rfl) ?_
  refine k_tV (As := [.int li, .int w]) (rest := [.int (nI 0), .ref (ad 11)]) (t_X0_add_1 l B0 g ct ad cS mS x hflags li h w) hC hB hS ⟨hx, hb, hml, hown, hts⟩ (cwV 2 hts gL_add_X0_add rfl rfl rfl (by decide +kernel) ⟨Nat.le_of_ble_eq_true rfl, Nat.le_of_ble_eq_true rfl⟩) (rc0 hC) rfl hl.1 rfl (Nat.le_of_ble_eq_true rfl) dL_add_5 ⟨Nat.le_of_ble_eq_true rfl, Nat.le_of_ble_eq_true rfl⟩ (fun ce_ q9_ H locs hC hS hce_ hcv_ hcl_ => ?_)
  refine vx_catch (own := RL) (name := EI_) (E := EI_) hown [] ⟨0, 10, 13, 13⟩ [⟨0, 10, 17, 21⟩, ⟨0, 10, 21, 31⟩] (htab.trans rfl) (fun z hz => absurd hz List.not_mem_nil) rfl (by decide) (hts (.classLink RL 13 EI_) (by decide +kernel)) (va_Nw.use rfl (hC.2.2.2.2.2.1 EI_ (by decide))) hce_ hcv_ hcl_ ?_
  refine lv_astore (lv' := [(4, .ref q9_), (0, .ref (ad 0)), (1, .int li), (2, .int w), (3, .ref (ad 11))]) hx hb dL_add_13 hl (by decide) rfl (fun ls hl => ?_)
  refine lv_iconst (v := nI 1) hx hb dL_add_15 (by decide) ?_
  refine W.widen (k := 1) (n := 6) (Nat.le_of_ble_eq_true rfl) (Nat.le_of_ble_eq_true rfl) ?_
  exact W.iret hx hb hr (fun t ht hW => ⟨⟨_, x, rfl, ⟨rfl, (fun h => absurd h (by decide))⟩, (by show CW B0 g ct ad cS mS x t.heap; rw [ht]; exact hC.1)⟩, hS.F ht⟩) hS.2.2 dL_add_16
set_option maxHeartbeats 4000000 in
set_option maxRecDepth 100000 in
theorem w_add_2 (l : Launch) (B0 : Nat) (g : va_G) (ct ad : Nat → Nat) (cS mS : St_) (x : Ax_) (hflags : l.stackTraces = false) (v0 : Int64) (i : Nat) (hi : i < sn cS) (w : Int32) (h : wd_ w = false) : WI l yL_add wsL_add 9 1 6 B0 g ct ad cS mS x [.ref (ad 0), .int (nI i), .int w, .ref (ad 11)] (nI 2) cS mS (fun u : Ax_ => nI 2 = 0 → xo u 0 = v0) := by
  refine va_MetW (cc := cL_add) (maxL := 5) (ret := (some .int)) (by decide) rfl ?_
  intro p e s m args below meth c s₁ B hml hv
  obtain ⟨rfl, hC⟩ := hv
  have hx := B.exec
  have hb := B.bytes
  have hr := B.returns
  have hts := atoms_spec (ws := wsL_add) B.pre
  have hown : s.vm.findClass RL = some m.cls := findClass_of_methodNamed B.named
  have hlocks := B.notSynchronized
  have htab := vx_table (x := yL_add) B (hts _ List.mem_cons_self)
  have hS : va_S (AA B0) s.heap s.heap [] := va_S.rf
  have hB : B0 ≤ s.heap.size := hC.1.2.2.1
  have hl := lv_entry ([.ref (ad 0), .int (nI i), .int w, .ref (ad 11)]) (n := 5) (Nat.le_of_ble_eq_true rfl)
  rw [lg_entry_eq]
  generalize (lg_sl ([.ref (ad 0), .int (nI i), .int w, .ref (ad 11)]) ++ List.replicate (5 - (lg_sl ([.ref (ad 0), .int (nI i), .int w, .ref (ad 11)])).length) Slot.unset).toArray = ls at hl ⊢
  have hl : lv_has ls 5 [(0, .ref (ad 0)), (1, .int (nI i)), (2, .int w), (3, .ref (ad 11))] := hl
  refine lv_aload_n hx hb dL_add_0 rfl (lv_at hl 3 rfl) ?_
  refine lv_iconst (v := nI 0) hx hb dL_add_1 (by decide) ?_
  refine lv_aload_n hx hb dL_add_2 rfl (lv_at hl 0 rfl) ?_
  refine lv_iload_n hx hb dL_add_3 rfl (lv_at hl 1 rfl) ?_
  refine lv_iload_n hx hb dL_add_4 rfl (lv_at hl 2 rfl) ?_
  refine k_tV (As := [.int (nI i), .int w]) (rest := [.int (nI 0), .ref (ad 11)]) (t_X0_add_2 l B0 g ct ad cS mS x hflags i hi w h) hC hB hS ⟨hx, hb, hml, hown, hts⟩ (cwV 2 hts gL_add_X0_add rfl rfl rfl (by decide +kernel) ⟨Nat.le_of_ble_eq_true rfl, Nat.le_of_ble_eq_true rfl⟩) (rc0 hC) rfl hl.1 rfl (Nat.le_of_ble_eq_true rfl) dL_add_5 ⟨Nat.le_of_ble_eq_true rfl, Nat.le_of_ble_eq_true rfl⟩ (fun ce_ q9_ H locs hC hS hce_ hcv_ hcl_ => ?_)
  have hpas : ∀ z ∈ ([⟨0, 10, 13, 13⟩] : List ExceptionTableEntry), covers z 5 = false ∨ (z.catchType ≠ 0 ∧ ∃ nm : String, (Cond.classLink RL z.catchType nm).before ([.ref (ad 0), .int (nI i), .int w, .ref (ad 11)] : List Value).toArray s = true ∧ va_Nc EA_ nm s) := by
    intro z hz
    simp only [List.mem_cons, List.not_mem_nil, or_false] at hz
    rcases hz with rfl
    · exact Or.inr ⟨by decide, EI_, hts (.classLink RL 13 EI_) (by decide +kernel), hC.2.2.2.2.2.2.2 EA_ (by decide) EI_ (by decide) (by decide)⟩
  refine vx_catch (own := RL) (name := EA_) (E := EA_) hown [⟨0, 10, 13, 13⟩] ⟨0, 10, 17, 21⟩ [⟨0, 10, 21, 31⟩] (htab.trans rfl) hpas rfl (by decide) (hts (.classLink RL 21 EA_) (by decide +kernel)) (va_Nw.use rfl (hC.2.2.2.2.2.1 EA_ (by decide))) hce_ hcv_ hcl_ ?_
  refine lv_astore (lv' := [(4, .ref q9_), (0, .ref (ad 0)), (1, .int (nI i)), (2, .int w), (3, .ref (ad 11))]) hx hb dL_add_17 hl (by decide) rfl (fun ls hl => ?_)
  refine lv_iconst (v := nI 2) hx hb dL_add_19 (by decide) ?_
  refine W.widen (k := 1) (n := 6) (Nat.le_of_ble_eq_true rfl) (Nat.le_of_ble_eq_true rfl) ?_
  exact W.iret hx hb hr (fun t ht hW => ⟨⟨_, x, rfl, ⟨rfl, (fun h => absurd h (by decide))⟩, (by show CW B0 g ct ad cS mS x t.heap; rw [ht]; exact hC.1)⟩, hS.F ht⟩) hS.2.2 dL_add_20
set_option maxHeartbeats 4000000 in
set_option maxRecDepth 100000 in
theorem w_add_3 (l : Launch) (B0 : Nat) (g : va_G) (ct ad : Nat → Nat) (cS mS : St_) (x : Ax_) (hflags : l.stackTraces = false) (v0 : Int64) (i : Nat) (hi : i < sn cS) (w : Int32) (h : wd_ w = true) (hs : ¬ ss cS i < 10) : WI l yL_add wsL_add 9 1 6 B0 g ct ad cS mS x [.ref (ad 0), .int (nI i), .int w, .ref (ad 11)] (nI 3) cS mS (fun u : Ax_ => nI 3 = 0 → xo u 0 = v0) := by
  refine va_MetW (cc := cL_add) (maxL := 5) (ret := (some .int)) (by decide) rfl ?_
  intro p e s m args below meth c s₁ B hml hv
  obtain ⟨rfl, hC⟩ := hv
  have hx := B.exec
  have hb := B.bytes
  have hr := B.returns
  have hts := atoms_spec (ws := wsL_add) B.pre
  have hown : s.vm.findClass RL = some m.cls := findClass_of_methodNamed B.named
  have hlocks := B.notSynchronized
  have htab := vx_table (x := yL_add) B (hts _ List.mem_cons_self)
  have hS : va_S (AA B0) s.heap s.heap [] := va_S.rf
  have hB : B0 ≤ s.heap.size := hC.1.2.2.1
  have hl := lv_entry ([.ref (ad 0), .int (nI i), .int w, .ref (ad 11)]) (n := 5) (Nat.le_of_ble_eq_true rfl)
  rw [lg_entry_eq]
  generalize (lg_sl ([.ref (ad 0), .int (nI i), .int w, .ref (ad 11)]) ++ List.replicate (5 - (lg_sl ([.ref (ad 0), .int (nI i), .int w, .ref (ad 11)])).length) Slot.unset).toArray = ls at hl ⊢
  have hl : lv_has ls 5 [(0, .ref (ad 0)), (1, .int (nI i)), (2, .int w), (3, .ref (ad 11))] := hl
  refine lv_aload_n hx hb dL_add_0 rfl (lv_at hl 3 rfl) ?_
  refine lv_iconst (v := nI 0) hx hb dL_add_1 (by decide) ?_
  refine lv_aload_n hx hb dL_add_2 rfl (lv_at hl 0 rfl) ?_
  refine lv_iload_n hx hb dL_add_3 rfl (lv_at hl 1 rfl) ?_
  refine lv_iload_n hx hb dL_add_4 rfl (lv_at hl 2 rfl) ?_
  refine k_tV (As := [.int (nI i), .int w]) (rest := [.int (nI 0), .ref (ad 11)]) (t_X0_add_3 l B0 g ct ad cS mS x hflags i hi w h hs) hC hB hS ⟨hx, hb, hml, hown, hts⟩ (cwV 2 hts gL_add_X0_add rfl rfl rfl (by decide +kernel) ⟨Nat.le_of_ble_eq_true rfl, Nat.le_of_ble_eq_true rfl⟩) (rc0 hC) rfl hl.1 rfl (Nat.le_of_ble_eq_true rfl) dL_add_5 ⟨Nat.le_of_ble_eq_true rfl, Nat.le_of_ble_eq_true rfl⟩ (fun ce_ q9_ H locs hC hS hce_ hcv_ hcl_ => ?_)
  have hpas : ∀ z ∈ ([⟨0, 10, 13, 13⟩, ⟨0, 10, 17, 21⟩] : List ExceptionTableEntry), covers z 5 = false ∨ (z.catchType ≠ 0 ∧ ∃ nm : String, (Cond.classLink RL z.catchType nm).before ([.ref (ad 0), .int (nI i), .int w, .ref (ad 11)] : List Value).toArray s = true ∧ va_Nc ES_ nm s) := by
    intro z hz
    simp only [List.mem_cons, List.not_mem_nil, or_false] at hz
    rcases hz with rfl | rfl
    · exact Or.inr ⟨by decide, EI_, hts (.classLink RL 13 EI_) (by decide +kernel), hC.2.2.2.2.2.2.2 ES_ (by decide) EI_ (by decide) (by decide)⟩
    · exact Or.inr ⟨by decide, EA_, hts (.classLink RL 21 EA_) (by decide +kernel), hC.2.2.2.2.2.2.2 ES_ (by decide) EA_ (by decide) (by decide)⟩
  refine vx_catch (own := RL) (name := ES_) (E := ES_) hown [⟨0, 10, 13, 13⟩, ⟨0, 10, 17, 21⟩] ⟨0, 10, 21, 31⟩ [] (htab.trans rfl) hpas rfl (by decide) (hts (.classLink RL 31 ES_) (by decide +kernel)) (va_Nw.use rfl (hC.2.2.2.2.2.1 ES_ (by decide))) hce_ hcv_ hcl_ ?_
  refine lv_astore (lv' := [(4, .ref q9_), (0, .ref (ad 0)), (1, .int (nI i)), (2, .int w), (3, .ref (ad 11))]) hx hb dL_add_21 hl (by decide) rfl (fun ls hl => ?_)
  refine lv_iconst (v := nI 3) hx hb dL_add_23 (by decide) ?_
  refine W.widen (k := 1) (n := 6) (Nat.le_of_ble_eq_true rfl) (Nat.le_of_ble_eq_true rfl) ?_
  exact W.iret hx hb hr (fun t ht hW => ⟨⟨_, x, rfl, ⟨rfl, (fun h => absurd h (by decide))⟩, (by show CW B0 g ct ad cS mS x t.heap; rw [ht]; exact hC.1)⟩, hS.F ht⟩) hS.2.2 dL_add_24
set_option maxHeartbeats 4000000 in
set_option maxRecDepth 100000 in
theorem w_cut (l : Launch) (B0 : Nat) (g : va_G) (ct ad : Nat → Nat) (cS mS : St_) (x : Ax_) (i : Nat) (hi : i < sn cS) (hs : 0 < ss cS i) : WI l yL_cut wsL_cut 9 1 6 B0 g ct ad cS mS x [.ref (ad 0), .int (nI i), .ref (ad 11)] (nI 0) (st_cut cS i) mS (fun u : Ax_ => nI 0 = 0 → xo u 0 = (nI (sw cS (10 * i + (ss cS i - 1)))).toInt64) := by
  refine va_MetW (cc := cL_cut) (maxL := 4) (ret := (some .int)) (by decide) rfl ?_
  intro p e s m args below meth c s₁ B hml hv
  obtain ⟨rfl, hC⟩ := hv
  have hx := B.exec
  have hb := B.bytes
  have hr := B.returns
  have hts := atoms_spec (ws := wsL_cut) B.pre
  have hown : s.vm.findClass RL = some m.cls := findClass_of_methodNamed B.named
  have hlocks := B.notSynchronized
  have htab := vx_table (x := yL_cut) B (hts _ List.mem_cons_self)
  have hS : va_S (AA B0) s.heap s.heap [] := va_S.rf
  have hB : B0 ≤ s.heap.size := hC.1.2.2.1
  have hl := lv_entry ([.ref (ad 0), .int (nI i), .ref (ad 11)]) (n := 4) (Nat.le_of_ble_eq_true rfl)
  rw [lg_entry_eq]
  generalize (lg_sl ([.ref (ad 0), .int (nI i), .ref (ad 11)]) ++ List.replicate (4 - (lg_sl ([.ref (ad 0), .int (nI i), .ref (ad 11)])).length) Slot.unset).toArray = ls at hl ⊢
  have hl : lv_has ls 4 [(0, .ref (ad 0)), (1, .int (nI i)), (2, .ref (ad 11))] := hl
  refine lv_aload_n hx hb dL_cut_0 rfl (lv_at hl 2 rfl) ?_
  refine lv_iconst (v := nI 0) hx hb dL_cut_1 (by decide) ?_
  refine lv_aload_n hx hb dL_cut_2 rfl (lv_at hl 0 rfl) ?_
  refine lv_iload_n hx hb dL_cut_3 rfl (lv_at hl 1 rfl) ?_
  refine k_wV (As := [.int (nI i)]) (rest := [.int (nI 0), .ref (ad 11)]) (c_X0_cut l B0 g ct ad cS mS x i hi hs) hC hB hS ⟨hx, hb, hml, hown, hts⟩ (cwV 1 hts gL_cut_X0_cut rfl rfl rfl (by decide +kernel) ⟨Nat.le_of_ble_eq_true rfl, Nat.le_of_ble_eq_true rfl⟩) (rc0 hC) rfl hl.1 rfl (Nat.le_of_ble_eq_true rfl) dL_cut_4 ⟨Nat.le_of_ble_eq_true rfl, Nat.le_of_ble_eq_true rfl⟩ (fun u1 H locs hu1 hC hS => ?_)
  refine lv_i2l (v := (nI (sw cS (10 * i + (ss cS i - 1)))).toInt64) hx hb dL_cut_7 rfl ?_
  refine w_lo hC hB hS hx hb dL_cut_8 (v := (nI (sw cS (10 * i + (ss cS i - 1)))).toInt64) (fun H locs hC hS => ?_)
  refine lv_goto (tgt := 18) hx hb dL_cut_9 (by decide) ?_
  refine lv_iconst (v := nI 0) hx hb dL_cut_18 (by decide) ?_
  refine W.widen (k := 1) (n := 6) (Nat.le_of_ble_eq_true rfl) (Nat.le_of_ble_eq_true rfl) ?_
  exact W.iret hx hb hr (fun t ht hW => ⟨⟨_, ax_o u1 ((nI (sw cS (10 * i + (ss cS i - 1)))).toInt64), rfl, ⟨rfl, (fun _ => ax_o0)⟩, (by show CW B0 g ct ad (st_cut cS i) mS (ax_o u1 ((nI (sw cS (10 * i + (ss cS i - 1)))).toInt64)) t.heap; rw [ht]; exact hC.1)⟩, hS.F ht⟩) hS.2.2 dL_cut_19
set_option maxHeartbeats 4000000 in
set_option maxRecDepth 100000 in
theorem w_cut_1 (l : Launch) (B0 : Nat) (g : va_G) (ct ad : Nat → Nat) (cS mS : St_) (x : Ax_) (hflags : l.stackTraces = false) (v0 : Int64) (li : Int32) (h : li < 0 ∨ nI (sn cS) ≤ li) : WI l yL_cut wsL_cut 9 1 6 B0 g ct ad cS mS x [.ref (ad 0), .int li, .ref (ad 11)] (nI 1) cS mS (fun u : Ax_ => nI 1 = 0 → xo u 0 = v0) := by
  refine va_MetW (cc := cL_cut) (maxL := 4) (ret := (some .int)) (by decide) rfl ?_
  intro p e s m args below meth c s₁ B hml hv
  obtain ⟨rfl, hC⟩ := hv
  have hx := B.exec
  have hb := B.bytes
  have hr := B.returns
  have hts := atoms_spec (ws := wsL_cut) B.pre
  have hown : s.vm.findClass RL = some m.cls := findClass_of_methodNamed B.named
  have hlocks := B.notSynchronized
  have htab := vx_table (x := yL_cut) B (hts _ List.mem_cons_self)
  have hS : va_S (AA B0) s.heap s.heap [] := va_S.rf
  have hB : B0 ≤ s.heap.size := hC.1.2.2.1
  have hl := lv_entry ([.ref (ad 0), .int li, .ref (ad 11)]) (n := 4) (Nat.le_of_ble_eq_true rfl)
  rw [lg_entry_eq]
  generalize (lg_sl ([.ref (ad 0), .int li, .ref (ad 11)]) ++ List.replicate (4 - (lg_sl ([.ref (ad 0), .int li, .ref (ad 11)])).length) Slot.unset).toArray = ls at hl ⊢
  have hl : lv_has ls 4 [(0, .ref (ad 0)), (1, .int li), (2, .ref (ad 11))] := hl
  refine lv_aload_n hx hb dL_cut_0 rfl (lv_at hl 2 rfl) ?_
  refine lv_iconst (v := nI 0) hx hb dL_cut_1 (by decide) ?_
  refine lv_aload_n hx hb dL_cut_2 rfl (lv_at hl 0 rfl) ?_
  refine lv_iload_n hx hb dL_cut_3 rfl (lv_at hl 1 rfl) ?_
  refine k_tV (As := [.int li]) (rest := [.int (nI 0), .ref (ad 11)]) (t_X0_cut_1 l B0 g ct ad cS mS x hflags li h) hC hB hS ⟨hx, hb, hml, hown, hts⟩ (cwV 1 hts gL_cut_X0_cut rfl rfl rfl (by decide +kernel) ⟨Nat.le_of_ble_eq_true rfl, Nat.le_of_ble_eq_true rfl⟩) (rc0 hC) rfl hl.1 rfl (Nat.le_of_ble_eq_true rfl) dL_cut_4 ⟨Nat.le_of_ble_eq_true rfl, Nat.le_of_ble_eq_true rfl⟩ (fun ce_ q9_ H locs hC hS hce_ hcv_ hcl_ => ?_)
  refine vx_catch (own := RL) (name := EI_) (E := EI_) hown [] ⟨0, 9, 12, 13⟩ [⟨0, 9, 15, 31⟩] (htab.trans rfl) (fun z hz => absurd hz List.not_mem_nil) rfl (by decide) (hts (.classLink RL 13 EI_) (by decide +kernel)) (va_Nw.use rfl (hC.2.2.2.2.2.1 EI_ (by decide))) hce_ hcv_ hcl_ ?_
  refine lv_astore_n (lv' := [(3, .ref q9_), (0, .ref (ad 0)), (1, .int li), (2, .ref (ad 11))]) hx hb dL_cut_12 rfl hl (by decide) rfl (fun ls hl => ?_)
  refine lv_iconst (v := nI 1) hx hb dL_cut_13 (by decide) ?_
  refine W.widen (k := 1) (n := 6) (Nat.le_of_ble_eq_true rfl) (Nat.le_of_ble_eq_true rfl) ?_
  exact W.iret hx hb hr (fun t ht hW => ⟨⟨_, x, rfl, ⟨rfl, (fun h => absurd h (by decide))⟩, (by show CW B0 g ct ad cS mS x t.heap; rw [ht]; exact hC.1)⟩, hS.F ht⟩) hS.2.2 dL_cut_14
set_option maxHeartbeats 4000000 in
set_option maxRecDepth 100000 in
theorem w_cut_2 (l : Launch) (B0 : Nat) (g : va_G) (ct ad : Nat → Nat) (cS mS : St_) (x : Ax_) (hflags : l.stackTraces = false) (v0 : Int64) (i : Nat) (hi : i < sn cS) (hs : ss cS i = 0) : WI l yL_cut wsL_cut 9 1 6 B0 g ct ad cS mS x [.ref (ad 0), .int (nI i), .ref (ad 11)] (nI 2) cS mS (fun u : Ax_ => nI 2 = 0 → xo u 0 = v0) := by
  refine va_MetW (cc := cL_cut) (maxL := 4) (ret := (some .int)) (by decide) rfl ?_
  intro p e s m args below meth c s₁ B hml hv
  obtain ⟨rfl, hC⟩ := hv
  have hx := B.exec
  have hb := B.bytes
  have hr := B.returns
  have hts := atoms_spec (ws := wsL_cut) B.pre
  have hown : s.vm.findClass RL = some m.cls := findClass_of_methodNamed B.named
  have hlocks := B.notSynchronized
  have htab := vx_table (x := yL_cut) B (hts _ List.mem_cons_self)
  have hS : va_S (AA B0) s.heap s.heap [] := va_S.rf
  have hB : B0 ≤ s.heap.size := hC.1.2.2.1
  have hl := lv_entry ([.ref (ad 0), .int (nI i), .ref (ad 11)]) (n := 4) (Nat.le_of_ble_eq_true rfl)
  rw [lg_entry_eq]
  generalize (lg_sl ([.ref (ad 0), .int (nI i), .ref (ad 11)]) ++ List.replicate (4 - (lg_sl ([.ref (ad 0), .int (nI i), .ref (ad 11)])).length) Slot.unset).toArray = ls at hl ⊢
  have hl : lv_has ls 4 [(0, .ref (ad 0)), (1, .int (nI i)), (2, .ref (ad 11))] := hl
  refine lv_aload_n hx hb dL_cut_0 rfl (lv_at hl 2 rfl) ?_
  refine lv_iconst (v := nI 0) hx hb dL_cut_1 (by decide) ?_
  refine lv_aload_n hx hb dL_cut_2 rfl (lv_at hl 0 rfl) ?_
  refine lv_iload_n hx hb dL_cut_3 rfl (lv_at hl 1 rfl) ?_
  refine k_tV (As := [.int (nI i)]) (rest := [.int (nI 0), .ref (ad 11)]) (t_X0_cut_2 l B0 g ct ad cS mS x hflags i hi hs) hC hB hS ⟨hx, hb, hml, hown, hts⟩ (cwV 1 hts gL_cut_X0_cut rfl rfl rfl (by decide +kernel) ⟨Nat.le_of_ble_eq_true rfl, Nat.le_of_ble_eq_true rfl⟩) (rc0 hC) rfl hl.1 rfl (Nat.le_of_ble_eq_true rfl) dL_cut_4 ⟨Nat.le_of_ble_eq_true rfl, Nat.le_of_ble_eq_true rfl⟩ (fun ce_ q9_ H locs hC hS hce_ hcv_ hcl_ => ?_)
  have hpas : ∀ z ∈ ([⟨0, 9, 12, 13⟩] : List ExceptionTableEntry), covers z 4 = false ∨ (z.catchType ≠ 0 ∧ ∃ nm : String, (Cond.classLink RL z.catchType nm).before ([.ref (ad 0), .int (nI i), .ref (ad 11)] : List Value).toArray s = true ∧ va_Nc ES_ nm s) := by
    intro z hz
    simp only [List.mem_cons, List.not_mem_nil, or_false] at hz
    rcases hz with rfl
    · exact Or.inr ⟨by decide, EI_, hts (.classLink RL 13 EI_) (by decide +kernel), hC.2.2.2.2.2.2.2 ES_ (by decide) EI_ (by decide) (by decide)⟩
  refine vx_catch (own := RL) (name := ES_) (E := ES_) hown [⟨0, 9, 12, 13⟩] ⟨0, 9, 15, 31⟩ [] (htab.trans rfl) hpas rfl (by decide) (hts (.classLink RL 31 ES_) (by decide +kernel)) (va_Nw.use rfl (hC.2.2.2.2.2.1 ES_ (by decide))) hce_ hcv_ hcl_ ?_
  refine lv_astore_n (lv' := [(3, .ref q9_), (0, .ref (ad 0)), (1, .int (nI i)), (2, .ref (ad 11))]) hx hb dL_cut_15 rfl hl (by decide) rfl (fun ls hl => ?_)
  refine lv_iconst (v := nI 2) hx hb dL_cut_16 (by decide) ?_
  refine W.widen (k := 1) (n := 6) (Nat.le_of_ble_eq_true rfl) (Nat.le_of_ble_eq_true rfl) ?_
  exact W.iret hx hb hr (fun t ht hW => ⟨⟨_, x, rfl, ⟨rfl, (fun h => absurd h (by decide))⟩, (by show CW B0 g ct ad cS mS x t.heap; rw [ht]; exact hC.1)⟩, hS.F ht⟩) hS.2.2 dL_cut_17
set_option maxHeartbeats 4000000 in
set_option maxRecDepth 100000 in
theorem w_mark (l : Launch) (B0 : Nat) (g : va_G) (ct ad : Nat → Nat) (cS mS : St_) (x : Ax_) (i w p_ : Nat) (hi : i < sn cS) (hw : w < ss cS i) (hp : p_ < ln_ (sw cS (10 * i + w))) : WI l yL_mark wsL_mark 9 1 6 B0 g ct ad cS mS x [.ref (ad 0), .int (nI i), .int (nI w), .int (nI p_), .ref (ad 11)] (nI 0) (st_mark cS (10 * i + w) p_) mS (fun u : Ax_ => nI 0 = 0 → xo u 0 = if b2_ ((sk cS (10 * i + w) ^^^ 2 ^ p_).testBit p_) = 0 then 0 else 1) := by
  refine va_MetW (cc := cL_mark) (maxL := 6) (ret := (some .int)) (by decide) rfl ?_
  intro p e s m args below meth c s₁ B hml hv
  obtain ⟨rfl, hC⟩ := hv
  have hx := B.exec
  have hb := B.bytes
  have hr := B.returns
  have hts := atoms_spec (ws := wsL_mark) B.pre
  have hown : s.vm.findClass RL = some m.cls := findClass_of_methodNamed B.named
  have hlocks := B.notSynchronized
  have htab := vx_table (x := yL_mark) B (hts _ List.mem_cons_self)
  have hS : va_S (AA B0) s.heap s.heap [] := va_S.rf
  have hB : B0 ≤ s.heap.size := hC.1.2.2.1
  have hl := lv_entry ([.ref (ad 0), .int (nI i), .int (nI w), .int (nI p_), .ref (ad 11)]) (n := 6) (Nat.le_of_ble_eq_true rfl)
  rw [lg_entry_eq]
  generalize (lg_sl ([.ref (ad 0), .int (nI i), .int (nI w), .int (nI p_), .ref (ad 11)]) ++ List.replicate (6 - (lg_sl ([.ref (ad 0), .int (nI i), .int (nI w), .int (nI p_), .ref (ad 11)])).length) Slot.unset).toArray = ls at hl ⊢
  have hl : lv_has ls 6 [(0, .ref (ad 0)), (1, .int (nI i)), (2, .int (nI w)), (3, .int (nI p_)), (4, .ref (ad 11))] := hl
  refine lv_aload hx hb dL_mark_0 (lv_at hl 4 rfl) ?_
  refine lv_iconst (v := nI 0) hx hb dL_mark_2 (by decide) ?_
  refine lv_aload_n hx hb dL_mark_3 rfl (lv_at hl 0 rfl) ?_
  refine lv_iload_n hx hb dL_mark_4 rfl (lv_at hl 1 rfl) ?_
  refine lv_iload_n hx hb dL_mark_5 rfl (lv_at hl 2 rfl) ?_
  refine lv_iload_n hx hb dL_mark_6 rfl (lv_at hl 3 rfl) ?_
  refine k_wV (As := [.int (nI i), .int (nI w), .int (nI p_)]) (rest := [.int (nI 0), .ref (ad 11)]) (c_X0_mark l B0 g ct ad cS mS x i w p_ hi hw hp) hC hB hS ⟨hx, hb, hml, hown, hts⟩ (cwV 3 hts gL_mark_X0_mark rfl rfl rfl (by decide +kernel) ⟨Nat.le_of_ble_eq_true rfl, Nat.le_of_ble_eq_true rfl⟩) (rc0 hC) rfl hl.1 rfl (Nat.le_of_ble_eq_true rfl) dL_mark_7 ⟨Nat.le_of_ble_eq_true rfl, Nat.le_of_ble_eq_true rfl⟩ (fun u1 H locs hu1 hC hS => ?_)
  refine lv_if_eq (tgt := 17) hx hb dL_mark_10 (by decide) (fun h9 => ?_) (fun h9 => ?_)
  · skip
    refine lv_lconst (v := 0) hx hb dL_mark_17 (by decide) ?_
    refine w_lo hC hB hS hx hb dL_mark_18 (v := 0) (fun H locs hC hS => ?_)
    refine lv_goto (tgt := 26) hx hb dL_mark_19 (by decide) ?_
    refine lv_iconst (v := nI 0) hx hb dL_mark_26 (by decide) ?_
    refine W.widen (k := 1) (n := 6) (Nat.le_of_ble_eq_true rfl) (Nat.le_of_ble_eq_true rfl) ?_
    exact W.iret hx hb hr (fun t ht hW => ⟨⟨_, ax_o u1 (0), rfl, ⟨rfl, (fun _ => by rw [if_pos h9]; exact ax_o0)⟩, (by show CW B0 g ct ad (st_mark cS (10 * i + w) p_) mS (ax_o u1 (0)) t.heap; rw [ht]; exact hC.1)⟩, hS.F ht⟩) hS.2.2 dL_mark_27
  · skip
    refine lv_lconst (v := 1) hx hb dL_mark_13 (by decide) ?_
    refine lv_goto (tgt := 18) hx hb dL_mark_14 (by decide) ?_
    refine w_lo hC hB hS hx hb dL_mark_18 (v := 1) (fun H locs hC hS => ?_)
    refine lv_goto (tgt := 26) hx hb dL_mark_19 (by decide) ?_
    refine lv_iconst (v := nI 0) hx hb dL_mark_26 (by decide) ?_
    refine W.widen (k := 1) (n := 6) (Nat.le_of_ble_eq_true rfl) (Nat.le_of_ble_eq_true rfl) ?_
    exact W.iret hx hb hr (fun t ht hW => ⟨⟨_, ax_o u1 (1), rfl, ⟨rfl, (fun _ => by rw [if_neg h9]; exact ax_o0)⟩, (by show CW B0 g ct ad (st_mark cS (10 * i + w) p_) mS (ax_o u1 (1)) t.heap; rw [ht]; exact hC.1)⟩, hS.F ht⟩) hS.2.2 dL_mark_27
set_option maxHeartbeats 4000000 in
set_option maxRecDepth 100000 in
theorem w_mark_1 (l : Launch) (B0 : Nat) (g : va_G) (ct ad : Nat → Nat) (cS mS : St_) (x : Ax_) (hflags : l.stackTraces = false) (v0 : Int64) (li : Int32) (h : li < 0 ∨ nI (sn cS) ≤ li) (wi pi : Int32) : WI l yL_mark wsL_mark 9 1 6 B0 g ct ad cS mS x [.ref (ad 0), .int li, .int wi, .int pi, .ref (ad 11)] (nI 1) cS mS (fun u : Ax_ => nI 1 = 0 → xo u 0 = v0) := by
  refine va_MetW (cc := cL_mark) (maxL := 6) (ret := (some .int)) (by decide) rfl ?_
  intro p e s m args below meth c s₁ B hml hv
  obtain ⟨rfl, hC⟩ := hv
  have hx := B.exec
  have hb := B.bytes
  have hr := B.returns
  have hts := atoms_spec (ws := wsL_mark) B.pre
  have hown : s.vm.findClass RL = some m.cls := findClass_of_methodNamed B.named
  have hlocks := B.notSynchronized
  have htab := vx_table (x := yL_mark) B (hts _ List.mem_cons_self)
  have hS : va_S (AA B0) s.heap s.heap [] := va_S.rf
  have hB : B0 ≤ s.heap.size := hC.1.2.2.1
  have hl := lv_entry ([.ref (ad 0), .int li, .int wi, .int pi, .ref (ad 11)]) (n := 6) (Nat.le_of_ble_eq_true rfl)
  rw [lg_entry_eq]
  generalize (lg_sl ([.ref (ad 0), .int li, .int wi, .int pi, .ref (ad 11)]) ++ List.replicate (6 - (lg_sl ([.ref (ad 0), .int li, .int wi, .int pi, .ref (ad 11)])).length) Slot.unset).toArray = ls at hl ⊢
  have hl : lv_has ls 6 [(0, .ref (ad 0)), (1, .int li), (2, .int wi), (3, .int pi), (4, .ref (ad 11))] := hl
  refine lv_aload hx hb dL_mark_0 (lv_at hl 4 rfl) ?_
  refine lv_iconst (v := nI 0) hx hb dL_mark_2 (by decide) ?_
  refine lv_aload_n hx hb dL_mark_3 rfl (lv_at hl 0 rfl) ?_
  refine lv_iload_n hx hb dL_mark_4 rfl (lv_at hl 1 rfl) ?_
  refine lv_iload_n hx hb dL_mark_5 rfl (lv_at hl 2 rfl) ?_
  refine lv_iload_n hx hb dL_mark_6 rfl (lv_at hl 3 rfl) ?_
  refine k_tV (As := [.int li, .int wi, .int pi]) (rest := [.int (nI 0), .ref (ad 11)]) (t_X0_mark_1 l B0 g ct ad cS mS x hflags li h wi pi) hC hB hS ⟨hx, hb, hml, hown, hts⟩ (cwV 3 hts gL_mark_X0_mark rfl rfl rfl (by decide +kernel) ⟨Nat.le_of_ble_eq_true rfl, Nat.le_of_ble_eq_true rfl⟩) (rc0 hC) rfl hl.1 rfl (Nat.le_of_ble_eq_true rfl) dL_mark_7 ⟨Nat.le_of_ble_eq_true rfl, Nat.le_of_ble_eq_true rfl⟩ (fun ce_ q9_ H locs hC hS hce_ hcv_ hcl_ => ?_)
  refine vx_catch (own := RL) (name := EI_) (E := EI_) hown [] ⟨0, 19, 22, 13⟩ [] (htab.trans rfl) (fun z hz => absurd hz List.not_mem_nil) rfl (by decide) (hts (.classLink RL 13 EI_) (by decide +kernel)) (va_Nw.use rfl (hC.2.2.2.2.2.1 EI_ (by decide))) hce_ hcv_ hcl_ ?_
  refine lv_astore (lv' := [(5, .ref q9_), (0, .ref (ad 0)), (1, .int li), (2, .int wi), (3, .int pi), (4, .ref (ad 11))]) hx hb dL_mark_22 hl (by decide) rfl (fun ls hl => ?_)
  refine lv_iconst (v := nI 1) hx hb dL_mark_24 (by decide) ?_
  refine W.widen (k := 1) (n := 6) (Nat.le_of_ble_eq_true rfl) (Nat.le_of_ble_eq_true rfl) ?_
  exact W.iret hx hb hr (fun t ht hW => ⟨⟨_, x, rfl, ⟨rfl, (fun h => absurd h (by decide))⟩, (by show CW B0 g ct ad cS mS x t.heap; rw [ht]; exact hC.1)⟩, hS.F ht⟩) hS.2.2 dL_mark_25
set_option maxHeartbeats 4000000 in
set_option maxRecDepth 100000 in
theorem w_mark_2 (l : Launch) (B0 : Nat) (g : va_G) (ct ad : Nat → Nat) (cS mS : St_) (x : Ax_) (hflags : l.stackTraces = false) (v0 : Int64) (i : Nat) (hi : i < sn cS) (wi pi : Int32) (h : wi < 0 ∨ nI (ss cS i) ≤ wi) : WI l yL_mark wsL_mark 9 1 6 B0 g ct ad cS mS x [.ref (ad 0), .int (nI i), .int wi, .int pi, .ref (ad 11)] (nI 1) cS mS (fun u : Ax_ => nI 1 = 0 → xo u 0 = v0) := by
  refine va_MetW (cc := cL_mark) (maxL := 6) (ret := (some .int)) (by decide) rfl ?_
  intro p e s m args below meth c s₁ B hml hv
  obtain ⟨rfl, hC⟩ := hv
  have hx := B.exec
  have hb := B.bytes
  have hr := B.returns
  have hts := atoms_spec (ws := wsL_mark) B.pre
  have hown : s.vm.findClass RL = some m.cls := findClass_of_methodNamed B.named
  have hlocks := B.notSynchronized
  have htab := vx_table (x := yL_mark) B (hts _ List.mem_cons_self)
  have hS : va_S (AA B0) s.heap s.heap [] := va_S.rf
  have hB : B0 ≤ s.heap.size := hC.1.2.2.1
  have hl := lv_entry ([.ref (ad 0), .int (nI i), .int wi, .int pi, .ref (ad 11)]) (n := 6) (Nat.le_of_ble_eq_true rfl)
  rw [lg_entry_eq]
  generalize (lg_sl ([.ref (ad 0), .int (nI i), .int wi, .int pi, .ref (ad 11)]) ++ List.replicate (6 - (lg_sl ([.ref (ad 0), .int (nI i), .int wi, .int pi, .ref (ad 11)])).length) Slot.unset).toArray = ls at hl ⊢
  have hl : lv_has ls 6 [(0, .ref (ad 0)), (1, .int (nI i)), (2, .int wi), (3, .int pi), (4, .ref (ad 11))] := hl
  refine lv_aload hx hb dL_mark_0 (lv_at hl 4 rfl) ?_
  refine lv_iconst (v := nI 0) hx hb dL_mark_2 (by decide) ?_
  refine lv_aload_n hx hb dL_mark_3 rfl (lv_at hl 0 rfl) ?_
  refine lv_iload_n hx hb dL_mark_4 rfl (lv_at hl 1 rfl) ?_
  refine lv_iload_n hx hb dL_mark_5 rfl (lv_at hl 2 rfl) ?_
  refine lv_iload_n hx hb dL_mark_6 rfl (lv_at hl 3 rfl) ?_
  refine k_tV (As := [.int (nI i), .int wi, .int pi]) (rest := [.int (nI 0), .ref (ad 11)]) (t_X0_mark_2 l B0 g ct ad cS mS x hflags i hi wi pi h) hC hB hS ⟨hx, hb, hml, hown, hts⟩ (cwV 3 hts gL_mark_X0_mark rfl rfl rfl (by decide +kernel) ⟨Nat.le_of_ble_eq_true rfl, Nat.le_of_ble_eq_true rfl⟩) (rc0 hC) rfl hl.1 rfl (Nat.le_of_ble_eq_true rfl) dL_mark_7 ⟨Nat.le_of_ble_eq_true rfl, Nat.le_of_ble_eq_true rfl⟩ (fun ce_ q9_ H locs hC hS hce_ hcv_ hcl_ => ?_)
  refine vx_catch (own := RL) (name := EI_) (E := EI_) hown [] ⟨0, 19, 22, 13⟩ [] (htab.trans rfl) (fun z hz => absurd hz List.not_mem_nil) rfl (by decide) (hts (.classLink RL 13 EI_) (by decide +kernel)) (va_Nw.use rfl (hC.2.2.2.2.2.1 EI_ (by decide))) hce_ hcv_ hcl_ ?_
  refine lv_astore (lv' := [(5, .ref q9_), (0, .ref (ad 0)), (1, .int (nI i)), (2, .int wi), (3, .int pi), (4, .ref (ad 11))]) hx hb dL_mark_22 hl (by decide) rfl (fun ls hl => ?_)
  refine lv_iconst (v := nI 1) hx hb dL_mark_24 (by decide) ?_
  refine W.widen (k := 1) (n := 6) (Nat.le_of_ble_eq_true rfl) (Nat.le_of_ble_eq_true rfl) ?_
  exact W.iret hx hb hr (fun t ht hW => ⟨⟨_, x, rfl, ⟨rfl, (fun h => absurd h (by decide))⟩, (by show CW B0 g ct ad cS mS x t.heap; rw [ht]; exact hC.1)⟩, hS.F ht⟩) hS.2.2 dL_mark_25
set_option maxHeartbeats 4000000 in
set_option maxRecDepth 100000 in
theorem w_mark_3 (l : Launch) (B0 : Nat) (g : va_G) (ct ad : Nat → Nat) (cS mS : St_) (x : Ax_) (hflags : l.stackTraces = false) (v0 : Int64) (i w : Nat) (hi : i < sn cS) (hw : w < ss cS i) (pi : Int32) (h : pi < 0 ∨ nI (ln_ (sw cS (10 * i + w))) ≤ pi) : WI l yL_mark wsL_mark 9 1 6 B0 g ct ad cS mS x [.ref (ad 0), .int (nI i), .int (nI w), .int pi, .ref (ad 11)] (nI 1) cS mS (fun u : Ax_ => nI 1 = 0 → xo u 0 = v0) := by
  refine va_MetW (cc := cL_mark) (maxL := 6) (ret := (some .int)) (by decide) rfl ?_
  intro p e s m args below meth c s₁ B hml hv
  obtain ⟨rfl, hC⟩ := hv
  have hx := B.exec
  have hb := B.bytes
  have hr := B.returns
  have hts := atoms_spec (ws := wsL_mark) B.pre
  have hown : s.vm.findClass RL = some m.cls := findClass_of_methodNamed B.named
  have hlocks := B.notSynchronized
  have htab := vx_table (x := yL_mark) B (hts _ List.mem_cons_self)
  have hS : va_S (AA B0) s.heap s.heap [] := va_S.rf
  have hB : B0 ≤ s.heap.size := hC.1.2.2.1
  have hl := lv_entry ([.ref (ad 0), .int (nI i), .int (nI w), .int pi, .ref (ad 11)]) (n := 6) (Nat.le_of_ble_eq_true rfl)
  rw [lg_entry_eq]
  generalize (lg_sl ([.ref (ad 0), .int (nI i), .int (nI w), .int pi, .ref (ad 11)]) ++ List.replicate (6 - (lg_sl ([.ref (ad 0), .int (nI i), .int (nI w), .int pi, .ref (ad 11)])).length) Slot.unset).toArray = ls at hl ⊢
  have hl : lv_has ls 6 [(0, .ref (ad 0)), (1, .int (nI i)), (2, .int (nI w)), (3, .int pi), (4, .ref (ad 11))] := hl
  refine lv_aload hx hb dL_mark_0 (lv_at hl 4 rfl) ?_
  refine lv_iconst (v := nI 0) hx hb dL_mark_2 (by decide) ?_
  refine lv_aload_n hx hb dL_mark_3 rfl (lv_at hl 0 rfl) ?_
  refine lv_iload_n hx hb dL_mark_4 rfl (lv_at hl 1 rfl) ?_
  refine lv_iload_n hx hb dL_mark_5 rfl (lv_at hl 2 rfl) ?_
  refine lv_iload_n hx hb dL_mark_6 rfl (lv_at hl 3 rfl) ?_
  refine k_tV (As := [.int (nI i), .int (nI w), .int pi]) (rest := [.int (nI 0), .ref (ad 11)]) (t_X0_mark_3 l B0 g ct ad cS mS x hflags i w hi hw pi h) hC hB hS ⟨hx, hb, hml, hown, hts⟩ (cwV 3 hts gL_mark_X0_mark rfl rfl rfl (by decide +kernel) ⟨Nat.le_of_ble_eq_true rfl, Nat.le_of_ble_eq_true rfl⟩) (rc0 hC) rfl hl.1 rfl (Nat.le_of_ble_eq_true rfl) dL_mark_7 ⟨Nat.le_of_ble_eq_true rfl, Nat.le_of_ble_eq_true rfl⟩ (fun ce_ q9_ H locs hC hS hce_ hcv_ hcl_ => ?_)
  refine vx_catch (own := RL) (name := EI_) (E := EI_) hown [] ⟨0, 19, 22, 13⟩ [] (htab.trans rfl) (fun z hz => absurd hz List.not_mem_nil) rfl (by decide) (hts (.classLink RL 13 EI_) (by decide +kernel)) (va_Nw.use rfl (hC.2.2.2.2.2.1 EI_ (by decide))) hce_ hcv_ hcl_ ?_
  refine lv_astore (lv' := [(5, .ref q9_), (0, .ref (ad 0)), (1, .int (nI i)), (2, .int (nI w)), (3, .int pi), (4, .ref (ad 11))]) hx hb dL_mark_22 hl (by decide) rfl (fun ls hl => ?_)
  refine lv_iconst (v := nI 1) hx hb dL_mark_24 (by decide) ?_
  refine W.widen (k := 1) (n := 6) (Nat.le_of_ble_eq_true rfl) (Nat.le_of_ble_eq_true rfl) ?_
  exact W.iret hx hb hr (fun t ht hW => ⟨⟨_, x, rfl, ⟨rfl, (fun h => absurd h (by decide))⟩, (by show CW B0 g ct ad cS mS x t.heap; rw [ht]; exact hC.1)⟩, hS.F ht⟩) hS.2.2 dL_mark_25
set_option maxHeartbeats 4000000 in
set_option maxRecDepth 100000 in
theorem w_word (l : Launch) (B0 : Nat) (g : va_G) (ct ad : Nat → Nat) (cS mS : St_) (x : Ax_) (i w q : Nat) (hi : i < sn cS) (hw : w < ss cS i) (hq : q < 5) : WI l yL_word wsL_word 9 1 6 B0 g ct ad cS mS x [.ref (ad 0), .int (nI i), .int (nI w), .int (nI q), .ref (ad 11)] (nI 0) cS mS (fun u : Ax_ => nI 0 = 0 → xo u 0 = (nI (wt_ cS i w q)).toInt64) := by
  refine va_MetW (cc := cL_word) (maxL := 6) (ret := (some .int)) (by decide) rfl ?_
  intro p e s m args below meth c s₁ B hml hv
  obtain ⟨rfl, hC⟩ := hv
  have hx := B.exec
  have hb := B.bytes
  have hr := B.returns
  have hts := atoms_spec (ws := wsL_word) B.pre
  have hown : s.vm.findClass RL = some m.cls := findClass_of_methodNamed B.named
  have hlocks := B.notSynchronized
  have htab := vx_table (x := yL_word) B (hts _ List.mem_cons_self)
  have hS : va_S (AA B0) s.heap s.heap [] := va_S.rf
  have hB : B0 ≤ s.heap.size := hC.1.2.2.1
  have hl := lv_entry ([.ref (ad 0), .int (nI i), .int (nI w), .int (nI q), .ref (ad 11)]) (n := 6) (Nat.le_of_ble_eq_true rfl)
  rw [lg_entry_eq]
  generalize (lg_sl ([.ref (ad 0), .int (nI i), .int (nI w), .int (nI q), .ref (ad 11)]) ++ List.replicate (6 - (lg_sl ([.ref (ad 0), .int (nI i), .int (nI w), .int (nI q), .ref (ad 11)])).length) Slot.unset).toArray = ls at hl ⊢
  have hl : lv_has ls 6 [(0, .ref (ad 0)), (1, .int (nI i)), (2, .int (nI w)), (3, .int (nI q)), (4, .ref (ad 11))] := hl
  refine lv_aload hx hb dL_word_0 (lv_at hl 4 rfl) ?_
  refine lv_iconst (v := nI 0) hx hb dL_word_2 (by decide) ?_
  refine lv_aload_n hx hb dL_word_3 rfl (lv_at hl 0 rfl) ?_
  refine lv_iload_n hx hb dL_word_4 rfl (lv_at hl 1 rfl) ?_
  refine lv_iload_n hx hb dL_word_5 rfl (lv_at hl 2 rfl) ?_
  refine lv_iload_n hx hb dL_word_6 rfl (lv_at hl 3 rfl) ?_
  refine k_rV (As := [.int (nI i), .int (nI w), .int (nI q)]) (rest := [.int (nI 0), .ref (ad 11)]) (c_X0_word l B0 g ct ad cS mS x i w q hi hw hq) hC ⟨hx, hb, hml, hown, hts⟩ (cwV 3 hts gL_word_X0_word rfl rfl rfl (by decide +kernel) ⟨Nat.le_of_ble_eq_true rfl, Nat.le_of_ble_eq_true rfl⟩) (rc0 hC) rfl hl.1 rfl (Nat.le_of_ble_eq_true rfl) dL_word_7 ⟨Nat.le_of_ble_eq_true rfl, Nat.le_of_ble_eq_true rfl⟩ ?_
  refine lv_i2l (v := (nI (wt_ cS i w q)).toInt64) hx hb dL_word_10 rfl ?_
  refine w_lo hC hB hS hx hb dL_word_11 (v := (nI (wt_ cS i w q)).toInt64) (fun H locs hC hS => ?_)
  refine lv_goto (tgt := 19) hx hb dL_word_12 (by decide) ?_
  refine lv_iconst (v := nI 0) hx hb dL_word_19 (by decide) ?_
  refine W.widen (k := 1) (n := 6) (Nat.le_of_ble_eq_true rfl) (Nat.le_of_ble_eq_true rfl) ?_
  exact W.iret hx hb hr (fun t ht hW => ⟨⟨_, ax_o x ((nI (wt_ cS i w q)).toInt64), rfl, ⟨rfl, (fun _ => ax_o0)⟩, (by show CW B0 g ct ad cS mS (ax_o x ((nI (wt_ cS i w q)).toInt64)) t.heap; rw [ht]; exact hC.1)⟩, hS.F ht⟩) hS.2.2 dL_word_20
set_option maxHeartbeats 4000000 in
set_option maxRecDepth 100000 in
theorem w_word_1 (l : Launch) (B0 : Nat) (g : va_G) (ct ad : Nat → Nat) (cS mS : St_) (x : Ax_) (hflags : l.stackTraces = false) (v0 : Int64) (li : Int32) (h : li < 0 ∨ nI (sn cS) ≤ li) (wi q : Int32) : WI l yL_word wsL_word 9 1 6 B0 g ct ad cS mS x [.ref (ad 0), .int li, .int wi, .int q, .ref (ad 11)] (nI 1) cS mS (fun u : Ax_ => nI 1 = 0 → xo u 0 = v0) := by
  refine va_MetW (cc := cL_word) (maxL := 6) (ret := (some .int)) (by decide) rfl ?_
  intro p e s m args below meth c s₁ B hml hv
  obtain ⟨rfl, hC⟩ := hv
  have hx := B.exec
  have hb := B.bytes
  have hr := B.returns
  have hts := atoms_spec (ws := wsL_word) B.pre
  have hown : s.vm.findClass RL = some m.cls := findClass_of_methodNamed B.named
  have hlocks := B.notSynchronized
  have htab := vx_table (x := yL_word) B (hts _ List.mem_cons_self)
  have hS : va_S (AA B0) s.heap s.heap [] := va_S.rf
  have hB : B0 ≤ s.heap.size := hC.1.2.2.1
  have hl := lv_entry ([.ref (ad 0), .int li, .int wi, .int q, .ref (ad 11)]) (n := 6) (Nat.le_of_ble_eq_true rfl)
  rw [lg_entry_eq]
  generalize (lg_sl ([.ref (ad 0), .int li, .int wi, .int q, .ref (ad 11)]) ++ List.replicate (6 - (lg_sl ([.ref (ad 0), .int li, .int wi, .int q, .ref (ad 11)])).length) Slot.unset).toArray = ls at hl ⊢
  have hl : lv_has ls 6 [(0, .ref (ad 0)), (1, .int li), (2, .int wi), (3, .int q), (4, .ref (ad 11))] := hl
  refine lv_aload hx hb dL_word_0 (lv_at hl 4 rfl) ?_
  refine lv_iconst (v := nI 0) hx hb dL_word_2 (by decide) ?_
  refine lv_aload_n hx hb dL_word_3 rfl (lv_at hl 0 rfl) ?_
  refine lv_iload_n hx hb dL_word_4 rfl (lv_at hl 1 rfl) ?_
  refine lv_iload_n hx hb dL_word_5 rfl (lv_at hl 2 rfl) ?_
  refine lv_iload_n hx hb dL_word_6 rfl (lv_at hl 3 rfl) ?_
  refine k_tV (As := [.int li, .int wi, .int q]) (rest := [.int (nI 0), .ref (ad 11)]) (t_X0_word_1 l B0 g ct ad cS mS x hflags li h wi q) hC hB hS ⟨hx, hb, hml, hown, hts⟩ (cwV 3 hts gL_word_X0_word rfl rfl rfl (by decide +kernel) ⟨Nat.le_of_ble_eq_true rfl, Nat.le_of_ble_eq_true rfl⟩) (rc0 hC) rfl hl.1 rfl (Nat.le_of_ble_eq_true rfl) dL_word_7 ⟨Nat.le_of_ble_eq_true rfl, Nat.le_of_ble_eq_true rfl⟩ (fun ce_ q9_ H locs hC hS hce_ hcv_ hcl_ => ?_)
  refine vx_catch (own := RL) (name := EI_) (E := EI_) hown [] ⟨0, 12, 15, 13⟩ [] (htab.trans rfl) (fun z hz => absurd hz List.not_mem_nil) rfl (by decide) (hts (.classLink RL 13 EI_) (by decide +kernel)) (va_Nw.use rfl (hC.2.2.2.2.2.1 EI_ (by decide))) hce_ hcv_ hcl_ ?_
  refine lv_astore (lv' := [(5, .ref q9_), (0, .ref (ad 0)), (1, .int li), (2, .int wi), (3, .int q), (4, .ref (ad 11))]) hx hb dL_word_15 hl (by decide) rfl (fun ls hl => ?_)
  refine lv_iconst (v := nI 1) hx hb dL_word_17 (by decide) ?_
  refine W.widen (k := 1) (n := 6) (Nat.le_of_ble_eq_true rfl) (Nat.le_of_ble_eq_true rfl) ?_
  exact W.iret hx hb hr (fun t ht hW => ⟨⟨_, x, rfl, ⟨rfl, (fun h => absurd h (by decide))⟩, (by show CW B0 g ct ad cS mS x t.heap; rw [ht]; exact hC.1)⟩, hS.F ht⟩) hS.2.2 dL_word_18
set_option maxHeartbeats 4000000 in
set_option maxRecDepth 100000 in
theorem w_word_2 (l : Launch) (B0 : Nat) (g : va_G) (ct ad : Nat → Nat) (cS mS : St_) (x : Ax_) (hflags : l.stackTraces = false) (v0 : Int64) (i : Nat) (hi : i < sn cS) (wi q : Int32) (h : wi < 0 ∨ nI (ss cS i) ≤ wi) : WI l yL_word wsL_word 9 1 6 B0 g ct ad cS mS x [.ref (ad 0), .int (nI i), .int wi, .int q, .ref (ad 11)] (nI 1) cS mS (fun u : Ax_ => nI 1 = 0 → xo u 0 = v0) := by
  refine va_MetW (cc := cL_word) (maxL := 6) (ret := (some .int)) (by decide) rfl ?_
  intro p e s m args below meth c s₁ B hml hv
  obtain ⟨rfl, hC⟩ := hv
  have hx := B.exec
  have hb := B.bytes
  have hr := B.returns
  have hts := atoms_spec (ws := wsL_word) B.pre
  have hown : s.vm.findClass RL = some m.cls := findClass_of_methodNamed B.named
  have hlocks := B.notSynchronized
  have htab := vx_table (x := yL_word) B (hts _ List.mem_cons_self)
  have hS : va_S (AA B0) s.heap s.heap [] := va_S.rf
  have hB : B0 ≤ s.heap.size := hC.1.2.2.1
  have hl := lv_entry ([.ref (ad 0), .int (nI i), .int wi, .int q, .ref (ad 11)]) (n := 6) (Nat.le_of_ble_eq_true rfl)
  rw [lg_entry_eq]
  generalize (lg_sl ([.ref (ad 0), .int (nI i), .int wi, .int q, .ref (ad 11)]) ++ List.replicate (6 - (lg_sl ([.ref (ad 0), .int (nI i), .int wi, .int q, .ref (ad 11)])).length) Slot.unset).toArray = ls at hl ⊢
  have hl : lv_has ls 6 [(0, .ref (ad 0)), (1, .int (nI i)), (2, .int wi), (3, .int q), (4, .ref (ad 11))] := hl
  refine lv_aload hx hb dL_word_0 (lv_at hl 4 rfl) ?_
  refine lv_iconst (v := nI 0) hx hb dL_word_2 (by decide) ?_
  refine lv_aload_n hx hb dL_word_3 rfl (lv_at hl 0 rfl) ?_
  refine lv_iload_n hx hb dL_word_4 rfl (lv_at hl 1 rfl) ?_
  refine lv_iload_n hx hb dL_word_5 rfl (lv_at hl 2 rfl) ?_
  refine lv_iload_n hx hb dL_word_6 rfl (lv_at hl 3 rfl) ?_
  refine k_tV (As := [.int (nI i), .int wi, .int q]) (rest := [.int (nI 0), .ref (ad 11)]) (t_X0_word_2 l B0 g ct ad cS mS x hflags i hi wi q h) hC hB hS ⟨hx, hb, hml, hown, hts⟩ (cwV 3 hts gL_word_X0_word rfl rfl rfl (by decide +kernel) ⟨Nat.le_of_ble_eq_true rfl, Nat.le_of_ble_eq_true rfl⟩) (rc0 hC) rfl hl.1 rfl (Nat.le_of_ble_eq_true rfl) dL_word_7 ⟨Nat.le_of_ble_eq_true rfl, Nat.le_of_ble_eq_true rfl⟩ (fun ce_ q9_ H locs hC hS hce_ hcv_ hcl_ => ?_)
  refine vx_catch (own := RL) (name := EI_) (E := EI_) hown [] ⟨0, 12, 15, 13⟩ [] (htab.trans rfl) (fun z hz => absurd hz List.not_mem_nil) rfl (by decide) (hts (.classLink RL 13 EI_) (by decide +kernel)) (va_Nw.use rfl (hC.2.2.2.2.2.1 EI_ (by decide))) hce_ hcv_ hcl_ ?_
  refine lv_astore (lv' := [(5, .ref q9_), (0, .ref (ad 0)), (1, .int (nI i)), (2, .int wi), (3, .int q), (4, .ref (ad 11))]) hx hb dL_word_15 hl (by decide) rfl (fun ls hl => ?_)
  refine lv_iconst (v := nI 1) hx hb dL_word_17 (by decide) ?_
  refine W.widen (k := 1) (n := 6) (Nat.le_of_ble_eq_true rfl) (Nat.le_of_ble_eq_true rfl) ?_
  exact W.iret hx hb hr (fun t ht hW => ⟨⟨_, x, rfl, ⟨rfl, (fun h => absurd h (by decide))⟩, (by show CW B0 g ct ad cS mS x t.heap; rw [ht]; exact hC.1)⟩, hS.F ht⟩) hS.2.2 dL_word_18
set_option maxHeartbeats 4000000 in
set_option maxRecDepth 100000 in
theorem w_word_3 (l : Launch) (B0 : Nat) (g : va_G) (ct ad : Nat → Nat) (cS mS : St_) (x : Ax_) (hflags : l.stackTraces = false) (v0 : Int64) (i w : Nat) (hi : i < sn cS) (hw : w < ss cS i) (q : Int32) (h : q < 0 ∨ nI 5 ≤ q) : WI l yL_word wsL_word 9 1 6 B0 g ct ad cS mS x [.ref (ad 0), .int (nI i), .int (nI w), .int q, .ref (ad 11)] (nI 1) cS mS (fun u : Ax_ => nI 1 = 0 → xo u 0 = v0) := by
  refine va_MetW (cc := cL_word) (maxL := 6) (ret := (some .int)) (by decide) rfl ?_
  intro p e s m args below meth c s₁ B hml hv
  obtain ⟨rfl, hC⟩ := hv
  have hx := B.exec
  have hb := B.bytes
  have hr := B.returns
  have hts := atoms_spec (ws := wsL_word) B.pre
  have hown : s.vm.findClass RL = some m.cls := findClass_of_methodNamed B.named
  have hlocks := B.notSynchronized
  have htab := vx_table (x := yL_word) B (hts _ List.mem_cons_self)
  have hS : va_S (AA B0) s.heap s.heap [] := va_S.rf
  have hB : B0 ≤ s.heap.size := hC.1.2.2.1
  have hl := lv_entry ([.ref (ad 0), .int (nI i), .int (nI w), .int q, .ref (ad 11)]) (n := 6) (Nat.le_of_ble_eq_true rfl)
  rw [lg_entry_eq]
  generalize (lg_sl ([.ref (ad 0), .int (nI i), .int (nI w), .int q, .ref (ad 11)]) ++ List.replicate (6 - (lg_sl ([.ref (ad 0), .int (nI i), .int (nI w), .int q, .ref (ad 11)])).length) Slot.unset).toArray = ls at hl ⊢
  have hl : lv_has ls 6 [(0, .ref (ad 0)), (1, .int (nI i)), (2, .int (nI w)), (3, .int q), (4, .ref (ad 11))] := hl
  refine lv_aload hx hb dL_word_0 (lv_at hl 4 rfl) ?_
  refine lv_iconst (v := nI 0) hx hb dL_word_2 (by decide) ?_
  refine lv_aload_n hx hb dL_word_3 rfl (lv_at hl 0 rfl) ?_
  refine lv_iload_n hx hb dL_word_4 rfl (lv_at hl 1 rfl) ?_
  refine lv_iload_n hx hb dL_word_5 rfl (lv_at hl 2 rfl) ?_
  refine lv_iload_n hx hb dL_word_6 rfl (lv_at hl 3 rfl) ?_
  refine k_tV (As := [.int (nI i), .int (nI w), .int q]) (rest := [.int (nI 0), .ref (ad 11)]) (t_X0_word_3 l B0 g ct ad cS mS x hflags i w hi hw q h) hC hB hS ⟨hx, hb, hml, hown, hts⟩ (cwV 3 hts gL_word_X0_word rfl rfl rfl (by decide +kernel) ⟨Nat.le_of_ble_eq_true rfl, Nat.le_of_ble_eq_true rfl⟩) (rc0 hC) rfl hl.1 rfl (Nat.le_of_ble_eq_true rfl) dL_word_7 ⟨Nat.le_of_ble_eq_true rfl, Nat.le_of_ble_eq_true rfl⟩ (fun ce_ q9_ H locs hC hS hce_ hcv_ hcl_ => ?_)
  refine vx_catch (own := RL) (name := EI_) (E := EI_) hown [] ⟨0, 12, 15, 13⟩ [] (htab.trans rfl) (fun z hz => absurd hz List.not_mem_nil) rfl (by decide) (hts (.classLink RL 13 EI_) (by decide +kernel)) (va_Nw.use rfl (hC.2.2.2.2.2.1 EI_ (by decide))) hce_ hcv_ hcl_ ?_
  refine lv_astore (lv' := [(5, .ref q9_), (0, .ref (ad 0)), (1, .int (nI i)), (2, .int (nI w)), (3, .int q), (4, .ref (ad 11))]) hx hb dL_word_15 hl (by decide) rfl (fun ls hl => ?_)
  refine lv_iconst (v := nI 1) hx hb dL_word_17 (by decide) ?_
  refine W.widen (k := 1) (n := 6) (Nat.le_of_ble_eq_true rfl) (Nat.le_of_ble_eq_true rfl) ?_
  exact W.iret hx hb hr (fun t ht hW => ⟨⟨_, x, rfl, ⟨rfl, (fun h => absurd h (by decide))⟩, (by show CW B0 g ct ad cS mS x t.heap; rw [ht]; exact hC.1)⟩, hS.F ht⟩) hS.2.2 dL_word_18
set_option maxHeartbeats 4000000 in
set_option maxRecDepth 100000 in
theorem w_line (l : Launch) (B0 : Nat) (g : va_G) (ct ad : Nat → Nat) (cS mS : St_) (x : Ax_) (i q : Nat) (hi : i < sn cS) (hq : q < 5) : WI l yL_line wsL_line 9 1 6 B0 g ct ad cS mS x [.ref (ad 0), .int (nI i), .int (nI q), .ref (ad 11)] (nI 0) cS mS (fun u : Ax_ => nI 0 = 0 → xo u 0 = (nI (lt_ cS i q)).toInt64) := by
  refine va_MetW (cc := cL_line) (maxL := 5) (ret := (some .int)) (by decide) rfl ?_
  intro p e s m args below meth c s₁ B hml hv
  obtain ⟨rfl, hC⟩ := hv
  have hx := B.exec
  have hb := B.bytes
  have hr := B.returns
  have hts := atoms_spec (ws := wsL_line) B.pre
  have hown : s.vm.findClass RL = some m.cls := findClass_of_methodNamed B.named
  have hlocks := B.notSynchronized
  have htab := vx_table (x := yL_line) B (hts _ List.mem_cons_self)
  have hS : va_S (AA B0) s.heap s.heap [] := va_S.rf
  have hB : B0 ≤ s.heap.size := hC.1.2.2.1
  have hl := lv_entry ([.ref (ad 0), .int (nI i), .int (nI q), .ref (ad 11)]) (n := 5) (Nat.le_of_ble_eq_true rfl)
  rw [lg_entry_eq]
  generalize (lg_sl ([.ref (ad 0), .int (nI i), .int (nI q), .ref (ad 11)]) ++ List.replicate (5 - (lg_sl ([.ref (ad 0), .int (nI i), .int (nI q), .ref (ad 11)])).length) Slot.unset).toArray = ls at hl ⊢
  have hl : lv_has ls 5 [(0, .ref (ad 0)), (1, .int (nI i)), (2, .int (nI q)), (3, .ref (ad 11))] := hl
  refine lv_aload_n hx hb dL_line_0 rfl (lv_at hl 3 rfl) ?_
  refine lv_iconst (v := nI 0) hx hb dL_line_1 (by decide) ?_
  refine lv_aload_n hx hb dL_line_2 rfl (lv_at hl 0 rfl) ?_
  refine lv_iload_n hx hb dL_line_3 rfl (lv_at hl 1 rfl) ?_
  refine lv_iload_n hx hb dL_line_4 rfl (lv_at hl 2 rfl) ?_
  refine k_rV (As := [.int (nI i), .int (nI q)]) (rest := [.int (nI 0), .ref (ad 11)]) (c_X0_line l B0 g ct ad cS mS x i q hi hq) hC ⟨hx, hb, hml, hown, hts⟩ (cwV 2 hts gL_line_X0_line rfl rfl rfl (by decide +kernel) ⟨Nat.le_of_ble_eq_true rfl, Nat.le_of_ble_eq_true rfl⟩) (rc0 hC) rfl hl.1 rfl (Nat.le_of_ble_eq_true rfl) dL_line_5 ⟨Nat.le_of_ble_eq_true rfl, Nat.le_of_ble_eq_true rfl⟩ ?_
  refine lv_i2l (v := (nI (lt_ cS i q)).toInt64) hx hb dL_line_8 rfl ?_
  refine w_lo hC hB hS hx hb dL_line_9 (v := (nI (lt_ cS i q)).toInt64) (fun H locs hC hS => ?_)
  refine lv_goto (tgt := 17) hx hb dL_line_10 (by decide) ?_
  refine lv_iconst (v := nI 0) hx hb dL_line_17 (by decide) ?_
  refine W.widen (k := 1) (n := 6) (Nat.le_of_ble_eq_true rfl) (Nat.le_of_ble_eq_true rfl) ?_
  exact W.iret hx hb hr (fun t ht hW => ⟨⟨_, ax_o x ((nI (lt_ cS i q)).toInt64), rfl, ⟨rfl, (fun _ => ax_o0)⟩, (by show CW B0 g ct ad cS mS (ax_o x ((nI (lt_ cS i q)).toInt64)) t.heap; rw [ht]; exact hC.1)⟩, hS.F ht⟩) hS.2.2 dL_line_18
set_option maxHeartbeats 4000000 in
set_option maxRecDepth 100000 in
theorem w_line_1 (l : Launch) (B0 : Nat) (g : va_G) (ct ad : Nat → Nat) (cS mS : St_) (x : Ax_) (hflags : l.stackTraces = false) (v0 : Int64) (li : Int32) (h : li < 0 ∨ nI (sn cS) ≤ li) (q : Int32) : WI l yL_line wsL_line 9 1 6 B0 g ct ad cS mS x [.ref (ad 0), .int li, .int q, .ref (ad 11)] (nI 1) cS mS (fun u : Ax_ => nI 1 = 0 → xo u 0 = v0) := by
  refine va_MetW (cc := cL_line) (maxL := 5) (ret := (some .int)) (by decide) rfl ?_
  intro p e s m args below meth c s₁ B hml hv
  obtain ⟨rfl, hC⟩ := hv
  have hx := B.exec
  have hb := B.bytes
  have hr := B.returns
  have hts := atoms_spec (ws := wsL_line) B.pre
  have hown : s.vm.findClass RL = some m.cls := findClass_of_methodNamed B.named
  have hlocks := B.notSynchronized
  have htab := vx_table (x := yL_line) B (hts _ List.mem_cons_self)
  have hS : va_S (AA B0) s.heap s.heap [] := va_S.rf
  have hB : B0 ≤ s.heap.size := hC.1.2.2.1
  have hl := lv_entry ([.ref (ad 0), .int li, .int q, .ref (ad 11)]) (n := 5) (Nat.le_of_ble_eq_true rfl)
  rw [lg_entry_eq]
  generalize (lg_sl ([.ref (ad 0), .int li, .int q, .ref (ad 11)]) ++ List.replicate (5 - (lg_sl ([.ref (ad 0), .int li, .int q, .ref (ad 11)])).length) Slot.unset).toArray = ls at hl ⊢
  have hl : lv_has ls 5 [(0, .ref (ad 0)), (1, .int li), (2, .int q), (3, .ref (ad 11))] := hl
  refine lv_aload_n hx hb dL_line_0 rfl (lv_at hl 3 rfl) ?_
  refine lv_iconst (v := nI 0) hx hb dL_line_1 (by decide) ?_
  refine lv_aload_n hx hb dL_line_2 rfl (lv_at hl 0 rfl) ?_
  refine lv_iload_n hx hb dL_line_3 rfl (lv_at hl 1 rfl) ?_
  refine lv_iload_n hx hb dL_line_4 rfl (lv_at hl 2 rfl) ?_
  refine k_tV (As := [.int li, .int q]) (rest := [.int (nI 0), .ref (ad 11)]) (t_X0_line_1 l B0 g ct ad cS mS x hflags li h q) hC hB hS ⟨hx, hb, hml, hown, hts⟩ (cwV 2 hts gL_line_X0_line rfl rfl rfl (by decide +kernel) ⟨Nat.le_of_ble_eq_true rfl, Nat.le_of_ble_eq_true rfl⟩) (rc0 hC) rfl hl.1 rfl (Nat.le_of_ble_eq_true rfl) dL_line_5 ⟨Nat.le_of_ble_eq_true rfl, Nat.le_of_ble_eq_true rfl⟩ (fun ce_ q9_ H locs hC hS hce_ hcv_ hcl_ => ?_)
  refine vx_catch (own := RL) (name := EI_) (E := EI_) hown [] ⟨0, 10, 13, 13⟩ [] (htab.trans rfl) (fun z hz => absurd hz List.not_mem_nil) rfl (by decide) (hts (.classLink RL 13 EI_) (by decide +kernel)) (va_Nw.use rfl (hC.2.2.2.2.2.1 EI_ (by decide))) hce_ hcv_ hcl_ ?_
  refine lv_astore (lv' := [(4, .ref q9_), (0, .ref (ad 0)), (1, .int li), (2, .int q), (3, .ref (ad 11))]) hx hb dL_line_13 hl (by decide) rfl (fun ls hl => ?_)
  refine lv_iconst (v := nI 1) hx hb dL_line_15 (by decide) ?_
  refine W.widen (k := 1) (n := 6) (Nat.le_of_ble_eq_true rfl) (Nat.le_of_ble_eq_true rfl) ?_
  exact W.iret hx hb hr (fun t ht hW => ⟨⟨_, x, rfl, ⟨rfl, (fun h => absurd h (by decide))⟩, (by show CW B0 g ct ad cS mS x t.heap; rw [ht]; exact hC.1)⟩, hS.F ht⟩) hS.2.2 dL_line_16
set_option maxHeartbeats 4000000 in
set_option maxRecDepth 100000 in
theorem w_line_2 (l : Launch) (B0 : Nat) (g : va_G) (ct ad : Nat → Nat) (cS mS : St_) (x : Ax_) (hflags : l.stackTraces = false) (v0 : Int64) (i : Nat) (hi : i < sn cS) (q : Int32) (h : q < 0 ∨ nI 5 ≤ q) : WI l yL_line wsL_line 9 1 6 B0 g ct ad cS mS x [.ref (ad 0), .int (nI i), .int q, .ref (ad 11)] (nI 1) cS mS (fun u : Ax_ => nI 1 = 0 → xo u 0 = v0) := by
  refine va_MetW (cc := cL_line) (maxL := 5) (ret := (some .int)) (by decide) rfl ?_
  intro p e s m args below meth c s₁ B hml hv
  obtain ⟨rfl, hC⟩ := hv
  have hx := B.exec
  have hb := B.bytes
  have hr := B.returns
  have hts := atoms_spec (ws := wsL_line) B.pre
  have hown : s.vm.findClass RL = some m.cls := findClass_of_methodNamed B.named
  have hlocks := B.notSynchronized
  have htab := vx_table (x := yL_line) B (hts _ List.mem_cons_self)
  have hS : va_S (AA B0) s.heap s.heap [] := va_S.rf
  have hB : B0 ≤ s.heap.size := hC.1.2.2.1
  have hl := lv_entry ([.ref (ad 0), .int (nI i), .int q, .ref (ad 11)]) (n := 5) (Nat.le_of_ble_eq_true rfl)
  rw [lg_entry_eq]
  generalize (lg_sl ([.ref (ad 0), .int (nI i), .int q, .ref (ad 11)]) ++ List.replicate (5 - (lg_sl ([.ref (ad 0), .int (nI i), .int q, .ref (ad 11)])).length) Slot.unset).toArray = ls at hl ⊢
  have hl : lv_has ls 5 [(0, .ref (ad 0)), (1, .int (nI i)), (2, .int q), (3, .ref (ad 11))] := hl
  refine lv_aload_n hx hb dL_line_0 rfl (lv_at hl 3 rfl) ?_
  refine lv_iconst (v := nI 0) hx hb dL_line_1 (by decide) ?_
  refine lv_aload_n hx hb dL_line_2 rfl (lv_at hl 0 rfl) ?_
  refine lv_iload_n hx hb dL_line_3 rfl (lv_at hl 1 rfl) ?_
  refine lv_iload_n hx hb dL_line_4 rfl (lv_at hl 2 rfl) ?_
  refine k_tV (As := [.int (nI i), .int q]) (rest := [.int (nI 0), .ref (ad 11)]) (t_X0_line_2 l B0 g ct ad cS mS x hflags i hi q h) hC hB hS ⟨hx, hb, hml, hown, hts⟩ (cwV 2 hts gL_line_X0_line rfl rfl rfl (by decide +kernel) ⟨Nat.le_of_ble_eq_true rfl, Nat.le_of_ble_eq_true rfl⟩) (rc0 hC) rfl hl.1 rfl (Nat.le_of_ble_eq_true rfl) dL_line_5 ⟨Nat.le_of_ble_eq_true rfl, Nat.le_of_ble_eq_true rfl⟩ (fun ce_ q9_ H locs hC hS hce_ hcv_ hcl_ => ?_)
  refine vx_catch (own := RL) (name := EI_) (E := EI_) hown [] ⟨0, 10, 13, 13⟩ [] (htab.trans rfl) (fun z hz => absurd hz List.not_mem_nil) rfl (by decide) (hts (.classLink RL 13 EI_) (by decide +kernel)) (va_Nw.use rfl (hC.2.2.2.2.2.1 EI_ (by decide))) hce_ hcv_ hcl_ ?_
  refine lv_astore (lv' := [(4, .ref q9_), (0, .ref (ad 0)), (1, .int (nI i)), (2, .int q), (3, .ref (ad 11))]) hx hb dL_line_13 hl (by decide) rfl (fun ls hl => ?_)
  refine lv_iconst (v := nI 1) hx hb dL_line_15 (by decide) ?_
  refine W.widen (k := 1) (n := 6) (Nat.le_of_ble_eq_true rfl) (Nat.le_of_ble_eq_true rfl) ?_
  exact W.iret hx hb hr (fun t ht hW => ⟨⟨_, x, rfl, ⟨rfl, (fun h => absurd h (by decide))⟩, (by show CW B0 g ct ad cS mS x t.heap; rw [ht]; exact hC.1)⟩, hS.F ht⟩) hS.2.2 dL_line_16
set_option maxHeartbeats 4000000 in
set_option maxRecDepth 100000 in
theorem w_told (l : Launch) (B0 : Nat) (g : va_G) (ct ad : Nat → Nat) (cS mS : St_) (x : Ax_) (q : Nat) (hq : q < 7) : WI l yL_told wsL_told 9 1 6 B0 g ct ad cS mS x [.ref (ad 0), .int (nI q), .ref (ad 11)] (nI 0) cS mS (fun u : Ax_ => nI 0 = 0 → xo u 0 = (nI (to_ cS q)).toInt64) := by
  refine va_MetW (cc := cL_told) (maxL := 4) (ret := (some .int)) (by decide) rfl ?_
  intro p e s m args below meth c s₁ B hml hv
  obtain ⟨rfl, hC⟩ := hv
  have hx := B.exec
  have hb := B.bytes
  have hr := B.returns
  have hts := atoms_spec (ws := wsL_told) B.pre
  have hown : s.vm.findClass RL = some m.cls := findClass_of_methodNamed B.named
  have hlocks := B.notSynchronized
  have htab := vx_table (x := yL_told) B (hts _ List.mem_cons_self)
  have hS : va_S (AA B0) s.heap s.heap [] := va_S.rf
  have hB : B0 ≤ s.heap.size := hC.1.2.2.1
  have hl := lv_entry ([.ref (ad 0), .int (nI q), .ref (ad 11)]) (n := 4) (Nat.le_of_ble_eq_true rfl)
  rw [lg_entry_eq]
  generalize (lg_sl ([.ref (ad 0), .int (nI q), .ref (ad 11)]) ++ List.replicate (4 - (lg_sl ([.ref (ad 0), .int (nI q), .ref (ad 11)])).length) Slot.unset).toArray = ls at hl ⊢
  have hl : lv_has ls 4 [(0, .ref (ad 0)), (1, .int (nI q)), (2, .ref (ad 11))] := hl
  refine lv_aload_n hx hb dL_told_0 rfl (lv_at hl 2 rfl) ?_
  refine lv_iconst (v := nI 0) hx hb dL_told_1 (by decide) ?_
  refine lv_aload_n hx hb dL_told_2 rfl (lv_at hl 0 rfl) ?_
  refine lv_iload_n hx hb dL_told_3 rfl (lv_at hl 1 rfl) ?_
  refine k_wV (As := [.int (nI q)]) (rest := [.int (nI 0), .ref (ad 11)]) (c_X0_told l B0 g ct ad cS mS x q hq) hC hB hS ⟨hx, hb, hml, hown, hts⟩ (cwV 1 hts gL_told_X0_told rfl rfl rfl (by decide +kernel) ⟨Nat.le_of_ble_eq_true rfl, Nat.le_of_ble_eq_true rfl⟩) (rc0 hC) rfl hl.1 rfl (Nat.le_of_ble_eq_true rfl) dL_told_4 ⟨Nat.le_of_ble_eq_true rfl, Nat.le_of_ble_eq_true rfl⟩ (fun u1 H locs hu1 hC hS => ?_)
  refine lv_i2l (v := (nI (to_ cS q)).toInt64) hx hb dL_told_7 rfl ?_
  refine w_lo hC hB hS hx hb dL_told_8 (v := (nI (to_ cS q)).toInt64) (fun H locs hC hS => ?_)
  refine lv_goto (tgt := 15) hx hb dL_told_9 (by decide) ?_
  refine lv_iconst (v := nI 0) hx hb dL_told_15 (by decide) ?_
  refine W.widen (k := 1) (n := 6) (Nat.le_of_ble_eq_true rfl) (Nat.le_of_ble_eq_true rfl) ?_
  exact W.iret hx hb hr (fun t ht hW => ⟨⟨_, ax_o u1 ((nI (to_ cS q)).toInt64), rfl, ⟨rfl, (fun _ => ax_o0)⟩, (by show CW B0 g ct ad cS mS (ax_o u1 ((nI (to_ cS q)).toInt64)) t.heap; rw [ht]; exact hC.1)⟩, hS.F ht⟩) hS.2.2 dL_told_16
set_option maxHeartbeats 4000000 in
set_option maxRecDepth 100000 in
theorem w_told_1 (l : Launch) (B0 : Nat) (g : va_G) (ct ad : Nat → Nat) (cS mS : St_) (x : Ax_) (hflags : l.stackTraces = false) (v0 : Int64) (q : Int32) (h : q < 0 ∨ nI 7 ≤ q) : WI l yL_told wsL_told 9 1 6 B0 g ct ad cS mS x [.ref (ad 0), .int q, .ref (ad 11)] (nI 1) cS mS (fun u : Ax_ => nI 1 = 0 → xo u 0 = v0) := by
  refine va_MetW (cc := cL_told) (maxL := 4) (ret := (some .int)) (by decide) rfl ?_
  intro p e s m args below meth c s₁ B hml hv
  obtain ⟨rfl, hC⟩ := hv
  have hx := B.exec
  have hb := B.bytes
  have hr := B.returns
  have hts := atoms_spec (ws := wsL_told) B.pre
  have hown : s.vm.findClass RL = some m.cls := findClass_of_methodNamed B.named
  have hlocks := B.notSynchronized
  have htab := vx_table (x := yL_told) B (hts _ List.mem_cons_self)
  have hS : va_S (AA B0) s.heap s.heap [] := va_S.rf
  have hB : B0 ≤ s.heap.size := hC.1.2.2.1
  have hl := lv_entry ([.ref (ad 0), .int q, .ref (ad 11)]) (n := 4) (Nat.le_of_ble_eq_true rfl)
  rw [lg_entry_eq]
  generalize (lg_sl ([.ref (ad 0), .int q, .ref (ad 11)]) ++ List.replicate (4 - (lg_sl ([.ref (ad 0), .int q, .ref (ad 11)])).length) Slot.unset).toArray = ls at hl ⊢
  have hl : lv_has ls 4 [(0, .ref (ad 0)), (1, .int q), (2, .ref (ad 11))] := hl
  refine lv_aload_n hx hb dL_told_0 rfl (lv_at hl 2 rfl) ?_
  refine lv_iconst (v := nI 0) hx hb dL_told_1 (by decide) ?_
  refine lv_aload_n hx hb dL_told_2 rfl (lv_at hl 0 rfl) ?_
  refine lv_iload_n hx hb dL_told_3 rfl (lv_at hl 1 rfl) ?_
  refine k_tV (As := [.int q]) (rest := [.int (nI 0), .ref (ad 11)]) (t_X0_told l B0 g ct ad cS mS x hflags q h) hC hB hS ⟨hx, hb, hml, hown, hts⟩ (cwV 1 hts gL_told_X0_told rfl rfl rfl (by decide +kernel) ⟨Nat.le_of_ble_eq_true rfl, Nat.le_of_ble_eq_true rfl⟩) (rc0 hC) rfl hl.1 rfl (Nat.le_of_ble_eq_true rfl) dL_told_4 ⟨Nat.le_of_ble_eq_true rfl, Nat.le_of_ble_eq_true rfl⟩ (fun ce_ q9_ H locs hC hS hce_ hcv_ hcl_ => ?_)
  refine vx_catch (own := RL) (name := EI_) (E := EI_) hown [] ⟨0, 9, 12, 13⟩ [] (htab.trans rfl) (fun z hz => absurd hz List.not_mem_nil) rfl (by decide) (hts (.classLink RL 13 EI_) (by decide +kernel)) (va_Nw.use rfl (hC.2.2.2.2.2.1 EI_ (by decide))) hce_ hcv_ hcl_ ?_
  refine lv_astore_n (lv' := [(3, .ref q9_), (0, .ref (ad 0)), (1, .int q), (2, .ref (ad 11))]) hx hb dL_told_12 rfl hl (by decide) rfl (fun ls hl => ?_)
  refine lv_iconst (v := nI 1) hx hb dL_told_13 (by decide) ?_
  refine W.widen (k := 1) (n := 6) (Nat.le_of_ble_eq_true rfl) (Nat.le_of_ble_eq_true rfl) ?_
  exact W.iret hx hb hr (fun t ht hW => ⟨⟨_, x, rfl, ⟨rfl, (fun h => absurd h (by decide))⟩, (by show CW B0 g ct ad cS mS x t.heap; rw [ht]; exact hC.1)⟩, hS.F ht⟩) hS.2.2 dL_told_14
set_option maxHeartbeats 4000000 in
set_option maxRecDepth 100000 in
theorem w_hidden (l : Launch) (B0 : Nat) (g : va_G) (ct ad : Nat → Nat) (cS mS : St_) (x : Ax_) (i : Nat) (hi : i < sn cS) (yr : Int32) : WI l yL_hidden wsL_hidden 9 1 6 B0 g ct ad cS mS x [.ref (ad 0), .int (nI i), .int yr, .ref (ad 11)] (nI 0) cS mS (fun u : Ax_ => nI 0 = 0 → xo u 0 = (hd_ cS i yr (ss cS i) 0).toInt64) := by
  refine va_MetW (cc := cL_hidden) (maxL := 5) (ret := (some .int)) (by decide) rfl ?_
  intro p e s m args below meth c s₁ B hml hv
  obtain ⟨rfl, hC⟩ := hv
  have hx := B.exec
  have hb := B.bytes
  have hr := B.returns
  have hts := atoms_spec (ws := wsL_hidden) B.pre
  have hown : s.vm.findClass RL = some m.cls := findClass_of_methodNamed B.named
  have hlocks := B.notSynchronized
  have htab := vx_table (x := yL_hidden) B (hts _ List.mem_cons_self)
  have hS : va_S (AA B0) s.heap s.heap [] := va_S.rf
  have hB : B0 ≤ s.heap.size := hC.1.2.2.1
  have hl := lv_entry ([.ref (ad 0), .int (nI i), .int yr, .ref (ad 11)]) (n := 5) (Nat.le_of_ble_eq_true rfl)
  rw [lg_entry_eq]
  generalize (lg_sl ([.ref (ad 0), .int (nI i), .int yr, .ref (ad 11)]) ++ List.replicate (5 - (lg_sl ([.ref (ad 0), .int (nI i), .int yr, .ref (ad 11)])).length) Slot.unset).toArray = ls at hl ⊢
  have hl : lv_has ls 5 [(0, .ref (ad 0)), (1, .int (nI i)), (2, .int yr), (3, .ref (ad 11))] := hl
  refine lv_aload_n hx hb dL_hidden_0 rfl (lv_at hl 3 rfl) ?_
  refine lv_iconst (v := nI 0) hx hb dL_hidden_1 (by decide) ?_
  refine lv_aload_n hx hb dL_hidden_2 rfl (lv_at hl 0 rfl) ?_
  refine lv_iload_n hx hb dL_hidden_3 rfl (lv_at hl 1 rfl) ?_
  refine lv_iload_n hx hb dL_hidden_4 rfl (lv_at hl 2 rfl) ?_
  refine k_rV (As := [.int (nI i), .int yr]) (rest := [.int (nI 0), .ref (ad 11)]) (c_X0_hidden l B0 g ct ad cS mS x i hi yr) hC ⟨hx, hb, hml, hown, hts⟩ (cwV 2 hts gL_hidden_X0_hidden rfl rfl rfl (by decide +kernel) ⟨Nat.le_of_ble_eq_true rfl, Nat.le_of_ble_eq_true rfl⟩) (rc0 hC) rfl hl.1 rfl (Nat.le_of_ble_eq_true rfl) dL_hidden_5 ⟨Nat.le_of_ble_eq_true rfl, Nat.le_of_ble_eq_true rfl⟩ ?_
  refine lv_i2l (v := (hd_ cS i yr (ss cS i) 0).toInt64) hx hb dL_hidden_8 rfl ?_
  refine w_lo hC hB hS hx hb dL_hidden_9 (v := (hd_ cS i yr (ss cS i) 0).toInt64) (fun H locs hC hS => ?_)
  refine lv_goto (tgt := 17) hx hb dL_hidden_10 (by decide) ?_
  refine lv_iconst (v := nI 0) hx hb dL_hidden_17 (by decide) ?_
  refine W.widen (k := 1) (n := 6) (Nat.le_of_ble_eq_true rfl) (Nat.le_of_ble_eq_true rfl) ?_
  exact W.iret hx hb hr (fun t ht hW => ⟨⟨_, ax_o x ((hd_ cS i yr (ss cS i) 0).toInt64), rfl, ⟨rfl, (fun _ => ax_o0)⟩, (by show CW B0 g ct ad cS mS (ax_o x ((hd_ cS i yr (ss cS i) 0).toInt64)) t.heap; rw [ht]; exact hC.1)⟩, hS.F ht⟩) hS.2.2 dL_hidden_18
set_option maxHeartbeats 4000000 in
set_option maxRecDepth 100000 in
theorem w_hidden_1 (l : Launch) (B0 : Nat) (g : va_G) (ct ad : Nat → Nat) (cS mS : St_) (x : Ax_) (hflags : l.stackTraces = false) (v0 : Int64) (li : Int32) (h : li < 0 ∨ nI (sn cS) ≤ li) (yr : Int32) : WI l yL_hidden wsL_hidden 9 1 6 B0 g ct ad cS mS x [.ref (ad 0), .int li, .int yr, .ref (ad 11)] (nI 1) cS mS (fun u : Ax_ => nI 1 = 0 → xo u 0 = v0) := by
  refine va_MetW (cc := cL_hidden) (maxL := 5) (ret := (some .int)) (by decide) rfl ?_
  intro p e s m args below meth c s₁ B hml hv
  obtain ⟨rfl, hC⟩ := hv
  have hx := B.exec
  have hb := B.bytes
  have hr := B.returns
  have hts := atoms_spec (ws := wsL_hidden) B.pre
  have hown : s.vm.findClass RL = some m.cls := findClass_of_methodNamed B.named
  have hlocks := B.notSynchronized
  have htab := vx_table (x := yL_hidden) B (hts _ List.mem_cons_self)
  have hS : va_S (AA B0) s.heap s.heap [] := va_S.rf
  have hB : B0 ≤ s.heap.size := hC.1.2.2.1
  have hl := lv_entry ([.ref (ad 0), .int li, .int yr, .ref (ad 11)]) (n := 5) (Nat.le_of_ble_eq_true rfl)
  rw [lg_entry_eq]
  generalize (lg_sl ([.ref (ad 0), .int li, .int yr, .ref (ad 11)]) ++ List.replicate (5 - (lg_sl ([.ref (ad 0), .int li, .int yr, .ref (ad 11)])).length) Slot.unset).toArray = ls at hl ⊢
  have hl : lv_has ls 5 [(0, .ref (ad 0)), (1, .int li), (2, .int yr), (3, .ref (ad 11))] := hl
  refine lv_aload_n hx hb dL_hidden_0 rfl (lv_at hl 3 rfl) ?_
  refine lv_iconst (v := nI 0) hx hb dL_hidden_1 (by decide) ?_
  refine lv_aload_n hx hb dL_hidden_2 rfl (lv_at hl 0 rfl) ?_
  refine lv_iload_n hx hb dL_hidden_3 rfl (lv_at hl 1 rfl) ?_
  refine lv_iload_n hx hb dL_hidden_4 rfl (lv_at hl 2 rfl) ?_
  refine k_tV (As := [.int li, .int yr]) (rest := [.int (nI 0), .ref (ad 11)]) (t_X0_hidden l B0 g ct ad cS mS x hflags li h yr) hC hB hS ⟨hx, hb, hml, hown, hts⟩ (cwV 2 hts gL_hidden_X0_hidden rfl rfl rfl (by decide +kernel) ⟨Nat.le_of_ble_eq_true rfl, Nat.le_of_ble_eq_true rfl⟩) (rc0 hC) rfl hl.1 rfl (Nat.le_of_ble_eq_true rfl) dL_hidden_5 ⟨Nat.le_of_ble_eq_true rfl, Nat.le_of_ble_eq_true rfl⟩ (fun ce_ q9_ H locs hC hS hce_ hcv_ hcl_ => ?_)
  refine vx_catch (own := RL) (name := EI_) (E := EI_) hown [] ⟨0, 10, 13, 13⟩ [] (htab.trans rfl) (fun z hz => absurd hz List.not_mem_nil) rfl (by decide) (hts (.classLink RL 13 EI_) (by decide +kernel)) (va_Nw.use rfl (hC.2.2.2.2.2.1 EI_ (by decide))) hce_ hcv_ hcl_ ?_
  refine lv_astore (lv' := [(4, .ref q9_), (0, .ref (ad 0)), (1, .int li), (2, .int yr), (3, .ref (ad 11))]) hx hb dL_hidden_13 hl (by decide) rfl (fun ls hl => ?_)
  refine lv_iconst (v := nI 1) hx hb dL_hidden_15 (by decide) ?_
  refine W.widen (k := 1) (n := 6) (Nat.le_of_ble_eq_true rfl) (Nat.le_of_ble_eq_true rfl) ?_
  exact W.iret hx hb hr (fun t ht hW => ⟨⟨_, x, rfl, ⟨rfl, (fun h => absurd h (by decide))⟩, (by show CW B0 g ct ad cS mS x t.heap; rw [ht]; exact hC.1)⟩, hS.F ht⟩) hS.2.2 dL_hidden_16
set_option maxHeartbeats 4000000 in
set_option maxRecDepth 100000 in
theorem w_lacks (l : Launch) (B0 : Nat) (g : va_G) (ct ad : Nat → Nat) (cS mS : St_) (x : Ax_) (i : Nat) (hi : i < sn cS) (yr : Int32) : WI l yL_lacks wsL_lacks 9 1 6 B0 g ct ad cS mS x [.ref (ad 0), .int (nI i), .int yr, .ref (ad 11)] (nI 0) cS mS (fun u : Ax_ => nI 0 = 0 → xo u 0 = (lk_ cS i yr 26 1).toInt64) := by
  refine va_MetW (cc := cL_lacks) (maxL := 5) (ret := (some .int)) (by decide) rfl ?_
  intro p e s m args below meth c s₁ B hml hv
  obtain ⟨rfl, hC⟩ := hv
  have hx := B.exec
  have hb := B.bytes
  have hr := B.returns
  have hts := atoms_spec (ws := wsL_lacks) B.pre
  have hown : s.vm.findClass RL = some m.cls := findClass_of_methodNamed B.named
  have hlocks := B.notSynchronized
  have htab := vx_table (x := yL_lacks) B (hts _ List.mem_cons_self)
  have hS : va_S (AA B0) s.heap s.heap [] := va_S.rf
  have hB : B0 ≤ s.heap.size := hC.1.2.2.1
  have hl := lv_entry ([.ref (ad 0), .int (nI i), .int yr, .ref (ad 11)]) (n := 5) (Nat.le_of_ble_eq_true rfl)
  rw [lg_entry_eq]
  generalize (lg_sl ([.ref (ad 0), .int (nI i), .int yr, .ref (ad 11)]) ++ List.replicate (5 - (lg_sl ([.ref (ad 0), .int (nI i), .int yr, .ref (ad 11)])).length) Slot.unset).toArray = ls at hl ⊢
  have hl : lv_has ls 5 [(0, .ref (ad 0)), (1, .int (nI i)), (2, .int yr), (3, .ref (ad 11))] := hl
  refine lv_aload_n hx hb dL_lacks_0 rfl (lv_at hl 3 rfl) ?_
  refine lv_iconst (v := nI 0) hx hb dL_lacks_1 (by decide) ?_
  refine lv_aload_n hx hb dL_lacks_2 rfl (lv_at hl 0 rfl) ?_
  refine lv_iload_n hx hb dL_lacks_3 rfl (lv_at hl 1 rfl) ?_
  refine lv_iload_n hx hb dL_lacks_4 rfl (lv_at hl 2 rfl) ?_
  refine k_rV (As := [.int (nI i), .int yr]) (rest := [.int (nI 0), .ref (ad 11)]) (c_X0_lacks l B0 g ct ad cS mS x i hi yr) hC ⟨hx, hb, hml, hown, hts⟩ (cwV 2 hts gL_lacks_X0_lacks rfl rfl rfl (by decide +kernel) ⟨Nat.le_of_ble_eq_true rfl, Nat.le_of_ble_eq_true rfl⟩) (rc0 hC) rfl hl.1 rfl (Nat.le_of_ble_eq_true rfl) dL_lacks_5 ⟨Nat.le_of_ble_eq_true rfl, Nat.le_of_ble_eq_true rfl⟩ ?_
  refine lv_i2l (v := (lk_ cS i yr 26 1).toInt64) hx hb dL_lacks_8 rfl ?_
  refine w_lo hC hB hS hx hb dL_lacks_9 (v := (lk_ cS i yr 26 1).toInt64) (fun H locs hC hS => ?_)
  refine lv_goto (tgt := 17) hx hb dL_lacks_10 (by decide) ?_
  refine lv_iconst (v := nI 0) hx hb dL_lacks_17 (by decide) ?_
  refine W.widen (k := 1) (n := 6) (Nat.le_of_ble_eq_true rfl) (Nat.le_of_ble_eq_true rfl) ?_
  exact W.iret hx hb hr (fun t ht hW => ⟨⟨_, ax_o x ((lk_ cS i yr 26 1).toInt64), rfl, ⟨rfl, (fun _ => ax_o0)⟩, (by show CW B0 g ct ad cS mS (ax_o x ((lk_ cS i yr 26 1).toInt64)) t.heap; rw [ht]; exact hC.1)⟩, hS.F ht⟩) hS.2.2 dL_lacks_18
set_option maxHeartbeats 4000000 in
set_option maxRecDepth 100000 in
theorem w_lacks_1 (l : Launch) (B0 : Nat) (g : va_G) (ct ad : Nat → Nat) (cS mS : St_) (x : Ax_) (hflags : l.stackTraces = false) (v0 : Int64) (li : Int32) (h : li < 0 ∨ nI (sn cS) ≤ li) (yr : Int32) : WI l yL_lacks wsL_lacks 9 1 6 B0 g ct ad cS mS x [.ref (ad 0), .int li, .int yr, .ref (ad 11)] (nI 1) cS mS (fun u : Ax_ => nI 1 = 0 → xo u 0 = v0) := by
  refine va_MetW (cc := cL_lacks) (maxL := 5) (ret := (some .int)) (by decide) rfl ?_
  intro p e s m args below meth c s₁ B hml hv
  obtain ⟨rfl, hC⟩ := hv
  have hx := B.exec
  have hb := B.bytes
  have hr := B.returns
  have hts := atoms_spec (ws := wsL_lacks) B.pre
  have hown : s.vm.findClass RL = some m.cls := findClass_of_methodNamed B.named
  have hlocks := B.notSynchronized
  have htab := vx_table (x := yL_lacks) B (hts _ List.mem_cons_self)
  have hS : va_S (AA B0) s.heap s.heap [] := va_S.rf
  have hB : B0 ≤ s.heap.size := hC.1.2.2.1
  have hl := lv_entry ([.ref (ad 0), .int li, .int yr, .ref (ad 11)]) (n := 5) (Nat.le_of_ble_eq_true rfl)
  rw [lg_entry_eq]
  generalize (lg_sl ([.ref (ad 0), .int li, .int yr, .ref (ad 11)]) ++ List.replicate (5 - (lg_sl ([.ref (ad 0), .int li, .int yr, .ref (ad 11)])).length) Slot.unset).toArray = ls at hl ⊢
  have hl : lv_has ls 5 [(0, .ref (ad 0)), (1, .int li), (2, .int yr), (3, .ref (ad 11))] := hl
  refine lv_aload_n hx hb dL_lacks_0 rfl (lv_at hl 3 rfl) ?_
  refine lv_iconst (v := nI 0) hx hb dL_lacks_1 (by decide) ?_
  refine lv_aload_n hx hb dL_lacks_2 rfl (lv_at hl 0 rfl) ?_
  refine lv_iload_n hx hb dL_lacks_3 rfl (lv_at hl 1 rfl) ?_
  refine lv_iload_n hx hb dL_lacks_4 rfl (lv_at hl 2 rfl) ?_
  refine k_tV (As := [.int li, .int yr]) (rest := [.int (nI 0), .ref (ad 11)]) (t_X0_lacks l B0 g ct ad cS mS x hflags li h yr) hC hB hS ⟨hx, hb, hml, hown, hts⟩ (cwV 2 hts gL_lacks_X0_lacks rfl rfl rfl (by decide +kernel) ⟨Nat.le_of_ble_eq_true rfl, Nat.le_of_ble_eq_true rfl⟩) (rc0 hC) rfl hl.1 rfl (Nat.le_of_ble_eq_true rfl) dL_lacks_5 ⟨Nat.le_of_ble_eq_true rfl, Nat.le_of_ble_eq_true rfl⟩ (fun ce_ q9_ H locs hC hS hce_ hcv_ hcl_ => ?_)
  refine vx_catch (own := RL) (name := EI_) (E := EI_) hown [] ⟨0, 10, 13, 13⟩ [] (htab.trans rfl) (fun z hz => absurd hz List.not_mem_nil) rfl (by decide) (hts (.classLink RL 13 EI_) (by decide +kernel)) (va_Nw.use rfl (hC.2.2.2.2.2.1 EI_ (by decide))) hce_ hcv_ hcl_ ?_
  refine lv_astore (lv' := [(4, .ref q9_), (0, .ref (ad 0)), (1, .int li), (2, .int yr), (3, .ref (ad 11))]) hx hb dL_lacks_13 hl (by decide) rfl (fun ls hl => ?_)
  refine lv_iconst (v := nI 1) hx hb dL_lacks_15 (by decide) ?_
  refine W.widen (k := 1) (n := 6) (Nat.le_of_ble_eq_true rfl) (Nat.le_of_ble_eq_true rfl) ?_
  exact W.iret hx hb hr (fun t ht hW => ⟨⟨_, x, rfl, ⟨rfl, (fun h => absurd h (by decide))⟩, (by show CW B0 g ct ad cS mS x t.heap; rw [ht]; exact hC.1)⟩, hS.F ht⟩) hS.2.2 dL_lacks_16
set_option maxHeartbeats 4000000 in
set_option maxRecDepth 100000 in
theorem w_letters (l : Launch) (B0 : Nat) (g : va_G) (ct ad : Nat → Nat) (cS mS : St_) (x : Ax_) (y : Nat) (h1 : 1 ≤ y) (h2 : y ≤ 3000) : WI l yL_letters wsL_letters 9 1 6 B0 g ct ad cS mS x [.ref (ad 0), .int (nI y), .ref (ad 11)] (nI 0) cS mS (fun u : Ax_ => nI 0 = 0 → xo u 0 = (en_ (fe_ (so cS) y)).toInt64) := by
  refine va_MetW (cc := cL_letters) (maxL := 4) (ret := (some .int)) (by decide) rfl ?_
  intro p e s m args below meth c s₁ B hml hv
  obtain ⟨rfl, hC⟩ := hv
  have hx := B.exec
  have hb := B.bytes
  have hr := B.returns
  have hts := atoms_spec (ws := wsL_letters) B.pre
  have hown : s.vm.findClass RL = some m.cls := findClass_of_methodNamed B.named
  have hlocks := B.notSynchronized
  have htab := vx_table (x := yL_letters) B (hts _ List.mem_cons_self)
  have hS : va_S (AA B0) s.heap s.heap [] := va_S.rf
  have hB : B0 ≤ s.heap.size := hC.1.2.2.1
  have hl := lv_entry ([.ref (ad 0), .int (nI y), .ref (ad 11)]) (n := 4) (Nat.le_of_ble_eq_true rfl)
  rw [lg_entry_eq]
  generalize (lg_sl ([.ref (ad 0), .int (nI y), .ref (ad 11)]) ++ List.replicate (4 - (lg_sl ([.ref (ad 0), .int (nI y), .ref (ad 11)])).length) Slot.unset).toArray = ls at hl ⊢
  have hl : lv_has ls 4 [(0, .ref (ad 0)), (1, .int (nI y)), (2, .ref (ad 11))] := hl
  refine lv_aload_n hx hb dL_letters_0 rfl (lv_at hl 2 rfl) ?_
  refine lv_iconst (v := nI 0) hx hb dL_letters_1 (by decide) ?_
  refine lv_aload_n hx hb dL_letters_2 rfl (lv_at hl 0 rfl) ?_
  refine lv_iload_n hx hb dL_letters_3 rfl (lv_at hl 1 rfl) ?_
  refine k_wV (As := [.int (nI y)]) (rest := [.int (nI 0), .ref (ad 11)]) (c_X0_letters l B0 g ct ad cS mS x y h1 h2) hC hB hS ⟨hx, hb, hml, hown, hts⟩ (cwV 1 hts gL_letters_X0_letters rfl rfl rfl (by decide +kernel) ⟨Nat.le_of_ble_eq_true rfl, Nat.le_of_ble_eq_true rfl⟩) (rc0 hC) rfl hl.1 rfl (Nat.le_of_ble_eq_true rfl) dL_letters_4 ⟨Nat.le_of_ble_eq_true rfl, Nat.le_of_ble_eq_true rfl⟩ (fun u1 H locs hu1 hC hS => ?_)
  refine lv_i2l (v := (en_ (fe_ (so cS) y)).toInt64) hx hb dL_letters_7 rfl ?_
  refine w_lo hC hB hS hx hb dL_letters_8 (v := (en_ (fe_ (so cS) y)).toInt64) (fun H locs hC hS => ?_)
  refine lv_goto (tgt := 15) hx hb dL_letters_9 (by decide) ?_
  refine lv_iconst (v := nI 0) hx hb dL_letters_15 (by decide) ?_
  refine W.widen (k := 1) (n := 6) (Nat.le_of_ble_eq_true rfl) (Nat.le_of_ble_eq_true rfl) ?_
  exact W.iret hx hb hr (fun t ht hW => ⟨⟨_, ax_o u1 ((en_ (fe_ (so cS) y)).toInt64), rfl, ⟨rfl, (fun _ => ax_o0)⟩, (by show CW B0 g ct ad cS mS (ax_o u1 ((en_ (fe_ (so cS) y)).toInt64)) t.heap; rw [ht]; exact hC.1)⟩, hS.F ht⟩) hS.2.2 dL_letters_16
set_option maxHeartbeats 4000000 in
set_option maxRecDepth 100000 in
theorem w_letters_1 (l : Launch) (B0 : Nat) (g : va_G) (ct ad : Nat → Nat) (cS mS : St_) (x : Ax_) (hflags : l.stackTraces = false) (v0 : Int64) (y : Int32) (h : y < nI 1 ∨ nI 3000 < y) : WI l yL_letters wsL_letters 9 1 6 B0 g ct ad cS mS x [.ref (ad 0), .int y, .ref (ad 11)] (nI 1) cS mS (fun u : Ax_ => nI 1 = 0 → xo u 0 = v0) := by
  refine va_MetW (cc := cL_letters) (maxL := 4) (ret := (some .int)) (by decide) rfl ?_
  intro p e s m args below meth c s₁ B hml hv
  obtain ⟨rfl, hC⟩ := hv
  have hx := B.exec
  have hb := B.bytes
  have hr := B.returns
  have hts := atoms_spec (ws := wsL_letters) B.pre
  have hown : s.vm.findClass RL = some m.cls := findClass_of_methodNamed B.named
  have hlocks := B.notSynchronized
  have htab := vx_table (x := yL_letters) B (hts _ List.mem_cons_self)
  have hS : va_S (AA B0) s.heap s.heap [] := va_S.rf
  have hB : B0 ≤ s.heap.size := hC.1.2.2.1
  have hl := lv_entry ([.ref (ad 0), .int y, .ref (ad 11)]) (n := 4) (Nat.le_of_ble_eq_true rfl)
  rw [lg_entry_eq]
  generalize (lg_sl ([.ref (ad 0), .int y, .ref (ad 11)]) ++ List.replicate (4 - (lg_sl ([.ref (ad 0), .int y, .ref (ad 11)])).length) Slot.unset).toArray = ls at hl ⊢
  have hl : lv_has ls 4 [(0, .ref (ad 0)), (1, .int y), (2, .ref (ad 11))] := hl
  refine lv_aload_n hx hb dL_letters_0 rfl (lv_at hl 2 rfl) ?_
  refine lv_iconst (v := nI 0) hx hb dL_letters_1 (by decide) ?_
  refine lv_aload_n hx hb dL_letters_2 rfl (lv_at hl 0 rfl) ?_
  refine lv_iload_n hx hb dL_letters_3 rfl (lv_at hl 1 rfl) ?_
  refine k_tV (As := [.int y]) (rest := [.int (nI 0), .ref (ad 11)]) (t_X0_letters l B0 g ct ad cS mS x hflags y h) hC hB hS ⟨hx, hb, hml, hown, hts⟩ (cwV 1 hts gL_letters_X0_letters rfl rfl rfl (by decide +kernel) ⟨Nat.le_of_ble_eq_true rfl, Nat.le_of_ble_eq_true rfl⟩) (rc0 hC) rfl hl.1 rfl (Nat.le_of_ble_eq_true rfl) dL_letters_4 ⟨Nat.le_of_ble_eq_true rfl, Nat.le_of_ble_eq_true rfl⟩ (fun ce_ q9_ H locs hC hS hce_ hcv_ hcl_ => ?_)
  refine vx_catch (own := RL) (name := EA_) (E := EA_) hown [] ⟨0, 9, 12, 21⟩ [] (htab.trans rfl) (fun z hz => absurd hz List.not_mem_nil) rfl (by decide) (hts (.classLink RL 21 EA_) (by decide +kernel)) (va_Nw.use rfl (hC.2.2.2.2.2.1 EA_ (by decide))) hce_ hcv_ hcl_ ?_
  refine lv_astore_n (lv' := [(3, .ref q9_), (0, .ref (ad 0)), (1, .int y), (2, .ref (ad 11))]) hx hb dL_letters_12 rfl hl (by decide) rfl (fun ls hl => ?_)
  refine lv_iconst (v := nI 1) hx hb dL_letters_13 (by decide) ?_
  refine W.widen (k := 1) (n := 6) (Nat.le_of_ble_eq_true rfl) (Nat.le_of_ble_eq_true rfl) ?_
  exact W.iret hx hb hr (fun t ht hW => ⟨⟨_, x, rfl, ⟨rfl, (fun h => absurd h (by decide))⟩, (by show CW B0 g ct ad cS mS x t.heap; rw [ht]; exact hC.1)⟩, hS.F ht⟩) hS.2.2 dL_letters_14
set_option maxHeartbeats 4000000 in
set_option maxRecDepth 100000 in
theorem w_spell (l : Launch) (B0 : Nat) (g : va_G) (ct ad : Nat → Nat) (cS mS : St_) (x : Ax_) (y p_ : Nat) (h1 : 1 ≤ y) (h2 : y ≤ 3000) (hp : p_ < 2 ^ 31) : WI l yL_spell wsL_spell 9 1 6 B0 g ct ad cS mS x [.ref (ad 0), .int (nI y), .int (nI p_), .ref (ad 11)] (nI 0) cS mS (fun u : Ax_ => nI 0 = 0 → xo u 0 = (nI (sl_ (so cS) y p_)).toInt64) := by
  refine va_MetW (cc := cL_spell) (maxL := 5) (ret := (some .int)) (by decide) rfl ?_
  intro p e s m args below meth c s₁ B hml hv
  obtain ⟨rfl, hC⟩ := hv
  have hx := B.exec
  have hb := B.bytes
  have hr := B.returns
  have hts := atoms_spec (ws := wsL_spell) B.pre
  have hown : s.vm.findClass RL = some m.cls := findClass_of_methodNamed B.named
  have hlocks := B.notSynchronized
  have htab := vx_table (x := yL_spell) B (hts _ List.mem_cons_self)
  have hS : va_S (AA B0) s.heap s.heap [] := va_S.rf
  have hB : B0 ≤ s.heap.size := hC.1.2.2.1
  have hl := lv_entry ([.ref (ad 0), .int (nI y), .int (nI p_), .ref (ad 11)]) (n := 5) (Nat.le_of_ble_eq_true rfl)
  rw [lg_entry_eq]
  generalize (lg_sl ([.ref (ad 0), .int (nI y), .int (nI p_), .ref (ad 11)]) ++ List.replicate (5 - (lg_sl ([.ref (ad 0), .int (nI y), .int (nI p_), .ref (ad 11)])).length) Slot.unset).toArray = ls at hl ⊢
  have hl : lv_has ls 5 [(0, .ref (ad 0)), (1, .int (nI y)), (2, .int (nI p_)), (3, .ref (ad 11))] := hl
  refine lv_aload_n hx hb dL_spell_0 rfl (lv_at hl 3 rfl) ?_
  refine lv_iconst (v := nI 0) hx hb dL_spell_1 (by decide) ?_
  refine lv_aload_n hx hb dL_spell_2 rfl (lv_at hl 0 rfl) ?_
  refine lv_iload_n hx hb dL_spell_3 rfl (lv_at hl 1 rfl) ?_
  refine lv_iload_n hx hb dL_spell_4 rfl (lv_at hl 2 rfl) ?_
  refine k_wV (As := [.int (nI y), .int (nI p_)]) (rest := [.int (nI 0), .ref (ad 11)]) (c_X0_spell l B0 g ct ad cS mS x y p_ h1 h2 hp) hC hB hS ⟨hx, hb, hml, hown, hts⟩ (cwV 2 hts gL_spell_X0_spell rfl rfl rfl (by decide +kernel) ⟨Nat.le_of_ble_eq_true rfl, Nat.le_of_ble_eq_true rfl⟩) (rc0 hC) rfl hl.1 rfl (Nat.le_of_ble_eq_true rfl) dL_spell_5 ⟨Nat.le_of_ble_eq_true rfl, Nat.le_of_ble_eq_true rfl⟩ (fun u1 H locs hu1 hC hS => ?_)
  refine lv_i2l (v := (nI (sl_ (so cS) y p_)).toInt64) hx hb dL_spell_8 rfl ?_
  refine w_lo hC hB hS hx hb dL_spell_9 (v := (nI (sl_ (so cS) y p_)).toInt64) (fun H locs hC hS => ?_)
  refine lv_goto (tgt := 21) hx hb dL_spell_10 (by decide) ?_
  refine lv_iconst (v := nI 0) hx hb dL_spell_21 (by decide) ?_
  refine W.widen (k := 1) (n := 6) (Nat.le_of_ble_eq_true rfl) (Nat.le_of_ble_eq_true rfl) ?_
  exact W.iret hx hb hr (fun t ht hW => ⟨⟨_, ax_o u1 ((nI (sl_ (so cS) y p_)).toInt64), rfl, ⟨rfl, (fun _ => ax_o0)⟩, (by show CW B0 g ct ad cS mS (ax_o u1 ((nI (sl_ (so cS) y p_)).toInt64)) t.heap; rw [ht]; exact hC.1)⟩, hS.F ht⟩) hS.2.2 dL_spell_22
set_option maxHeartbeats 4000000 in
set_option maxRecDepth 100000 in
theorem w_spell_1 (l : Launch) (B0 : Nat) (g : va_G) (ct ad : Nat → Nat) (cS mS : St_) (x : Ax_) (hflags : l.stackTraces = false) (v0 : Int64) (y p_ : Int32) (h : y < nI 1 ∨ nI 3000 < y) : WI l yL_spell wsL_spell 9 1 6 B0 g ct ad cS mS x [.ref (ad 0), .int y, .int p_, .ref (ad 11)] (nI 1) cS mS (fun u : Ax_ => nI 1 = 0 → xo u 0 = v0) := by
  refine va_MetW (cc := cL_spell) (maxL := 5) (ret := (some .int)) (by decide) rfl ?_
  intro p e s m args below meth c s₁ B hml hv
  obtain ⟨rfl, hC⟩ := hv
  have hx := B.exec
  have hb := B.bytes
  have hr := B.returns
  have hts := atoms_spec (ws := wsL_spell) B.pre
  have hown : s.vm.findClass RL = some m.cls := findClass_of_methodNamed B.named
  have hlocks := B.notSynchronized
  have htab := vx_table (x := yL_spell) B (hts _ List.mem_cons_self)
  have hS : va_S (AA B0) s.heap s.heap [] := va_S.rf
  have hB : B0 ≤ s.heap.size := hC.1.2.2.1
  have hl := lv_entry ([.ref (ad 0), .int y, .int p_, .ref (ad 11)]) (n := 5) (Nat.le_of_ble_eq_true rfl)
  rw [lg_entry_eq]
  generalize (lg_sl ([.ref (ad 0), .int y, .int p_, .ref (ad 11)]) ++ List.replicate (5 - (lg_sl ([.ref (ad 0), .int y, .int p_, .ref (ad 11)])).length) Slot.unset).toArray = ls at hl ⊢
  have hl : lv_has ls 5 [(0, .ref (ad 0)), (1, .int y), (2, .int p_), (3, .ref (ad 11))] := hl
  refine lv_aload_n hx hb dL_spell_0 rfl (lv_at hl 3 rfl) ?_
  refine lv_iconst (v := nI 0) hx hb dL_spell_1 (by decide) ?_
  refine lv_aload_n hx hb dL_spell_2 rfl (lv_at hl 0 rfl) ?_
  refine lv_iload_n hx hb dL_spell_3 rfl (lv_at hl 1 rfl) ?_
  refine lv_iload_n hx hb dL_spell_4 rfl (lv_at hl 2 rfl) ?_
  refine k_tV (As := [.int y, .int p_]) (rest := [.int (nI 0), .ref (ad 11)]) (t_X0_spell_1 l B0 g ct ad cS mS x hflags y p_ h) hC hB hS ⟨hx, hb, hml, hown, hts⟩ (cwV 2 hts gL_spell_X0_spell rfl rfl rfl (by decide +kernel) ⟨Nat.le_of_ble_eq_true rfl, Nat.le_of_ble_eq_true rfl⟩) (rc0 hC) rfl hl.1 rfl (Nat.le_of_ble_eq_true rfl) dL_spell_5 ⟨Nat.le_of_ble_eq_true rfl, Nat.le_of_ble_eq_true rfl⟩ (fun ce_ q9_ H locs hC hS hce_ hcv_ hcl_ => ?_)
  refine vx_catch (own := RL) (name := EA_) (E := EA_) hown [] ⟨0, 10, 13, 21⟩ [⟨0, 10, 17, 13⟩] (htab.trans rfl) (fun z hz => absurd hz List.not_mem_nil) rfl (by decide) (hts (.classLink RL 21 EA_) (by decide +kernel)) (va_Nw.use rfl (hC.2.2.2.2.2.1 EA_ (by decide))) hce_ hcv_ hcl_ ?_
  refine lv_astore (lv' := [(4, .ref q9_), (0, .ref (ad 0)), (1, .int y), (2, .int p_), (3, .ref (ad 11))]) hx hb dL_spell_13 hl (by decide) rfl (fun ls hl => ?_)
  refine lv_iconst (v := nI 1) hx hb dL_spell_15 (by decide) ?_
  refine W.widen (k := 1) (n := 6) (Nat.le_of_ble_eq_true rfl) (Nat.le_of_ble_eq_true rfl) ?_
  exact W.iret hx hb hr (fun t ht hW => ⟨⟨_, x, rfl, ⟨rfl, (fun h => absurd h (by decide))⟩, (by show CW B0 g ct ad cS mS x t.heap; rw [ht]; exact hC.1)⟩, hS.F ht⟩) hS.2.2 dL_spell_16
set_option maxHeartbeats 4000000 in
set_option maxRecDepth 100000 in
theorem w_spell_2 (l : Launch) (B0 : Nat) (g : va_G) (ct ad : Nat → Nat) (cS mS : St_) (x : Ax_) (hflags : l.stackTraces = false) (v0 : Int64) (y : Nat) (p_ : Int32) (h1 : 1 ≤ y) (h2 : y ≤ 3000) (h : p_ < 0) : WI l yL_spell wsL_spell 9 1 6 B0 g ct ad cS mS x [.ref (ad 0), .int (nI y), .int p_, .ref (ad 11)] (nI 2) cS mS (fun u : Ax_ => nI 2 = 0 → xo u 0 = v0) := by
  refine va_MetW (cc := cL_spell) (maxL := 5) (ret := (some .int)) (by decide) rfl ?_
  intro p e s m args below meth c s₁ B hml hv
  obtain ⟨rfl, hC⟩ := hv
  have hx := B.exec
  have hb := B.bytes
  have hr := B.returns
  have hts := atoms_spec (ws := wsL_spell) B.pre
  have hown : s.vm.findClass RL = some m.cls := findClass_of_methodNamed B.named
  have hlocks := B.notSynchronized
  have htab := vx_table (x := yL_spell) B (hts _ List.mem_cons_self)
  have hS : va_S (AA B0) s.heap s.heap [] := va_S.rf
  have hB : B0 ≤ s.heap.size := hC.1.2.2.1
  have hl := lv_entry ([.ref (ad 0), .int (nI y), .int p_, .ref (ad 11)]) (n := 5) (Nat.le_of_ble_eq_true rfl)
  rw [lg_entry_eq]
  generalize (lg_sl ([.ref (ad 0), .int (nI y), .int p_, .ref (ad 11)]) ++ List.replicate (5 - (lg_sl ([.ref (ad 0), .int (nI y), .int p_, .ref (ad 11)])).length) Slot.unset).toArray = ls at hl ⊢
  have hl : lv_has ls 5 [(0, .ref (ad 0)), (1, .int (nI y)), (2, .int p_), (3, .ref (ad 11))] := hl
  refine lv_aload_n hx hb dL_spell_0 rfl (lv_at hl 3 rfl) ?_
  refine lv_iconst (v := nI 0) hx hb dL_spell_1 (by decide) ?_
  refine lv_aload_n hx hb dL_spell_2 rfl (lv_at hl 0 rfl) ?_
  refine lv_iload_n hx hb dL_spell_3 rfl (lv_at hl 1 rfl) ?_
  refine lv_iload_n hx hb dL_spell_4 rfl (lv_at hl 2 rfl) ?_
  refine k_tV (As := [.int (nI y), .int p_]) (rest := [.int (nI 0), .ref (ad 11)]) (t_X0_spell_2 l B0 g ct ad cS mS x hflags y p_ h1 h2 h) hC hB hS ⟨hx, hb, hml, hown, hts⟩ (cwV 2 hts gL_spell_X0_spell rfl rfl rfl (by decide +kernel) ⟨Nat.le_of_ble_eq_true rfl, Nat.le_of_ble_eq_true rfl⟩) (rc0 hC) rfl hl.1 rfl (Nat.le_of_ble_eq_true rfl) dL_spell_5 ⟨Nat.le_of_ble_eq_true rfl, Nat.le_of_ble_eq_true rfl⟩ (fun ce_ q9_ H locs hC hS hce_ hcv_ hcl_ => ?_)
  have hpas : ∀ z ∈ ([⟨0, 10, 13, 21⟩] : List ExceptionTableEntry), covers z 5 = false ∨ (z.catchType ≠ 0 ∧ ∃ nm : String, (Cond.classLink RL z.catchType nm).before ([.ref (ad 0), .int (nI y), .int p_, .ref (ad 11)] : List Value).toArray s = true ∧ va_Nc EI_ nm s) := by
    intro z hz
    simp only [List.mem_cons, List.not_mem_nil, or_false] at hz
    rcases hz with rfl
    · exact Or.inr ⟨by decide, EA_, hts (.classLink RL 21 EA_) (by decide +kernel), hC.2.2.2.2.2.2.2 EI_ (by decide) EA_ (by decide) (by decide)⟩
  refine vx_catch (own := RL) (name := EI_) (E := EI_) hown [⟨0, 10, 13, 21⟩] ⟨0, 10, 17, 13⟩ [] (htab.trans rfl) hpas rfl (by decide) (hts (.classLink RL 13 EI_) (by decide +kernel)) (va_Nw.use rfl (hC.2.2.2.2.2.1 EI_ (by decide))) hce_ hcv_ hcl_ ?_
  refine lv_astore (lv' := [(4, .ref q9_), (0, .ref (ad 0)), (1, .int (nI y)), (2, .int p_), (3, .ref (ad 11))]) hx hb dL_spell_17 hl (by decide) rfl (fun ls hl => ?_)
  refine lv_iconst (v := nI 2) hx hb dL_spell_19 (by decide) ?_
  refine W.widen (k := 1) (n := 6) (Nat.le_of_ble_eq_true rfl) (Nat.le_of_ble_eq_true rfl) ?_
  exact W.iret hx hb hr (fun t ht hW => ⟨⟨_, x, rfl, ⟨rfl, (fun h => absurd h (by decide))⟩, (by show CW B0 g ct ad cS mS x t.heap; rw [ht]; exact hC.1)⟩, hS.F ht⟩) hS.2.2 dL_spell_20
