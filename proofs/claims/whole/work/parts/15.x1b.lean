set_option maxHeartbeats 4000000 in
set_option maxRecDepth 100000 in
theorem c_X1_fail (l : Launch) (B0 : Nat) (g : va_G) (ct ad : Nat → Nat) (cS mS : St_) (x : Ax_) (k : Nat) : WI l yX1_fail wsX1_fail 0 0 0 B0 g ct ad cS mS x [.ref (ad 7), .int (nI k)] (nI 0) cS mS ((fun u => u = ax_h x (nI k))) := by
  refine Met.ofW (cc := cX1_fail) (maxL := 2) (ret := (some .int)) (by decide) rfl ?_
  intro p e s m args below meth c s₁ B hml hv
  obtain ⟨rfl, hC⟩ := hv
  have hx := B.exec
  have hb := B.bytes
  have hr := B.returns
  have hts := atoms_spec (ws := wsX1_fail) B.pre
  have hown : s.vm.findClass RX1 = some m.cls := findClass_of_methodNamed B.named
  have hlocks := B.notSynchronized
  have hin : ∀ w ∈ wsX10, w ∈ wsX1_fail := fun _ h => List.mem_cons_of_mem _ (List.mem_append_right _ h)
  have hS : va_S (AA B0) s.heap s.heap [] := va_S.rf
  have hB : B0 ≤ s.heap.size := hC.1.2.2.1
  have hl := lv_entry ([.ref (ad 7), .int (nI k)]) (n := 2) (Nat.le_of_ble_eq_true rfl)
  rw [lg_entry_eq]
  generalize (lg_sl ([.ref (ad 7), .int (nI k)]) ++ List.replicate (2 - (lg_sl ([.ref (ad 7), .int (nI k)])).length) Slot.unset).toArray = ls at hl ⊢
  have hl : lv_has ls 2 [(0, .ref (ad 7)), (1, .int (nI k))] := hl
  refine lv_aload_n hx hb dX1_fail_0 rfl (lv_at hl 0 rfl) ?_
  refine lv_iload_n hx hb dX1_fail_1 rfl (lv_at hl 1 rfl) ?_
  refine w_f1 (m' := mS) (x' := ax_h x (nI k)) hC hB hS hx hb hts hin hown 0 (by decide) (hts (.fieldLink RX1 20 "AbjadPoemsModel" "thrown" "I") (by decide +kernel)) rfl rfl rfl hC.1.2.2.2.2.1 dX1_fail_2 (fun H locs hC hS => ?_)
  refine lv_iconst (v := nI 0) hx hb dX1_fail_5 (by decide) ?_
  exact W.iret hx hb hr (fun t ht hW => ⟨⟨_, ax_h x (nI k), rfl, ⟨rfl, rfl⟩, (by show CW B0 g ct ad cS mS (ax_h x (nI k)) t.heap; rw [ht]; exact hC.1)⟩, hS.F ht⟩) hS.2.2 dX1_fail_6
set_option maxHeartbeats 4000000 in
set_option maxRecDepth 100000 in
theorem c_X1_count (l : Launch) (B0 : Nat) (g : va_G) (ct ad : Nat → Nat) (cS mS : St_) (x : Ax_) (o : Nat) (ho : o < 3) : WI l yX1_count wsX1_count 5 0 0 B0 g ct ad cS mS x [.ref (ad 7), .int (nI o)] (nI (so mS)) cS (st_count mS o) ((fun u => u = ax_h x (nI 0))) := by
  refine Met.ofW (cc := cX1_count) (maxL := 3) (ret := (some .int)) (by decide) rfl ?_
  intro p e s m args below meth c s₁ B hml hv
  obtain ⟨rfl, hC⟩ := hv
  have hx := B.exec
  have hb := B.bytes
  have hr := B.returns
  have hts := atoms_spec (ws := wsX1_count) B.pre
  have hown : s.vm.findClass RX1 = some m.cls := findClass_of_methodNamed B.named
  have hlocks := B.notSynchronized
  have hin : ∀ w ∈ wsX10, w ∈ wsX1_count := fun _ h => List.mem_cons_of_mem _ (List.mem_append_right _ h)
  have hS : va_S (AA B0) s.heap s.heap [] := va_S.rf
  have hB : B0 ≤ s.heap.size := hC.1.2.2.1
  have hI := hC.1.2.2.2.2.1
  have hf : ii_ (nI o) (nI 0) (nI 2) = true := ii_n (by omega) (by omega) (by omega)
  have hl := lv_entry ([.ref (ad 7), .int (nI o)]) (n := 3) (Nat.le_of_ble_eq_true rfl)
  rw [lg_entry_eq]
  generalize (lg_sl ([.ref (ad 7), .int (nI o)]) ++ List.replicate (3 - (lg_sl ([.ref (ad 7), .int (nI o)])).length) Slot.unset).toArray = ls at hl ⊢
  have hl : lv_has ls 3 [(0, .ref (ad 7)), (1, .int (nI o))] := hl
  refine lv_aload_n hx hb dX1_count_0 rfl (lv_at hl 0 rfl) ?_
  refine lv_iconst (v := nI 0) hx hb dX1_count_1 (by decide) ?_
  refine w_f1 (m' := mS) (x' := ax_h x (nI 0)) hC hB hS hx hb hts hin hown 0 (by decide) (hts (.fieldLink RX1 20 "AbjadPoemsModel" "thrown" "I") (by decide +kernel)) rfl rfl rfl hC.1.2.2.2.2.1 dX1_count_2 (fun H locs hC hS => ?_)
  refine lv_iload_n hx hb dX1_count_5 rfl (lv_at hl 1 rfl) ?_
  refine lv_iconst (v := nI 0) hx hb dX1_count_6 (by decide) ?_
  refine lv_iconst (v := nI 2) hx hb dX1_count_7 (by decide) ?_
  refine k_pS (As := [.int (nI o), .int (nI 0), .int (nI 2)]) (rest := []) (c_X1_isIn l (nI o) (nI 0) (nI 2)) ⟨hx, hb, hml, hown, hts⟩ (va_cwS 3 hts gX1_count_X1_isIn rfl rfl rfl (by decide +kernel) ⟨Nat.le_of_ble_eq_true rfl, Nat.le_of_ble_eq_true rfl⟩) rfl hl.1 rfl (Nat.le_of_ble_eq_true rfl) dX1_count_8 ⟨Nat.le_of_ble_eq_true rfl, Nat.le_of_ble_eq_true rfl⟩ ?_
  refine lv_if_ne (tgt := 20) hx hb dX1_count_11 (by decide) (fun c_11 => ?_) (fun c_11 => ?_)
  · skip
    refine lv_aload_n hx hb dX1_count_20 rfl (lv_at hl 0 rfl) ?_
    refine r_g1 hC hx hb hts hin hown 1 (by decide) (hts (.fieldLink RX1 35 "AbjadPoemsModel" "order" "I") (by decide +kernel)) rfl dX1_count_21 ?_
    refine lv_istore_n (lv' := [(2, .int (nI (so mS))), (0, .ref (ad 7)), (1, .int (nI o))]) hx hb dX1_count_24 rfl hl (by decide) rfl (fun ls hl => ?_)
    refine lv_aload_n hx hb dX1_count_25 rfl (lv_at hl 1 rfl) ?_
    refine lv_iload_n hx hb dX1_count_26 rfl (lv_at hl 2 rfl) ?_
    refine w_f1 (m' := st_count mS o) (x' := ax_h x (nI 0)) hC hB hS hx hb hts hin hown 1 (by decide) (hts (.fieldLink RX1 35 "AbjadPoemsModel" "order" "I") (by decide +kernel)) rfl rfl rfl (iv_o hI ho) dX1_count_27 (fun H locs hC hS => ?_)
    refine lv_iload_n hx hb dX1_count_30 rfl (lv_at hl 0 rfl) ?_
    exact W.iret hx hb hr (fun t ht hW => ⟨⟨_, ax_h x (nI 0), rfl, ⟨rfl, rfl⟩, (by show CW B0 g ct ad cS (st_count mS o) (ax_h x (nI 0)) t.heap; rw [ht]; exact hC.1)⟩, hS.F ht⟩) hS.2.2 dX1_count_31
  · skip
    rw [hf] at c_11; exact absurd c_11 (by decide)
set_option maxHeartbeats 4000000 in
set_option maxRecDepth 100000 in
theorem t_X1_count (l : Launch) (B0 : Nat) (g : va_G) (ct ad : Nat → Nat) (cS mS : St_) (x : Ax_) (o : Int32) (hf : ii_ o (nI 0) (nI 2) = false) : WI l yX1_count wsX1_count 5 0 0 B0 g ct ad cS mS x [.ref (ad 7), .int o] (nI 0) cS mS ((fun u => u = ax_h x (nI 1))) := by
  refine Met.ofW (cc := cX1_count) (maxL := 3) (ret := (some .int)) (by decide) rfl ?_
  intro p e s m args below meth c s₁ B hml hv
  obtain ⟨rfl, hC⟩ := hv
  have hx := B.exec
  have hb := B.bytes
  have hr := B.returns
  have hts := atoms_spec (ws := wsX1_count) B.pre
  have hown : s.vm.findClass RX1 = some m.cls := findClass_of_methodNamed B.named
  have hlocks := B.notSynchronized
  have hin : ∀ w ∈ wsX10, w ∈ wsX1_count := fun _ h => List.mem_cons_of_mem _ (List.mem_append_right _ h)
  have hS : va_S (AA B0) s.heap s.heap [] := va_S.rf
  have hB : B0 ≤ s.heap.size := hC.1.2.2.1
  have hl := lv_entry ([.ref (ad 7), .int o]) (n := 3) (Nat.le_of_ble_eq_true rfl)
  rw [lg_entry_eq]
  generalize (lg_sl ([.ref (ad 7), .int o]) ++ List.replicate (3 - (lg_sl ([.ref (ad 7), .int o])).length) Slot.unset).toArray = ls at hl ⊢
  have hl : lv_has ls 3 [(0, .ref (ad 7)), (1, .int o)] := hl
  refine lv_aload_n hx hb dX1_count_0 rfl (lv_at hl 0 rfl) ?_
  refine lv_iconst (v := nI 0) hx hb dX1_count_1 (by decide) ?_
  refine w_f1 (m' := mS) (x' := ax_h x (nI 0)) hC hB hS hx hb hts hin hown 0 (by decide) (hts (.fieldLink RX1 20 "AbjadPoemsModel" "thrown" "I") (by decide +kernel)) rfl rfl rfl hC.1.2.2.2.2.1 dX1_count_2 (fun H locs hC hS => ?_)
  refine lv_iload_n hx hb dX1_count_5 rfl (lv_at hl 1 rfl) ?_
  refine lv_iconst (v := nI 0) hx hb dX1_count_6 (by decide) ?_
  refine lv_iconst (v := nI 2) hx hb dX1_count_7 (by decide) ?_
  refine k_pS (As := [.int o, .int (nI 0), .int (nI 2)]) (rest := []) (c_X1_isIn l o (nI 0) (nI 2)) ⟨hx, hb, hml, hown, hts⟩ (va_cwS 3 hts gX1_count_X1_isIn rfl rfl rfl (by decide +kernel) ⟨Nat.le_of_ble_eq_true rfl, Nat.le_of_ble_eq_true rfl⟩) rfl hl.1 rfl (Nat.le_of_ble_eq_true rfl) dX1_count_8 ⟨Nat.le_of_ble_eq_true rfl, Nat.le_of_ble_eq_true rfl⟩ ?_
  refine lv_if_ne (tgt := 20) hx hb dX1_count_11 (by decide) (fun c_11 => ?_) (fun c_11 => ?_)
  · skip
    rw [hf] at c_11; exact absurd rfl c_11
  · skip
    refine lv_aload_n hx hb dX1_count_14 rfl (lv_at hl 0 rfl) ?_
    refine lv_iconst (v := nI 1) hx hb dX1_count_15 (by decide) ?_
    refine k_wV (As := [.int (nI 1)]) (rest := []) (c_X1_fail l B0 g ct ad cS mS (ax_h x (nI 0)) 1) hC hB hS ⟨hx, hb, hml, hown, hts⟩ (cwV 1 hts gX1_count_X1_fail rfl rfl rfl (by decide +kernel) ⟨Nat.le_of_ble_eq_true rfl, Nat.le_of_ble_eq_true rfl⟩) (rc1 hC) rfl hl.1 rfl (Nat.le_of_ble_eq_true rfl) dX1_count_16 ⟨Nat.le_of_ble_eq_true rfl, Nat.le_of_ble_eq_true rfl⟩ (fun u_16 H locs hu_16 hC hS => ?_)
    subst hu_16
    exact W.iret hx hb hr (fun t ht hW => ⟨⟨_, ax_h (ax_h x (nI 0)) (nI 1), rfl, ⟨rfl, rfl⟩, (by show CW B0 g ct ad cS mS (ax_h (ax_h x (nI 0)) (nI 1)) t.heap; rw [ht]; exact hC.1)⟩, hS.F ht⟩) hS.2.2 dX1_count_19
set_option maxHeartbeats 4000000 in
set_option maxRecDepth 100000 in
theorem c_X1_letter (l : Launch) (B0 : Nat) (g : va_G) (ct ad : Nat → Nat) (cS mS : St_) (x : Ax_) (k : Nat) (h1 : 1 ≤ k) (h2 : k ≤ 26) : WI l yX1_letter wsX1_letter 5 0 0 B0 g ct ad cS mS x [.ref (ad 7), .int (nI k)] (nI (vl_ (so mS) k)) cS mS ((fun u => u = ax_h x (nI 0))) := by
  refine Met.ofW (cc := cX1_letter) (maxL := 2) (ret := (some .int)) (by decide) rfl ?_
  intro p e s m args below meth c s₁ B hml hv
  obtain ⟨rfl, hC⟩ := hv
  have hx := B.exec
  have hb := B.bytes
  have hr := B.returns
  have hts := atoms_spec (ws := wsX1_letter) B.pre
  have hown : s.vm.findClass RX1 = some m.cls := findClass_of_methodNamed B.named
  have hlocks := B.notSynchronized
  have hin : ∀ w ∈ wsX10, w ∈ wsX1_letter := fun _ h => List.mem_cons_of_mem _ (List.mem_append_right _ h)
  have hS : va_S (AA B0) s.heap s.heap [] := va_S.rf
  have hB : B0 ≤ s.heap.size := hC.1.2.2.1
  have hf : ii_ (nI k) (nI 1) (nI 26) = true := ii_n (by omega) (by omega) (by omega)
  have hl := lv_entry ([.ref (ad 7), .int (nI k)]) (n := 2) (Nat.le_of_ble_eq_true rfl)
  rw [lg_entry_eq]
  generalize (lg_sl ([.ref (ad 7), .int (nI k)]) ++ List.replicate (2 - (lg_sl ([.ref (ad 7), .int (nI k)])).length) Slot.unset).toArray = ls at hl ⊢
  have hl : lv_has ls 2 [(0, .ref (ad 7)), (1, .int (nI k))] := hl
  refine lv_aload_n hx hb dX1_letter_0 rfl (lv_at hl 0 rfl) ?_
  refine lv_iconst (v := nI 0) hx hb dX1_letter_1 (by decide) ?_
  refine w_f1 (m' := mS) (x' := ax_h x (nI 0)) hC hB hS hx hb hts hin hown 0 (by decide) (hts (.fieldLink RX1 20 "AbjadPoemsModel" "thrown" "I") (by decide +kernel)) rfl rfl rfl hC.1.2.2.2.2.1 dX1_letter_2 (fun H locs hC hS => ?_)
  refine lv_iload_n hx hb dX1_letter_5 rfl (lv_at hl 1 rfl) ?_
  refine lv_iconst (v := nI 1) hx hb dX1_letter_6 (by decide) ?_
  refine lv_bipush (v := nI 26) hx hb dX1_letter_7 (by decide) ?_
  refine k_pS (As := [.int (nI k), .int (nI 1), .int (nI 26)]) (rest := []) (c_X1_isIn l (nI k) (nI 1) (nI 26)) ⟨hx, hb, hml, hown, hts⟩ (va_cwS 3 hts gX1_letter_X1_isIn rfl rfl rfl (by decide +kernel) ⟨Nat.le_of_ble_eq_true rfl, Nat.le_of_ble_eq_true rfl⟩) rfl hl.1 rfl (Nat.le_of_ble_eq_true rfl) dX1_letter_9 ⟨Nat.le_of_ble_eq_true rfl, Nat.le_of_ble_eq_true rfl⟩ ?_
  refine lv_if_eq (tgt := 23) hx hb dX1_letter_12 (by decide) (fun c_12 => ?_) (fun c_12 => ?_)
  · skip
    rw [hf] at c_12; exact absurd c_12 (by decide)
  · skip
    refine lv_aload_n hx hb dX1_letter_15 rfl (lv_at hl 0 rfl) ?_
    refine lv_iload_n hx hb dX1_letter_16 rfl (lv_at hl 1 rfl) ?_
    refine k_rV (As := [.int (nI k)]) (rest := []) (c_X1_valueOf l B0 g ct ad cS mS (ax_h x (nI 0)) k (by omega)) hC ⟨hx, hb, hml, hown, hts⟩ (cwV 1 hts gX1_letter_X1_valueOf rfl rfl rfl (by decide +kernel) ⟨Nat.le_of_ble_eq_true rfl, Nat.le_of_ble_eq_true rfl⟩) (rc1 hC) rfl hl.1 rfl (Nat.le_of_ble_eq_true rfl) dX1_letter_17 ⟨Nat.le_of_ble_eq_true rfl, Nat.le_of_ble_eq_true rfl⟩ ?_
    refine lv_goto (tgt := 28) hx hb dX1_letter_20 (by decide) ?_
    exact W.iret hx hb hr (fun t ht hW => ⟨⟨_, ax_h x (nI 0), rfl, ⟨rfl, rfl⟩, (by show CW B0 g ct ad cS mS (ax_h x (nI 0)) t.heap; rw [ht]; exact hC.1)⟩, hS.F ht⟩) hS.2.2 dX1_letter_28
set_option maxHeartbeats 4000000 in
set_option maxRecDepth 100000 in
theorem t_X1_letter (l : Launch) (B0 : Nat) (g : va_G) (ct ad : Nat → Nat) (cS mS : St_) (x : Ax_) (k : Int32) (hf : ii_ k (nI 1) (nI 26) = false) : WI l yX1_letter wsX1_letter 5 0 0 B0 g ct ad cS mS x [.ref (ad 7), .int k] (nI 0) cS mS ((fun u => u = ax_h x (nI 1))) := by
  refine Met.ofW (cc := cX1_letter) (maxL := 2) (ret := (some .int)) (by decide) rfl ?_
  intro p e s m args below meth c s₁ B hml hv
  obtain ⟨rfl, hC⟩ := hv
  have hx := B.exec
  have hb := B.bytes
  have hr := B.returns
  have hts := atoms_spec (ws := wsX1_letter) B.pre
  have hown : s.vm.findClass RX1 = some m.cls := findClass_of_methodNamed B.named
  have hlocks := B.notSynchronized
  have hin : ∀ w ∈ wsX10, w ∈ wsX1_letter := fun _ h => List.mem_cons_of_mem _ (List.mem_append_right _ h)
  have hS : va_S (AA B0) s.heap s.heap [] := va_S.rf
  have hB : B0 ≤ s.heap.size := hC.1.2.2.1
  have hl := lv_entry ([.ref (ad 7), .int k]) (n := 2) (Nat.le_of_ble_eq_true rfl)
  rw [lg_entry_eq]
  generalize (lg_sl ([.ref (ad 7), .int k]) ++ List.replicate (2 - (lg_sl ([.ref (ad 7), .int k])).length) Slot.unset).toArray = ls at hl ⊢
  have hl : lv_has ls 2 [(0, .ref (ad 7)), (1, .int k)] := hl
  refine lv_aload_n hx hb dX1_letter_0 rfl (lv_at hl 0 rfl) ?_
  refine lv_iconst (v := nI 0) hx hb dX1_letter_1 (by decide) ?_
  refine w_f1 (m' := mS) (x' := ax_h x (nI 0)) hC hB hS hx hb hts hin hown 0 (by decide) (hts (.fieldLink RX1 20 "AbjadPoemsModel" "thrown" "I") (by decide +kernel)) rfl rfl rfl hC.1.2.2.2.2.1 dX1_letter_2 (fun H locs hC hS => ?_)
  refine lv_iload_n hx hb dX1_letter_5 rfl (lv_at hl 1 rfl) ?_
  refine lv_iconst (v := nI 1) hx hb dX1_letter_6 (by decide) ?_
  refine lv_bipush (v := nI 26) hx hb dX1_letter_7 (by decide) ?_
  refine k_pS (As := [.int k, .int (nI 1), .int (nI 26)]) (rest := []) (c_X1_isIn l k (nI 1) (nI 26)) ⟨hx, hb, hml, hown, hts⟩ (va_cwS 3 hts gX1_letter_X1_isIn rfl rfl rfl (by decide +kernel) ⟨Nat.le_of_ble_eq_true rfl, Nat.le_of_ble_eq_true rfl⟩) rfl hl.1 rfl (Nat.le_of_ble_eq_true rfl) dX1_letter_9 ⟨Nat.le_of_ble_eq_true rfl, Nat.le_of_ble_eq_true rfl⟩ ?_
  refine lv_if_eq (tgt := 23) hx hb dX1_letter_12 (by decide) (fun c_12 => ?_) (fun c_12 => ?_)
  · skip
    refine lv_aload_n hx hb dX1_letter_23 rfl (lv_at hl 0 rfl) ?_
    refine lv_iconst (v := nI 1) hx hb dX1_letter_24 (by decide) ?_
    refine k_wV (As := [.int (nI 1)]) (rest := []) (c_X1_fail l B0 g ct ad cS mS (ax_h x (nI 0)) 1) hC hB hS ⟨hx, hb, hml, hown, hts⟩ (cwV 1 hts gX1_letter_X1_fail rfl rfl rfl (by decide +kernel) ⟨Nat.le_of_ble_eq_true rfl, Nat.le_of_ble_eq_true rfl⟩) (rc1 hC) rfl hl.1 rfl (Nat.le_of_ble_eq_true rfl) dX1_letter_25 ⟨Nat.le_of_ble_eq_true rfl, Nat.le_of_ble_eq_true rfl⟩ (fun u_25 H locs hu_25 hC hS => ?_)
    subst hu_25
    exact W.iret hx hb hr (fun t ht hW => ⟨⟨_, ax_h (ax_h x (nI 0)) (nI 1), rfl, ⟨rfl, rfl⟩, (by show CW B0 g ct ad cS mS (ax_h (ax_h x (nI 0)) (nI 1)) t.heap; rw [ht]; exact hC.1)⟩, hS.F ht⟩) hS.2.2 dX1_letter_28
  · skip
    rw [hf] at c_12; exact absurd rfl c_12
set_option maxHeartbeats 4000000 in
set_option maxRecDepth 100000 in
theorem c_X1_value (l : Launch) (B0 : Nat) (g : va_G) (ct ad : Nat → Nat) (cS mS : St_) (x : Ax_) (w : Nat) (hw : w < 387420489) (hf : wd_ (nI w) = true) : WI l yX1_value wsX1_value 5 0 0 B0 g ct ad cS mS x [.ref (ad 7), .int (nI w)] (nI (ws0 (so mS) w)) cS mS ((fun u => u = ax_h x (nI 0))) := by
  refine Met.ofW (cc := cX1_value) (maxL := 2) (ret := (some .int)) (by decide) rfl ?_
  intro p e s m args below meth c s₁ B hml hv
  obtain ⟨rfl, hC⟩ := hv
  have hx := B.exec
  have hb := B.bytes
  have hr := B.returns
  have hts := atoms_spec (ws := wsX1_value) B.pre
  have hown : s.vm.findClass RX1 = some m.cls := findClass_of_methodNamed B.named
  have hlocks := B.notSynchronized
  have hin : ∀ w ∈ wsX10, w ∈ wsX1_value := fun _ h => List.mem_cons_of_mem _ (List.mem_append_right _ h)
  have hS : va_S (AA B0) s.heap s.heap [] := va_S.rf
  have hB : B0 ≤ s.heap.size := hC.1.2.2.1
  have hl := lv_entry ([.ref (ad 7), .int (nI w)]) (n := 2) (Nat.le_of_ble_eq_true rfl)
  rw [lg_entry_eq]
  generalize (lg_sl ([.ref (ad 7), .int (nI w)]) ++ List.replicate (2 - (lg_sl ([.ref (ad 7), .int (nI w)])).length) Slot.unset).toArray = ls at hl ⊢
  have hl : lv_has ls 2 [(0, .ref (ad 7)), (1, .int (nI w))] := hl
  refine lv_aload_n hx hb dX1_value_0 rfl (lv_at hl 0 rfl) ?_
  refine lv_iconst (v := nI 0) hx hb dX1_value_1 (by decide) ?_
  refine w_f1 (m' := mS) (x' := ax_h x (nI 0)) hC hB hS hx hb hts hin hown 0 (by decide) (hts (.fieldLink RX1 20 "AbjadPoemsModel" "thrown" "I") (by decide +kernel)) rfl rfl rfl hC.1.2.2.2.2.1 dX1_value_2 (fun H locs hC hS => ?_)
  refine lv_iload_n hx hb dX1_value_5 rfl (lv_at hl 1 rfl) ?_
  refine k_pS (As := [.int (nI w)]) (rest := []) (c_X1_isWord l (nI w)) ⟨hx, hb, hml, hown, hts⟩ (va_cwS 1 hts gX1_value_X1_isWord rfl rfl rfl (by decide +kernel) ⟨Nat.le_of_ble_eq_true rfl, Nat.le_of_ble_eq_true rfl⟩) rfl hl.1 rfl (Nat.le_of_ble_eq_true rfl) dX1_value_6 ⟨Nat.le_of_ble_eq_true rfl, Nat.le_of_ble_eq_true rfl⟩ ?_
  refine lv_if_eq (tgt := 20) hx hb dX1_value_9 (by decide) (fun c_9 => ?_) (fun c_9 => ?_)
  · skip
    rw [hf] at c_9; exact absurd c_9 (by decide)
  · skip
    refine lv_aload_n hx hb dX1_value_12 rfl (lv_at hl 0 rfl) ?_
    refine lv_iload_n hx hb dX1_value_13 rfl (lv_at hl 1 rfl) ?_
    refine k_rV (As := [.int (nI w)]) (rest := []) (c_X1_sum l B0 g ct ad cS mS (ax_h x (nI 0)) w (by omega)) hC ⟨hx, hb, hml, hown, hts⟩ (cwV 1 hts gX1_value_X1_sum rfl rfl rfl (by decide +kernel) ⟨Nat.le_of_ble_eq_true rfl, Nat.le_of_ble_eq_true rfl⟩) (rc1 hC) rfl hl.1 rfl (Nat.le_of_ble_eq_true rfl) dX1_value_14 ⟨Nat.le_of_ble_eq_true rfl, Nat.le_of_ble_eq_true rfl⟩ ?_
    refine lv_goto (tgt := 25) hx hb dX1_value_17 (by decide) ?_
    exact W.iret hx hb hr (fun t ht hW => ⟨⟨_, ax_h x (nI 0), rfl, ⟨rfl, rfl⟩, (by show CW B0 g ct ad cS mS (ax_h x (nI 0)) t.heap; rw [ht]; exact hC.1)⟩, hS.F ht⟩) hS.2.2 dX1_value_25
set_option maxHeartbeats 4000000 in
set_option maxRecDepth 100000 in
theorem t_X1_value (l : Launch) (B0 : Nat) (g : va_G) (ct ad : Nat → Nat) (cS mS : St_) (x : Ax_) (w : Int32) (hf : wd_ w = false) : WI l yX1_value wsX1_value 5 0 0 B0 g ct ad cS mS x [.ref (ad 7), .int w] (nI 0) cS mS ((fun u => u = ax_h x (nI 1))) := by
  refine Met.ofW (cc := cX1_value) (maxL := 2) (ret := (some .int)) (by decide) rfl ?_
  intro p e s m args below meth c s₁ B hml hv
  obtain ⟨rfl, hC⟩ := hv
  have hx := B.exec
  have hb := B.bytes
  have hr := B.returns
  have hts := atoms_spec (ws := wsX1_value) B.pre
  have hown : s.vm.findClass RX1 = some m.cls := findClass_of_methodNamed B.named
  have hlocks := B.notSynchronized
  have hin : ∀ w ∈ wsX10, w ∈ wsX1_value := fun _ h => List.mem_cons_of_mem _ (List.mem_append_right _ h)
  have hS : va_S (AA B0) s.heap s.heap [] := va_S.rf
  have hB : B0 ≤ s.heap.size := hC.1.2.2.1
  have hl := lv_entry ([.ref (ad 7), .int w]) (n := 2) (Nat.le_of_ble_eq_true rfl)
  rw [lg_entry_eq]
  generalize (lg_sl ([.ref (ad 7), .int w]) ++ List.replicate (2 - (lg_sl ([.ref (ad 7), .int w])).length) Slot.unset).toArray = ls at hl ⊢
  have hl : lv_has ls 2 [(0, .ref (ad 7)), (1, .int w)] := hl
  refine lv_aload_n hx hb dX1_value_0 rfl (lv_at hl 0 rfl) ?_
  refine lv_iconst (v := nI 0) hx hb dX1_value_1 (by decide) ?_
  refine w_f1 (m' := mS) (x' := ax_h x (nI 0)) hC hB hS hx hb hts hin hown 0 (by decide) (hts (.fieldLink RX1 20 "AbjadPoemsModel" "thrown" "I") (by decide +kernel)) rfl rfl rfl hC.1.2.2.2.2.1 dX1_value_2 (fun H locs hC hS => ?_)
  refine lv_iload_n hx hb dX1_value_5 rfl (lv_at hl 1 rfl) ?_
  refine k_pS (As := [.int w]) (rest := []) (c_X1_isWord l w) ⟨hx, hb, hml, hown, hts⟩ (va_cwS 1 hts gX1_value_X1_isWord rfl rfl rfl (by decide +kernel) ⟨Nat.le_of_ble_eq_true rfl, Nat.le_of_ble_eq_true rfl⟩) rfl hl.1 rfl (Nat.le_of_ble_eq_true rfl) dX1_value_6 ⟨Nat.le_of_ble_eq_true rfl, Nat.le_of_ble_eq_true rfl⟩ ?_
  refine lv_if_eq (tgt := 20) hx hb dX1_value_9 (by decide) (fun c_9 => ?_) (fun c_9 => ?_)
  · skip
    refine lv_aload_n hx hb dX1_value_20 rfl (lv_at hl 0 rfl) ?_
    refine lv_iconst (v := nI 1) hx hb dX1_value_21 (by decide) ?_
    refine k_wV (As := [.int (nI 1)]) (rest := []) (c_X1_fail l B0 g ct ad cS mS (ax_h x (nI 0)) 1) hC hB hS ⟨hx, hb, hml, hown, hts⟩ (cwV 1 hts gX1_value_X1_fail rfl rfl rfl (by decide +kernel) ⟨Nat.le_of_ble_eq_true rfl, Nat.le_of_ble_eq_true rfl⟩) (rc1 hC) rfl hl.1 rfl (Nat.le_of_ble_eq_true rfl) dX1_value_22 ⟨Nat.le_of_ble_eq_true rfl, Nat.le_of_ble_eq_true rfl⟩ (fun u_22 H locs hu_22 hC hS => ?_)
    subst hu_22
    exact W.iret hx hb hr (fun t ht hW => ⟨⟨_, ax_h (ax_h x (nI 0)) (nI 1), rfl, ⟨rfl, rfl⟩, (by show CW B0 g ct ad cS mS (ax_h (ax_h x (nI 0)) (nI 1)) t.heap; rw [ht]; exact hC.1)⟩, hS.F ht⟩) hS.2.2 dX1_value_25
  · skip
    rw [hf] at c_9; exact absurd rfl c_9
set_option maxHeartbeats 4000000 in
set_option maxRecDepth 100000 in
theorem c_X1_alike (l : Launch) (B0 : Nat) (g : va_G) (ct ad : Nat → Nat) (cS mS : St_) (x : Ax_) (a b : Nat) (ha : a < 387420489) (hb_ : b < 387420489) (h : wd_ (nI a) = true) (h2 : wd_ (nI b) = true) : WI l yX1_alike wsX1_alike 5 0 0 B0 g ct ad cS mS x [.ref (ad 7), .int (nI a), .int (nI b)] (b2_ (ak_ a b 26 1)) cS mS ((fun u => u = ax_h x (nI 0))) := by
  refine Met.ofW (cc := cX1_alike) (maxL := 5) (ret := (some .boolean)) (by decide) rfl ?_
  intro p e s m args below meth c s₁ B hml hv
  obtain ⟨rfl, hC⟩ := hv
  have hx := B.exec
  have hb := B.bytes
  have hr := B.returns
  have hts := atoms_spec (ws := wsX1_alike) B.pre
  have hown : s.vm.findClass RX1 = some m.cls := findClass_of_methodNamed B.named
  have hlocks := B.notSynchronized
  have hin : ∀ w ∈ wsX10, w ∈ wsX1_alike := fun _ h => List.mem_cons_of_mem _ (List.mem_append_right _ h)
  have hS : va_S (AA B0) s.heap s.heap [] := va_S.rf
  have hB : B0 ≤ s.heap.size := hC.1.2.2.1
  have hl := lv_entry ([.ref (ad 7), .int (nI a), .int (nI b)]) (n := 5) (Nat.le_of_ble_eq_true rfl)
  rw [lg_entry_eq]
  generalize (lg_sl ([.ref (ad 7), .int (nI a), .int (nI b)]) ++ List.replicate (5 - (lg_sl ([.ref (ad 7), .int (nI a), .int (nI b)])).length) Slot.unset).toArray = ls at hl ⊢
  have hl : lv_has ls 5 [(0, .ref (ad 7)), (1, .int (nI a)), (2, .int (nI b))] := hl
  refine lv_aload_n hx hb dX1_alike_0 rfl (lv_at hl 0 rfl) ?_
  refine lv_iload_n hx hb dX1_alike_1 rfl (lv_at hl 1 rfl) ?_
  refine k_pS (As := [.int (nI a)]) (rest := [.ref (ad 7)]) (c_X1_isWord l (nI a)) ⟨hx, hb, hml, hown, hts⟩ (va_cwS 1 hts gX1_alike_X1_isWord rfl rfl rfl (by decide +kernel) ⟨Nat.le_of_ble_eq_true rfl, Nat.le_of_ble_eq_true rfl⟩) rfl hl.1 rfl (Nat.le_of_ble_eq_true rfl) dX1_alike_2 ⟨Nat.le_of_ble_eq_true rfl, Nat.le_of_ble_eq_true rfl⟩ ?_
  refine lv_if_eq (tgt := 19) hx hb dX1_alike_5 (by decide) (fun c_5 => ?_) (fun c_5 => ?_)
  · skip
    rw [h] at c_5; exact absurd c_5 (by decide)
  · skip
    refine lv_iload_n hx hb dX1_alike_8 rfl (lv_at hl 2 rfl) ?_
    refine k_pS (As := [.int (nI b)]) (rest := [.ref (ad 7)]) (c_X1_isWord l (nI b)) ⟨hx, hb, hml, hown, hts⟩ (va_cwS 1 hts gX1_alike_X1_isWord rfl rfl rfl (by decide +kernel) ⟨Nat.le_of_ble_eq_true rfl, Nat.le_of_ble_eq_true rfl⟩) rfl hl.1 rfl (Nat.le_of_ble_eq_true rfl) dX1_alike_9 ⟨Nat.le_of_ble_eq_true rfl, Nat.le_of_ble_eq_true rfl⟩ ?_
    refine lv_if_eq (tgt := 19) hx hb dX1_alike_12 (by decide) (fun c_12 => ?_) (fun c_12 => ?_)
    · skip
      rw [h2] at c_12; exact absurd c_12 (by decide)
    · skip
      refine lv_iconst (v := nI 0) hx hb dX1_alike_15 (by decide) ?_
      refine lv_goto (tgt := 20) hx hb dX1_alike_16 (by decide) ?_
      refine w_f1 (m' := mS) (x' := ax_h x (nI 0)) hC hB hS hx hb hts hin hown 0 (by decide) (hts (.fieldLink RX1 20 "AbjadPoemsModel" "thrown" "I") (by decide +kernel)) rfl rfl rfl hC.1.2.2.2.2.1 dX1_alike_20 (fun H locs hC hS => ?_)
      refine lv_aload_n hx hb dX1_alike_23 rfl (lv_at hl 0 rfl) ?_
      refine r_g1 hC hx hb hts hin hown 0 (by decide) (hts (.fieldLink RX1 20 "AbjadPoemsModel" "thrown" "I") (by decide +kernel)) rfl dX1_alike_24 ?_
      refine lv_tn (w := nI 0) rfl ?_
      refine lv_if_ne (tgt := 34) hx hb dX1_alike_27 (by decide) (fun c_27 => ?_) (fun c_27 => ?_)
      · skip
        have n_27 : ¬ 0 = 0 := fun q__ => c_27 ((eq0_ (by omega)).mpr q__)
        exact absurd rfl n_27
      · skip
        have n_27 : 0 = 0 := (eq0_ (by omega)).mp c_27
        refine lv_iconst (v := nI 1) hx hb dX1_alike_30 (by decide) ?_
        refine lv_goto (tgt := 35) hx hb dX1_alike_31 (by decide) ?_
        refine lv_istore_n (lv' := [(3, .int (nI 1)), (0, .ref (ad 7)), (1, .int (nI a)), (2, .int (nI b))]) hx hb dX1_alike_35 rfl hl (by decide) rfl (fun ls hl => ?_)
        refine lv_iconst (v := nI 1) hx hb dX1_alike_36 (by decide) ?_
        refine lv_istore (lv' := [(4, .int (nI 1)), (3, .int (nI 1)), (0, .ref (ad 7)), (1, .int (nI a)), (2, .int (nI b))]) hx hb dX1_alike_37 hl (by decide) rfl (fun ls hl => ?_)
        have LP_39 : ∀ (n_ : Nat) (k : Nat) (fl : Bool), 27 - k < n_ → (fl = true → ak_ a b (27 - k) k = ak_ a b 26 1) → (fl = false → ak_ a b 26 1 = false) → (1 ≤ k ∧ k ≤ 27) → ∀ ls : Array Slot, lv_has ls 5 [(4, .int (nI k)), (3, .int (b2_ fl)), (0, .ref (ad 7)), (1, .int (nI a)), (2, .int (nI b))] → W p l e (headSpec wsX1_alike (rm_ 5 0 0)).room s m ([.ref (ad 7), .int (nI a), .int (nI b)] : List Value).toArray below meth c H locs 0 0 (MQ below (va_Qi (fun r (u : Ax_) => r = b2_ (ak_ a b 26 1) ∧ ((fun u => u = ax_h x (nI 0))) u) (fun u t => CW B0 g ct ad cS mS u t.heap) (AA B0)) ([.ref (ad 7), .int (nI a), .int (nI b)] : List Value).toArray s 0 0 (AA B0)) (F0 m 39 ls []) := by
          intro n_
          induction n_ with
          | zero => intro k fl hm; exact absurd hm (Nat.not_lt_zero _)
          | succ n_ ih_39 =>
            intro k fl hm hF1 hF2 hk ls hl
            have b1 := oc_b a k
            have b2 := oc_b b k
            refine lv_iload hx hb dX1_alike_39 (lv_at hl 0 rfl) ?_
            refine lv_bipush (v := nI 26) hx hb dX1_alike_41 (by decide) ?_
            refine lv_icmp_gt (tgt := 77) hx hb dX1_alike_43 (by decide) (fun c_43 => ?_) (fun c_43 => ?_)
            · skip
              have n_43 : 26 < k := (nI_ltI (a := 26) (b := k) (by omega) (by omega)).mp c_43
              have hE : b2_ fl = b2_ (ak_ a b 26 1) := by
                cases fl with
                | true => rw [← hF1 rfl, show 27 - k = 0 by omega]; rfl
                | false => rw [hF2 rfl]
              refine lv_iload_n hx hb dX1_alike_77 rfl (lv_at hl 1 rfl) ?_
              exact W.zret hx hb hr b2_n (fun t ht hW => ⟨⟨_, ax_h x (nI 0), rfl, ⟨hE, rfl⟩, (by show CW B0 g ct ad cS mS (ax_h x (nI 0)) t.heap; rw [ht]; exact hC.1)⟩, hS.F ht⟩) hS.2.2 dX1_alike_78
            · skip
              have n_43 : ¬ 26 < k := fun q__ => c_43 ((nI_ltI (a := 26) (b := k) (by omega) (by omega)).mpr q__)
              refine lv_iload_n hx hb dX1_alike_46 rfl (lv_at hl 1 rfl) ?_
              refine lv_if_eq (tgt := 77) hx hb dX1_alike_47 (by decide) (fun c_47 => ?_) (fun c_47 => ?_)
              · skip
                have n_47 := b2_u c_47
                have hE : b2_ fl = b2_ (ak_ a b 26 1) := by rw [hF2 n_47, n_47]
                refine lv_iload_n hx hb dX1_alike_77 rfl (lv_at hl 1 rfl) ?_
                exact W.zret hx hb hr b2_n (fun t ht hW => ⟨⟨_, ax_h x (nI 0), rfl, ⟨hE, rfl⟩, (by show CW B0 g ct ad cS mS (ax_h x (nI 0)) t.heap; rw [ht]; exact hC.1)⟩, hS.F ht⟩) hS.2.2 dX1_alike_78
              · skip
                have n_47 := b2_ne c_47
                refine lv_iload_n hx hb dX1_alike_50 rfl (lv_at hl 3 rfl) ?_
                refine lv_iload hx hb dX1_alike_51 (lv_at hl 0 rfl) ?_
                refine k_pS (As := [.int (nI a), .int (nI k)]) (rest := []) (c_X1_often l a k (by omega) (by omega) (by omega)) ⟨hx, hb, hml, hown, hts⟩ (va_cwS 2 hts gX1_alike_X1_often rfl rfl rfl (by decide +kernel) ⟨Nat.le_of_ble_eq_true rfl, Nat.le_of_ble_eq_true rfl⟩) rfl hl.1 rfl (Nat.le_of_ble_eq_true rfl) dX1_alike_53 ⟨Nat.le_of_ble_eq_true rfl, Nat.le_of_ble_eq_true rfl⟩ ?_
                refine lv_iload_n hx hb dX1_alike_56 rfl (lv_at hl 4 rfl) ?_
                refine lv_iload hx hb dX1_alike_57 (lv_at hl 0 rfl) ?_
                refine k_pS (As := [.int (nI b), .int (nI k)]) (rest := [.int (nI (oc_ a k))]) (c_X1_often l b k (by omega) (by omega) (by omega)) ⟨hx, hb, hml, hown, hts⟩ (va_cwS 2 hts gX1_alike_X1_often rfl rfl rfl (by decide +kernel) ⟨Nat.le_of_ble_eq_true rfl, Nat.le_of_ble_eq_true rfl⟩) rfl hl.1 rfl (Nat.le_of_ble_eq_true rfl) dX1_alike_59 ⟨Nat.le_of_ble_eq_true rfl, Nat.le_of_ble_eq_true rfl⟩ ?_
                refine lv_icmp_ne (tgt := 69) hx hb dX1_alike_62 (by decide) (fun c_62 => ?_) (fun c_62 => ?_)
                · skip
                  have n_62 : ¬ oc_ a k = oc_ b k := fun q__ => c_62 ((nI_eq (a := oc_ a k) (b := oc_ b k) (by omega) (by omega)).mpr q__)
                  have hG1 : false = true → ak_ a b (27 - (k + 1)) (k + 1) = ak_ a b 26 1 := fun q => by cases q
                  have hG2 : false = false → ak_ a b 26 1 = false := fun _ => by rw [← hF1 n_47, show 27 - k = (26 - k) + 1 by omega, ak_n n_62]
                  refine lv_iconst (v := nI 0) hx hb dX1_alike_69 (by decide) ?_
                  refine lv_istore_n (lv' := [(3, .int (nI 0)), (4, .int (nI k)), (0, .ref (ad 7)), (1, .int (nI a)), (2, .int (nI b))]) hx hb dX1_alike_70 rfl hl (by decide) rfl (fun ls hl => ?_)
                  refine lv_iinc (v := nI (k + 1)) (lv' := [(4, .int (nI (k + 1))), (3, .int (nI 0)), (0, .ref (ad 7)), (1, .int (nI a)), (2, .int (nI b))]) hx hb dX1_alike_71 hl (k := 1) rfl (nI_1 _) (by decide) rfl (fun ls hl => ?_)
                  refine lv_goto (tgt := 39) hx hb dX1_alike_74 (by decide) ?_
                  exact ih_39 (k + 1) false (by omega) hG1 hG2 (by omega) ls (lv_sub hl [0, 1, 2, 3, 4] rfl)
                · skip
                  have n_62 : oc_ a k = oc_ b k := (nI_eq (a := oc_ a k) (b := oc_ b k) (by omega) (by omega)).mp c_62
                  have hG1 : true = true → ak_ a b (27 - (k + 1)) (k + 1) = ak_ a b 26 1 := fun _ => by rw [← hF1 n_47, show 27 - k = (26 - k) + 1 by omega, ak_e n_62, show 27 - (k + 1) = 26 - k by omega]
                  have hG2 : true = false → ak_ a b 26 1 = false := fun q => by cases q
                  refine lv_iconst (v := nI 1) hx hb dX1_alike_65 (by decide) ?_
                  refine lv_goto (tgt := 70) hx hb dX1_alike_66 (by decide) ?_
                  refine lv_istore_n (lv' := [(3, .int (nI 1)), (4, .int (nI k)), (0, .ref (ad 7)), (1, .int (nI a)), (2, .int (nI b))]) hx hb dX1_alike_70 rfl hl (by decide) rfl (fun ls hl => ?_)
                  refine lv_iinc (v := nI (k + 1)) (lv' := [(4, .int (nI (k + 1))), (3, .int (nI 1)), (0, .ref (ad 7)), (1, .int (nI a)), (2, .int (nI b))]) hx hb dX1_alike_71 hl (k := 1) rfl (nI_1 _) (by decide) rfl (fun ls hl => ?_)
                  refine lv_goto (tgt := 39) hx hb dX1_alike_74 (by decide) ?_
                  exact ih_39 (k + 1) true (by omega) hG1 hG2 (by omega) ls (lv_sub hl [0, 1, 2, 3, 4] rfl)
        exact LP_39 _ 1 true (Nat.lt_succ_self _) (fun _ => rfl) (fun q => by cases q) (by omega) ls (lv_sub hl [0, 1, 2, 3, 4] rfl)
set_option maxHeartbeats 4000000 in
set_option maxRecDepth 100000 in
theorem t_X1_alike_1 (l : Launch) (B0 : Nat) (g : va_G) (ct ad : Nat → Nat) (cS mS : St_) (x : Ax_) (a b : Int32) (h : wd_ a = false) : WI l yX1_alike wsX1_alike 5 0 0 B0 g ct ad cS mS x [.ref (ad 7), .int a, .int b] (nI 0) cS mS ((fun u => u = ax_h x (nI 1))) := by
  refine Met.ofW (cc := cX1_alike) (maxL := 5) (ret := (some .boolean)) (by decide) rfl ?_
  intro p e s m args below meth c s₁ B hml hv
  obtain ⟨rfl, hC⟩ := hv
  have hx := B.exec
  have hb := B.bytes
  have hr := B.returns
  have hts := atoms_spec (ws := wsX1_alike) B.pre
  have hown : s.vm.findClass RX1 = some m.cls := findClass_of_methodNamed B.named
  have hlocks := B.notSynchronized
  have hin : ∀ w ∈ wsX10, w ∈ wsX1_alike := fun _ h => List.mem_cons_of_mem _ (List.mem_append_right _ h)
  have hS : va_S (AA B0) s.heap s.heap [] := va_S.rf
  have hB : B0 ≤ s.heap.size := hC.1.2.2.1
  have hl := lv_entry ([.ref (ad 7), .int a, .int b]) (n := 5) (Nat.le_of_ble_eq_true rfl)
  rw [lg_entry_eq]
  generalize (lg_sl ([.ref (ad 7), .int a, .int b]) ++ List.replicate (5 - (lg_sl ([.ref (ad 7), .int a, .int b])).length) Slot.unset).toArray = ls at hl ⊢
  have hl : lv_has ls 5 [(0, .ref (ad 7)), (1, .int a), (2, .int b)] := hl
  refine lv_aload_n hx hb dX1_alike_0 rfl (lv_at hl 0 rfl) ?_
  refine lv_iload_n hx hb dX1_alike_1 rfl (lv_at hl 1 rfl) ?_
  refine k_pS (As := [.int a]) (rest := [.ref (ad 7)]) (c_X1_isWord l a) ⟨hx, hb, hml, hown, hts⟩ (va_cwS 1 hts gX1_alike_X1_isWord rfl rfl rfl (by decide +kernel) ⟨Nat.le_of_ble_eq_true rfl, Nat.le_of_ble_eq_true rfl⟩) rfl hl.1 rfl (Nat.le_of_ble_eq_true rfl) dX1_alike_2 ⟨Nat.le_of_ble_eq_true rfl, Nat.le_of_ble_eq_true rfl⟩ ?_
  refine lv_if_eq (tgt := 19) hx hb dX1_alike_5 (by decide) (fun c_5 => ?_) (fun c_5 => ?_)
  · skip
    refine lv_iconst (v := nI 1) hx hb dX1_alike_19 (by decide) ?_
    refine w_f1 (m' := mS) (x' := ax_h x (nI 1)) hC hB hS hx hb hts hin hown 0 (by decide) (hts (.fieldLink RX1 20 "AbjadPoemsModel" "thrown" "I") (by decide +kernel)) rfl rfl rfl hC.1.2.2.2.2.1 dX1_alike_20 (fun H locs hC hS => ?_)
    refine lv_aload_n hx hb dX1_alike_23 rfl (lv_at hl 0 rfl) ?_
    refine r_g1 hC hx hb hts hin hown 0 (by decide) (hts (.fieldLink RX1 20 "AbjadPoemsModel" "thrown" "I") (by decide +kernel)) rfl dX1_alike_24 ?_
    refine lv_tn (w := nI 1) rfl ?_
    refine lv_if_ne (tgt := 34) hx hb dX1_alike_27 (by decide) (fun c_27 => ?_) (fun c_27 => ?_)
    · skip
      have n_27 : ¬ 1 = 0 := fun q__ => c_27 ((eq0_ (by omega)).mpr q__)
      refine lv_iconst (v := nI 0) hx hb dX1_alike_34 (by decide) ?_
      refine lv_istore_n (lv' := [(3, .int (nI 0)), (0, .ref (ad 7)), (1, .int a), (2, .int b)]) hx hb dX1_alike_35 rfl hl (by decide) rfl (fun ls hl => ?_)
      refine lv_iconst (v := nI 1) hx hb dX1_alike_36 (by decide) ?_
      refine lv_istore (lv' := [(4, .int (nI 1)), (3, .int (nI 0)), (0, .ref (ad 7)), (1, .int a), (2, .int b)]) hx hb dX1_alike_37 hl (by decide) rfl (fun ls hl => ?_)
      refine lv_iload hx hb dX1_alike_39 (lv_at hl 0 rfl) ?_
      refine lv_bipush (v := nI 26) hx hb dX1_alike_41 (by decide) ?_
      refine lv_icmp_gt (tgt := 77) hx hb dX1_alike_43 (by decide) (fun c_43 => ?_) (fun c_43 => ?_)
      · skip
        have n_43 : 26 < 1 := (nI_ltI (a := 26) (b := 1) (by omega) (by omega)).mp c_43
        exact absurd n_43 (by decide)
      · skip
        have n_43 : ¬ 26 < 1 := fun q__ => c_43 ((nI_ltI (a := 26) (b := 1) (by omega) (by omega)).mpr q__)
        refine lv_iload_n hx hb dX1_alike_46 rfl (lv_at hl 1 rfl) ?_
        refine lv_if_eq (tgt := 77) hx hb dX1_alike_47 (by decide) (fun c_47 => ?_) (fun c_47 => ?_)
        · skip
          have n_47 : 0 = 0 := (eq0_ (by omega)).mp c_47
          refine lv_iload_n hx hb dX1_alike_77 rfl (lv_at hl 1 rfl) ?_
          exact W.zret hx hb hr rfl (fun t ht hW => ⟨⟨_, ax_h x (nI 1), rfl, ⟨rfl, rfl⟩, (by show CW B0 g ct ad cS mS (ax_h x (nI 1)) t.heap; rw [ht]; exact hC.1)⟩, hS.F ht⟩) hS.2.2 dX1_alike_78
        · skip
          have n_47 : ¬ 0 = 0 := fun q__ => c_47 ((eq0_ (by omega)).mpr q__)
          exact absurd rfl n_47
    · skip
      have n_27 : 1 = 0 := (eq0_ (by omega)).mp c_27
      exact absurd n_27 (by decide)
  · skip
    rw [h] at c_5; exact absurd rfl c_5
set_option maxHeartbeats 4000000 in
set_option maxRecDepth 100000 in
theorem t_X1_alike_2 (l : Launch) (B0 : Nat) (g : va_G) (ct ad : Nat → Nat) (cS mS : St_) (x : Ax_) (a b : Int32) (h : wd_ a = true) (h2 : wd_ b = false) : WI l yX1_alike wsX1_alike 5 0 0 B0 g ct ad cS mS x [.ref (ad 7), .int a, .int b] (nI 0) cS mS ((fun u => u = ax_h x (nI 1))) := by
  refine Met.ofW (cc := cX1_alike) (maxL := 5) (ret := (some .boolean)) (by decide) rfl ?_
  intro p e s m args below meth c s₁ B hml hv
  obtain ⟨rfl, hC⟩ := hv
  have hx := B.exec
  have hb := B.bytes
  have hr := B.returns
  have hts := atoms_spec (ws := wsX1_alike) B.pre
  have hown : s.vm.findClass RX1 = some m.cls := findClass_of_methodNamed B.named
  have hlocks := B.notSynchronized
  have hin : ∀ w ∈ wsX10, w ∈ wsX1_alike := fun _ h => List.mem_cons_of_mem _ (List.mem_append_right _ h)
  have hS : va_S (AA B0) s.heap s.heap [] := va_S.rf
  have hB : B0 ≤ s.heap.size := hC.1.2.2.1
  have hl := lv_entry ([.ref (ad 7), .int a, .int b]) (n := 5) (Nat.le_of_ble_eq_true rfl)
  rw [lg_entry_eq]
  generalize (lg_sl ([.ref (ad 7), .int a, .int b]) ++ List.replicate (5 - (lg_sl ([.ref (ad 7), .int a, .int b])).length) Slot.unset).toArray = ls at hl ⊢
  have hl : lv_has ls 5 [(0, .ref (ad 7)), (1, .int a), (2, .int b)] := hl
  refine lv_aload_n hx hb dX1_alike_0 rfl (lv_at hl 0 rfl) ?_
  refine lv_iload_n hx hb dX1_alike_1 rfl (lv_at hl 1 rfl) ?_
  refine k_pS (As := [.int a]) (rest := [.ref (ad 7)]) (c_X1_isWord l a) ⟨hx, hb, hml, hown, hts⟩ (va_cwS 1 hts gX1_alike_X1_isWord rfl rfl rfl (by decide +kernel) ⟨Nat.le_of_ble_eq_true rfl, Nat.le_of_ble_eq_true rfl⟩) rfl hl.1 rfl (Nat.le_of_ble_eq_true rfl) dX1_alike_2 ⟨Nat.le_of_ble_eq_true rfl, Nat.le_of_ble_eq_true rfl⟩ ?_
  refine lv_if_eq (tgt := 19) hx hb dX1_alike_5 (by decide) (fun c_5 => ?_) (fun c_5 => ?_)
  · skip
    rw [h] at c_5; exact absurd c_5 (by decide)
  · skip
    refine lv_iload_n hx hb dX1_alike_8 rfl (lv_at hl 2 rfl) ?_
    refine k_pS (As := [.int b]) (rest := [.ref (ad 7)]) (c_X1_isWord l b) ⟨hx, hb, hml, hown, hts⟩ (va_cwS 1 hts gX1_alike_X1_isWord rfl rfl rfl (by decide +kernel) ⟨Nat.le_of_ble_eq_true rfl, Nat.le_of_ble_eq_true rfl⟩) rfl hl.1 rfl (Nat.le_of_ble_eq_true rfl) dX1_alike_9 ⟨Nat.le_of_ble_eq_true rfl, Nat.le_of_ble_eq_true rfl⟩ ?_
    refine lv_if_eq (tgt := 19) hx hb dX1_alike_12 (by decide) (fun c_12 => ?_) (fun c_12 => ?_)
    · skip
      refine lv_iconst (v := nI 1) hx hb dX1_alike_19 (by decide) ?_
      refine w_f1 (m' := mS) (x' := ax_h x (nI 1)) hC hB hS hx hb hts hin hown 0 (by decide) (hts (.fieldLink RX1 20 "AbjadPoemsModel" "thrown" "I") (by decide +kernel)) rfl rfl rfl hC.1.2.2.2.2.1 dX1_alike_20 (fun H locs hC hS => ?_)
      refine lv_aload_n hx hb dX1_alike_23 rfl (lv_at hl 0 rfl) ?_
      refine r_g1 hC hx hb hts hin hown 0 (by decide) (hts (.fieldLink RX1 20 "AbjadPoemsModel" "thrown" "I") (by decide +kernel)) rfl dX1_alike_24 ?_
      refine lv_tn (w := nI 1) rfl ?_
      refine lv_if_ne (tgt := 34) hx hb dX1_alike_27 (by decide) (fun c_27 => ?_) (fun c_27 => ?_)
      · skip
        have n_27 : ¬ 1 = 0 := fun q__ => c_27 ((eq0_ (by omega)).mpr q__)
        refine lv_iconst (v := nI 0) hx hb dX1_alike_34 (by decide) ?_
        refine lv_istore_n (lv' := [(3, .int (nI 0)), (0, .ref (ad 7)), (1, .int a), (2, .int b)]) hx hb dX1_alike_35 rfl hl (by decide) rfl (fun ls hl => ?_)
        refine lv_iconst (v := nI 1) hx hb dX1_alike_36 (by decide) ?_
        refine lv_istore (lv' := [(4, .int (nI 1)), (3, .int (nI 0)), (0, .ref (ad 7)), (1, .int a), (2, .int b)]) hx hb dX1_alike_37 hl (by decide) rfl (fun ls hl => ?_)
        refine lv_iload hx hb dX1_alike_39 (lv_at hl 0 rfl) ?_
        refine lv_bipush (v := nI 26) hx hb dX1_alike_41 (by decide) ?_
        refine lv_icmp_gt (tgt := 77) hx hb dX1_alike_43 (by decide) (fun c_43 => ?_) (fun c_43 => ?_)
        · skip
          have n_43 : 26 < 1 := (nI_ltI (a := 26) (b := 1) (by omega) (by omega)).mp c_43
          exact absurd n_43 (by decide)
        · skip
          have n_43 : ¬ 26 < 1 := fun q__ => c_43 ((nI_ltI (a := 26) (b := 1) (by omega) (by omega)).mpr q__)
          refine lv_iload_n hx hb dX1_alike_46 rfl (lv_at hl 1 rfl) ?_
          refine lv_if_eq (tgt := 77) hx hb dX1_alike_47 (by decide) (fun c_47 => ?_) (fun c_47 => ?_)
          · skip
            have n_47 : 0 = 0 := (eq0_ (by omega)).mp c_47
            refine lv_iload_n hx hb dX1_alike_77 rfl (lv_at hl 1 rfl) ?_
            exact W.zret hx hb hr rfl (fun t ht hW => ⟨⟨_, ax_h x (nI 1), rfl, ⟨rfl, rfl⟩, (by show CW B0 g ct ad cS mS (ax_h x (nI 1)) t.heap; rw [ht]; exact hC.1)⟩, hS.F ht⟩) hS.2.2 dX1_alike_78
          · skip
            have n_47 : ¬ 0 = 0 := fun q__ => c_47 ((eq0_ (by omega)).mpr q__)
            exact absurd rfl n_47
      · skip
        have n_27 : 1 = 0 := (eq0_ (by omega)).mp c_27
        exact absurd n_27 (by decide)
    · skip
      rw [h2] at c_12; exact absurd rfl c_12
set_option maxHeartbeats 4000000 in
set_option maxRecDepth 100000 in
theorem c_X1_write (l : Launch) (B0 : Nat) (g : va_G) (ct ad : Nat → Nat) (cS mS : St_) (x : Ax_) (hn : sn mS < 12) : WI l yX1_write wsX1_write 5 0 0 B0 g ct ad cS mS x [.ref (ad 7)] (nI (sn mS)) cS (st_write mS) ((fun u => u = ax_h x (nI 0))) := by
  refine Met.ofW (cc := cX1_write) (maxL := 1) (ret := (some .int)) (by decide) rfl ?_
  intro p e s m args below meth c s₁ B hml hv
  obtain ⟨rfl, hC⟩ := hv
  have hx := B.exec
  have hb := B.bytes
  have hr := B.returns
  have hts := atoms_spec (ws := wsX1_write) B.pre
  have hown : s.vm.findClass RX1 = some m.cls := findClass_of_methodNamed B.named
  have hlocks := B.notSynchronized
  have hin : ∀ w ∈ wsX10, w ∈ wsX1_write := fun _ h => List.mem_cons_of_mem _ (List.mem_append_right _ h)
  have hS : va_S (AA B0) s.heap s.heap [] := va_S.rf
  have hB : B0 ≤ s.heap.size := hC.1.2.2.1
  have hI := hC.1.2.2.2.2.1
  have hl := lv_entry ([.ref (ad 7)]) (n := 1) (Nat.le_of_ble_eq_true rfl)
  rw [lg_entry_eq]
  generalize (lg_sl ([.ref (ad 7)]) ++ List.replicate (1 - (lg_sl ([.ref (ad 7)])).length) Slot.unset).toArray = ls at hl ⊢
  have hl : lv_has ls 1 [(0, .ref (ad 7))] := hl
  refine lv_aload_n hx hb dX1_write_0 rfl (lv_at hl 0 rfl) ?_
  refine lv_iconst (v := nI 0) hx hb dX1_write_1 (by decide) ?_
  refine w_f1 (m' := mS) (x' := ax_h x (nI 0)) hC hB hS hx hb hts hin hown 0 (by decide) (hts (.fieldLink RX1 20 "AbjadPoemsModel" "thrown" "I") (by decide +kernel)) rfl rfl rfl hC.1.2.2.2.2.1 dX1_write_2 (fun H locs hC hS => ?_)
  refine lv_aload_n hx hb dX1_write_5 rfl (lv_at hl 0 rfl) ?_
  refine r_g1 hC hx hb hts hin hown 2 (by decide) (hts (.fieldLink RX1 24 "AbjadPoemsModel" "lines" "I") (by decide +kernel)) rfl dX1_write_6 ?_
  refine lv_bipush (v := nI 12) hx hb dX1_write_9 (by decide) ?_
  refine lv_icmp_ne (tgt := 20) hx hb dX1_write_11 (by decide) (fun c_11 => ?_) (fun c_11 => ?_)
  · skip
    have n_11 : ¬ sn mS = 12 := fun q__ => c_11 ((nI_eq (a := sn mS) (b := 12) (by omega) (by omega)).mpr q__)
    refine lv_aload_n hx hb dX1_write_20 rfl (lv_at hl 0 rfl) ?_
    refine lv_dup hx hb dX1_write_21 rfl ?_
    refine r_g1 hC hx hb hts hin hown 2 (by decide) (hts (.fieldLink RX1 24 "AbjadPoemsModel" "lines" "I") (by decide +kernel)) rfl dX1_write_22 ?_
    refine lv_iconst (v := nI 1) hx hb dX1_write_25 (by decide) ?_
    refine lv_iadd hx hb dX1_write_26 ?_
    refine lv_tn (nI_add _ _) ?_
    refine w_f1 (m' := st_write mS) (x' := ax_h x (nI 0)) hC hB hS hx hb hts hin hown 2 (by decide) (hts (.fieldLink RX1 24 "AbjadPoemsModel" "lines" "I") (by decide +kernel)) rfl rfl rfl (iv_n hI hn) dX1_write_27 (fun H locs hC hS => ?_)
    refine lv_aload_n hx hb dX1_write_30 rfl (lv_at hl 0 rfl) ?_
    refine r_g1 hC hx hb hts hin hown 2 (by decide) (hts (.fieldLink RX1 24 "AbjadPoemsModel" "lines" "I") (by decide +kernel)) rfl dX1_write_31 ?_
    refine lv_iconst (v := nI 1) hx hb dX1_write_34 (by decide) ?_
    refine lv_isub hx hb dX1_write_35 ?_
    refine lv_tn (pk_sub (by show 1 ≤ sn mS + 1; omega)) ?_
    exact W.iret hx hb hr (fun t ht hW => ⟨⟨_, ax_h x (nI 0), rfl, ⟨rfl, rfl⟩, (by show CW B0 g ct ad cS (st_write mS) (ax_h x (nI 0)) t.heap; rw [ht]; exact hC.1)⟩, hS.F ht⟩) hS.2.2 dX1_write_36
  · skip
    have n_11 : sn mS = 12 := (nI_eq (a := sn mS) (b := 12) (by omega) (by omega)).mp c_11
    exact absurd n_11 (by omega)
set_option maxHeartbeats 4000000 in
set_option maxRecDepth 100000 in
theorem t_X1_write (l : Launch) (B0 : Nat) (g : va_G) (ct ad : Nat → Nat) (cS mS : St_) (x : Ax_) (hn : ¬ sn mS < 12) : WI l yX1_write wsX1_write 5 0 0 B0 g ct ad cS mS x [.ref (ad 7)] (nI 0) cS mS ((fun u => u = ax_h x (nI 1))) := by
  refine Met.ofW (cc := cX1_write) (maxL := 1) (ret := (some .int)) (by decide) rfl ?_
  intro p e s m args below meth c s₁ B hml hv
  obtain ⟨rfl, hC⟩ := hv
  have hx := B.exec
  have hb := B.bytes
  have hr := B.returns
  have hts := atoms_spec (ws := wsX1_write) B.pre
  have hown : s.vm.findClass RX1 = some m.cls := findClass_of_methodNamed B.named
  have hlocks := B.notSynchronized
  have hin : ∀ w ∈ wsX10, w ∈ wsX1_write := fun _ h => List.mem_cons_of_mem _ (List.mem_append_right _ h)
  have hS : va_S (AA B0) s.heap s.heap [] := va_S.rf
  have hB : B0 ≤ s.heap.size := hC.1.2.2.1
  have hI := hC.1.2.2.2.2.1
  have h12 := hI.2.1
  have hl := lv_entry ([.ref (ad 7)]) (n := 1) (Nat.le_of_ble_eq_true rfl)
  rw [lg_entry_eq]
  generalize (lg_sl ([.ref (ad 7)]) ++ List.replicate (1 - (lg_sl ([.ref (ad 7)])).length) Slot.unset).toArray = ls at hl ⊢
  have hl : lv_has ls 1 [(0, .ref (ad 7))] := hl
  refine lv_aload_n hx hb dX1_write_0 rfl (lv_at hl 0 rfl) ?_
  refine lv_iconst (v := nI 0) hx hb dX1_write_1 (by decide) ?_
  refine w_f1 (m' := mS) (x' := ax_h x (nI 0)) hC hB hS hx hb hts hin hown 0 (by decide) (hts (.fieldLink RX1 20 "AbjadPoemsModel" "thrown" "I") (by decide +kernel)) rfl rfl rfl hC.1.2.2.2.2.1 dX1_write_2 (fun H locs hC hS => ?_)
  refine lv_aload_n hx hb dX1_write_5 rfl (lv_at hl 0 rfl) ?_
  refine r_g1 hC hx hb hts hin hown 2 (by decide) (hts (.fieldLink RX1 24 "AbjadPoemsModel" "lines" "I") (by decide +kernel)) rfl dX1_write_6 ?_
  refine lv_bipush (v := nI 12) hx hb dX1_write_9 (by decide) ?_
  refine lv_icmp_ne (tgt := 20) hx hb dX1_write_11 (by decide) (fun c_11 => ?_) (fun c_11 => ?_)
  · skip
    have n_11 : ¬ sn mS = 12 := fun q__ => c_11 ((nI_eq (a := sn mS) (b := 12) (by omega) (by omega)).mpr q__)
    exact absurd h12 (by omega)
  · skip
    have n_11 : sn mS = 12 := (nI_eq (a := sn mS) (b := 12) (by omega) (by omega)).mp c_11
    refine lv_aload_n hx hb dX1_write_14 rfl (lv_at hl 0 rfl) ?_
    refine lv_iconst (v := nI 1) hx hb dX1_write_15 (by decide) ?_
    refine k_wV (As := [.int (nI 1)]) (rest := []) (c_X1_fail l B0 g ct ad cS mS (ax_h x (nI 0)) 1) hC hB hS ⟨hx, hb, hml, hown, hts⟩ (cwV 1 hts gX1_write_X1_fail rfl rfl rfl (by decide +kernel) ⟨Nat.le_of_ble_eq_true rfl, Nat.le_of_ble_eq_true rfl⟩) (rc1 hC) rfl hl.1 rfl (Nat.le_of_ble_eq_true rfl) dX1_write_16 ⟨Nat.le_of_ble_eq_true rfl, Nat.le_of_ble_eq_true rfl⟩ (fun u_16 H locs hu_16 hC hS => ?_)
    subst hu_16
    exact W.iret hx hb hr (fun t ht hW => ⟨⟨_, ax_h (ax_h x (nI 0)) (nI 1), rfl, ⟨rfl, rfl⟩, (by show CW B0 g ct ad cS mS (ax_h (ax_h x (nI 0)) (nI 1)) t.heap; rw [ht]; exact hC.1)⟩, hS.F ht⟩) hS.2.2 dX1_write_19
set_option maxHeartbeats 4000000 in
set_option maxRecDepth 100000 in
theorem c_X1_add (l : Launch) (B0 : Nat) (g : va_G) (ct ad : Nat → Nat) (cS mS : St_) (x : Ax_) (i w : Nat) (hi : i < sn mS) (hw : w < 387420489) (hwd : wd_ (nI w) = true) (hs : ss mS i < 10) : WI l yX1_add wsX1_add 5 0 0 B0 g ct ad cS mS x [.ref (ad 7), .int (nI i), .int (nI w)] (nI (ss mS i + 1)) cS (st_add mS i w) ((fun u => u = ax_h x (nI 0))) := by
  refine Met.ofW (cc := cX1_add) (maxL := 4) (ret := (some .int)) (by decide) rfl ?_
  intro p e s m args below meth c s₁ B hml hv
  obtain ⟨rfl, hC⟩ := hv
  have hx := B.exec
  have hb := B.bytes
  have hr := B.returns
  have hts := atoms_spec (ws := wsX1_add) B.pre
  have hown : s.vm.findClass RX1 = some m.cls := findClass_of_methodNamed B.named
  have hlocks := B.notSynchronized
  have hin : ∀ w ∈ wsX10, w ∈ wsX1_add := fun _ h => List.mem_cons_of_mem _ (List.mem_append_right _ h)
  have hS : va_S (AA B0) s.heap s.heap [] := va_S.rf
  have hB : B0 ≤ s.heap.size := hC.1.2.2.1
  have hI := hC.1.2.2.2.2.1
  have hn := hI.2.1
  have hz := hI.2.2.1 i
  have hf := li_t hi (by omega)
  have hk6 := hI.2.2.2.2.1 (10 * i + ss mS i)
  have hl := lv_entry ([.ref (ad 7), .int (nI i), .int (nI w)]) (n := 4) (Nat.le_of_ble_eq_true rfl)
  rw [lg_entry_eq]
  generalize (lg_sl ([.ref (ad 7), .int (nI i), .int (nI w)]) ++ List.replicate (4 - (lg_sl ([.ref (ad 7), .int (nI i), .int (nI w)])).length) Slot.unset).toArray = ls at hl ⊢
  have hl : lv_has ls 4 [(0, .ref (ad 7)), (1, .int (nI i)), (2, .int (nI w))] := hl
  refine lv_aload_n hx hb dX1_add_0 rfl (lv_at hl 0 rfl) ?_
  refine lv_iconst (v := nI 0) hx hb dX1_add_1 (by decide) ?_
  refine w_f1 (m' := mS) (x' := ax_h x (nI 0)) hC hB hS hx hb hts hin hown 0 (by decide) (hts (.fieldLink RX1 20 "AbjadPoemsModel" "thrown" "I") (by decide +kernel)) rfl rfl rfl hC.1.2.2.2.2.1 dX1_add_2 (fun H locs hC hS => ?_)
  refine lv_aload_n hx hb dX1_add_5 rfl (lv_at hl 0 rfl) ?_
  refine lv_iload_n hx hb dX1_add_6 rfl (lv_at hl 1 rfl) ?_
  refine k_rV (As := [.int (nI i)]) (rest := []) (c_X1_isLine l B0 g ct ad cS mS (ax_h x (nI 0)) (nI i)) hC ⟨hx, hb, hml, hown, hts⟩ (cwV 1 hts gX1_add_X1_isLine rfl rfl rfl (by decide +kernel) ⟨Nat.le_of_ble_eq_true rfl, Nat.le_of_ble_eq_true rfl⟩) (rc1 hC) rfl hl.1 rfl (Nat.le_of_ble_eq_true rfl) dX1_add_7 ⟨Nat.le_of_ble_eq_true rfl, Nat.le_of_ble_eq_true rfl⟩ ?_
  refine lv_if_ne (tgt := 19) hx hb dX1_add_10 (by decide) (fun c_10 => ?_) (fun c_10 => ?_)
  · skip
    refine lv_iload_n hx hb dX1_add_19 rfl (lv_at hl 2 rfl) ?_
    refine k_pS (As := [.int (nI w)]) (rest := []) (c_X1_isWord l (nI w)) ⟨hx, hb, hml, hown, hts⟩ (va_cwS 1 hts gX1_add_X1_isWord rfl rfl rfl (by decide +kernel) ⟨Nat.le_of_ble_eq_true rfl, Nat.le_of_ble_eq_true rfl⟩) rfl hl.1 rfl (Nat.le_of_ble_eq_true rfl) dX1_add_20 ⟨Nat.le_of_ble_eq_true rfl, Nat.le_of_ble_eq_true rfl⟩ ?_
    refine lv_if_ne (tgt := 32) hx hb dX1_add_23 (by decide) (fun c_23 => ?_) (fun c_23 => ?_)
    · skip
      refine lv_aload_n hx hb dX1_add_32 rfl (lv_at hl 0 rfl) ?_
      refine r_g1 hC hx hb hts hin hown 3 (by decide) (hts (.fieldLink RX1 9 "AbjadPoemsModel" "longs" "[I") (by decide +kernel)) rfl dX1_add_33 ?_
      refine lv_iload_n hx hb dX1_add_36 rfl (lv_at hl 1 rfl) ?_
      refine r_lg hC hx hb dX1_add_37 (j := i) (by omega) ?_
      refine lv_bipush (v := nI 10) hx hb dX1_add_38 (by decide) ?_
      refine lv_icmp_ne (tgt := 49) hx hb dX1_add_40 (by decide) (fun c_40 => ?_) (fun c_40 => ?_)
      · skip
        have n_40 : ¬ ss mS i = 10 := fun q__ => c_40 ((nI_eq (a := ss mS i) (b := 10) (by omega) (by omega)).mpr q__)
        refine lv_aload_n hx hb dX1_add_49 rfl (lv_at hl 0 rfl) ?_
        refine r_g1 hC hx hb hts hin hown 4 (by decide) (hts (.fieldLink RX1 13 "AbjadPoemsModel" "words" "[I") (by decide +kernel)) rfl dX1_add_50 ?_
        refine lv_bipush (v := nI 10) hx hb dX1_add_53 (by decide) ?_
        refine lv_iload_n hx hb dX1_add_55 rfl (lv_at hl 1 rfl) ?_
        refine lv_imul hx hb dX1_add_56 ?_
        refine lv_tn (pk_mul _ _) ?_
        refine lv_aload_n hx hb dX1_add_57 rfl (lv_at hl 0 rfl) ?_
        refine r_g1 hC hx hb hts hin hown 3 (by decide) (hts (.fieldLink RX1 9 "AbjadPoemsModel" "longs" "[I") (by decide +kernel)) rfl dX1_add_58 ?_
        refine lv_iload_n hx hb dX1_add_61 rfl (lv_at hl 1 rfl) ?_
        refine r_lg hC hx hb dX1_add_62 (j := i) (by omega) ?_
        refine lv_iadd hx hb dX1_add_63 ?_
        refine lv_tn (nI_add _ _) ?_
        refine lv_iload_n hx hb dX1_add_64 rfl (lv_at hl 2 rfl) ?_
        refine w_mw hC hB hS hx hb dX1_add_65 (j := ((10 * i) + (ss mS i))) (v := w) (by omega) (iv_w hI hw (ix_ hI hs)) (fun H locs hC hS => ?_)
        refine lv_iconst (v := nI 0) hx hb dX1_add_66 (by decide) ?_
        refine lv_istore_n (lv' := [(3, .int (nI 0)), (0, .ref (ad 7)), (1, .int (nI i)), (2, .int (nI w))]) hx hb dX1_add_67 rfl hl (by decide) rfl (fun ls hl => ?_)
        have LP_68 : ∀ (n_ : Nat) (k : Nat) (mv : St_), 6 - k < n_ → (mv = st_k (st_w mS (10 * i + ss mS i) w) (10 * i + ss mS i) (cl_ (sk mS (10 * i + ss mS i)) k)) → (k ≤ 6) → ∀ (H : Heap) (locs : List Loc), CX B0 g ct ad cS mv (ax_h x (nI 0)) s H → va_S (AA B0) s.heap H locs → ∀ ls : Array Slot, lv_has ls 4 [(3, .int (nI k)), (0, .ref (ad 7)), (1, .int (nI i)), (2, .int (nI w))] → W p l e (headSpec wsX1_add (rm_ 5 0 0)).room s m ([.ref (ad 7), .int (nI i), .int (nI w)] : List Value).toArray below meth c H locs 0 0 (MQ below (va_Qi (fun r (u : Ax_) => r = nI (ss mS i + 1) ∧ ((fun u => u = ax_h x (nI 0))) u) (fun u t => CW B0 g ct ad cS (st_add mS i w) u t.heap) (AA B0)) ([.ref (ad 7), .int (nI i), .int (nI w)] : List Value).toArray s 0 0 (AA B0)) (F0 m 68 ls []) := by
          intro n_
          induction n_ with
          | zero => intro k mv hm; exact absurd hm (Nat.not_lt_zero _)
          | succ n_ ih_68 =>
            intro k mv hm hm_ hk H locs hC hS ls hl
            refine lv_iload_n hx hb dX1_add_68 rfl (lv_at hl 0 rfl) ?_
            refine lv_bipush (v := nI 6) hx hb dX1_add_69 (by decide) ?_
            refine lv_icmp_ge (tgt := 99) hx hb dX1_add_71 (by decide) (fun c_71 => ?_) (fun c_71 => ?_)
            · skip
              have n_71 : 6 ≤ k := (nI_leI (a := 6) (b := k) (by omega) (by omega)).mp c_71
              have hm6 : mv = st_k (st_w mS (10 * i + ss mS i) w) (10 * i + ss mS i) 0 := by rw [hm_, show k = 6 by omega, cl_6 _ hk6]
              refine lv_aload_n hx hb dX1_add_99 rfl (lv_at hl 1 rfl) ?_
              refine r_g1 hC hx hb hts hin hown 3 (by decide) (hts (.fieldLink RX1 9 "AbjadPoemsModel" "longs" "[I") (by decide +kernel)) rfl dX1_add_100 ?_
              refine lv_iload_n hx hb dX1_add_103 rfl (lv_at hl 2 rfl) ?_
              refine lv_dup2_11 hx hb dX1_add_104 rfl rfl ?_
              refine r_lg hC hx hb dX1_add_105 (j := i) (by omega) ?_
              refine lv_tn (w := nI (ss mS i)) (by rw [hm6]; rfl) ?_
              refine lv_iconst (v := nI 1) hx hb dX1_add_106 (by decide) ?_
              refine lv_iadd hx hb dX1_add_107 ?_
              refine lv_tn (nI_add _ _) ?_
              refine w_lg hC hB hS hx hb dX1_add_108 (j := i) (v := (ss mS i) + 1) (by omega) (by rw [hm6]; exact iv_add hI hs hw) (fun H locs hC hS => ?_)
              refine lv_aload_n hx hb dX1_add_109 rfl (lv_at hl 1 rfl) ?_
              refine r_g1 hC hx hb hts hin hown 3 (by decide) (hts (.fieldLink RX1 9 "AbjadPoemsModel" "longs" "[I") (by decide +kernel)) rfl dX1_add_110 ?_
              refine lv_iload_n hx hb dX1_add_113 rfl (lv_at hl 2 rfl) ?_
              refine r_lg hC hx hb dX1_add_114 (j := i) (by omega) ?_
              refine lv_tn (w := nI (ss mS i + 1)) (congrArg nI up_s) ?_
              have hC : CX B0 g ct ad cS (st_add mS i w) (ax_h x (nI 0)) s H := by rw [hm6] at hC; exact hC
              exact W.iret hx hb hr (fun t ht hW => ⟨⟨_, ax_h x (nI 0), rfl, ⟨rfl, rfl⟩, (by show CW B0 g ct ad cS (st_add mS i w) (ax_h x (nI 0)) t.heap; rw [ht]; exact hC.1)⟩, hS.F ht⟩) hS.2.2 dX1_add_115
            · skip
              have n_71 : ¬ 6 ≤ k := fun q__ => c_71 ((nI_leI (a := 6) (b := k) (by omega) (by omega)).mpr q__)
              refine lv_aload_n hx hb dX1_add_74 rfl (lv_at hl 1 rfl) ?_
              refine r_g1 hC hx hb hts hin hown 5 (by decide) (hts (.fieldLink RX1 16 "AbjadPoemsModel" "marks" "[Z") (by decide +kernel)) rfl dX1_add_75 ?_
              refine lv_aload_n hx hb dX1_add_78 rfl (lv_at hl 1 rfl) ?_
              refine lv_iload_n hx hb dX1_add_79 rfl (lv_at hl 2 rfl) ?_
              refine lv_aload_n hx hb dX1_add_80 rfl (lv_at hl 1 rfl) ?_
              refine r_g1 hC hx hb hts hin hown 3 (by decide) (hts (.fieldLink RX1 9 "AbjadPoemsModel" "longs" "[I") (by decide +kernel)) rfl dX1_add_81 ?_
              refine lv_iload_n hx hb dX1_add_84 rfl (lv_at hl 2 rfl) ?_
              refine r_lg hC hx hb dX1_add_85 (j := i) (by omega) ?_
              refine lv_tn (w := nI (ss mS i)) (by rw [hm_]; rfl) ?_
              refine k_rV (As := [.int (nI i), .int (nI (ss mS i))]) (rest := [.ref (ad 10)]) (c_X1_base l B0 g ct ad cS mv (ax_h x (nI 0)) i (ss mS i)) hC ⟨hx, hb, hml, hown, hts⟩ (cwV 2 hts gX1_add_X1_base rfl rfl rfl (by decide +kernel) ⟨Nat.le_of_ble_eq_true rfl, Nat.le_of_ble_eq_true rfl⟩) (rc1 hC) rfl hl.1 rfl (Nat.le_of_ble_eq_true rfl) dX1_add_86 ⟨Nat.le_of_ble_eq_true rfl, Nat.le_of_ble_eq_true rfl⟩ ?_
              refine lv_iload_n hx hb dX1_add_89 rfl (lv_at hl 0 rfl) ?_
              refine lv_iadd hx hb dX1_add_90 ?_
              refine lv_tn (nI_add _ _) ?_
              refine lv_iconst (v := nI 0) hx hb dX1_add_91 (by decide) ?_
              refine w_mk (v := nI 0) (i := (10 * i + ss mS i)) (b := (cl_ (sk mS (10 * i + ss mS i)) (k + 1))) hC hB hS hx hb dX1_add_92 (j := ((6 * (10 * i + (ss mS i))) + k)) (by omega) (mb_c (by omega) hk6 (by rw [hm_]; exact up_s) rfl) (iv_k hC.1.2.2.2.2.1 (cl_lt _ hk6 _ (by omega)) (fun l w hw e => absurd e (ix_ hI hs l w (by rw [hm_] at hw; exact hw)))) (fun H locs hC hS => ?_)
              refine lv_iinc (v := nI (k + 1)) (lv' := [(3, .int (nI (k + 1))), (0, .ref (ad 7)), (1, .int (nI i)), (2, .int (nI w))]) hx hb dX1_add_93 hl (k := 0) rfl (nI_1 _) (by decide) rfl (fun ls hl => ?_)
              refine lv_goto (tgt := 68) hx hb dX1_add_96 (by decide) ?_
              exact ih_68 (k + 1) (st_k mv ((10 * i + ss mS i)) ((cl_ (sk mS (10 * i + ss mS i)) (k + 1)))) (by omega) (by rw [hm_, st_kk]) (by omega) H locs hC hS ls (lv_sub hl [0, 1, 2, 3] rfl)
        exact LP_68 _ 0 (st_w mS (10 * i + ss mS i) w) (Nat.lt_succ_self _) (by rw [cl_0]; exact (st_ks _ _).symm) (by omega) H locs hC hS ls (lv_sub hl [0, 1, 2, 3] rfl)
      · skip
        have n_40 : ss mS i = 10 := (nI_eq (a := ss mS i) (b := 10) (by omega) (by omega)).mp c_40
        exact absurd n_40 (by omega)
    · skip
      rw [hwd] at c_23; exact absurd c_23 (by decide)
  · skip
    rw [hf] at c_10; exact absurd c_10 (by decide)
set_option maxHeartbeats 4000000 in
set_option maxRecDepth 100000 in
theorem t_X1_add_1 (l : Launch) (B0 : Nat) (g : va_G) (ct ad : Nat → Nat) (cS mS : St_) (x : Ax_) (li : Int32) (h : li < 0 ∨ nI (sn mS) ≤ li) (w : Int32) : WI l yX1_add wsX1_add 5 0 0 B0 g ct ad cS mS x [.ref (ad 7), .int li, .int w] (nI 0) cS mS ((fun u => u = ax_h x (nI 1))) := by
  refine Met.ofW (cc := cX1_add) (maxL := 4) (ret := (some .int)) (by decide) rfl ?_
  intro p e s m args below meth c s₁ B hml hv
  obtain ⟨rfl, hC⟩ := hv
  have hx := B.exec
  have hb := B.bytes
  have hr := B.returns
  have hts := atoms_spec (ws := wsX1_add) B.pre
  have hown : s.vm.findClass RX1 = some m.cls := findClass_of_methodNamed B.named
  have hlocks := B.notSynchronized
  have hin : ∀ w ∈ wsX10, w ∈ wsX1_add := fun _ h => List.mem_cons_of_mem _ (List.mem_append_right _ h)
  have hS : va_S (AA B0) s.heap s.heap [] := va_S.rf
  have hB : B0 ≤ s.heap.size := hC.1.2.2.1
  have hI := hC.1.2.2.2.2.1
  have hn := hI.2.1
  have hf := li_f h (by omega)
  have hl := lv_entry ([.ref (ad 7), .int li, .int w]) (n := 4) (Nat.le_of_ble_eq_true rfl)
  rw [lg_entry_eq]
  generalize (lg_sl ([.ref (ad 7), .int li, .int w]) ++ List.replicate (4 - (lg_sl ([.ref (ad 7), .int li, .int w])).length) Slot.unset).toArray = ls at hl ⊢
  have hl : lv_has ls 4 [(0, .ref (ad 7)), (1, .int li), (2, .int w)] := hl
  refine lv_aload_n hx hb dX1_add_0 rfl (lv_at hl 0 rfl) ?_
  refine lv_iconst (v := nI 0) hx hb dX1_add_1 (by decide) ?_
  refine w_f1 (m' := mS) (x' := ax_h x (nI 0)) hC hB hS hx hb hts hin hown 0 (by decide) (hts (.fieldLink RX1 20 "AbjadPoemsModel" "thrown" "I") (by decide +kernel)) rfl rfl rfl hC.1.2.2.2.2.1 dX1_add_2 (fun H locs hC hS => ?_)
  refine lv_aload_n hx hb dX1_add_5 rfl (lv_at hl 0 rfl) ?_
  refine lv_iload_n hx hb dX1_add_6 rfl (lv_at hl 1 rfl) ?_
  refine k_rV (As := [.int li]) (rest := []) (c_X1_isLine l B0 g ct ad cS mS (ax_h x (nI 0)) li) hC ⟨hx, hb, hml, hown, hts⟩ (cwV 1 hts gX1_add_X1_isLine rfl rfl rfl (by decide +kernel) ⟨Nat.le_of_ble_eq_true rfl, Nat.le_of_ble_eq_true rfl⟩) (rc1 hC) rfl hl.1 rfl (Nat.le_of_ble_eq_true rfl) dX1_add_7 ⟨Nat.le_of_ble_eq_true rfl, Nat.le_of_ble_eq_true rfl⟩ ?_
  refine lv_if_ne (tgt := 19) hx hb dX1_add_10 (by decide) (fun c_10 => ?_) (fun c_10 => ?_)
  · skip
    rw [hf] at c_10; exact absurd rfl c_10
  · skip
    refine lv_aload_n hx hb dX1_add_13 rfl (lv_at hl 0 rfl) ?_
    refine lv_iconst (v := nI 1) hx hb dX1_add_14 (by decide) ?_
    refine k_wV (As := [.int (nI 1)]) (rest := []) (c_X1_fail l B0 g ct ad cS mS (ax_h x (nI 0)) 1) hC hB hS ⟨hx, hb, hml, hown, hts⟩ (cwV 1 hts gX1_add_X1_fail rfl rfl rfl (by decide +kernel) ⟨Nat.le_of_ble_eq_true rfl, Nat.le_of_ble_eq_true rfl⟩) (rc1 hC) rfl hl.1 rfl (Nat.le_of_ble_eq_true rfl) dX1_add_15 ⟨Nat.le_of_ble_eq_true rfl, Nat.le_of_ble_eq_true rfl⟩ (fun u_15 H locs hu_15 hC hS => ?_)
    subst hu_15
    exact W.iret hx hb hr (fun t ht hW => ⟨⟨_, ax_h (ax_h x (nI 0)) (nI 1), rfl, ⟨rfl, rfl⟩, (by show CW B0 g ct ad cS mS (ax_h (ax_h x (nI 0)) (nI 1)) t.heap; rw [ht]; exact hC.1)⟩, hS.F ht⟩) hS.2.2 dX1_add_18
set_option maxHeartbeats 4000000 in
set_option maxRecDepth 100000 in
theorem t_X1_add_2 (l : Launch) (B0 : Nat) (g : va_G) (ct ad : Nat → Nat) (cS mS : St_) (x : Ax_) (i : Nat) (hi : i < sn mS) (w : Int32) (h2 : wd_ w = false) : WI l yX1_add wsX1_add 5 0 0 B0 g ct ad cS mS x [.ref (ad 7), .int (nI i), .int w] (nI 0) cS mS ((fun u => u = ax_h x (nI 2))) := by
  refine Met.ofW (cc := cX1_add) (maxL := 4) (ret := (some .int)) (by decide) rfl ?_
  intro p e s m args below meth c s₁ B hml hv
  obtain ⟨rfl, hC⟩ := hv
  have hx := B.exec
  have hb := B.bytes
  have hr := B.returns
  have hts := atoms_spec (ws := wsX1_add) B.pre
  have hown : s.vm.findClass RX1 = some m.cls := findClass_of_methodNamed B.named
  have hlocks := B.notSynchronized
  have hin : ∀ w ∈ wsX10, w ∈ wsX1_add := fun _ h => List.mem_cons_of_mem _ (List.mem_append_right _ h)
  have hS : va_S (AA B0) s.heap s.heap [] := va_S.rf
  have hB : B0 ≤ s.heap.size := hC.1.2.2.1
  have hI := hC.1.2.2.2.2.1
  have hn := hI.2.1
  have hz := hI.2.2.1 i
  have hf := li_t hi (by omega)
  have hl := lv_entry ([.ref (ad 7), .int (nI i), .int w]) (n := 4) (Nat.le_of_ble_eq_true rfl)
  rw [lg_entry_eq]
  generalize (lg_sl ([.ref (ad 7), .int (nI i), .int w]) ++ List.replicate (4 - (lg_sl ([.ref (ad 7), .int (nI i), .int w])).length) Slot.unset).toArray = ls at hl ⊢
  have hl : lv_has ls 4 [(0, .ref (ad 7)), (1, .int (nI i)), (2, .int w)] := hl
  refine lv_aload_n hx hb dX1_add_0 rfl (lv_at hl 0 rfl) ?_
  refine lv_iconst (v := nI 0) hx hb dX1_add_1 (by decide) ?_
  refine w_f1 (m' := mS) (x' := ax_h x (nI 0)) hC hB hS hx hb hts hin hown 0 (by decide) (hts (.fieldLink RX1 20 "AbjadPoemsModel" "thrown" "I") (by decide +kernel)) rfl rfl rfl hC.1.2.2.2.2.1 dX1_add_2 (fun H locs hC hS => ?_)
  refine lv_aload_n hx hb dX1_add_5 rfl (lv_at hl 0 rfl) ?_
  refine lv_iload_n hx hb dX1_add_6 rfl (lv_at hl 1 rfl) ?_
  refine k_rV (As := [.int (nI i)]) (rest := []) (c_X1_isLine l B0 g ct ad cS mS (ax_h x (nI 0)) (nI i)) hC ⟨hx, hb, hml, hown, hts⟩ (cwV 1 hts gX1_add_X1_isLine rfl rfl rfl (by decide +kernel) ⟨Nat.le_of_ble_eq_true rfl, Nat.le_of_ble_eq_true rfl⟩) (rc1 hC) rfl hl.1 rfl (Nat.le_of_ble_eq_true rfl) dX1_add_7 ⟨Nat.le_of_ble_eq_true rfl, Nat.le_of_ble_eq_true rfl⟩ ?_
  refine lv_if_ne (tgt := 19) hx hb dX1_add_10 (by decide) (fun c_10 => ?_) (fun c_10 => ?_)
  · skip
    refine lv_iload_n hx hb dX1_add_19 rfl (lv_at hl 2 rfl) ?_
    refine k_pS (As := [.int w]) (rest := []) (c_X1_isWord l w) ⟨hx, hb, hml, hown, hts⟩ (va_cwS 1 hts gX1_add_X1_isWord rfl rfl rfl (by decide +kernel) ⟨Nat.le_of_ble_eq_true rfl, Nat.le_of_ble_eq_true rfl⟩) rfl hl.1 rfl (Nat.le_of_ble_eq_true rfl) dX1_add_20 ⟨Nat.le_of_ble_eq_true rfl, Nat.le_of_ble_eq_true rfl⟩ ?_
    refine lv_if_ne (tgt := 32) hx hb dX1_add_23 (by decide) (fun c_23 => ?_) (fun c_23 => ?_)
    · skip
      rw [h2] at c_23; exact absurd rfl c_23
    · skip
      refine lv_aload_n hx hb dX1_add_26 rfl (lv_at hl 0 rfl) ?_
      refine lv_iconst (v := nI 2) hx hb dX1_add_27 (by decide) ?_
      refine k_wV (As := [.int (nI 2)]) (rest := []) (c_X1_fail l B0 g ct ad cS mS (ax_h x (nI 0)) 2) hC hB hS ⟨hx, hb, hml, hown, hts⟩ (cwV 1 hts gX1_add_X1_fail rfl rfl rfl (by decide +kernel) ⟨Nat.le_of_ble_eq_true rfl, Nat.le_of_ble_eq_true rfl⟩) (rc1 hC) rfl hl.1 rfl (Nat.le_of_ble_eq_true rfl) dX1_add_28 ⟨Nat.le_of_ble_eq_true rfl, Nat.le_of_ble_eq_true rfl⟩ (fun u_28 H locs hu_28 hC hS => ?_)
      subst hu_28
      exact W.iret hx hb hr (fun t ht hW => ⟨⟨_, ax_h (ax_h x (nI 0)) (nI 2), rfl, ⟨rfl, rfl⟩, (by show CW B0 g ct ad cS mS (ax_h (ax_h x (nI 0)) (nI 2)) t.heap; rw [ht]; exact hC.1)⟩, hS.F ht⟩) hS.2.2 dX1_add_31
  · skip
    rw [hf] at c_10; exact absurd c_10 (by decide)
set_option maxHeartbeats 4000000 in
set_option maxRecDepth 100000 in
theorem t_X1_add_3 (l : Launch) (B0 : Nat) (g : va_G) (ct ad : Nat → Nat) (cS mS : St_) (x : Ax_) (i : Nat) (hi : i < sn mS) (w : Int32) (h2 : wd_ w = true) (hs : ¬ ss mS i < 10) : WI l yX1_add wsX1_add 5 0 0 B0 g ct ad cS mS x [.ref (ad 7), .int (nI i), .int w] (nI 0) cS mS ((fun u => u = ax_h x (nI 3))) := by
  refine Met.ofW (cc := cX1_add) (maxL := 4) (ret := (some .int)) (by decide) rfl ?_
  intro p e s m args below meth c s₁ B hml hv
  obtain ⟨rfl, hC⟩ := hv
  have hx := B.exec
  have hb := B.bytes
  have hr := B.returns
  have hts := atoms_spec (ws := wsX1_add) B.pre
  have hown : s.vm.findClass RX1 = some m.cls := findClass_of_methodNamed B.named
  have hlocks := B.notSynchronized
  have hin : ∀ w ∈ wsX10, w ∈ wsX1_add := fun _ h => List.mem_cons_of_mem _ (List.mem_append_right _ h)
  have hS : va_S (AA B0) s.heap s.heap [] := va_S.rf
  have hB : B0 ≤ s.heap.size := hC.1.2.2.1
  have hI := hC.1.2.2.2.2.1
  have hn := hI.2.1
  have hz := hI.2.2.1 i
  have hf := li_t hi (by omega)
  have hl := lv_entry ([.ref (ad 7), .int (nI i), .int w]) (n := 4) (Nat.le_of_ble_eq_true rfl)
  rw [lg_entry_eq]
  generalize (lg_sl ([.ref (ad 7), .int (nI i), .int w]) ++ List.replicate (4 - (lg_sl ([.ref (ad 7), .int (nI i), .int w])).length) Slot.unset).toArray = ls at hl ⊢
  have hl : lv_has ls 4 [(0, .ref (ad 7)), (1, .int (nI i)), (2, .int w)] := hl
  refine lv_aload_n hx hb dX1_add_0 rfl (lv_at hl 0 rfl) ?_
  refine lv_iconst (v := nI 0) hx hb dX1_add_1 (by decide) ?_
  refine w_f1 (m' := mS) (x' := ax_h x (nI 0)) hC hB hS hx hb hts hin hown 0 (by decide) (hts (.fieldLink RX1 20 "AbjadPoemsModel" "thrown" "I") (by decide +kernel)) rfl rfl rfl hC.1.2.2.2.2.1 dX1_add_2 (fun H locs hC hS => ?_)
  refine lv_aload_n hx hb dX1_add_5 rfl (lv_at hl 0 rfl) ?_
  refine lv_iload_n hx hb dX1_add_6 rfl (lv_at hl 1 rfl) ?_
  refine k_rV (As := [.int (nI i)]) (rest := []) (c_X1_isLine l B0 g ct ad cS mS (ax_h x (nI 0)) (nI i)) hC ⟨hx, hb, hml, hown, hts⟩ (cwV 1 hts gX1_add_X1_isLine rfl rfl rfl (by decide +kernel) ⟨Nat.le_of_ble_eq_true rfl, Nat.le_of_ble_eq_true rfl⟩) (rc1 hC) rfl hl.1 rfl (Nat.le_of_ble_eq_true rfl) dX1_add_7 ⟨Nat.le_of_ble_eq_true rfl, Nat.le_of_ble_eq_true rfl⟩ ?_
  refine lv_if_ne (tgt := 19) hx hb dX1_add_10 (by decide) (fun c_10 => ?_) (fun c_10 => ?_)
  · skip
    refine lv_iload_n hx hb dX1_add_19 rfl (lv_at hl 2 rfl) ?_
    refine k_pS (As := [.int w]) (rest := []) (c_X1_isWord l w) ⟨hx, hb, hml, hown, hts⟩ (va_cwS 1 hts gX1_add_X1_isWord rfl rfl rfl (by decide +kernel) ⟨Nat.le_of_ble_eq_true rfl, Nat.le_of_ble_eq_true rfl⟩) rfl hl.1 rfl (Nat.le_of_ble_eq_true rfl) dX1_add_20 ⟨Nat.le_of_ble_eq_true rfl, Nat.le_of_ble_eq_true rfl⟩ ?_
    refine lv_if_ne (tgt := 32) hx hb dX1_add_23 (by decide) (fun c_23 => ?_) (fun c_23 => ?_)
    · skip
      refine lv_aload_n hx hb dX1_add_32 rfl (lv_at hl 0 rfl) ?_
      refine r_g1 hC hx hb hts hin hown 3 (by decide) (hts (.fieldLink RX1 9 "AbjadPoemsModel" "longs" "[I") (by decide +kernel)) rfl dX1_add_33 ?_
      refine lv_iload_n hx hb dX1_add_36 rfl (lv_at hl 1 rfl) ?_
      refine r_lg hC hx hb dX1_add_37 (j := i) (by omega) ?_
      refine lv_bipush (v := nI 10) hx hb dX1_add_38 (by decide) ?_
      refine lv_icmp_ne (tgt := 49) hx hb dX1_add_40 (by decide) (fun c_40 => ?_) (fun c_40 => ?_)
      · skip
        have n_40 : ¬ ss mS i = 10 := fun q__ => c_40 ((nI_eq (a := ss mS i) (b := 10) (by omega) (by omega)).mpr q__)
        exact absurd hz (by omega)
      · skip
        have n_40 : ss mS i = 10 := (nI_eq (a := ss mS i) (b := 10) (by omega) (by omega)).mp c_40
        refine lv_aload_n hx hb dX1_add_43 rfl (lv_at hl 0 rfl) ?_
        refine lv_iconst (v := nI 3) hx hb dX1_add_44 (by decide) ?_
        refine k_wV (As := [.int (nI 3)]) (rest := []) (c_X1_fail l B0 g ct ad cS mS (ax_h x (nI 0)) 3) hC hB hS ⟨hx, hb, hml, hown, hts⟩ (cwV 1 hts gX1_add_X1_fail rfl rfl rfl (by decide +kernel) ⟨Nat.le_of_ble_eq_true rfl, Nat.le_of_ble_eq_true rfl⟩) (rc1 hC) rfl hl.1 rfl (Nat.le_of_ble_eq_true rfl) dX1_add_45 ⟨Nat.le_of_ble_eq_true rfl, Nat.le_of_ble_eq_true rfl⟩ (fun u_45 H locs hu_45 hC hS => ?_)
        subst hu_45
        exact W.iret hx hb hr (fun t ht hW => ⟨⟨_, ax_h (ax_h x (nI 0)) (nI 3), rfl, ⟨rfl, rfl⟩, (by show CW B0 g ct ad cS mS (ax_h (ax_h x (nI 0)) (nI 3)) t.heap; rw [ht]; exact hC.1)⟩, hS.F ht⟩) hS.2.2 dX1_add_48
    · skip
      rw [h2] at c_23; exact absurd c_23 (by decide)
  · skip
    rw [hf] at c_10; exact absurd c_10 (by decide)
set_option maxHeartbeats 4000000 in
set_option maxRecDepth 100000 in
theorem c_X1_cut (l : Launch) (B0 : Nat) (g : va_G) (ct ad : Nat → Nat) (cS mS : St_) (x : Ax_) (i : Nat) (hi : i < sn mS) (hs : 0 < ss mS i) : WI l yX1_cut wsX1_cut 5 0 0 B0 g ct ad cS mS x [.ref (ad 7), .int (nI i)] (nI (sw mS (10 * i + (ss mS i - 1)))) cS (st_cut mS i) ((fun u => u = ax_h x (nI 0))) := by
  refine Met.ofW (cc := cX1_cut) (maxL := 2) (ret := (some .int)) (by decide) rfl ?_
  intro p e s m args below meth c s₁ B hml hv
  obtain ⟨rfl, hC⟩ := hv
  have hx := B.exec
  have hb := B.bytes
  have hr := B.returns
  have hts := atoms_spec (ws := wsX1_cut) B.pre
  have hown : s.vm.findClass RX1 = some m.cls := findClass_of_methodNamed B.named
  have hlocks := B.notSynchronized
  have hin : ∀ w ∈ wsX10, w ∈ wsX1_cut := fun _ h => List.mem_cons_of_mem _ (List.mem_append_right _ h)
  have hS : va_S (AA B0) s.heap s.heap [] := va_S.rf
  have hB : B0 ≤ s.heap.size := hC.1.2.2.1
  have hI := hC.1.2.2.2.2.1
  have hn := hI.2.1
  have hz := hI.2.2.1 i
  have hf := li_t hi (by omega)
  have hl := lv_entry ([.ref (ad 7), .int (nI i)]) (n := 2) (Nat.le_of_ble_eq_true rfl)
  rw [lg_entry_eq]
  generalize (lg_sl ([.ref (ad 7), .int (nI i)]) ++ List.replicate (2 - (lg_sl ([.ref (ad 7), .int (nI i)])).length) Slot.unset).toArray = ls at hl ⊢
  have hl : lv_has ls 2 [(0, .ref (ad 7)), (1, .int (nI i))] := hl
  refine lv_aload_n hx hb dX1_cut_0 rfl (lv_at hl 0 rfl) ?_
  refine lv_iconst (v := nI 0) hx hb dX1_cut_1 (by decide) ?_
  refine w_f1 (m' := mS) (x' := ax_h x (nI 0)) hC hB hS hx hb hts hin hown 0 (by decide) (hts (.fieldLink RX1 20 "AbjadPoemsModel" "thrown" "I") (by decide +kernel)) rfl rfl rfl hC.1.2.2.2.2.1 dX1_cut_2 (fun H locs hC hS => ?_)
  refine lv_aload_n hx hb dX1_cut_5 rfl (lv_at hl 0 rfl) ?_
  refine lv_iload_n hx hb dX1_cut_6 rfl (lv_at hl 1 rfl) ?_
  refine k_rV (As := [.int (nI i)]) (rest := []) (c_X1_isLine l B0 g ct ad cS mS (ax_h x (nI 0)) (nI i)) hC ⟨hx, hb, hml, hown, hts⟩ (cwV 1 hts gX1_cut_X1_isLine rfl rfl rfl (by decide +kernel) ⟨Nat.le_of_ble_eq_true rfl, Nat.le_of_ble_eq_true rfl⟩) (rc1 hC) rfl hl.1 rfl (Nat.le_of_ble_eq_true rfl) dX1_cut_7 ⟨Nat.le_of_ble_eq_true rfl, Nat.le_of_ble_eq_true rfl⟩ ?_
  refine lv_if_ne (tgt := 19) hx hb dX1_cut_10 (by decide) (fun c_10 => ?_) (fun c_10 => ?_)
  · skip
    refine lv_aload_n hx hb dX1_cut_19 rfl (lv_at hl 0 rfl) ?_
    refine r_g1 hC hx hb hts hin hown 3 (by decide) (hts (.fieldLink RX1 9 "AbjadPoemsModel" "longs" "[I") (by decide +kernel)) rfl dX1_cut_20 ?_
    refine lv_iload_n hx hb dX1_cut_23 rfl (lv_at hl 1 rfl) ?_
    refine r_lg hC hx hb dX1_cut_24 (j := i) (by omega) ?_
    refine lv_if_ne (tgt := 34) hx hb dX1_cut_25 (by decide) (fun c_25 => ?_) (fun c_25 => ?_)
    · skip
      have n_25 : ¬ ss mS i = 0 := fun q__ => c_25 ((eq0_ (by omega)).mpr q__)
      refine lv_aload_n hx hb dX1_cut_34 rfl (lv_at hl 0 rfl) ?_
      refine r_g1 hC hx hb hts hin hown 3 (by decide) (hts (.fieldLink RX1 9 "AbjadPoemsModel" "longs" "[I") (by decide +kernel)) rfl dX1_cut_35 ?_
      refine lv_iload_n hx hb dX1_cut_38 rfl (lv_at hl 1 rfl) ?_
      refine lv_dup2_11 hx hb dX1_cut_39 rfl rfl ?_
      refine r_lg hC hx hb dX1_cut_40 (j := i) (by omega) ?_
      refine lv_iconst (v := nI 1) hx hb dX1_cut_41 (by decide) ?_
      refine lv_isub hx hb dX1_cut_42 ?_
      refine lv_tn (pk_sub (by omega)) ?_
      refine w_lg hC hB hS hx hb dX1_cut_43 (j := i) (v := (ss mS i) - 1) (by omega) (iv_s hI (by omega) (fun w hw => hI.2.2.2.2.2 i w (by omega))) (fun H locs hC hS => ?_)
      refine lv_aload_n hx hb dX1_cut_44 rfl (lv_at hl 0 rfl) ?_
      refine lv_iload_n hx hb dX1_cut_45 rfl (lv_at hl 1 rfl) ?_
      refine lv_aload_n hx hb dX1_cut_46 rfl (lv_at hl 0 rfl) ?_
      refine r_g1 hC hx hb hts hin hown 3 (by decide) (hts (.fieldLink RX1 9 "AbjadPoemsModel" "longs" "[I") (by decide +kernel)) rfl dX1_cut_47 ?_
      refine lv_iload_n hx hb dX1_cut_50 rfl (lv_at hl 1 rfl) ?_
      refine r_lg hC hx hb dX1_cut_51 (j := i) (by omega) ?_
      refine lv_tn (w := nI (ss mS i - 1)) (congrArg nI up_s) ?_
      refine k_rV (As := [.int (nI i), .int (nI (ss mS i - 1))]) (rest := []) (c_X1_wo l B0 g ct ad cS (st_s mS i ((ss mS i) - 1)) (ax_h x (nI 0)) i (ss mS i - 1) (by omega) (by omega)) hC ⟨hx, hb, hml, hown, hts⟩ (cwV 2 hts gX1_cut_X1_wo rfl rfl rfl (by decide +kernel) ⟨Nat.le_of_ble_eq_true rfl, Nat.le_of_ble_eq_true rfl⟩) (rc1 hC) rfl hl.1 rfl (Nat.le_of_ble_eq_true rfl) dX1_cut_52 ⟨Nat.le_of_ble_eq_true rfl, Nat.le_of_ble_eq_true rfl⟩ ?_
      exact W.iret hx hb hr (fun t ht hW => ⟨⟨_, ax_h x (nI 0), rfl, ⟨rfl, rfl⟩, (by show CW B0 g ct ad cS (st_cut mS i) (ax_h x (nI 0)) t.heap; rw [ht]; exact hC.1)⟩, hS.F ht⟩) hS.2.2 dX1_cut_55
    · skip
      have n_25 : ss mS i = 0 := (eq0_ (by omega)).mp c_25
      exact absurd n_25 (by omega)
  · skip
    rw [hf] at c_10; exact absurd c_10 (by decide)
set_option maxHeartbeats 4000000 in
set_option maxRecDepth 100000 in
theorem t_X1_cut_1 (l : Launch) (B0 : Nat) (g : va_G) (ct ad : Nat → Nat) (cS mS : St_) (x : Ax_) (li : Int32) (h : li < 0 ∨ nI (sn mS) ≤ li) : WI l yX1_cut wsX1_cut 5 0 0 B0 g ct ad cS mS x [.ref (ad 7), .int li] (nI 0) cS mS ((fun u => u = ax_h x (nI 1))) := by
  refine Met.ofW (cc := cX1_cut) (maxL := 2) (ret := (some .int)) (by decide) rfl ?_
  intro p e s m args below meth c s₁ B hml hv
  obtain ⟨rfl, hC⟩ := hv
  have hx := B.exec
  have hb := B.bytes
  have hr := B.returns
  have hts := atoms_spec (ws := wsX1_cut) B.pre
  have hown : s.vm.findClass RX1 = some m.cls := findClass_of_methodNamed B.named
  have hlocks := B.notSynchronized
  have hin : ∀ w ∈ wsX10, w ∈ wsX1_cut := fun _ h => List.mem_cons_of_mem _ (List.mem_append_right _ h)
  have hS : va_S (AA B0) s.heap s.heap [] := va_S.rf
  have hB : B0 ≤ s.heap.size := hC.1.2.2.1
  have hI := hC.1.2.2.2.2.1
  have hn := hI.2.1
  have hf := li_f h (by omega)
  have hl := lv_entry ([.ref (ad 7), .int li]) (n := 2) (Nat.le_of_ble_eq_true rfl)
  rw [lg_entry_eq]
  generalize (lg_sl ([.ref (ad 7), .int li]) ++ List.replicate (2 - (lg_sl ([.ref (ad 7), .int li])).length) Slot.unset).toArray = ls at hl ⊢
  have hl : lv_has ls 2 [(0, .ref (ad 7)), (1, .int li)] := hl
  refine lv_aload_n hx hb dX1_cut_0 rfl (lv_at hl 0 rfl) ?_
  refine lv_iconst (v := nI 0) hx hb dX1_cut_1 (by decide) ?_
  refine w_f1 (m' := mS) (x' := ax_h x (nI 0)) hC hB hS hx hb hts hin hown 0 (by decide) (hts (.fieldLink RX1 20 "AbjadPoemsModel" "thrown" "I") (by decide +kernel)) rfl rfl rfl hC.1.2.2.2.2.1 dX1_cut_2 (fun H locs hC hS => ?_)
  refine lv_aload_n hx hb dX1_cut_5 rfl (lv_at hl 0 rfl) ?_
  refine lv_iload_n hx hb dX1_cut_6 rfl (lv_at hl 1 rfl) ?_
  refine k_rV (As := [.int li]) (rest := []) (c_X1_isLine l B0 g ct ad cS mS (ax_h x (nI 0)) li) hC ⟨hx, hb, hml, hown, hts⟩ (cwV 1 hts gX1_cut_X1_isLine rfl rfl rfl (by decide +kernel) ⟨Nat.le_of_ble_eq_true rfl, Nat.le_of_ble_eq_true rfl⟩) (rc1 hC) rfl hl.1 rfl (Nat.le_of_ble_eq_true rfl) dX1_cut_7 ⟨Nat.le_of_ble_eq_true rfl, Nat.le_of_ble_eq_true rfl⟩ ?_
  refine lv_if_ne (tgt := 19) hx hb dX1_cut_10 (by decide) (fun c_10 => ?_) (fun c_10 => ?_)
  · skip
    rw [hf] at c_10; exact absurd rfl c_10
  · skip
    refine lv_aload_n hx hb dX1_cut_13 rfl (lv_at hl 0 rfl) ?_
    refine lv_iconst (v := nI 1) hx hb dX1_cut_14 (by decide) ?_
    refine k_wV (As := [.int (nI 1)]) (rest := []) (c_X1_fail l B0 g ct ad cS mS (ax_h x (nI 0)) 1) hC hB hS ⟨hx, hb, hml, hown, hts⟩ (cwV 1 hts gX1_cut_X1_fail rfl rfl rfl (by decide +kernel) ⟨Nat.le_of_ble_eq_true rfl, Nat.le_of_ble_eq_true rfl⟩) (rc1 hC) rfl hl.1 rfl (Nat.le_of_ble_eq_true rfl) dX1_cut_15 ⟨Nat.le_of_ble_eq_true rfl, Nat.le_of_ble_eq_true rfl⟩ (fun u_15 H locs hu_15 hC hS => ?_)
    subst hu_15
    exact W.iret hx hb hr (fun t ht hW => ⟨⟨_, ax_h (ax_h x (nI 0)) (nI 1), rfl, ⟨rfl, rfl⟩, (by show CW B0 g ct ad cS mS (ax_h (ax_h x (nI 0)) (nI 1)) t.heap; rw [ht]; exact hC.1)⟩, hS.F ht⟩) hS.2.2 dX1_cut_18
set_option maxHeartbeats 4000000 in
set_option maxRecDepth 100000 in
theorem t_X1_cut_2 (l : Launch) (B0 : Nat) (g : va_G) (ct ad : Nat → Nat) (cS mS : St_) (x : Ax_) (i : Nat) (hi : i < sn mS) (hs : ss mS i = 0) : WI l yX1_cut wsX1_cut 5 0 0 B0 g ct ad cS mS x [.ref (ad 7), .int (nI i)] (nI 0) cS mS ((fun u => u = ax_h x (nI 2))) := by
  refine Met.ofW (cc := cX1_cut) (maxL := 2) (ret := (some .int)) (by decide) rfl ?_
  intro p e s m args below meth c s₁ B hml hv
  obtain ⟨rfl, hC⟩ := hv
  have hx := B.exec
  have hb := B.bytes
  have hr := B.returns
  have hts := atoms_spec (ws := wsX1_cut) B.pre
  have hown : s.vm.findClass RX1 = some m.cls := findClass_of_methodNamed B.named
  have hlocks := B.notSynchronized
  have hin : ∀ w ∈ wsX10, w ∈ wsX1_cut := fun _ h => List.mem_cons_of_mem _ (List.mem_append_right _ h)
  have hS : va_S (AA B0) s.heap s.heap [] := va_S.rf
  have hB : B0 ≤ s.heap.size := hC.1.2.2.1
  have hI := hC.1.2.2.2.2.1
  have hn := hI.2.1
  have hz := hI.2.2.1 i
  have hf := li_t hi (by omega)
  have hl := lv_entry ([.ref (ad 7), .int (nI i)]) (n := 2) (Nat.le_of_ble_eq_true rfl)
  rw [lg_entry_eq]
  generalize (lg_sl ([.ref (ad 7), .int (nI i)]) ++ List.replicate (2 - (lg_sl ([.ref (ad 7), .int (nI i)])).length) Slot.unset).toArray = ls at hl ⊢
  have hl : lv_has ls 2 [(0, .ref (ad 7)), (1, .int (nI i))] := hl
  refine lv_aload_n hx hb dX1_cut_0 rfl (lv_at hl 0 rfl) ?_
  refine lv_iconst (v := nI 0) hx hb dX1_cut_1 (by decide) ?_
  refine w_f1 (m' := mS) (x' := ax_h x (nI 0)) hC hB hS hx hb hts hin hown 0 (by decide) (hts (.fieldLink RX1 20 "AbjadPoemsModel" "thrown" "I") (by decide +kernel)) rfl rfl rfl hC.1.2.2.2.2.1 dX1_cut_2 (fun H locs hC hS => ?_)
  refine lv_aload_n hx hb dX1_cut_5 rfl (lv_at hl 0 rfl) ?_
  refine lv_iload_n hx hb dX1_cut_6 rfl (lv_at hl 1 rfl) ?_
  refine k_rV (As := [.int (nI i)]) (rest := []) (c_X1_isLine l B0 g ct ad cS mS (ax_h x (nI 0)) (nI i)) hC ⟨hx, hb, hml, hown, hts⟩ (cwV 1 hts gX1_cut_X1_isLine rfl rfl rfl (by decide +kernel) ⟨Nat.le_of_ble_eq_true rfl, Nat.le_of_ble_eq_true rfl⟩) (rc1 hC) rfl hl.1 rfl (Nat.le_of_ble_eq_true rfl) dX1_cut_7 ⟨Nat.le_of_ble_eq_true rfl, Nat.le_of_ble_eq_true rfl⟩ ?_
  refine lv_if_ne (tgt := 19) hx hb dX1_cut_10 (by decide) (fun c_10 => ?_) (fun c_10 => ?_)
  · skip
    refine lv_aload_n hx hb dX1_cut_19 rfl (lv_at hl 0 rfl) ?_
    refine r_g1 hC hx hb hts hin hown 3 (by decide) (hts (.fieldLink RX1 9 "AbjadPoemsModel" "longs" "[I") (by decide +kernel)) rfl dX1_cut_20 ?_
    refine lv_iload_n hx hb dX1_cut_23 rfl (lv_at hl 1 rfl) ?_
    refine r_lg hC hx hb dX1_cut_24 (j := i) (by omega) ?_
    refine lv_if_ne (tgt := 34) hx hb dX1_cut_25 (by decide) (fun c_25 => ?_) (fun c_25 => ?_)
    · skip
      have n_25 : ¬ ss mS i = 0 := fun q__ => c_25 ((eq0_ (by omega)).mpr q__)
      exact absurd hs n_25
    · skip
      have n_25 : ss mS i = 0 := (eq0_ (by omega)).mp c_25
      refine lv_aload_n hx hb dX1_cut_28 rfl (lv_at hl 0 rfl) ?_
      refine lv_iconst (v := nI 2) hx hb dX1_cut_29 (by decide) ?_
      refine k_wV (As := [.int (nI 2)]) (rest := []) (c_X1_fail l B0 g ct ad cS mS (ax_h x (nI 0)) 2) hC hB hS ⟨hx, hb, hml, hown, hts⟩ (cwV 1 hts gX1_cut_X1_fail rfl rfl rfl (by decide +kernel) ⟨Nat.le_of_ble_eq_true rfl, Nat.le_of_ble_eq_true rfl⟩) (rc1 hC) rfl hl.1 rfl (Nat.le_of_ble_eq_true rfl) dX1_cut_30 ⟨Nat.le_of_ble_eq_true rfl, Nat.le_of_ble_eq_true rfl⟩ (fun u_30 H locs hu_30 hC hS => ?_)
      subst hu_30
      exact W.iret hx hb hr (fun t ht hW => ⟨⟨_, ax_h (ax_h x (nI 0)) (nI 2), rfl, ⟨rfl, rfl⟩, (by show CW B0 g ct ad cS mS (ax_h (ax_h x (nI 0)) (nI 2)) t.heap; rw [ht]; exact hC.1)⟩, hS.F ht⟩) hS.2.2 dX1_cut_33
  · skip
    rw [hf] at c_10; exact absurd c_10 (by decide)
set_option maxHeartbeats 4000000 in
set_option maxRecDepth 100000 in
theorem c_X1_mark (l : Launch) (B0 : Nat) (g : va_G) (ct ad : Nat → Nat) (cS mS : St_) (x : Ax_) (i w p_ : Nat) (hi : i < sn mS) (hw : w < ss mS i) (hp : p_ < ln_ (sw mS (10 * i + w))) : WI l yX1_mark wsX1_mark 5 0 0 B0 g ct ad cS mS x [.ref (ad 7), .int (nI i), .int (nI w), .int (nI p_)] (b2_ ((sk mS (10 * i + w) ^^^ 2 ^ p_).testBit p_)) cS (st_mark mS (10 * i + w) p_) ((fun u => u = ax_h x (nI 0))) := by
  refine Met.ofW (cc := cX1_mark) (maxL := 5) (ret := (some .boolean)) (by decide) rfl ?_
  intro p e s m args below meth c s₁ B hml hv
  obtain ⟨rfl, hC⟩ := hv
  have hx := B.exec
  have hb := B.bytes
  have hr := B.returns
  have hts := atoms_spec (ws := wsX1_mark) B.pre
  have hown : s.vm.findClass RX1 = some m.cls := findClass_of_methodNamed B.named
  have hlocks := B.notSynchronized
  have hin : ∀ w ∈ wsX10, w ∈ wsX1_mark := fun _ h => List.mem_cons_of_mem _ (List.mem_append_right _ h)
  have hS : va_S (AA B0) s.heap s.heap [] := va_S.rf
  have hB : B0 ≤ s.heap.size := hC.1.2.2.1
  have hI := hC.1.2.2.2.2.1
  have hn := hI.2.1
  have hz := hI.2.2.1 i
  have hf := li_t hi (by omega)
  have hw6 := hI.2.2.2.1 (10 * i + w)
  have h6 := ln_le hw6
  have hk6 := hI.2.2.2.2.1 (10 * i + w)
  have hf2 := li_t hw (by omega)
  have hf3 : ii_ (nI p_) (nI 0) (nI (ln_ (sw mS (10 * i + w))) - nI 1) = true := li_t hp (by omega)
  have hl := lv_entry ([.ref (ad 7), .int (nI i), .int (nI w), .int (nI p_)]) (n := 5) (Nat.le_of_ble_eq_true rfl)
  rw [lg_entry_eq]
  generalize (lg_sl ([.ref (ad 7), .int (nI i), .int (nI w), .int (nI p_)]) ++ List.replicate (5 - (lg_sl ([.ref (ad 7), .int (nI i), .int (nI w), .int (nI p_)])).length) Slot.unset).toArray = ls at hl ⊢
  have hl : lv_has ls 5 [(0, .ref (ad 7)), (1, .int (nI i)), (2, .int (nI w)), (3, .int (nI p_))] := hl
  refine lv_aload_n hx hb dX1_mark_0 rfl (lv_at hl 0 rfl) ?_
  refine lv_aload_n hx hb dX1_mark_1 rfl (lv_at hl 0 rfl) ?_
  refine lv_iload_n hx hb dX1_mark_2 rfl (lv_at hl 1 rfl) ?_
  refine lv_iload_n hx hb dX1_mark_3 rfl (lv_at hl 2 rfl) ?_
  refine k_rV (As := [.int (nI i), .int (nI w)]) (rest := [.ref (ad 7)]) (c_X1_isOne_2 l B0 g ct ad cS mS x i (nI w) (by omega)) hC ⟨hx, hb, hml, hown, hts⟩ (cwV 2 hts gX1_mark_X1_isOne rfl rfl rfl (by decide +kernel) ⟨Nat.le_of_ble_eq_true rfl, Nat.le_of_ble_eq_true rfl⟩) (rc1 hC) rfl hl.1 rfl (Nat.le_of_ble_eq_true rfl) dX1_mark_4 ⟨Nat.le_of_ble_eq_true rfl, Nat.le_of_ble_eq_true rfl⟩ ?_
  refine lv_if_eq (tgt := 33) hx hb dX1_mark_7 (by decide) (fun c_7 => ?_) (fun c_7 => ?_)
  · skip
    rw [hf2] at c_7; exact absurd c_7 (by decide)
  · skip
    refine lv_iload_n hx hb dX1_mark_10 rfl (lv_at hl 3 rfl) ?_
    refine lv_iconst (v := nI 0) hx hb dX1_mark_11 (by decide) ?_
    refine lv_aload_n hx hb dX1_mark_12 rfl (lv_at hl 0 rfl) ?_
    refine lv_iload_n hx hb dX1_mark_13 rfl (lv_at hl 1 rfl) ?_
    refine lv_iload_n hx hb dX1_mark_14 rfl (lv_at hl 2 rfl) ?_
    refine k_rV (As := [.int (nI i), .int (nI w)]) (rest := [.int (nI 0), .int (nI p_), .ref (ad 7)]) (c_X1_wo l B0 g ct ad cS mS x i w (by omega) (by omega)) hC ⟨hx, hb, hml, hown, hts⟩ (cwV 2 hts gX1_mark_X1_wo rfl rfl rfl (by decide +kernel) ⟨Nat.le_of_ble_eq_true rfl, Nat.le_of_ble_eq_true rfl⟩) (rc1 hC) rfl hl.1 rfl (Nat.le_of_ble_eq_true rfl) dX1_mark_15 ⟨Nat.le_of_ble_eq_true rfl, Nat.le_of_ble_eq_true rfl⟩ ?_
    refine k_pS (As := [.int (nI (sw mS (10 * i + w)))]) (rest := [.int (nI 0), .int (nI p_), .ref (ad 7)]) (c_X1_size l (sw mS (10 * i + w)) (by omega)) ⟨hx, hb, hml, hown, hts⟩ (va_cwS 1 hts gX1_mark_X1_size rfl rfl rfl (by decide +kernel) ⟨Nat.le_of_ble_eq_true rfl, Nat.le_of_ble_eq_true rfl⟩) rfl hl.1 rfl (Nat.le_of_ble_eq_true rfl) dX1_mark_18 ⟨Nat.le_of_ble_eq_true rfl, Nat.le_of_ble_eq_true rfl⟩ ?_
    refine lv_iconst (v := nI 1) hx hb dX1_mark_21 (by decide) ?_
    refine lv_isub hx hb dX1_mark_22 ?_
    refine k_pS (As := [.int (nI p_), .int (nI 0), .int ((nI (ln_ (sw mS (10 * i + w)))) - (nI 1))]) (rest := [.ref (ad 7)]) (c_X1_isIn l (nI p_) (nI 0) ((nI (ln_ (sw mS (10 * i + w)))) - (nI 1))) ⟨hx, hb, hml, hown, hts⟩ (va_cwS 3 hts gX1_mark_X1_isIn rfl rfl rfl (by decide +kernel) ⟨Nat.le_of_ble_eq_true rfl, Nat.le_of_ble_eq_true rfl⟩) rfl hl.1 rfl (Nat.le_of_ble_eq_true rfl) dX1_mark_23 ⟨Nat.le_of_ble_eq_true rfl, Nat.le_of_ble_eq_true rfl⟩ ?_
    refine lv_if_eq (tgt := 33) hx hb dX1_mark_26 (by decide) (fun c_26 => ?_) (fun c_26 => ?_)
    · skip
      exact absurd c_26 (b2_w hf3)
    · skip
      refine lv_iconst (v := nI 0) hx hb dX1_mark_29 (by decide) ?_
      refine lv_goto (tgt := 34) hx hb dX1_mark_30 (by decide) ?_
      refine w_f1 (m' := mS) (x' := ax_h x (nI 0)) hC hB hS hx hb hts hin hown 0 (by decide) (hts (.fieldLink RX1 20 "AbjadPoemsModel" "thrown" "I") (by decide +kernel)) rfl rfl rfl hC.1.2.2.2.2.1 dX1_mark_34 (fun H locs hC hS => ?_)
      refine lv_aload_n hx hb dX1_mark_37 rfl (lv_at hl 0 rfl) ?_
      refine r_g1 hC hx hb hts hin hown 0 (by decide) (hts (.fieldLink RX1 20 "AbjadPoemsModel" "thrown" "I") (by decide +kernel)) rfl dX1_mark_38 ?_
      refine lv_tn (w := nI 0) rfl ?_
      refine lv_if_eq (tgt := 46) hx hb dX1_mark_41 (by decide) (fun c_41 => ?_) (fun c_41 => ?_)
      · skip
        have n_41 : 0 = 0 := (eq0_ (by omega)).mp c_41
        refine lv_aload_n hx hb dX1_mark_46 rfl (lv_at hl 0 rfl) ?_
        refine lv_iload_n hx hb dX1_mark_47 rfl (lv_at hl 1 rfl) ?_
        refine lv_iload_n hx hb dX1_mark_48 rfl (lv_at hl 2 rfl) ?_
        refine k_rV (As := [.int (nI i), .int (nI w)]) (rest := []) (c_X1_base l B0 g ct ad cS mS (ax_h x (nI 0)) i w) hC ⟨hx, hb, hml, hown, hts⟩ (cwV 2 hts gX1_mark_X1_base rfl rfl rfl (by decide +kernel) ⟨Nat.le_of_ble_eq_true rfl, Nat.le_of_ble_eq_true rfl⟩) (rc1 hC) rfl hl.1 rfl (Nat.le_of_ble_eq_true rfl) dX1_mark_49 ⟨Nat.le_of_ble_eq_true rfl, Nat.le_of_ble_eq_true rfl⟩ ?_
        refine lv_iload_n hx hb dX1_mark_52 rfl (lv_at hl 3 rfl) ?_
        refine lv_iadd hx hb dX1_mark_53 ?_
        refine lv_tn (nI_add _ _) ?_
        refine lv_istore (lv' := [(4, .int (nI ((6 * (10 * i + w)) + p_))), (0, .ref (ad 7)), (1, .int (nI i)), (2, .int (nI w)), (3, .int (nI p_))]) hx hb dX1_mark_54 hl (by decide) rfl (fun ls hl => ?_)
        refine lv_aload_n hx hb dX1_mark_56 rfl (lv_at hl 1 rfl) ?_
        refine r_g1 hC hx hb hts hin hown 5 (by decide) (hts (.fieldLink RX1 16 "AbjadPoemsModel" "marks" "[Z") (by decide +kernel)) rfl dX1_mark_57 ?_
        refine lv_iload hx hb dX1_mark_60 (lv_at hl 0 rfl) ?_
        refine lv_aload_n hx hb dX1_mark_62 rfl (lv_at hl 1 rfl) ?_
        refine r_g1 hC hx hb hts hin hown 5 (by decide) (hts (.fieldLink RX1 16 "AbjadPoemsModel" "marks" "[Z") (by decide +kernel)) rfl dX1_mark_63 ?_
        refine lv_iload hx hb dX1_mark_66 (lv_at hl 0 rfl) ?_
        refine r_mk hC hx hb dX1_mark_68 (j := (6 * (10 * i + w)) + p_) (by omega) ?_
        refine lv_tn (w := b2_ ((sk mS (10 * i + w)).testBit p_)) (mb_i (by omega)) ?_
        refine lv_if_ne (tgt := 76) hx hb dX1_mark_69 (by decide) (fun c_69 => ?_) (fun c_69 => ?_)
        · skip
          have n_69 := b2_ne c_69
          refine lv_iconst (v := nI 0) hx hb dX1_mark_76 (by decide) ?_
          refine w_mk (v := nI 0) (i := (10 * i + w)) (b := (sk mS (10 * i + w) ^^^ 2 ^ p_)) hC hB hS hx hb dX1_mark_77 (j := ((6 * (10 * i + w)) + p_)) (by omega) (mb_x (by omega) hk6 (by rw [n_69]; rfl)) (iv_mark hI hw hp) (fun H locs hC hS => ?_)
          refine lv_aload_n hx hb dX1_mark_78 rfl (lv_at hl 1 rfl) ?_
          refine r_g1 hC hx hb hts hin hown 5 (by decide) (hts (.fieldLink RX1 16 "AbjadPoemsModel" "marks" "[Z") (by decide +kernel)) rfl dX1_mark_79 ?_
          refine lv_iload hx hb dX1_mark_82 (lv_at hl 0 rfl) ?_
          refine r_mk hC hx hb dX1_mark_84 (j := (6 * (10 * i + w)) + p_) (by omega) ?_
          refine lv_tn (w := b2_ ((sk mS (10 * i + w) ^^^ 2 ^ p_).testBit p_)) (by rw [mb_i (by omega)]; exact congrArg (fun q => b2_ (Nat.testBit q p_)) up_s) ?_
          exact W.zret hx hb hr b2_n (fun t ht hW => ⟨⟨_, ax_h x (nI 0), rfl, ⟨rfl, rfl⟩, (by show CW B0 g ct ad cS (st_mark mS (10 * i + w) p_) (ax_h x (nI 0)) t.heap; rw [ht]; exact hC.1)⟩, hS.F ht⟩) hS.2.2 dX1_mark_85
        · skip
          have n_69 := b2_u c_69
          refine lv_iconst (v := nI 1) hx hb dX1_mark_72 (by decide) ?_
          refine lv_goto (tgt := 77) hx hb dX1_mark_73 (by decide) ?_
          refine w_mk (v := nI 1) (i := (10 * i + w)) (b := (sk mS (10 * i + w) ^^^ 2 ^ p_)) hC hB hS hx hb dX1_mark_77 (j := ((6 * (10 * i + w)) + p_)) (by omega) (mb_x (by omega) hk6 (by rw [n_69]; rfl)) (iv_mark hI hw hp) (fun H locs hC hS => ?_)
          refine lv_aload_n hx hb dX1_mark_78 rfl (lv_at hl 1 rfl) ?_
          refine r_g1 hC hx hb hts hin hown 5 (by decide) (hts (.fieldLink RX1 16 "AbjadPoemsModel" "marks" "[Z") (by decide +kernel)) rfl dX1_mark_79 ?_
          refine lv_iload hx hb dX1_mark_82 (lv_at hl 0 rfl) ?_
          refine r_mk hC hx hb dX1_mark_84 (j := (6 * (10 * i + w)) + p_) (by omega) ?_
          refine lv_tn (w := b2_ ((sk mS (10 * i + w) ^^^ 2 ^ p_).testBit p_)) (by rw [mb_i (by omega)]; exact congrArg (fun q => b2_ (Nat.testBit q p_)) up_s) ?_
          exact W.zret hx hb hr b2_n (fun t ht hW => ⟨⟨_, ax_h x (nI 0), rfl, ⟨rfl, rfl⟩, (by show CW B0 g ct ad cS (st_mark mS (10 * i + w) p_) (ax_h x (nI 0)) t.heap; rw [ht]; exact hC.1)⟩, hS.F ht⟩) hS.2.2 dX1_mark_85
      · skip
        have n_41 : ¬ 0 = 0 := fun q__ => c_41 ((eq0_ (by omega)).mpr q__)
        exact absurd rfl n_41
set_option maxHeartbeats 4000000 in
set_option maxRecDepth 100000 in
theorem t_X1_mark_1 (l : Launch) (B0 : Nat) (g : va_G) (ct ad : Nat → Nat) (cS mS : St_) (x : Ax_) (li : Int32) (h : li < 0 ∨ nI (sn mS) ≤ li) (wi pi : Int32) : WI l yX1_mark wsX1_mark 5 0 0 B0 g ct ad cS mS x [.ref (ad 7), .int li, .int wi, .int pi] (nI 0) cS mS ((fun u => u = ax_h x (nI 1))) := by
  refine Met.ofW (cc := cX1_mark) (maxL := 5) (ret := (some .boolean)) (by decide) rfl ?_
  intro p e s m args below meth c s₁ B hml hv
  obtain ⟨rfl, hC⟩ := hv
  have hx := B.exec
  have hb := B.bytes
  have hr := B.returns
  have hts := atoms_spec (ws := wsX1_mark) B.pre
  have hown : s.vm.findClass RX1 = some m.cls := findClass_of_methodNamed B.named
  have hlocks := B.notSynchronized
  have hin : ∀ w ∈ wsX10, w ∈ wsX1_mark := fun _ h => List.mem_cons_of_mem _ (List.mem_append_right _ h)
  have hS : va_S (AA B0) s.heap s.heap [] := va_S.rf
  have hB : B0 ≤ s.heap.size := hC.1.2.2.1
  have hl := lv_entry ([.ref (ad 7), .int li, .int wi, .int pi]) (n := 5) (Nat.le_of_ble_eq_true rfl)
  rw [lg_entry_eq]
  generalize (lg_sl ([.ref (ad 7), .int li, .int wi, .int pi]) ++ List.replicate (5 - (lg_sl ([.ref (ad 7), .int li, .int wi, .int pi])).length) Slot.unset).toArray = ls at hl ⊢
  have hl : lv_has ls 5 [(0, .ref (ad 7)), (1, .int li), (2, .int wi), (3, .int pi)] := hl
  refine lv_aload_n hx hb dX1_mark_0 rfl (lv_at hl 0 rfl) ?_
  refine lv_aload_n hx hb dX1_mark_1 rfl (lv_at hl 0 rfl) ?_
  refine lv_iload_n hx hb dX1_mark_2 rfl (lv_at hl 1 rfl) ?_
  refine lv_iload_n hx hb dX1_mark_3 rfl (lv_at hl 2 rfl) ?_
  refine k_rV (As := [.int li, .int wi]) (rest := [.ref (ad 7)]) (c_X1_isOne_1 l B0 g ct ad cS mS x li wi h) hC ⟨hx, hb, hml, hown, hts⟩ (cwV 2 hts gX1_mark_X1_isOne rfl rfl rfl (by decide +kernel) ⟨Nat.le_of_ble_eq_true rfl, Nat.le_of_ble_eq_true rfl⟩) (rc1 hC) rfl hl.1 rfl (Nat.le_of_ble_eq_true rfl) dX1_mark_4 ⟨Nat.le_of_ble_eq_true rfl, Nat.le_of_ble_eq_true rfl⟩ ?_
  refine lv_if_eq (tgt := 33) hx hb dX1_mark_7 (by decide) (fun c_7 => ?_) (fun c_7 => ?_)
  · skip
    refine lv_iconst (v := nI 1) hx hb dX1_mark_33 (by decide) ?_
    refine w_f1 (m' := mS) (x' := ax_h x (nI 1)) hC hB hS hx hb hts hin hown 0 (by decide) (hts (.fieldLink RX1 20 "AbjadPoemsModel" "thrown" "I") (by decide +kernel)) rfl rfl rfl hC.1.2.2.2.2.1 dX1_mark_34 (fun H locs hC hS => ?_)
    refine lv_aload_n hx hb dX1_mark_37 rfl (lv_at hl 0 rfl) ?_
    refine r_g1 hC hx hb hts hin hown 0 (by decide) (hts (.fieldLink RX1 20 "AbjadPoemsModel" "thrown" "I") (by decide +kernel)) rfl dX1_mark_38 ?_
    refine lv_tn (w := nI 1) rfl ?_
    refine lv_if_eq (tgt := 46) hx hb dX1_mark_41 (by decide) (fun c_41 => ?_) (fun c_41 => ?_)
    · skip
      have n_41 : 1 = 0 := (eq0_ (by omega)).mp c_41
      exact absurd n_41 (by decide)
    · skip
      have n_41 : ¬ 1 = 0 := fun q__ => c_41 ((eq0_ (by omega)).mpr q__)
      refine lv_iconst (v := nI 0) hx hb dX1_mark_44 (by decide) ?_
      exact W.zret hx hb hr rfl (fun t ht hW => ⟨⟨_, ax_h x (nI 1), rfl, ⟨rfl, rfl⟩, (by show CW B0 g ct ad cS mS (ax_h x (nI 1)) t.heap; rw [ht]; exact hC.1)⟩, hS.F ht⟩) hS.2.2 dX1_mark_45
  · skip
    exact absurd rfl c_7
set_option maxHeartbeats 4000000 in
set_option maxRecDepth 100000 in
theorem t_X1_mark_2 (l : Launch) (B0 : Nat) (g : va_G) (ct ad : Nat → Nat) (cS mS : St_) (x : Ax_) (i : Nat) (hi : i < sn mS) (wi pi : Int32) (h : wi < 0 ∨ nI (ss mS i) ≤ wi) : WI l yX1_mark wsX1_mark 5 0 0 B0 g ct ad cS mS x [.ref (ad 7), .int (nI i), .int wi, .int pi] (nI 0) cS mS ((fun u => u = ax_h x (nI 1))) := by
  refine Met.ofW (cc := cX1_mark) (maxL := 5) (ret := (some .boolean)) (by decide) rfl ?_
  intro p e s m args below meth c s₁ B hml hv
  obtain ⟨rfl, hC⟩ := hv
  have hx := B.exec
  have hb := B.bytes
  have hr := B.returns
  have hts := atoms_spec (ws := wsX1_mark) B.pre
  have hown : s.vm.findClass RX1 = some m.cls := findClass_of_methodNamed B.named
  have hlocks := B.notSynchronized
  have hin : ∀ w ∈ wsX10, w ∈ wsX1_mark := fun _ h => List.mem_cons_of_mem _ (List.mem_append_right _ h)
  have hS : va_S (AA B0) s.heap s.heap [] := va_S.rf
  have hB : B0 ≤ s.heap.size := hC.1.2.2.1
  have hI := hC.1.2.2.2.2.1
  have hn := hI.2.1
  have hz := hI.2.2.1 i
  have hf := li_t hi (by omega)
  have hf2 := li_f h (by omega)
  have hl := lv_entry ([.ref (ad 7), .int (nI i), .int wi, .int pi]) (n := 5) (Nat.le_of_ble_eq_true rfl)
  rw [lg_entry_eq]
  generalize (lg_sl ([.ref (ad 7), .int (nI i), .int wi, .int pi]) ++ List.replicate (5 - (lg_sl ([.ref (ad 7), .int (nI i), .int wi, .int pi])).length) Slot.unset).toArray = ls at hl ⊢
  have hl : lv_has ls 5 [(0, .ref (ad 7)), (1, .int (nI i)), (2, .int wi), (3, .int pi)] := hl
  refine lv_aload_n hx hb dX1_mark_0 rfl (lv_at hl 0 rfl) ?_
  refine lv_aload_n hx hb dX1_mark_1 rfl (lv_at hl 0 rfl) ?_
  refine lv_iload_n hx hb dX1_mark_2 rfl (lv_at hl 1 rfl) ?_
  refine lv_iload_n hx hb dX1_mark_3 rfl (lv_at hl 2 rfl) ?_
  refine k_rV (As := [.int (nI i), .int wi]) (rest := [.ref (ad 7)]) (c_X1_isOne_2 l B0 g ct ad cS mS x i wi (by omega)) hC ⟨hx, hb, hml, hown, hts⟩ (cwV 2 hts gX1_mark_X1_isOne rfl rfl rfl (by decide +kernel) ⟨Nat.le_of_ble_eq_true rfl, Nat.le_of_ble_eq_true rfl⟩) (rc1 hC) rfl hl.1 rfl (Nat.le_of_ble_eq_true rfl) dX1_mark_4 ⟨Nat.le_of_ble_eq_true rfl, Nat.le_of_ble_eq_true rfl⟩ ?_
  refine lv_if_eq (tgt := 33) hx hb dX1_mark_7 (by decide) (fun c_7 => ?_) (fun c_7 => ?_)
  · skip
    refine lv_iconst (v := nI 1) hx hb dX1_mark_33 (by decide) ?_
    refine w_f1 (m' := mS) (x' := ax_h x (nI 1)) hC hB hS hx hb hts hin hown 0 (by decide) (hts (.fieldLink RX1 20 "AbjadPoemsModel" "thrown" "I") (by decide +kernel)) rfl rfl rfl hC.1.2.2.2.2.1 dX1_mark_34 (fun H locs hC hS => ?_)
    refine lv_aload_n hx hb dX1_mark_37 rfl (lv_at hl 0 rfl) ?_
    refine r_g1 hC hx hb hts hin hown 0 (by decide) (hts (.fieldLink RX1 20 "AbjadPoemsModel" "thrown" "I") (by decide +kernel)) rfl dX1_mark_38 ?_
    refine lv_tn (w := nI 1) rfl ?_
    refine lv_if_eq (tgt := 46) hx hb dX1_mark_41 (by decide) (fun c_41 => ?_) (fun c_41 => ?_)
    · skip
      have n_41 : 1 = 0 := (eq0_ (by omega)).mp c_41
      exact absurd n_41 (by decide)
    · skip
      have n_41 : ¬ 1 = 0 := fun q__ => c_41 ((eq0_ (by omega)).mpr q__)
      refine lv_iconst (v := nI 0) hx hb dX1_mark_44 (by decide) ?_
      exact W.zret hx hb hr rfl (fun t ht hW => ⟨⟨_, ax_h x (nI 1), rfl, ⟨rfl, rfl⟩, (by show CW B0 g ct ad cS mS (ax_h x (nI 1)) t.heap; rw [ht]; exact hC.1)⟩, hS.F ht⟩) hS.2.2 dX1_mark_45
  · skip
    rw [hf2] at c_7; exact absurd rfl c_7
set_option maxHeartbeats 4000000 in
set_option maxRecDepth 100000 in
theorem t_X1_mark_3 (l : Launch) (B0 : Nat) (g : va_G) (ct ad : Nat → Nat) (cS mS : St_) (x : Ax_) (i w : Nat) (hi : i < sn mS) (hw : w < ss mS i) (pi : Int32) (h : pi < 0 ∨ nI (ln_ (sw mS (10 * i + w))) ≤ pi) : WI l yX1_mark wsX1_mark 5 0 0 B0 g ct ad cS mS x [.ref (ad 7), .int (nI i), .int (nI w), .int pi] (nI 0) cS mS ((fun u => u = ax_h x (nI 1))) := by
  refine Met.ofW (cc := cX1_mark) (maxL := 5) (ret := (some .boolean)) (by decide) rfl ?_
  intro p e s m args below meth c s₁ B hml hv
  obtain ⟨rfl, hC⟩ := hv
  have hx := B.exec
  have hb := B.bytes
  have hr := B.returns
  have hts := atoms_spec (ws := wsX1_mark) B.pre
  have hown : s.vm.findClass RX1 = some m.cls := findClass_of_methodNamed B.named
  have hlocks := B.notSynchronized
  have hin : ∀ w ∈ wsX10, w ∈ wsX1_mark := fun _ h => List.mem_cons_of_mem _ (List.mem_append_right _ h)
  have hS : va_S (AA B0) s.heap s.heap [] := va_S.rf
  have hB : B0 ≤ s.heap.size := hC.1.2.2.1
  have hI := hC.1.2.2.2.2.1
  have hn := hI.2.1
  have hz := hI.2.2.1 i
  have hf := li_t hi (by omega)
  have hw6 := hI.2.2.2.1 (10 * i + w)
  have h6 := ln_le hw6
  have hk6 := hI.2.2.2.2.1 (10 * i + w)
  have hf2 := li_t hw (by omega)
  have hf3 : ii_ pi (nI 0) (nI (ln_ (sw mS (10 * i + w))) - nI 1) = false := li_f h (by omega)
  have hl := lv_entry ([.ref (ad 7), .int (nI i), .int (nI w), .int pi]) (n := 5) (Nat.le_of_ble_eq_true rfl)
  rw [lg_entry_eq]
  generalize (lg_sl ([.ref (ad 7), .int (nI i), .int (nI w), .int pi]) ++ List.replicate (5 - (lg_sl ([.ref (ad 7), .int (nI i), .int (nI w), .int pi])).length) Slot.unset).toArray = ls at hl ⊢
  have hl : lv_has ls 5 [(0, .ref (ad 7)), (1, .int (nI i)), (2, .int (nI w)), (3, .int pi)] := hl
  refine lv_aload_n hx hb dX1_mark_0 rfl (lv_at hl 0 rfl) ?_
  refine lv_aload_n hx hb dX1_mark_1 rfl (lv_at hl 0 rfl) ?_
  refine lv_iload_n hx hb dX1_mark_2 rfl (lv_at hl 1 rfl) ?_
  refine lv_iload_n hx hb dX1_mark_3 rfl (lv_at hl 2 rfl) ?_
  refine k_rV (As := [.int (nI i), .int (nI w)]) (rest := [.ref (ad 7)]) (c_X1_isOne_2 l B0 g ct ad cS mS x i (nI w) (by omega)) hC ⟨hx, hb, hml, hown, hts⟩ (cwV 2 hts gX1_mark_X1_isOne rfl rfl rfl (by decide +kernel) ⟨Nat.le_of_ble_eq_true rfl, Nat.le_of_ble_eq_true rfl⟩) (rc1 hC) rfl hl.1 rfl (Nat.le_of_ble_eq_true rfl) dX1_mark_4 ⟨Nat.le_of_ble_eq_true rfl, Nat.le_of_ble_eq_true rfl⟩ ?_
  refine lv_if_eq (tgt := 33) hx hb dX1_mark_7 (by decide) (fun c_7 => ?_) (fun c_7 => ?_)
  · skip
    rw [hf2] at c_7; exact absurd c_7 (by decide)
  · skip
    refine lv_iload_n hx hb dX1_mark_10 rfl (lv_at hl 3 rfl) ?_
    refine lv_iconst (v := nI 0) hx hb dX1_mark_11 (by decide) ?_
    refine lv_aload_n hx hb dX1_mark_12 rfl (lv_at hl 0 rfl) ?_
    refine lv_iload_n hx hb dX1_mark_13 rfl (lv_at hl 1 rfl) ?_
    refine lv_iload_n hx hb dX1_mark_14 rfl (lv_at hl 2 rfl) ?_
    refine k_rV (As := [.int (nI i), .int (nI w)]) (rest := [.int (nI 0), .int pi, .ref (ad 7)]) (c_X1_wo l B0 g ct ad cS mS x i w (by omega) (by omega)) hC ⟨hx, hb, hml, hown, hts⟩ (cwV 2 hts gX1_mark_X1_wo rfl rfl rfl (by decide +kernel) ⟨Nat.le_of_ble_eq_true rfl, Nat.le_of_ble_eq_true rfl⟩) (rc1 hC) rfl hl.1 rfl (Nat.le_of_ble_eq_true rfl) dX1_mark_15 ⟨Nat.le_of_ble_eq_true rfl, Nat.le_of_ble_eq_true rfl⟩ ?_
    refine k_pS (As := [.int (nI (sw mS (10 * i + w)))]) (rest := [.int (nI 0), .int pi, .ref (ad 7)]) (c_X1_size l (sw mS (10 * i + w)) (by omega)) ⟨hx, hb, hml, hown, hts⟩ (va_cwS 1 hts gX1_mark_X1_size rfl rfl rfl (by decide +kernel) ⟨Nat.le_of_ble_eq_true rfl, Nat.le_of_ble_eq_true rfl⟩) rfl hl.1 rfl (Nat.le_of_ble_eq_true rfl) dX1_mark_18 ⟨Nat.le_of_ble_eq_true rfl, Nat.le_of_ble_eq_true rfl⟩ ?_
    refine lv_iconst (v := nI 1) hx hb dX1_mark_21 (by decide) ?_
    refine lv_isub hx hb dX1_mark_22 ?_
    refine k_pS (As := [.int pi, .int (nI 0), .int ((nI (ln_ (sw mS (10 * i + w)))) - (nI 1))]) (rest := [.ref (ad 7)]) (c_X1_isIn l pi (nI 0) ((nI (ln_ (sw mS (10 * i + w)))) - (nI 1))) ⟨hx, hb, hml, hown, hts⟩ (va_cwS 3 hts gX1_mark_X1_isIn rfl rfl rfl (by decide +kernel) ⟨Nat.le_of_ble_eq_true rfl, Nat.le_of_ble_eq_true rfl⟩) rfl hl.1 rfl (Nat.le_of_ble_eq_true rfl) dX1_mark_23 ⟨Nat.le_of_ble_eq_true rfl, Nat.le_of_ble_eq_true rfl⟩ ?_
    refine lv_if_eq (tgt := 33) hx hb dX1_mark_26 (by decide) (fun c_26 => ?_) (fun c_26 => ?_)
    · skip
      refine lv_iconst (v := nI 1) hx hb dX1_mark_33 (by decide) ?_
      refine w_f1 (m' := mS) (x' := ax_h x (nI 1)) hC hB hS hx hb hts hin hown 0 (by decide) (hts (.fieldLink RX1 20 "AbjadPoemsModel" "thrown" "I") (by decide +kernel)) rfl rfl rfl hC.1.2.2.2.2.1 dX1_mark_34 (fun H locs hC hS => ?_)
      refine lv_aload_n hx hb dX1_mark_37 rfl (lv_at hl 0 rfl) ?_
      refine r_g1 hC hx hb hts hin hown 0 (by decide) (hts (.fieldLink RX1 20 "AbjadPoemsModel" "thrown" "I") (by decide +kernel)) rfl dX1_mark_38 ?_
      refine lv_tn (w := nI 1) rfl ?_
      refine lv_if_eq (tgt := 46) hx hb dX1_mark_41 (by decide) (fun c_41 => ?_) (fun c_41 => ?_)
      · skip
        have n_41 : 1 = 0 := (eq0_ (by omega)).mp c_41
        exact absurd n_41 (by decide)
      · skip
        have n_41 : ¬ 1 = 0 := fun q__ => c_41 ((eq0_ (by omega)).mpr q__)
        refine lv_iconst (v := nI 0) hx hb dX1_mark_44 (by decide) ?_
        exact W.zret hx hb hr rfl (fun t ht hW => ⟨⟨_, ax_h x (nI 1), rfl, ⟨rfl, rfl⟩, (by show CW B0 g ct ad cS mS (ax_h x (nI 1)) t.heap; rw [ht]; exact hC.1)⟩, hS.F ht⟩) hS.2.2 dX1_mark_45
    · skip
      exact absurd (b2_v hf3) c_26
set_option maxHeartbeats 4000000 in
set_option maxRecDepth 100000 in
theorem c_X1_word (l : Launch) (B0 : Nat) (g : va_G) (ct ad : Nat → Nat) (cS mS : St_) (x : Ax_) (i w q : Nat) (hi : i < sn mS) (hw : w < ss mS i) (hq : q < 5) : WI l yX1_word wsX1_word 5 0 0 B0 g ct ad cS mS x [.ref (ad 7), .int (nI i), .int (nI w), .int (nI q)] (nI (wt_ mS i w q)) cS mS ((fun u => u = ax_h x (nI 0))) := by
  refine Met.ofW (cc := cX1_word) (maxL := 4) (ret := (some .int)) (by decide) rfl ?_
  intro p e s m args below meth c s₁ B hml hv
  obtain ⟨rfl, hC⟩ := hv
  have hx := B.exec
  have hb := B.bytes
  have hr := B.returns
  have hts := atoms_spec (ws := wsX1_word) B.pre
  have hown : s.vm.findClass RX1 = some m.cls := findClass_of_methodNamed B.named
  have hlocks := B.notSynchronized
  have hin : ∀ w ∈ wsX10, w ∈ wsX1_word := fun _ h => List.mem_cons_of_mem _ (List.mem_append_right _ h)
  have hS : va_S (AA B0) s.heap s.heap [] := va_S.rf
  have hB : B0 ≤ s.heap.size := hC.1.2.2.1
  have hI := hC.1.2.2.2.2.1
  have hn := hI.2.1
  have hz := hI.2.2.1 i
  have hf := li_t hi (by omega)
  have hf2 := li_t hw (by omega)
  have hq2 : ii_ (nI q) (nI 0) (nI 4) = true := ii_n (by omega) (by omega) (by omega)
  have hl := lv_entry ([.ref (ad 7), .int (nI i), .int (nI w), .int (nI q)]) (n := 4) (Nat.le_of_ble_eq_true rfl)
  rw [lg_entry_eq]
  generalize (lg_sl ([.ref (ad 7), .int (nI i), .int (nI w), .int (nI q)]) ++ List.replicate (4 - (lg_sl ([.ref (ad 7), .int (nI i), .int (nI w), .int (nI q)])).length) Slot.unset).toArray = ls at hl ⊢
  have hl : lv_has ls 4 [(0, .ref (ad 7)), (1, .int (nI i)), (2, .int (nI w)), (3, .int (nI q))] := hl
  refine lv_aload_n hx hb dX1_word_0 rfl (lv_at hl 0 rfl) ?_
  refine lv_iconst (v := nI 0) hx hb dX1_word_1 (by decide) ?_
  refine w_f1 (m' := mS) (x' := ax_h x (nI 0)) hC hB hS hx hb hts hin hown 0 (by decide) (hts (.fieldLink RX1 20 "AbjadPoemsModel" "thrown" "I") (by decide +kernel)) rfl rfl rfl hC.1.2.2.2.2.1 dX1_word_2 (fun H locs hC hS => ?_)
  refine lv_aload_n hx hb dX1_word_5 rfl (lv_at hl 0 rfl) ?_
  refine lv_iload_n hx hb dX1_word_6 rfl (lv_at hl 1 rfl) ?_
  refine lv_iload_n hx hb dX1_word_7 rfl (lv_at hl 2 rfl) ?_
  refine k_rV (As := [.int (nI i), .int (nI w)]) (rest := []) (c_X1_isOne_2 l B0 g ct ad cS mS (ax_h x (nI 0)) i (nI w) (by omega)) hC ⟨hx, hb, hml, hown, hts⟩ (cwV 2 hts gX1_word_X1_isOne rfl rfl rfl (by decide +kernel) ⟨Nat.le_of_ble_eq_true rfl, Nat.le_of_ble_eq_true rfl⟩) (rc1 hC) rfl hl.1 rfl (Nat.le_of_ble_eq_true rfl) dX1_word_8 ⟨Nat.le_of_ble_eq_true rfl, Nat.le_of_ble_eq_true rfl⟩ ?_
  refine lv_if_eq (tgt := 33) hx hb dX1_word_11 (by decide) (fun c_11 => ?_) (fun c_11 => ?_)
  · skip
    rw [hf2] at c_11; exact absurd c_11 (by decide)
  · skip
    refine lv_iload_n hx hb dX1_word_14 rfl (lv_at hl 3 rfl) ?_
    refine lv_iconst (v := nI 0) hx hb dX1_word_15 (by decide) ?_
    refine lv_iconst (v := nI 4) hx hb dX1_word_16 (by decide) ?_
    refine k_pS (As := [.int (nI q), .int (nI 0), .int (nI 4)]) (rest := []) (c_X1_isIn l (nI q) (nI 0) (nI 4)) ⟨hx, hb, hml, hown, hts⟩ (va_cwS 3 hts gX1_word_X1_isIn rfl rfl rfl (by decide +kernel) ⟨Nat.le_of_ble_eq_true rfl, Nat.le_of_ble_eq_true rfl⟩) rfl hl.1 rfl (Nat.le_of_ble_eq_true rfl) dX1_word_17 ⟨Nat.le_of_ble_eq_true rfl, Nat.le_of_ble_eq_true rfl⟩ ?_
    refine lv_if_eq (tgt := 33) hx hb dX1_word_20 (by decide) (fun c_20 => ?_) (fun c_20 => ?_)
    · skip
      rw [hq2] at c_20; exact absurd c_20 (by decide)
    · skip
      refine lv_aload_n hx hb dX1_word_23 rfl (lv_at hl 0 rfl) ?_
      refine lv_iload_n hx hb dX1_word_24 rfl (lv_at hl 1 rfl) ?_
      refine lv_iload_n hx hb dX1_word_25 rfl (lv_at hl 2 rfl) ?_
      refine lv_iload_n hx hb dX1_word_26 rfl (lv_at hl 3 rfl) ?_
      refine k_rV (As := [.int (nI i), .int (nI w), .int (nI q)]) (rest := []) (c_X1_wordTold l B0 g ct ad cS mS (ax_h x (nI 0)) i w q (by omega) (by omega) (by omega)) hC ⟨hx, hb, hml, hown, hts⟩ (cwV 3 hts gX1_word_X1_wordTold rfl rfl rfl (by decide +kernel) ⟨Nat.le_of_ble_eq_true rfl, Nat.le_of_ble_eq_true rfl⟩) (rc1 hC) rfl hl.1 rfl (Nat.le_of_ble_eq_true rfl) dX1_word_27 ⟨Nat.le_of_ble_eq_true rfl, Nat.le_of_ble_eq_true rfl⟩ ?_
      refine lv_goto (tgt := 38) hx hb dX1_word_30 (by decide) ?_
      exact W.iret hx hb hr (fun t ht hW => ⟨⟨_, ax_h x (nI 0), rfl, ⟨rfl, rfl⟩, (by show CW B0 g ct ad cS mS (ax_h x (nI 0)) t.heap; rw [ht]; exact hC.1)⟩, hS.F ht⟩) hS.2.2 dX1_word_38
set_option maxHeartbeats 4000000 in
set_option maxRecDepth 100000 in
theorem t_X1_word_1 (l : Launch) (B0 : Nat) (g : va_G) (ct ad : Nat → Nat) (cS mS : St_) (x : Ax_) (li : Int32) (h : li < 0 ∨ nI (sn mS) ≤ li) (wi q : Int32) : WI l yX1_word wsX1_word 5 0 0 B0 g ct ad cS mS x [.ref (ad 7), .int li, .int wi, .int q] (nI 0) cS mS ((fun u => u = ax_h x (nI 1))) := by
  refine Met.ofW (cc := cX1_word) (maxL := 4) (ret := (some .int)) (by decide) rfl ?_
  intro p e s m args below meth c s₁ B hml hv
  obtain ⟨rfl, hC⟩ := hv
  have hx := B.exec
  have hb := B.bytes
  have hr := B.returns
  have hts := atoms_spec (ws := wsX1_word) B.pre
  have hown : s.vm.findClass RX1 = some m.cls := findClass_of_methodNamed B.named
  have hlocks := B.notSynchronized
  have hin : ∀ w ∈ wsX10, w ∈ wsX1_word := fun _ h => List.mem_cons_of_mem _ (List.mem_append_right _ h)
  have hS : va_S (AA B0) s.heap s.heap [] := va_S.rf
  have hB : B0 ≤ s.heap.size := hC.1.2.2.1
  have hl := lv_entry ([.ref (ad 7), .int li, .int wi, .int q]) (n := 4) (Nat.le_of_ble_eq_true rfl)
  rw [lg_entry_eq]
  generalize (lg_sl ([.ref (ad 7), .int li, .int wi, .int q]) ++ List.replicate (4 - (lg_sl ([.ref (ad 7), .int li, .int wi, .int q])).length) Slot.unset).toArray = ls at hl ⊢
  have hl : lv_has ls 4 [(0, .ref (ad 7)), (1, .int li), (2, .int wi), (3, .int q)] := hl
  refine lv_aload_n hx hb dX1_word_0 rfl (lv_at hl 0 rfl) ?_
  refine lv_iconst (v := nI 0) hx hb dX1_word_1 (by decide) ?_
  refine w_f1 (m' := mS) (x' := ax_h x (nI 0)) hC hB hS hx hb hts hin hown 0 (by decide) (hts (.fieldLink RX1 20 "AbjadPoemsModel" "thrown" "I") (by decide +kernel)) rfl rfl rfl hC.1.2.2.2.2.1 dX1_word_2 (fun H locs hC hS => ?_)
  refine lv_aload_n hx hb dX1_word_5 rfl (lv_at hl 0 rfl) ?_
  refine lv_iload_n hx hb dX1_word_6 rfl (lv_at hl 1 rfl) ?_
  refine lv_iload_n hx hb dX1_word_7 rfl (lv_at hl 2 rfl) ?_
  refine k_rV (As := [.int li, .int wi]) (rest := []) (c_X1_isOne_1 l B0 g ct ad cS mS (ax_h x (nI 0)) li wi h) hC ⟨hx, hb, hml, hown, hts⟩ (cwV 2 hts gX1_word_X1_isOne rfl rfl rfl (by decide +kernel) ⟨Nat.le_of_ble_eq_true rfl, Nat.le_of_ble_eq_true rfl⟩) (rc1 hC) rfl hl.1 rfl (Nat.le_of_ble_eq_true rfl) dX1_word_8 ⟨Nat.le_of_ble_eq_true rfl, Nat.le_of_ble_eq_true rfl⟩ ?_
  refine lv_if_eq (tgt := 33) hx hb dX1_word_11 (by decide) (fun c_11 => ?_) (fun c_11 => ?_)
  · skip
    refine lv_aload_n hx hb dX1_word_33 rfl (lv_at hl 0 rfl) ?_
    refine lv_iconst (v := nI 1) hx hb dX1_word_34 (by decide) ?_
    refine k_wV (As := [.int (nI 1)]) (rest := []) (c_X1_fail l B0 g ct ad cS mS (ax_h x (nI 0)) 1) hC hB hS ⟨hx, hb, hml, hown, hts⟩ (cwV 1 hts gX1_word_X1_fail rfl rfl rfl (by decide +kernel) ⟨Nat.le_of_ble_eq_true rfl, Nat.le_of_ble_eq_true rfl⟩) (rc1 hC) rfl hl.1 rfl (Nat.le_of_ble_eq_true rfl) dX1_word_35 ⟨Nat.le_of_ble_eq_true rfl, Nat.le_of_ble_eq_true rfl⟩ (fun u_35 H locs hu_35 hC hS => ?_)
    subst hu_35
    exact W.iret hx hb hr (fun t ht hW => ⟨⟨_, ax_h (ax_h x (nI 0)) (nI 1), rfl, ⟨rfl, rfl⟩, (by show CW B0 g ct ad cS mS (ax_h (ax_h x (nI 0)) (nI 1)) t.heap; rw [ht]; exact hC.1)⟩, hS.F ht⟩) hS.2.2 dX1_word_38
  · skip
    exact absurd rfl c_11
set_option maxHeartbeats 4000000 in
set_option maxRecDepth 100000 in
theorem t_X1_word_2 (l : Launch) (B0 : Nat) (g : va_G) (ct ad : Nat → Nat) (cS mS : St_) (x : Ax_) (i : Nat) (hi : i < sn mS) (wi q : Int32) (h : wi < 0 ∨ nI (ss mS i) ≤ wi) : WI l yX1_word wsX1_word 5 0 0 B0 g ct ad cS mS x [.ref (ad 7), .int (nI i), .int wi, .int q] (nI 0) cS mS ((fun u => u = ax_h x (nI 1))) := by
  refine Met.ofW (cc := cX1_word) (maxL := 4) (ret := (some .int)) (by decide) rfl ?_
  intro p e s m args below meth c s₁ B hml hv
  obtain ⟨rfl, hC⟩ := hv
  have hx := B.exec
  have hb := B.bytes
  have hr := B.returns
  have hts := atoms_spec (ws := wsX1_word) B.pre
  have hown : s.vm.findClass RX1 = some m.cls := findClass_of_methodNamed B.named
  have hlocks := B.notSynchronized
  have hin : ∀ w ∈ wsX10, w ∈ wsX1_word := fun _ h => List.mem_cons_of_mem _ (List.mem_append_right _ h)
  have hS : va_S (AA B0) s.heap s.heap [] := va_S.rf
  have hB : B0 ≤ s.heap.size := hC.1.2.2.1
  have hI := hC.1.2.2.2.2.1
  have hn := hI.2.1
  have hz := hI.2.2.1 i
  have hf := li_t hi (by omega)
  have hf2 := li_f h (by omega)
  have hl := lv_entry ([.ref (ad 7), .int (nI i), .int wi, .int q]) (n := 4) (Nat.le_of_ble_eq_true rfl)
  rw [lg_entry_eq]
  generalize (lg_sl ([.ref (ad 7), .int (nI i), .int wi, .int q]) ++ List.replicate (4 - (lg_sl ([.ref (ad 7), .int (nI i), .int wi, .int q])).length) Slot.unset).toArray = ls at hl ⊢
  have hl : lv_has ls 4 [(0, .ref (ad 7)), (1, .int (nI i)), (2, .int wi), (3, .int q)] := hl
  refine lv_aload_n hx hb dX1_word_0 rfl (lv_at hl 0 rfl) ?_
  refine lv_iconst (v := nI 0) hx hb dX1_word_1 (by decide) ?_
  refine w_f1 (m' := mS) (x' := ax_h x (nI 0)) hC hB hS hx hb hts hin hown 0 (by decide) (hts (.fieldLink RX1 20 "AbjadPoemsModel" "thrown" "I") (by decide +kernel)) rfl rfl rfl hC.1.2.2.2.2.1 dX1_word_2 (fun H locs hC hS => ?_)
  refine lv_aload_n hx hb dX1_word_5 rfl (lv_at hl 0 rfl) ?_
  refine lv_iload_n hx hb dX1_word_6 rfl (lv_at hl 1 rfl) ?_
  refine lv_iload_n hx hb dX1_word_7 rfl (lv_at hl 2 rfl) ?_
  refine k_rV (As := [.int (nI i), .int wi]) (rest := []) (c_X1_isOne_2 l B0 g ct ad cS mS (ax_h x (nI 0)) i wi (by omega)) hC ⟨hx, hb, hml, hown, hts⟩ (cwV 2 hts gX1_word_X1_isOne rfl rfl rfl (by decide +kernel) ⟨Nat.le_of_ble_eq_true rfl, Nat.le_of_ble_eq_true rfl⟩) (rc1 hC) rfl hl.1 rfl (Nat.le_of_ble_eq_true rfl) dX1_word_8 ⟨Nat.le_of_ble_eq_true rfl, Nat.le_of_ble_eq_true rfl⟩ ?_
  refine lv_if_eq (tgt := 33) hx hb dX1_word_11 (by decide) (fun c_11 => ?_) (fun c_11 => ?_)
  · skip
    refine lv_aload_n hx hb dX1_word_33 rfl (lv_at hl 0 rfl) ?_
    refine lv_iconst (v := nI 1) hx hb dX1_word_34 (by decide) ?_
    refine k_wV (As := [.int (nI 1)]) (rest := []) (c_X1_fail l B0 g ct ad cS mS (ax_h x (nI 0)) 1) hC hB hS ⟨hx, hb, hml, hown, hts⟩ (cwV 1 hts gX1_word_X1_fail rfl rfl rfl (by decide +kernel) ⟨Nat.le_of_ble_eq_true rfl, Nat.le_of_ble_eq_true rfl⟩) (rc1 hC) rfl hl.1 rfl (Nat.le_of_ble_eq_true rfl) dX1_word_35 ⟨Nat.le_of_ble_eq_true rfl, Nat.le_of_ble_eq_true rfl⟩ (fun u_35 H locs hu_35 hC hS => ?_)
    subst hu_35
    exact W.iret hx hb hr (fun t ht hW => ⟨⟨_, ax_h (ax_h x (nI 0)) (nI 1), rfl, ⟨rfl, rfl⟩, (by show CW B0 g ct ad cS mS (ax_h (ax_h x (nI 0)) (nI 1)) t.heap; rw [ht]; exact hC.1)⟩, hS.F ht⟩) hS.2.2 dX1_word_38
  · skip
    rw [hf2] at c_11; exact absurd rfl c_11
set_option maxHeartbeats 4000000 in
set_option maxRecDepth 100000 in
theorem t_X1_word_3 (l : Launch) (B0 : Nat) (g : va_G) (ct ad : Nat → Nat) (cS mS : St_) (x : Ax_) (i w : Nat) (hi : i < sn mS) (hw : w < ss mS i) (q : Int32) (hq2 : ii_ q (nI 0) (nI 4) = false) : WI l yX1_word wsX1_word 5 0 0 B0 g ct ad cS mS x [.ref (ad 7), .int (nI i), .int (nI w), .int q] (nI 0) cS mS ((fun u => u = ax_h x (nI 1))) := by
  refine Met.ofW (cc := cX1_word) (maxL := 4) (ret := (some .int)) (by decide) rfl ?_
  intro p e s m args below meth c s₁ B hml hv
  obtain ⟨rfl, hC⟩ := hv
  have hx := B.exec
  have hb := B.bytes
  have hr := B.returns
  have hts := atoms_spec (ws := wsX1_word) B.pre
  have hown : s.vm.findClass RX1 = some m.cls := findClass_of_methodNamed B.named
  have hlocks := B.notSynchronized
  have hin : ∀ w ∈ wsX10, w ∈ wsX1_word := fun _ h => List.mem_cons_of_mem _ (List.mem_append_right _ h)
  have hS : va_S (AA B0) s.heap s.heap [] := va_S.rf
  have hB : B0 ≤ s.heap.size := hC.1.2.2.1
  have hI := hC.1.2.2.2.2.1
  have hn := hI.2.1
  have hz := hI.2.2.1 i
  have hf := li_t hi (by omega)
  have hf2 := li_t hw (by omega)
  have hl := lv_entry ([.ref (ad 7), .int (nI i), .int (nI w), .int q]) (n := 4) (Nat.le_of_ble_eq_true rfl)
  rw [lg_entry_eq]
  generalize (lg_sl ([.ref (ad 7), .int (nI i), .int (nI w), .int q]) ++ List.replicate (4 - (lg_sl ([.ref (ad 7), .int (nI i), .int (nI w), .int q])).length) Slot.unset).toArray = ls at hl ⊢
  have hl : lv_has ls 4 [(0, .ref (ad 7)), (1, .int (nI i)), (2, .int (nI w)), (3, .int q)] := hl
  refine lv_aload_n hx hb dX1_word_0 rfl (lv_at hl 0 rfl) ?_
  refine lv_iconst (v := nI 0) hx hb dX1_word_1 (by decide) ?_
  refine w_f1 (m' := mS) (x' := ax_h x (nI 0)) hC hB hS hx hb hts hin hown 0 (by decide) (hts (.fieldLink RX1 20 "AbjadPoemsModel" "thrown" "I") (by decide +kernel)) rfl rfl rfl hC.1.2.2.2.2.1 dX1_word_2 (fun H locs hC hS => ?_)
  refine lv_aload_n hx hb dX1_word_5 rfl (lv_at hl 0 rfl) ?_
  refine lv_iload_n hx hb dX1_word_6 rfl (lv_at hl 1 rfl) ?_
  refine lv_iload_n hx hb dX1_word_7 rfl (lv_at hl 2 rfl) ?_
  refine k_rV (As := [.int (nI i), .int (nI w)]) (rest := []) (c_X1_isOne_2 l B0 g ct ad cS mS (ax_h x (nI 0)) i (nI w) (by omega)) hC ⟨hx, hb, hml, hown, hts⟩ (cwV 2 hts gX1_word_X1_isOne rfl rfl rfl (by decide +kernel) ⟨Nat.le_of_ble_eq_true rfl, Nat.le_of_ble_eq_true rfl⟩) (rc1 hC) rfl hl.1 rfl (Nat.le_of_ble_eq_true rfl) dX1_word_8 ⟨Nat.le_of_ble_eq_true rfl, Nat.le_of_ble_eq_true rfl⟩ ?_
  refine lv_if_eq (tgt := 33) hx hb dX1_word_11 (by decide) (fun c_11 => ?_) (fun c_11 => ?_)
  · skip
    rw [hf2] at c_11; exact absurd c_11 (by decide)
  · skip
    refine lv_iload_n hx hb dX1_word_14 rfl (lv_at hl 3 rfl) ?_
    refine lv_iconst (v := nI 0) hx hb dX1_word_15 (by decide) ?_
    refine lv_iconst (v := nI 4) hx hb dX1_word_16 (by decide) ?_
    refine k_pS (As := [.int q, .int (nI 0), .int (nI 4)]) (rest := []) (c_X1_isIn l q (nI 0) (nI 4)) ⟨hx, hb, hml, hown, hts⟩ (va_cwS 3 hts gX1_word_X1_isIn rfl rfl rfl (by decide +kernel) ⟨Nat.le_of_ble_eq_true rfl, Nat.le_of_ble_eq_true rfl⟩) rfl hl.1 rfl (Nat.le_of_ble_eq_true rfl) dX1_word_17 ⟨Nat.le_of_ble_eq_true rfl, Nat.le_of_ble_eq_true rfl⟩ ?_
    refine lv_if_eq (tgt := 33) hx hb dX1_word_20 (by decide) (fun c_20 => ?_) (fun c_20 => ?_)
    · skip
      refine lv_aload_n hx hb dX1_word_33 rfl (lv_at hl 0 rfl) ?_
      refine lv_iconst (v := nI 1) hx hb dX1_word_34 (by decide) ?_
      refine k_wV (As := [.int (nI 1)]) (rest := []) (c_X1_fail l B0 g ct ad cS mS (ax_h x (nI 0)) 1) hC hB hS ⟨hx, hb, hml, hown, hts⟩ (cwV 1 hts gX1_word_X1_fail rfl rfl rfl (by decide +kernel) ⟨Nat.le_of_ble_eq_true rfl, Nat.le_of_ble_eq_true rfl⟩) (rc1 hC) rfl hl.1 rfl (Nat.le_of_ble_eq_true rfl) dX1_word_35 ⟨Nat.le_of_ble_eq_true rfl, Nat.le_of_ble_eq_true rfl⟩ (fun u_35 H locs hu_35 hC hS => ?_)
      subst hu_35
      exact W.iret hx hb hr (fun t ht hW => ⟨⟨_, ax_h (ax_h x (nI 0)) (nI 1), rfl, ⟨rfl, rfl⟩, (by show CW B0 g ct ad cS mS (ax_h (ax_h x (nI 0)) (nI 1)) t.heap; rw [ht]; exact hC.1)⟩, hS.F ht⟩) hS.2.2 dX1_word_38
    · skip
      rw [hq2] at c_20; exact absurd rfl c_20
set_option maxHeartbeats 4000000 in
set_option maxRecDepth 100000 in
theorem c_X1_line (l : Launch) (B0 : Nat) (g : va_G) (ct ad : Nat → Nat) (cS mS : St_) (x : Ax_) (i q : Nat) (hi : i < sn mS) (hq : q < 5) : WI l yX1_line wsX1_line 5 0 0 B0 g ct ad cS mS x [.ref (ad 7), .int (nI i), .int (nI q)] (nI (lt_ mS i q)) cS mS ((fun u => u = ax_h x (nI 0))) := by
  refine Met.ofW (cc := cX1_line) (maxL := 3) (ret := (some .int)) (by decide) rfl ?_
  intro p e s m args below meth c s₁ B hml hv
  obtain ⟨rfl, hC⟩ := hv
  have hx := B.exec
  have hb := B.bytes
  have hr := B.returns
  have hts := atoms_spec (ws := wsX1_line) B.pre
  have hown : s.vm.findClass RX1 = some m.cls := findClass_of_methodNamed B.named
  have hlocks := B.notSynchronized
  have hin : ∀ w ∈ wsX10, w ∈ wsX1_line := fun _ h => List.mem_cons_of_mem _ (List.mem_append_right _ h)
  have hS : va_S (AA B0) s.heap s.heap [] := va_S.rf
  have hB : B0 ≤ s.heap.size := hC.1.2.2.1
  have hI := hC.1.2.2.2.2.1
  have hn := hI.2.1
  have hz := hI.2.2.1 i
  have hf := li_t hi (by omega)
  have hq2 : ii_ (nI q) (nI 0) (nI 4) = true := ii_n (by omega) (by omega) (by omega)
  have hl := lv_entry ([.ref (ad 7), .int (nI i), .int (nI q)]) (n := 3) (Nat.le_of_ble_eq_true rfl)
  rw [lg_entry_eq]
  generalize (lg_sl ([.ref (ad 7), .int (nI i), .int (nI q)]) ++ List.replicate (3 - (lg_sl ([.ref (ad 7), .int (nI i), .int (nI q)])).length) Slot.unset).toArray = ls at hl ⊢
  have hl : lv_has ls 3 [(0, .ref (ad 7)), (1, .int (nI i)), (2, .int (nI q))] := hl
  refine lv_aload_n hx hb dX1_line_0 rfl (lv_at hl 0 rfl) ?_
  refine lv_iconst (v := nI 0) hx hb dX1_line_1 (by decide) ?_
  refine w_f1 (m' := mS) (x' := ax_h x (nI 0)) hC hB hS hx hb hts hin hown 0 (by decide) (hts (.fieldLink RX1 20 "AbjadPoemsModel" "thrown" "I") (by decide +kernel)) rfl rfl rfl hC.1.2.2.2.2.1 dX1_line_2 (fun H locs hC hS => ?_)
  refine lv_aload_n hx hb dX1_line_5 rfl (lv_at hl 0 rfl) ?_
  refine lv_iload_n hx hb dX1_line_6 rfl (lv_at hl 1 rfl) ?_
  refine k_rV (As := [.int (nI i)]) (rest := []) (c_X1_isLine l B0 g ct ad cS mS (ax_h x (nI 0)) (nI i)) hC ⟨hx, hb, hml, hown, hts⟩ (cwV 1 hts gX1_line_X1_isLine rfl rfl rfl (by decide +kernel) ⟨Nat.le_of_ble_eq_true rfl, Nat.le_of_ble_eq_true rfl⟩) (rc1 hC) rfl hl.1 rfl (Nat.le_of_ble_eq_true rfl) dX1_line_7 ⟨Nat.le_of_ble_eq_true rfl, Nat.le_of_ble_eq_true rfl⟩ ?_
  refine lv_if_eq (tgt := 31) hx hb dX1_line_10 (by decide) (fun c_10 => ?_) (fun c_10 => ?_)
  · skip
    rw [hf] at c_10; exact absurd c_10 (by decide)
  · skip
    refine lv_iload_n hx hb dX1_line_13 rfl (lv_at hl 2 rfl) ?_
    refine lv_iconst (v := nI 0) hx hb dX1_line_14 (by decide) ?_
    refine lv_iconst (v := nI 4) hx hb dX1_line_15 (by decide) ?_
    refine k_pS (As := [.int (nI q), .int (nI 0), .int (nI 4)]) (rest := []) (c_X1_isIn l (nI q) (nI 0) (nI 4)) ⟨hx, hb, hml, hown, hts⟩ (va_cwS 3 hts gX1_line_X1_isIn rfl rfl rfl (by decide +kernel) ⟨Nat.le_of_ble_eq_true rfl, Nat.le_of_ble_eq_true rfl⟩) rfl hl.1 rfl (Nat.le_of_ble_eq_true rfl) dX1_line_16 ⟨Nat.le_of_ble_eq_true rfl, Nat.le_of_ble_eq_true rfl⟩ ?_
    refine lv_if_eq (tgt := 31) hx hb dX1_line_19 (by decide) (fun c_19 => ?_) (fun c_19 => ?_)
    · skip
      rw [hq2] at c_19; exact absurd c_19 (by decide)
    · skip
      refine lv_aload_n hx hb dX1_line_22 rfl (lv_at hl 0 rfl) ?_
      refine lv_iload_n hx hb dX1_line_23 rfl (lv_at hl 1 rfl) ?_
      refine lv_iload_n hx hb dX1_line_24 rfl (lv_at hl 2 rfl) ?_
      refine k_rV (As := [.int (nI i), .int (nI q)]) (rest := []) (c_X1_lineTold l B0 g ct ad cS mS (ax_h x (nI 0)) i q (by omega) (by omega)) hC ⟨hx, hb, hml, hown, hts⟩ (cwV 2 hts gX1_line_X1_lineTold rfl rfl rfl (by decide +kernel) ⟨Nat.le_of_ble_eq_true rfl, Nat.le_of_ble_eq_true rfl⟩) (rc1 hC) rfl hl.1 rfl (Nat.le_of_ble_eq_true rfl) dX1_line_25 ⟨Nat.le_of_ble_eq_true rfl, Nat.le_of_ble_eq_true rfl⟩ ?_
      refine lv_goto (tgt := 36) hx hb dX1_line_28 (by decide) ?_
      exact W.iret hx hb hr (fun t ht hW => ⟨⟨_, ax_h x (nI 0), rfl, ⟨rfl, rfl⟩, (by show CW B0 g ct ad cS mS (ax_h x (nI 0)) t.heap; rw [ht]; exact hC.1)⟩, hS.F ht⟩) hS.2.2 dX1_line_36
set_option maxHeartbeats 4000000 in
set_option maxRecDepth 100000 in
theorem t_X1_line_1 (l : Launch) (B0 : Nat) (g : va_G) (ct ad : Nat → Nat) (cS mS : St_) (x : Ax_) (li : Int32) (h : li < 0 ∨ nI (sn mS) ≤ li) (q : Int32) : WI l yX1_line wsX1_line 5 0 0 B0 g ct ad cS mS x [.ref (ad 7), .int li, .int q] (nI 0) cS mS ((fun u => u = ax_h x (nI 1))) := by
  refine Met.ofW (cc := cX1_line) (maxL := 3) (ret := (some .int)) (by decide) rfl ?_
  intro p e s m args below meth c s₁ B hml hv
  obtain ⟨rfl, hC⟩ := hv
  have hx := B.exec
  have hb := B.bytes
  have hr := B.returns
  have hts := atoms_spec (ws := wsX1_line) B.pre
  have hown : s.vm.findClass RX1 = some m.cls := findClass_of_methodNamed B.named
  have hlocks := B.notSynchronized
  have hin : ∀ w ∈ wsX10, w ∈ wsX1_line := fun _ h => List.mem_cons_of_mem _ (List.mem_append_right _ h)
  have hS : va_S (AA B0) s.heap s.heap [] := va_S.rf
  have hB : B0 ≤ s.heap.size := hC.1.2.2.1
  have hI := hC.1.2.2.2.2.1
  have hn := hI.2.1
  have hf := li_f h (by omega)
  have hl := lv_entry ([.ref (ad 7), .int li, .int q]) (n := 3) (Nat.le_of_ble_eq_true rfl)
  rw [lg_entry_eq]
  generalize (lg_sl ([.ref (ad 7), .int li, .int q]) ++ List.replicate (3 - (lg_sl ([.ref (ad 7), .int li, .int q])).length) Slot.unset).toArray = ls at hl ⊢
  have hl : lv_has ls 3 [(0, .ref (ad 7)), (1, .int li), (2, .int q)] := hl
  refine lv_aload_n hx hb dX1_line_0 rfl (lv_at hl 0 rfl) ?_
  refine lv_iconst (v := nI 0) hx hb dX1_line_1 (by decide) ?_
  refine w_f1 (m' := mS) (x' := ax_h x (nI 0)) hC hB hS hx hb hts hin hown 0 (by decide) (hts (.fieldLink RX1 20 "AbjadPoemsModel" "thrown" "I") (by decide +kernel)) rfl rfl rfl hC.1.2.2.2.2.1 dX1_line_2 (fun H locs hC hS => ?_)
  refine lv_aload_n hx hb dX1_line_5 rfl (lv_at hl 0 rfl) ?_
  refine lv_iload_n hx hb dX1_line_6 rfl (lv_at hl 1 rfl) ?_
  refine k_rV (As := [.int li]) (rest := []) (c_X1_isLine l B0 g ct ad cS mS (ax_h x (nI 0)) li) hC ⟨hx, hb, hml, hown, hts⟩ (cwV 1 hts gX1_line_X1_isLine rfl rfl rfl (by decide +kernel) ⟨Nat.le_of_ble_eq_true rfl, Nat.le_of_ble_eq_true rfl⟩) (rc1 hC) rfl hl.1 rfl (Nat.le_of_ble_eq_true rfl) dX1_line_7 ⟨Nat.le_of_ble_eq_true rfl, Nat.le_of_ble_eq_true rfl⟩ ?_
  refine lv_if_eq (tgt := 31) hx hb dX1_line_10 (by decide) (fun c_10 => ?_) (fun c_10 => ?_)
  · skip
    refine lv_aload_n hx hb dX1_line_31 rfl (lv_at hl 0 rfl) ?_
    refine lv_iconst (v := nI 1) hx hb dX1_line_32 (by decide) ?_
    refine k_wV (As := [.int (nI 1)]) (rest := []) (c_X1_fail l B0 g ct ad cS mS (ax_h x (nI 0)) 1) hC hB hS ⟨hx, hb, hml, hown, hts⟩ (cwV 1 hts gX1_line_X1_fail rfl rfl rfl (by decide +kernel) ⟨Nat.le_of_ble_eq_true rfl, Nat.le_of_ble_eq_true rfl⟩) (rc1 hC) rfl hl.1 rfl (Nat.le_of_ble_eq_true rfl) dX1_line_33 ⟨Nat.le_of_ble_eq_true rfl, Nat.le_of_ble_eq_true rfl⟩ (fun u_33 H locs hu_33 hC hS => ?_)
    subst hu_33
    exact W.iret hx hb hr (fun t ht hW => ⟨⟨_, ax_h (ax_h x (nI 0)) (nI 1), rfl, ⟨rfl, rfl⟩, (by show CW B0 g ct ad cS mS (ax_h (ax_h x (nI 0)) (nI 1)) t.heap; rw [ht]; exact hC.1)⟩, hS.F ht⟩) hS.2.2 dX1_line_36
  · skip
    rw [hf] at c_10; exact absurd rfl c_10
set_option maxHeartbeats 4000000 in
set_option maxRecDepth 100000 in
theorem t_X1_line_2 (l : Launch) (B0 : Nat) (g : va_G) (ct ad : Nat → Nat) (cS mS : St_) (x : Ax_) (i : Nat) (hi : i < sn mS) (q : Int32) (hq2 : ii_ q (nI 0) (nI 4) = false) : WI l yX1_line wsX1_line 5 0 0 B0 g ct ad cS mS x [.ref (ad 7), .int (nI i), .int q] (nI 0) cS mS ((fun u => u = ax_h x (nI 1))) := by
  refine Met.ofW (cc := cX1_line) (maxL := 3) (ret := (some .int)) (by decide) rfl ?_
  intro p e s m args below meth c s₁ B hml hv
  obtain ⟨rfl, hC⟩ := hv
  have hx := B.exec
  have hb := B.bytes
  have hr := B.returns
  have hts := atoms_spec (ws := wsX1_line) B.pre
  have hown : s.vm.findClass RX1 = some m.cls := findClass_of_methodNamed B.named
  have hlocks := B.notSynchronized
  have hin : ∀ w ∈ wsX10, w ∈ wsX1_line := fun _ h => List.mem_cons_of_mem _ (List.mem_append_right _ h)
  have hS : va_S (AA B0) s.heap s.heap [] := va_S.rf
  have hB : B0 ≤ s.heap.size := hC.1.2.2.1
  have hI := hC.1.2.2.2.2.1
  have hn := hI.2.1
  have hz := hI.2.2.1 i
  have hf := li_t hi (by omega)
  have hl := lv_entry ([.ref (ad 7), .int (nI i), .int q]) (n := 3) (Nat.le_of_ble_eq_true rfl)
  rw [lg_entry_eq]
  generalize (lg_sl ([.ref (ad 7), .int (nI i), .int q]) ++ List.replicate (3 - (lg_sl ([.ref (ad 7), .int (nI i), .int q])).length) Slot.unset).toArray = ls at hl ⊢
  have hl : lv_has ls 3 [(0, .ref (ad 7)), (1, .int (nI i)), (2, .int q)] := hl
  refine lv_aload_n hx hb dX1_line_0 rfl (lv_at hl 0 rfl) ?_
  refine lv_iconst (v := nI 0) hx hb dX1_line_1 (by decide) ?_
  refine w_f1 (m' := mS) (x' := ax_h x (nI 0)) hC hB hS hx hb hts hin hown 0 (by decide) (hts (.fieldLink RX1 20 "AbjadPoemsModel" "thrown" "I") (by decide +kernel)) rfl rfl rfl hC.1.2.2.2.2.1 dX1_line_2 (fun H locs hC hS => ?_)
  refine lv_aload_n hx hb dX1_line_5 rfl (lv_at hl 0 rfl) ?_
  refine lv_iload_n hx hb dX1_line_6 rfl (lv_at hl 1 rfl) ?_
  refine k_rV (As := [.int (nI i)]) (rest := []) (c_X1_isLine l B0 g ct ad cS mS (ax_h x (nI 0)) (nI i)) hC ⟨hx, hb, hml, hown, hts⟩ (cwV 1 hts gX1_line_X1_isLine rfl rfl rfl (by decide +kernel) ⟨Nat.le_of_ble_eq_true rfl, Nat.le_of_ble_eq_true rfl⟩) (rc1 hC) rfl hl.1 rfl (Nat.le_of_ble_eq_true rfl) dX1_line_7 ⟨Nat.le_of_ble_eq_true rfl, Nat.le_of_ble_eq_true rfl⟩ ?_
  refine lv_if_eq (tgt := 31) hx hb dX1_line_10 (by decide) (fun c_10 => ?_) (fun c_10 => ?_)
  · skip
    rw [hf] at c_10; exact absurd c_10 (by decide)
  · skip
    refine lv_iload_n hx hb dX1_line_13 rfl (lv_at hl 2 rfl) ?_
    refine lv_iconst (v := nI 0) hx hb dX1_line_14 (by decide) ?_
    refine lv_iconst (v := nI 4) hx hb dX1_line_15 (by decide) ?_
    refine k_pS (As := [.int q, .int (nI 0), .int (nI 4)]) (rest := []) (c_X1_isIn l q (nI 0) (nI 4)) ⟨hx, hb, hml, hown, hts⟩ (va_cwS 3 hts gX1_line_X1_isIn rfl rfl rfl (by decide +kernel) ⟨Nat.le_of_ble_eq_true rfl, Nat.le_of_ble_eq_true rfl⟩) rfl hl.1 rfl (Nat.le_of_ble_eq_true rfl) dX1_line_16 ⟨Nat.le_of_ble_eq_true rfl, Nat.le_of_ble_eq_true rfl⟩ ?_
    refine lv_if_eq (tgt := 31) hx hb dX1_line_19 (by decide) (fun c_19 => ?_) (fun c_19 => ?_)
    · skip
      refine lv_aload_n hx hb dX1_line_31 rfl (lv_at hl 0 rfl) ?_
      refine lv_iconst (v := nI 1) hx hb dX1_line_32 (by decide) ?_
      refine k_wV (As := [.int (nI 1)]) (rest := []) (c_X1_fail l B0 g ct ad cS mS (ax_h x (nI 0)) 1) hC hB hS ⟨hx, hb, hml, hown, hts⟩ (cwV 1 hts gX1_line_X1_fail rfl rfl rfl (by decide +kernel) ⟨Nat.le_of_ble_eq_true rfl, Nat.le_of_ble_eq_true rfl⟩) (rc1 hC) rfl hl.1 rfl (Nat.le_of_ble_eq_true rfl) dX1_line_33 ⟨Nat.le_of_ble_eq_true rfl, Nat.le_of_ble_eq_true rfl⟩ (fun u_33 H locs hu_33 hC hS => ?_)
      subst hu_33
      exact W.iret hx hb hr (fun t ht hW => ⟨⟨_, ax_h (ax_h x (nI 0)) (nI 1), rfl, ⟨rfl, rfl⟩, (by show CW B0 g ct ad cS mS (ax_h (ax_h x (nI 0)) (nI 1)) t.heap; rw [ht]; exact hC.1)⟩, hS.F ht⟩) hS.2.2 dX1_line_36
    · skip
      rw [hq2] at c_19; exact absurd rfl c_19
set_option maxHeartbeats 4000000 in
set_option maxRecDepth 100000 in
theorem c_X1_told (l : Launch) (B0 : Nat) (g : va_G) (ct ad : Nat → Nat) (cS mS : St_) (x : Ax_) (q : Nat) (hq : q < 7) : WI l yX1_told wsX1_told 7 0 0 B0 g ct ad cS mS x [.ref (ad 7), .int (nI q)] (nI (to_ mS q)) cS mS ((fun u => u = ax_h x (nI 0))) := by
  refine Met.ofW (cc := cX1_told) (maxL := 2) (ret := (some .int)) (by decide) rfl ?_
  intro p e s m args below meth c s₁ B hml hv
  obtain ⟨rfl, hC⟩ := hv
  have hx := B.exec
  have hb := B.bytes
  have hr := B.returns
  have hts := atoms_spec (ws := wsX1_told) B.pre
  have hown : s.vm.findClass RX1 = some m.cls := findClass_of_methodNamed B.named
  have hlocks := B.notSynchronized
  have hin : ∀ w ∈ wsX10, w ∈ wsX1_told := fun _ h => List.mem_cons_of_mem _ (List.mem_append_right _ h)
  have hS : va_S (AA B0) s.heap s.heap [] := va_S.rf
  have hB : B0 ≤ s.heap.size := hC.1.2.2.1
  have hq2 : ii_ (nI q) (nI 0) (nI 6) = true := ii_n (by omega) (by omega) (by omega)
  have hl := lv_entry ([.ref (ad 7), .int (nI q)]) (n := 2) (Nat.le_of_ble_eq_true rfl)
  rw [lg_entry_eq]
  generalize (lg_sl ([.ref (ad 7), .int (nI q)]) ++ List.replicate (2 - (lg_sl ([.ref (ad 7), .int (nI q)])).length) Slot.unset).toArray = ls at hl ⊢
  have hl : lv_has ls 2 [(0, .ref (ad 7)), (1, .int (nI q))] := hl
  refine lv_aload_n hx hb dX1_told_0 rfl (lv_at hl 0 rfl) ?_
  refine lv_iconst (v := nI 0) hx hb dX1_told_1 (by decide) ?_
  refine w_f1 (m' := mS) (x' := ax_h x (nI 0)) hC hB hS hx hb hts hin hown 0 (by decide) (hts (.fieldLink RX1 20 "AbjadPoemsModel" "thrown" "I") (by decide +kernel)) rfl rfl rfl hC.1.2.2.2.2.1 dX1_told_2 (fun H locs hC hS => ?_)
  refine lv_iload_n hx hb dX1_told_5 rfl (lv_at hl 1 rfl) ?_
  refine lv_iconst (v := nI 0) hx hb dX1_told_6 (by decide) ?_
  refine lv_bipush (v := nI 6) hx hb dX1_told_7 (by decide) ?_
  refine k_pS (As := [.int (nI q), .int (nI 0), .int (nI 6)]) (rest := []) (c_X1_isIn l (nI q) (nI 0) (nI 6)) ⟨hx, hb, hml, hown, hts⟩ (va_cwS 3 hts gX1_told_X1_isIn rfl rfl rfl (by decide +kernel) ⟨Nat.le_of_ble_eq_true rfl, Nat.le_of_ble_eq_true rfl⟩) rfl hl.1 rfl (Nat.le_of_ble_eq_true rfl) dX1_told_9 ⟨Nat.le_of_ble_eq_true rfl, Nat.le_of_ble_eq_true rfl⟩ ?_
  refine lv_if_eq (tgt := 23) hx hb dX1_told_12 (by decide) (fun c_12 => ?_) (fun c_12 => ?_)
  · skip
    rw [hq2] at c_12; exact absurd c_12 (by decide)
  · skip
    refine lv_aload_n hx hb dX1_told_15 rfl (lv_at hl 0 rfl) ?_
    refine lv_iload_n hx hb dX1_told_16 rfl (lv_at hl 1 rfl) ?_
    refine k_rV (As := [.int (nI q)]) (rest := []) (c_X1_toldOf l B0 g ct ad cS mS (ax_h x (nI 0)) q (by omega)) hC ⟨hx, hb, hml, hown, hts⟩ (cwV 1 hts gX1_told_X1_toldOf rfl rfl rfl (by decide +kernel) ⟨Nat.le_of_ble_eq_true rfl, Nat.le_of_ble_eq_true rfl⟩) (rc1 hC) rfl hl.1 rfl (Nat.le_of_ble_eq_true rfl) dX1_told_17 ⟨Nat.le_of_ble_eq_true rfl, Nat.le_of_ble_eq_true rfl⟩ ?_
    refine lv_goto (tgt := 28) hx hb dX1_told_20 (by decide) ?_
    exact W.iret hx hb hr (fun t ht hW => ⟨⟨_, ax_h x (nI 0), rfl, ⟨rfl, rfl⟩, (by show CW B0 g ct ad cS mS (ax_h x (nI 0)) t.heap; rw [ht]; exact hC.1)⟩, hS.F ht⟩) hS.2.2 dX1_told_28
set_option maxHeartbeats 4000000 in
set_option maxRecDepth 100000 in
theorem t_X1_told (l : Launch) (B0 : Nat) (g : va_G) (ct ad : Nat → Nat) (cS mS : St_) (x : Ax_) (q : Int32) (hq2 : ii_ q (nI 0) (nI 6) = false) : WI l yX1_told wsX1_told 7 0 0 B0 g ct ad cS mS x [.ref (ad 7), .int q] (nI 0) cS mS ((fun u => u = ax_h x (nI 1))) := by
  refine Met.ofW (cc := cX1_told) (maxL := 2) (ret := (some .int)) (by decide) rfl ?_
  intro p e s m args below meth c s₁ B hml hv
  obtain ⟨rfl, hC⟩ := hv
  have hx := B.exec
  have hb := B.bytes
  have hr := B.returns
  have hts := atoms_spec (ws := wsX1_told) B.pre
  have hown : s.vm.findClass RX1 = some m.cls := findClass_of_methodNamed B.named
  have hlocks := B.notSynchronized
  have hin : ∀ w ∈ wsX10, w ∈ wsX1_told := fun _ h => List.mem_cons_of_mem _ (List.mem_append_right _ h)
  have hS : va_S (AA B0) s.heap s.heap [] := va_S.rf
  have hB : B0 ≤ s.heap.size := hC.1.2.2.1
  have hl := lv_entry ([.ref (ad 7), .int q]) (n := 2) (Nat.le_of_ble_eq_true rfl)
  rw [lg_entry_eq]
  generalize (lg_sl ([.ref (ad 7), .int q]) ++ List.replicate (2 - (lg_sl ([.ref (ad 7), .int q])).length) Slot.unset).toArray = ls at hl ⊢
  have hl : lv_has ls 2 [(0, .ref (ad 7)), (1, .int q)] := hl
  refine lv_aload_n hx hb dX1_told_0 rfl (lv_at hl 0 rfl) ?_
  refine lv_iconst (v := nI 0) hx hb dX1_told_1 (by decide) ?_
  refine w_f1 (m' := mS) (x' := ax_h x (nI 0)) hC hB hS hx hb hts hin hown 0 (by decide) (hts (.fieldLink RX1 20 "AbjadPoemsModel" "thrown" "I") (by decide +kernel)) rfl rfl rfl hC.1.2.2.2.2.1 dX1_told_2 (fun H locs hC hS => ?_)
  refine lv_iload_n hx hb dX1_told_5 rfl (lv_at hl 1 rfl) ?_
  refine lv_iconst (v := nI 0) hx hb dX1_told_6 (by decide) ?_
  refine lv_bipush (v := nI 6) hx hb dX1_told_7 (by decide) ?_
  refine k_pS (As := [.int q, .int (nI 0), .int (nI 6)]) (rest := []) (c_X1_isIn l q (nI 0) (nI 6)) ⟨hx, hb, hml, hown, hts⟩ (va_cwS 3 hts gX1_told_X1_isIn rfl rfl rfl (by decide +kernel) ⟨Nat.le_of_ble_eq_true rfl, Nat.le_of_ble_eq_true rfl⟩) rfl hl.1 rfl (Nat.le_of_ble_eq_true rfl) dX1_told_9 ⟨Nat.le_of_ble_eq_true rfl, Nat.le_of_ble_eq_true rfl⟩ ?_
  refine lv_if_eq (tgt := 23) hx hb dX1_told_12 (by decide) (fun c_12 => ?_) (fun c_12 => ?_)
  · skip
    refine lv_aload_n hx hb dX1_told_23 rfl (lv_at hl 0 rfl) ?_
    refine lv_iconst (v := nI 1) hx hb dX1_told_24 (by decide) ?_
    refine k_wV (As := [.int (nI 1)]) (rest := []) (c_X1_fail l B0 g ct ad cS mS (ax_h x (nI 0)) 1) hC hB hS ⟨hx, hb, hml, hown, hts⟩ (cwV 1 hts gX1_told_X1_fail rfl rfl rfl (by decide +kernel) ⟨Nat.le_of_ble_eq_true rfl, Nat.le_of_ble_eq_true rfl⟩) (rc1 hC) rfl hl.1 rfl (Nat.le_of_ble_eq_true rfl) dX1_told_25 ⟨Nat.le_of_ble_eq_true rfl, Nat.le_of_ble_eq_true rfl⟩ (fun u_25 H locs hu_25 hC hS => ?_)
    subst hu_25
    exact W.iret hx hb hr (fun t ht hW => ⟨⟨_, ax_h (ax_h x (nI 0)) (nI 1), rfl, ⟨rfl, rfl⟩, (by show CW B0 g ct ad cS mS (ax_h (ax_h x (nI 0)) (nI 1)) t.heap; rw [ht]; exact hC.1)⟩, hS.F ht⟩) hS.2.2 dX1_told_28
  · skip
    rw [hq2] at c_12; exact absurd rfl c_12
set_option maxHeartbeats 4000000 in
set_option maxRecDepth 100000 in
theorem c_X1_hidden (l : Launch) (B0 : Nat) (g : va_G) (ct ad : Nat → Nat) (cS mS : St_) (x : Ax_) (i : Nat) (hi : i < sn mS) (yr : Int32) : WI l yX1_hidden wsX1_hidden 5 0 0 B0 g ct ad cS mS x [.ref (ad 7), .int (nI i), .int yr] (hd_ mS i yr (ss mS i) 0) cS mS ((fun u => u = ax_h x (nI 0))) := by
  refine Met.ofW (cc := cX1_hidden) (maxL := 4) (ret := (some .int)) (by decide) rfl ?_
  intro p e s m args below meth c s₁ B hml hv
  obtain ⟨rfl, hC⟩ := hv
  have hx := B.exec
  have hb := B.bytes
  have hr := B.returns
  have hts := atoms_spec (ws := wsX1_hidden) B.pre
  have hown : s.vm.findClass RX1 = some m.cls := findClass_of_methodNamed B.named
  have hlocks := B.notSynchronized
  have hin : ∀ w ∈ wsX10, w ∈ wsX1_hidden := fun _ h => List.mem_cons_of_mem _ (List.mem_append_right _ h)
  have hS : va_S (AA B0) s.heap s.heap [] := va_S.rf
  have hB : B0 ≤ s.heap.size := hC.1.2.2.1
  have hI := hC.1.2.2.2.2.1
  have hn := hI.2.1
  have hz := hI.2.2.1 i
  have hf := li_t hi (by omega)
  have hl := lv_entry ([.ref (ad 7), .int (nI i), .int yr]) (n := 4) (Nat.le_of_ble_eq_true rfl)
  rw [lg_entry_eq]
  generalize (lg_sl ([.ref (ad 7), .int (nI i), .int yr]) ++ List.replicate (4 - (lg_sl ([.ref (ad 7), .int (nI i), .int yr])).length) Slot.unset).toArray = ls at hl ⊢
  have hl : lv_has ls 4 [(0, .ref (ad 7)), (1, .int (nI i)), (2, .int yr)] := hl
  refine lv_aload_n hx hb dX1_hidden_0 rfl (lv_at hl 0 rfl) ?_
  refine lv_iconst (v := nI 0) hx hb dX1_hidden_1 (by decide) ?_
  refine w_f1 (m' := mS) (x' := ax_h x (nI 0)) hC hB hS hx hb hts hin hown 0 (by decide) (hts (.fieldLink RX1 20 "AbjadPoemsModel" "thrown" "I") (by decide +kernel)) rfl rfl rfl hC.1.2.2.2.2.1 dX1_hidden_2 (fun H locs hC hS => ?_)
  refine lv_aload_n hx hb dX1_hidden_5 rfl (lv_at hl 0 rfl) ?_
  refine lv_iload_n hx hb dX1_hidden_6 rfl (lv_at hl 1 rfl) ?_
  refine k_rV (As := [.int (nI i)]) (rest := []) (c_X1_isLine l B0 g ct ad cS mS (ax_h x (nI 0)) (nI i)) hC ⟨hx, hb, hml, hown, hts⟩ (cwV 1 hts gX1_hidden_X1_isLine rfl rfl rfl (by decide +kernel) ⟨Nat.le_of_ble_eq_true rfl, Nat.le_of_ble_eq_true rfl⟩) (rc1 hC) rfl hl.1 rfl (Nat.le_of_ble_eq_true rfl) dX1_hidden_7 ⟨Nat.le_of_ble_eq_true rfl, Nat.le_of_ble_eq_true rfl⟩ ?_
  refine lv_if_ne (tgt := 19) hx hb dX1_hidden_10 (by decide) (fun c_10 => ?_) (fun c_10 => ?_)
  · skip
    refine lv_iconst (v := nI 0) hx hb dX1_hidden_19 (by decide) ?_
    refine lv_istore_n (lv' := [(3, .int (nI 0)), (0, .ref (ad 7)), (1, .int (nI i)), (2, .int yr)]) hx hb dX1_hidden_20 rfl hl (by decide) rfl (fun ls hl => ?_)
    have LP_21 : ∀ (n_ : Nat) (w : Nat), ss mS i - w < n_ → (hd_ mS i yr (ss mS i - w) w = hd_ mS i yr (ss mS i) 0) → (w ≤ 10) → ∀ ls : Array Slot, lv_has ls 4 [(3, .int (nI w)), (0, .ref (ad 7)), (1, .int (nI i)), (2, .int yr)] → W p l e (headSpec wsX1_hidden (rm_ 5 0 0)).room s m ([.ref (ad 7), .int (nI i), .int yr] : List Value).toArray below meth c H locs 0 0 (MQ below (va_Qi (fun r (u : Ax_) => r = hd_ mS i yr (ss mS i) 0 ∧ ((fun u => u = ax_h x (nI 0))) u) (fun u t => CW B0 g ct ad cS mS u t.heap) (AA B0)) ([.ref (ad 7), .int (nI i), .int yr] : List Value).toArray s 0 0 (AA B0)) (F0 m 21 ls []) := by
      intro n_
      induction n_ with
      | zero => intro w hm; exact absurd hm (Nat.not_lt_zero _)
      | succ n_ ih_21 =>
        intro w hm h1 hw_ ls hl
        refine lv_iload_n hx hb dX1_hidden_21 rfl (lv_at hl 0 rfl) ?_
        refine lv_aload_n hx hb dX1_hidden_22 rfl (lv_at hl 1 rfl) ?_
        refine r_g1 hC hx hb hts hin hown 3 (by decide) (hts (.fieldLink RX1 9 "AbjadPoemsModel" "longs" "[I") (by decide +kernel)) rfl dX1_hidden_23 ?_
        refine lv_iload_n hx hb dX1_hidden_26 rfl (lv_at hl 2 rfl) ?_
        refine r_lg hC hx hb dX1_hidden_27 (j := i) (by omega) ?_
        refine lv_icmp_ge (tgt := 61) hx hb dX1_hidden_28 (by decide) (fun c_28 => ?_) (fun c_28 => ?_)
        · skip
          have n_28 : ss mS i ≤ w := (nI_leI (a := ss mS i) (b := w) (by omega) (by omega)).mp c_28
          have hE : hd_ mS i yr (ss mS i) 0 = -1 := by rw [← h1, hd_e (by omega)]
          refine lv_iconst (v := -1) hx hb dX1_hidden_61 (by decide) ?_
          exact W.iret hx hb hr (fun t ht hW => ⟨⟨_, ax_h x (nI 0), rfl, ⟨(by show (-1) = hd_ mS i yr (ss mS i) 0; rw [hE]), rfl⟩, (by show CW B0 g ct ad cS mS (ax_h x (nI 0)) t.heap; rw [ht]; exact hC.1)⟩, hS.F ht⟩) hS.2.2 dX1_hidden_62
        · skip
          have n_28 : ¬ ss mS i ≤ w := fun q__ => c_28 ((nI_leI (a := ss mS i) (b := w) (by omega) (by omega)).mpr q__)
          refine lv_aload_n hx hb dX1_hidden_31 rfl (lv_at hl 1 rfl) ?_
          refine lv_iload_n hx hb dX1_hidden_32 rfl (lv_at hl 2 rfl) ?_
          refine lv_iload_n hx hb dX1_hidden_33 rfl (lv_at hl 0 rfl) ?_
          refine lv_iload_n hx hb dX1_hidden_34 rfl (lv_at hl 3 rfl) ?_
          refine k_rV (As := [.int (nI i), .int (nI w), .int yr]) (rest := []) (c_X1_runTo l B0 g ct ad cS mS (ax_h x (nI 0)) i w yr (by omega) (by omega)) hC ⟨hx, hb, hml, hown, hts⟩ (cwV 3 hts gX1_hidden_X1_runTo rfl rfl rfl (by decide +kernel) ⟨Nat.le_of_ble_eq_true rfl, Nat.le_of_ble_eq_true rfl⟩) (rc1 hC) rfl hl.1 rfl (Nat.le_of_ble_eq_true rfl) dX1_hidden_35 ⟨Nat.le_of_ble_eq_true rfl, Nat.le_of_ble_eq_true rfl⟩ ?_
          refine lv_iconst (v := -1) hx hb dX1_hidden_38 (by decide) ?_
          refine lv_icmp_eq (tgt := 55) hx hb dX1_hidden_39 (by decide) (fun c_39 => ?_) (fun c_39 => ?_)
          · skip
            refine lv_iinc (v := nI (w + 1)) (lv' := [(3, .int (nI (w + 1))), (0, .ref (ad 7)), (1, .int (nI i)), (2, .int yr)]) hx hb dX1_hidden_55 hl (k := 0) rfl (nI_1 _) (by decide) rfl (fun ls hl => ?_)
            refine lv_goto (tgt := 21) hx hb dX1_hidden_58 (by decide) ?_
            exact ih_21 (w + 1) (by omega) (by rw [← h1, hd_s (show w < ss mS i by omega), if_pos c_39]) (by omega) ls (lv_sub hl [0, 1, 2, 3] rfl)
          · skip
            have hE : hd_ mS i yr (ss mS i) 0 = nI (10 * w) + ru_ mS i yr w := by rw [← h1, hd_s (show w < ss mS i by omega), if_neg c_39]
            refine lv_bipush (v := nI 10) hx hb dX1_hidden_42 (by decide) ?_
            refine lv_iload_n hx hb dX1_hidden_44 rfl (lv_at hl 0 rfl) ?_
            refine lv_imul hx hb dX1_hidden_45 ?_
            refine lv_tn (pk_mul _ _) ?_
            refine lv_aload_n hx hb dX1_hidden_46 rfl (lv_at hl 1 rfl) ?_
            refine lv_iload_n hx hb dX1_hidden_47 rfl (lv_at hl 2 rfl) ?_
            refine lv_iload_n hx hb dX1_hidden_48 rfl (lv_at hl 0 rfl) ?_
            refine lv_iload_n hx hb dX1_hidden_49 rfl (lv_at hl 3 rfl) ?_
            refine k_rV (As := [.int (nI i), .int (nI w), .int yr]) (rest := [.int (nI (10 * w))]) (c_X1_runTo l B0 g ct ad cS mS (ax_h x (nI 0)) i w yr (by omega) (by omega)) hC ⟨hx, hb, hml, hown, hts⟩ (cwV 3 hts gX1_hidden_X1_runTo rfl rfl rfl (by decide +kernel) ⟨Nat.le_of_ble_eq_true rfl, Nat.le_of_ble_eq_true rfl⟩) (rc1 hC) rfl hl.1 rfl (Nat.le_of_ble_eq_true rfl) dX1_hidden_50 ⟨Nat.le_of_ble_eq_true rfl, Nat.le_of_ble_eq_true rfl⟩ ?_
            refine lv_iadd hx hb dX1_hidden_53 ?_
            exact W.iret hx hb hr (fun t ht hW => ⟨⟨_, ax_h x (nI 0), rfl, ⟨(by show (nI (10 * w)) + (ru_ mS i yr w) = hd_ mS i yr (ss mS i) 0; rw [hE]), rfl⟩, (by show CW B0 g ct ad cS mS (ax_h x (nI 0)) t.heap; rw [ht]; exact hC.1)⟩, hS.F ht⟩) hS.2.2 dX1_hidden_54
    exact LP_21 _ 0 (Nat.lt_succ_self _) rfl (by omega) ls (lv_sub hl [0, 1, 2, 3] rfl)
  · skip
    rw [hf] at c_10; exact absurd c_10 (by decide)
set_option maxHeartbeats 4000000 in
set_option maxRecDepth 100000 in
theorem t_X1_hidden (l : Launch) (B0 : Nat) (g : va_G) (ct ad : Nat → Nat) (cS mS : St_) (x : Ax_) (li : Int32) (h : li < 0 ∨ nI (sn mS) ≤ li) (yr : Int32) : WI l yX1_hidden wsX1_hidden 5 0 0 B0 g ct ad cS mS x [.ref (ad 7), .int li, .int yr] (nI 0) cS mS ((fun u => u = ax_h x (nI 1))) := by
  refine Met.ofW (cc := cX1_hidden) (maxL := 4) (ret := (some .int)) (by decide) rfl ?_
  intro p e s m args below meth c s₁ B hml hv
  obtain ⟨rfl, hC⟩ := hv
  have hx := B.exec
  have hb := B.bytes
  have hr := B.returns
  have hts := atoms_spec (ws := wsX1_hidden) B.pre
  have hown : s.vm.findClass RX1 = some m.cls := findClass_of_methodNamed B.named
  have hlocks := B.notSynchronized
  have hin : ∀ w ∈ wsX10, w ∈ wsX1_hidden := fun _ h => List.mem_cons_of_mem _ (List.mem_append_right _ h)
  have hS : va_S (AA B0) s.heap s.heap [] := va_S.rf
  have hB : B0 ≤ s.heap.size := hC.1.2.2.1
  have hI := hC.1.2.2.2.2.1
  have hn := hI.2.1
  have hf := li_f h (by omega)
  have hl := lv_entry ([.ref (ad 7), .int li, .int yr]) (n := 4) (Nat.le_of_ble_eq_true rfl)
  rw [lg_entry_eq]
  generalize (lg_sl ([.ref (ad 7), .int li, .int yr]) ++ List.replicate (4 - (lg_sl ([.ref (ad 7), .int li, .int yr])).length) Slot.unset).toArray = ls at hl ⊢
  have hl : lv_has ls 4 [(0, .ref (ad 7)), (1, .int li), (2, .int yr)] := hl
  refine lv_aload_n hx hb dX1_hidden_0 rfl (lv_at hl 0 rfl) ?_
  refine lv_iconst (v := nI 0) hx hb dX1_hidden_1 (by decide) ?_
  refine w_f1 (m' := mS) (x' := ax_h x (nI 0)) hC hB hS hx hb hts hin hown 0 (by decide) (hts (.fieldLink RX1 20 "AbjadPoemsModel" "thrown" "I") (by decide +kernel)) rfl rfl rfl hC.1.2.2.2.2.1 dX1_hidden_2 (fun H locs hC hS => ?_)
  refine lv_aload_n hx hb dX1_hidden_5 rfl (lv_at hl 0 rfl) ?_
  refine lv_iload_n hx hb dX1_hidden_6 rfl (lv_at hl 1 rfl) ?_
  refine k_rV (As := [.int li]) (rest := []) (c_X1_isLine l B0 g ct ad cS mS (ax_h x (nI 0)) li) hC ⟨hx, hb, hml, hown, hts⟩ (cwV 1 hts gX1_hidden_X1_isLine rfl rfl rfl (by decide +kernel) ⟨Nat.le_of_ble_eq_true rfl, Nat.le_of_ble_eq_true rfl⟩) (rc1 hC) rfl hl.1 rfl (Nat.le_of_ble_eq_true rfl) dX1_hidden_7 ⟨Nat.le_of_ble_eq_true rfl, Nat.le_of_ble_eq_true rfl⟩ ?_
  refine lv_if_ne (tgt := 19) hx hb dX1_hidden_10 (by decide) (fun c_10 => ?_) (fun c_10 => ?_)
  · skip
    rw [hf] at c_10; exact absurd rfl c_10
  · skip
    refine lv_aload_n hx hb dX1_hidden_13 rfl (lv_at hl 0 rfl) ?_
    refine lv_iconst (v := nI 1) hx hb dX1_hidden_14 (by decide) ?_
    refine k_wV (As := [.int (nI 1)]) (rest := []) (c_X1_fail l B0 g ct ad cS mS (ax_h x (nI 0)) 1) hC hB hS ⟨hx, hb, hml, hown, hts⟩ (cwV 1 hts gX1_hidden_X1_fail rfl rfl rfl (by decide +kernel) ⟨Nat.le_of_ble_eq_true rfl, Nat.le_of_ble_eq_true rfl⟩) (rc1 hC) rfl hl.1 rfl (Nat.le_of_ble_eq_true rfl) dX1_hidden_15 ⟨Nat.le_of_ble_eq_true rfl, Nat.le_of_ble_eq_true rfl⟩ (fun u_15 H locs hu_15 hC hS => ?_)
    subst hu_15
    exact W.iret hx hb hr (fun t ht hW => ⟨⟨_, ax_h (ax_h x (nI 0)) (nI 1), rfl, ⟨rfl, rfl⟩, (by show CW B0 g ct ad cS mS (ax_h (ax_h x (nI 0)) (nI 1)) t.heap; rw [ht]; exact hC.1)⟩, hS.F ht⟩) hS.2.2 dX1_hidden_18
set_option maxHeartbeats 4000000 in
set_option maxRecDepth 100000 in
theorem c_X1_hides (l : Launch) (B0 : Nat) (g : va_G) (ct ad : Nat → Nat) (cS mS : St_) (x : Ax_) (yr : Int32) : WI l yX1_hides wsX1_hides 5 0 0 B0 g ct ad cS mS x [.ref (ad 7), .int yr] (nI (hs_ mS yr)) cS mS ((fun u => u = ax_h x (nI 0))) := by
  refine Met.ofW (cc := cX1_hides) (maxL := 5) (ret := (some .int)) (by decide) rfl ?_
  intro p e s m args below meth c s₁ B hml hv
  obtain ⟨rfl, hC⟩ := hv
  have hx := B.exec
  have hb := B.bytes
  have hr := B.returns
  have hts := atoms_spec (ws := wsX1_hides) B.pre
  have hown : s.vm.findClass RX1 = some m.cls := findClass_of_methodNamed B.named
  have hlocks := B.notSynchronized
  have hin : ∀ w ∈ wsX10, w ∈ wsX1_hides := fun _ h => List.mem_cons_of_mem _ (List.mem_append_right _ h)
  have hS : va_S (AA B0) s.heap s.heap [] := va_S.rf
  have hB : B0 ≤ s.heap.size := hC.1.2.2.1
  have hI := hC.1.2.2.2.2.1
  have hn := hI.2.1
  have hl := lv_entry ([.ref (ad 7), .int yr]) (n := 5) (Nat.le_of_ble_eq_true rfl)
  rw [lg_entry_eq]
  generalize (lg_sl ([.ref (ad 7), .int yr]) ++ List.replicate (5 - (lg_sl ([.ref (ad 7), .int yr])).length) Slot.unset).toArray = ls at hl ⊢
  have hl : lv_has ls 5 [(0, .ref (ad 7)), (1, .int yr)] := hl
  refine lv_aload_n hx hb dX1_hides_0 rfl (lv_at hl 0 rfl) ?_
  refine lv_iconst (v := nI 0) hx hb dX1_hides_1 (by decide) ?_
  refine w_f1 (m' := mS) (x' := ax_h x (nI 0)) hC hB hS hx hb hts hin hown 0 (by decide) (hts (.fieldLink RX1 20 "AbjadPoemsModel" "thrown" "I") (by decide +kernel)) rfl rfl rfl hC.1.2.2.2.2.1 dX1_hides_2 (fun H locs hC hS => ?_)
  refine lv_iconst (v := nI 0) hx hb dX1_hides_5 (by decide) ?_
  refine lv_istore_n (lv' := [(2, .int (nI 0)), (0, .ref (ad 7)), (1, .int yr)]) hx hb dX1_hides_6 rfl hl (by decide) rfl (fun ls hl => ?_)
  refine lv_iconst (v := nI 0) hx hb dX1_hides_7 (by decide) ?_
  refine lv_istore_n (lv' := [(3, .int (nI 0)), (2, .int (nI 0)), (0, .ref (ad 7)), (1, .int yr)]) hx hb dX1_hides_8 rfl hl (by decide) rfl (fun ls hl => ?_)
  have LP_9 : ∀ (n_ : Nat) (t : Nat) (k : Nat), sn mS - k < n_ → (t = qs_ (fun l => hl_ mS yr l) k) → (k ≤ sn mS) → ∀ ls : Array Slot, lv_has ls 5 [(3, .int (nI k)), (2, .int (nI t)), (0, .ref (ad 7)), (1, .int yr)] → W p l e (headSpec wsX1_hides (rm_ 5 0 0)).room s m ([.ref (ad 7), .int yr] : List Value).toArray below meth c H locs 0 0 (MQ below (va_Qi (fun r (u : Ax_) => r = nI (hs_ mS yr) ∧ ((fun u => u = ax_h x (nI 0))) u) (fun u t => CW B0 g ct ad cS mS u t.heap) (AA B0)) ([.ref (ad 7), .int yr] : List Value).toArray s 0 0 (AA B0)) (F0 m 9 ls []) := by
    intro n_
    induction n_ with
    | zero => intro t k hm; exact absurd hm (Nat.not_lt_zero _)
    | succ n_ ih_9 =>
      intro t k hm ht hk ls hl
      have hz := hI.2.2.1 k
      refine lv_iload_n hx hb dX1_hides_9 rfl (lv_at hl 0 rfl) ?_
      refine lv_aload_n hx hb dX1_hides_10 rfl (lv_at hl 2 rfl) ?_
      refine r_g1 hC hx hb hts hin hown 2 (by decide) (hts (.fieldLink RX1 24 "AbjadPoemsModel" "lines" "I") (by decide +kernel)) rfl dX1_hides_11 ?_
      refine lv_icmp_ge (tgt := 63) hx hb dX1_hides_14 (by decide) (fun c_14 => ?_) (fun c_14 => ?_)
      · skip
        have n_14 : sn mS ≤ k := (nI_leI (a := sn mS) (b := k) (by omega) (by omega)).mp c_14
        have hE : t = hs_ mS yr := by rw [ht, show k = sn mS by omega]; rfl
        refine lv_iload_n hx hb dX1_hides_63 rfl (lv_at hl 1 rfl) ?_
        exact W.iret hx hb hr (fun t ht hW => ⟨⟨_, ax_h x (nI 0), rfl, ⟨(congrArg nI hE), rfl⟩, (by show CW B0 g ct ad cS mS (ax_h x (nI 0)) t.heap; rw [ht]; exact hC.1)⟩, hS.F ht⟩) hS.2.2 dX1_hides_64
      · skip
        have n_14 : ¬ sn mS ≤ k := fun q__ => c_14 ((nI_leI (a := sn mS) (b := k) (by omega) (by omega)).mpr q__)
        refine lv_iconst (v := nI 0) hx hb dX1_hides_17 (by decide) ?_
        refine lv_istore (lv' := [(4, .int (nI 0)), (3, .int (nI k)), (2, .int (nI t)), (0, .ref (ad 7)), (1, .int yr)]) hx hb dX1_hides_18 hl (by decide) rfl (fun ls hl => ?_)
        have LP_20 : ∀ (n_ : Nat) (u : Nat) (w : Nat), ss mS k - w < n_ → (u = t + qs_ (hf_ mS yr k) w) → (w ≤ ss mS k) → ∀ ls : Array Slot, lv_has ls 5 [(4, .int (nI w)), (3, .int (nI k)), (2, .int (nI u)), (0, .ref (ad 7)), (1, .int yr)] → W p l e (headSpec wsX1_hides (rm_ 5 0 0)).room s m ([.ref (ad 7), .int yr] : List Value).toArray below meth c H locs 0 0 (MQ below (va_Qi (fun r (u : Ax_) => r = nI (hs_ mS yr) ∧ ((fun u => u = ax_h x (nI 0))) u) (fun u t => CW B0 g ct ad cS mS u t.heap) (AA B0)) ([.ref (ad 7), .int yr] : List Value).toArray s 0 0 (AA B0)) (F0 m 20 ls []) := by
          intro n_
          induction n_ with
          | zero => intro u w hm; exact absurd hm (Nat.not_lt_zero _)
          | succ n_ ih_20 =>
            intro u w hm hu hw_ ls hl
            refine lv_iload hx hb dX1_hides_20 (lv_at hl 0 rfl) ?_
            refine lv_aload_n hx hb dX1_hides_22 rfl (lv_at hl 3 rfl) ?_
            refine r_g1 hC hx hb hts hin hown 3 (by decide) (hts (.fieldLink RX1 9 "AbjadPoemsModel" "longs" "[I") (by decide +kernel)) rfl dX1_hides_23 ?_
            refine lv_iload_n hx hb dX1_hides_26 rfl (lv_at hl 1 rfl) ?_
            refine r_lg hC hx hb dX1_hides_27 (j := k) (by omega) ?_
            refine lv_icmp_ge (tgt := 57) hx hb dX1_hides_28 (by decide) (fun c_28 => ?_) (fun c_28 => ?_)
            · skip
              have n_28 : ss mS k ≤ w := (nI_leI (a := ss mS k) (b := w) (by omega) (by omega)).mp c_28
              refine lv_iinc (v := nI (k + 1)) (lv' := [(3, .int (nI (k + 1))), (4, .int (nI w)), (2, .int (nI u)), (0, .ref (ad 7)), (1, .int yr)]) hx hb dX1_hides_57 hl (k := 1) rfl (nI_1 _) (by decide) rfl (fun ls hl => ?_)
              refine lv_goto (tgt := 9) hx hb dX1_hides_60 (by decide) ?_
              exact ih_9 u (k + 1) (by omega) (by rw [hu, show w = ss mS k by omega, ht]; rfl) (by omega) ls (lv_sub hl [0, 2, 3, 4] rfl)
            · skip
              have n_28 : ¬ ss mS k ≤ w := fun q__ => c_28 ((nI_leI (a := ss mS k) (b := w) (by omega) (by omega)).mpr q__)
              refine lv_iload_n hx hb dX1_hides_31 rfl (lv_at hl 2 rfl) ?_
              refine lv_aload_n hx hb dX1_hides_32 rfl (lv_at hl 3 rfl) ?_
              refine lv_iload_n hx hb dX1_hides_33 rfl (lv_at hl 1 rfl) ?_
              refine lv_iload hx hb dX1_hides_34 (lv_at hl 0 rfl) ?_
              refine lv_iload_n hx hb dX1_hides_36 rfl (lv_at hl 4 rfl) ?_
              refine k_rV (As := [.int (nI k), .int (nI w), .int yr]) (rest := [.int (nI u)]) (c_X1_runTo l B0 g ct ad cS mS (ax_h x (nI 0)) k w yr (by omega) (by omega)) hC ⟨hx, hb, hml, hown, hts⟩ (cwV 3 hts gX1_hides_X1_runTo rfl rfl rfl (by decide +kernel) ⟨Nat.le_of_ble_eq_true rfl, Nat.le_of_ble_eq_true rfl⟩) (rc1 hC) rfl hl.1 rfl (Nat.le_of_ble_eq_true rfl) dX1_hides_37 ⟨Nat.le_of_ble_eq_true rfl, Nat.le_of_ble_eq_true rfl⟩ ?_
              refine lv_iconst (v := -1) hx hb dX1_hides_40 (by decide) ?_
              refine lv_icmp_ne (tgt := 48) hx hb dX1_hides_41 (by decide) (fun c_41 => ?_) (fun c_41 => ?_)
              · skip
                refine lv_iconst (v := nI 1) hx hb dX1_hides_48 (by decide) ?_
                refine lv_iadd hx hb dX1_hides_49 ?_
                refine lv_tn (nI_add _ _) ?_
                refine lv_istore_n (lv' := [(2, .int (nI (u + 1))), (4, .int (nI w)), (3, .int (nI k)), (0, .ref (ad 7)), (1, .int yr)]) hx hb dX1_hides_50 rfl hl (by decide) rfl (fun ls hl => ?_)
                refine lv_iinc (v := nI (w + 1)) (lv' := [(4, .int (nI (w + 1))), (2, .int (nI (u + 1))), (3, .int (nI k)), (0, .ref (ad 7)), (1, .int yr)]) hx hb dX1_hides_51 hl (k := 1) rfl (nI_1 _) (by decide) rfl (fun ls hl => ?_)
                refine lv_goto (tgt := 20) hx hb dX1_hides_54 (by decide) ?_
                exact ih_20 (u + 1) (w + 1) (by omega) (by first | (rw [hf_t c_41, Nat.add_zero]; exact hu) | (rw [hf_f c_41, hu]; rfl)) (by omega) ls (lv_sub hl [0, 2, 1, 3, 4] rfl)
              · skip
                refine lv_iconst (v := nI 0) hx hb dX1_hides_44 (by decide) ?_
                refine lv_goto (tgt := 49) hx hb dX1_hides_45 (by decide) ?_
                refine lv_iadd hx hb dX1_hides_49 ?_
                refine lv_tn (nI_add _ _) ?_
                refine lv_istore_n (lv' := [(2, .int (nI (u + 0))), (4, .int (nI w)), (3, .int (nI k)), (0, .ref (ad 7)), (1, .int yr)]) hx hb dX1_hides_50 rfl hl (by decide) rfl (fun ls hl => ?_)
                refine lv_iinc (v := nI (w + 1)) (lv' := [(4, .int (nI (w + 1))), (2, .int (nI (u + 0))), (3, .int (nI k)), (0, .ref (ad 7)), (1, .int yr)]) hx hb dX1_hides_51 hl (k := 1) rfl (nI_1 _) (by decide) rfl (fun ls hl => ?_)
                refine lv_goto (tgt := 20) hx hb dX1_hides_54 (by decide) ?_
                exact ih_20 (u + 0) (w + 1) (by omega) (by first | (rw [hf_t c_41, Nat.add_zero]; exact hu) | (rw [hf_f c_41, hu]; rfl)) (by omega) ls (lv_sub hl [0, 2, 1, 3, 4] rfl)
        exact LP_20 _ t 0 (Nat.lt_succ_self _) rfl (Nat.zero_le _) ls (lv_sub hl [0, 1, 2, 3, 4] rfl)
  exact LP_9 _ 0 0 (Nat.lt_succ_self _) rfl (Nat.zero_le _) ls (lv_sub hl [0, 1, 2, 3] rfl)
set_option maxHeartbeats 4000000 in
set_option maxRecDepth 100000 in
theorem c_X1_lacks (l : Launch) (B0 : Nat) (g : va_G) (ct ad : Nat → Nat) (cS mS : St_) (x : Ax_) (i : Nat) (hi : i < sn mS) (yr : Int32) : WI l yX1_lacks wsX1_lacks 5 0 0 B0 g ct ad cS mS x [.ref (ad 7), .int (nI i), .int yr] (lk_ mS i yr 26 1) cS mS ((fun u => u = ax_h x (nI 0))) := by
  refine Met.ofW (cc := cX1_lacks) (maxL := 4) (ret := (some .int)) (by decide) rfl ?_
  intro p e s m args below meth c s₁ B hml hv
  obtain ⟨rfl, hC⟩ := hv
  have hx := B.exec
  have hb := B.bytes
  have hr := B.returns
  have hts := atoms_spec (ws := wsX1_lacks) B.pre
  have hown : s.vm.findClass RX1 = some m.cls := findClass_of_methodNamed B.named
  have hlocks := B.notSynchronized
  have hin : ∀ w ∈ wsX10, w ∈ wsX1_lacks := fun _ h => List.mem_cons_of_mem _ (List.mem_append_right _ h)
  have hS : va_S (AA B0) s.heap s.heap [] := va_S.rf
  have hB : B0 ≤ s.heap.size := hC.1.2.2.1
  have hI := hC.1.2.2.2.2.1
  have hn := hI.2.1
  have hz := hI.2.2.1 i
  have hf := li_t hi (by omega)
  have hl := lv_entry ([.ref (ad 7), .int (nI i), .int yr]) (n := 4) (Nat.le_of_ble_eq_true rfl)
  rw [lg_entry_eq]
  generalize (lg_sl ([.ref (ad 7), .int (nI i), .int yr]) ++ List.replicate (4 - (lg_sl ([.ref (ad 7), .int (nI i), .int yr])).length) Slot.unset).toArray = ls at hl ⊢
  have hl : lv_has ls 4 [(0, .ref (ad 7)), (1, .int (nI i)), (2, .int yr)] := hl
  refine lv_aload_n hx hb dX1_lacks_0 rfl (lv_at hl 0 rfl) ?_
  refine lv_iconst (v := nI 0) hx hb dX1_lacks_1 (by decide) ?_
  refine w_f1 (m' := mS) (x' := ax_h x (nI 0)) hC hB hS hx hb hts hin hown 0 (by decide) (hts (.fieldLink RX1 20 "AbjadPoemsModel" "thrown" "I") (by decide +kernel)) rfl rfl rfl hC.1.2.2.2.2.1 dX1_lacks_2 (fun H locs hC hS => ?_)
  refine lv_aload_n hx hb dX1_lacks_5 rfl (lv_at hl 0 rfl) ?_
  refine lv_iload_n hx hb dX1_lacks_6 rfl (lv_at hl 1 rfl) ?_
  refine k_rV (As := [.int (nI i)]) (rest := []) (c_X1_isLine l B0 g ct ad cS mS (ax_h x (nI 0)) (nI i)) hC ⟨hx, hb, hml, hown, hts⟩ (cwV 1 hts gX1_lacks_X1_isLine rfl rfl rfl (by decide +kernel) ⟨Nat.le_of_ble_eq_true rfl, Nat.le_of_ble_eq_true rfl⟩) (rc1 hC) rfl hl.1 rfl (Nat.le_of_ble_eq_true rfl) dX1_lacks_7 ⟨Nat.le_of_ble_eq_true rfl, Nat.le_of_ble_eq_true rfl⟩ ?_
  refine lv_if_ne (tgt := 19) hx hb dX1_lacks_10 (by decide) (fun c_10 => ?_) (fun c_10 => ?_)
  · skip
    refine lv_iconst (v := nI 1) hx hb dX1_lacks_19 (by decide) ?_
    refine lv_istore_n (lv' := [(3, .int (nI 1)), (0, .ref (ad 7)), (1, .int (nI i)), (2, .int yr)]) hx hb dX1_lacks_20 rfl hl (by decide) rfl (fun ls hl => ?_)
    have LP_21 : ∀ (n_ : Nat) (k : Nat), 27 - k < n_ → (lk_ mS i yr (27 - k) k = lk_ mS i yr 26 1) → (1 ≤ k ∧ k ≤ 27) → ∀ ls : Array Slot, lv_has ls 4 [(3, .int (nI k)), (0, .ref (ad 7)), (1, .int (nI i)), (2, .int yr)] → W p l e (headSpec wsX1_lacks (rm_ 5 0 0)).room s m ([.ref (ad 7), .int (nI i), .int yr] : List Value).toArray below meth c H locs 0 0 (MQ below (va_Qi (fun r (u : Ax_) => r = lk_ mS i yr 26 1 ∧ ((fun u => u = ax_h x (nI 0))) u) (fun u t => CW B0 g ct ad cS mS u t.heap) (AA B0)) ([.ref (ad 7), .int (nI i), .int yr] : List Value).toArray s 0 0 (AA B0)) (F0 m 21 ls []) := by
      intro n_
      induction n_ with
      | zero => intro k hm; exact absurd hm (Nat.not_lt_zero _)
      | succ n_ ih_21 =>
        intro k hm h1 hk ls hl
        refine lv_iload_n hx hb dX1_lacks_21 rfl (lv_at hl 0 rfl) ?_
        refine lv_bipush (v := nI 26) hx hb dX1_lacks_22 (by decide) ?_
        refine lv_icmp_gt (tgt := 51) hx hb dX1_lacks_24 (by decide) (fun c_24 => ?_) (fun c_24 => ?_)
        · skip
          have n_24 : 26 < k := (nI_ltI (a := 26) (b := k) (by omega) (by omega)).mp c_24
          have hE : lk_ mS i yr 26 1 = -1 := by rw [← h1, show 27 - k = 0 by omega]; rfl
          refine lv_iconst (v := -1) hx hb dX1_lacks_51 (by decide) ?_
          exact W.iret hx hb hr (fun t ht hW => ⟨⟨_, ax_h x (nI 0), rfl, ⟨(by show (-1) = lk_ mS i yr 26 1; rw [hE]), rfl⟩, (by show CW B0 g ct ad cS mS (ax_h x (nI 0)) t.heap; rw [ht]; exact hC.1)⟩, hS.F ht⟩) hS.2.2 dX1_lacks_52
        · skip
          have n_24 : ¬ 26 < k := fun q__ => c_24 ((nI_ltI (a := 26) (b := k) (by omega) (by omega)).mpr q__)
          refine lv_aload_n hx hb dX1_lacks_27 rfl (lv_at hl 1 rfl) ?_
          refine lv_iload_n hx hb dX1_lacks_28 rfl (lv_at hl 2 rfl) ?_
          refine lv_iconst (v := nI 2) hx hb dX1_lacks_29 (by decide) ?_
          refine k_rV (As := [.int (nI i), .int (nI 2)]) (rest := []) (c_X1_lineTold l B0 g ct ad cS mS (ax_h x (nI 0)) i 2 (by omega) (by omega)) hC ⟨hx, hb, hml, hown, hts⟩ (cwV 2 hts gX1_lacks_X1_lineTold rfl rfl rfl (by decide +kernel) ⟨Nat.le_of_ble_eq_true rfl, Nat.le_of_ble_eq_true rfl⟩) (rc1 hC) rfl hl.1 rfl (Nat.le_of_ble_eq_true rfl) dX1_lacks_30 ⟨Nat.le_of_ble_eq_true rfl, Nat.le_of_ble_eq_true rfl⟩ ?_
          refine lv_aload_n hx hb dX1_lacks_33 rfl (lv_at hl 1 rfl) ?_
          refine lv_iload_n hx hb dX1_lacks_34 rfl (lv_at hl 0 rfl) ?_
          refine k_rV (As := [.int (nI k)]) (rest := [.int (nI (lt_ mS i 2))]) (c_X1_valueOf l B0 g ct ad cS mS (ax_h x (nI 0)) k (by omega)) hC ⟨hx, hb, hml, hown, hts⟩ (cwV 1 hts gX1_lacks_X1_valueOf rfl rfl rfl (by decide +kernel) ⟨Nat.le_of_ble_eq_true rfl, Nat.le_of_ble_eq_true rfl⟩) (rc1 hC) rfl hl.1 rfl (Nat.le_of_ble_eq_true rfl) dX1_lacks_35 ⟨Nat.le_of_ble_eq_true rfl, Nat.le_of_ble_eq_true rfl⟩ ?_
          refine lv_iadd hx hb dX1_lacks_38 ?_
          refine lv_tn (nI_add _ _) ?_
          refine lv_iload_n hx hb dX1_lacks_39 rfl (lv_at hl 3 rfl) ?_
          refine lv_icmp_ne (tgt := 45) hx hb dX1_lacks_40 (by decide) (fun c_40 => ?_) (fun c_40 => ?_)
          · skip
            refine lv_iinc (v := nI (k + 1)) (lv' := [(3, .int (nI (k + 1))), (0, .ref (ad 7)), (1, .int (nI i)), (2, .int yr)]) hx hb dX1_lacks_45 hl (k := 0) rfl (nI_1 _) (by decide) rfl (fun ls hl => ?_)
            refine lv_goto (tgt := 21) hx hb dX1_lacks_48 (by decide) ?_
            exact ih_21 (k + 1) (by omega) (by rw [← h1, lk_s (show k < 27 by omega), if_neg c_40]) (by omega) ls (lv_sub hl [0, 1, 2, 3] rfl)
          · skip
            have hE : lk_ mS i yr 26 1 = nI k := by rw [← h1, lk_s (show k < 27 by omega), if_pos c_40]
            refine lv_iload_n hx hb dX1_lacks_43 rfl (lv_at hl 0 rfl) ?_
            exact W.iret hx hb hr (fun t ht hW => ⟨⟨_, ax_h x (nI 0), rfl, ⟨(by show nI k = lk_ mS i yr 26 1; rw [hE]), rfl⟩, (by show CW B0 g ct ad cS mS (ax_h x (nI 0)) t.heap; rw [ht]; exact hC.1)⟩, hS.F ht⟩) hS.2.2 dX1_lacks_44
    exact LP_21 _ 1 (Nat.lt_succ_self _) rfl (by omega) ls (lv_sub hl [0, 1, 2, 3] rfl)
  · skip
    rw [hf] at c_10; exact absurd c_10 (by decide)
set_option maxHeartbeats 4000000 in
set_option maxRecDepth 100000 in
theorem t_X1_lacks (l : Launch) (B0 : Nat) (g : va_G) (ct ad : Nat → Nat) (cS mS : St_) (x : Ax_) (li : Int32) (h : li < 0 ∨ nI (sn mS) ≤ li) (yr : Int32) : WI l yX1_lacks wsX1_lacks 5 0 0 B0 g ct ad cS mS x [.ref (ad 7), .int li, .int yr] (nI 0) cS mS ((fun u => u = ax_h x (nI 1))) := by
  refine Met.ofW (cc := cX1_lacks) (maxL := 4) (ret := (some .int)) (by decide) rfl ?_
  intro p e s m args below meth c s₁ B hml hv
  obtain ⟨rfl, hC⟩ := hv
  have hx := B.exec
  have hb := B.bytes
  have hr := B.returns
  have hts := atoms_spec (ws := wsX1_lacks) B.pre
  have hown : s.vm.findClass RX1 = some m.cls := findClass_of_methodNamed B.named
  have hlocks := B.notSynchronized
  have hin : ∀ w ∈ wsX10, w ∈ wsX1_lacks := fun _ h => List.mem_cons_of_mem _ (List.mem_append_right _ h)
  have hS : va_S (AA B0) s.heap s.heap [] := va_S.rf
  have hB : B0 ≤ s.heap.size := hC.1.2.2.1
  have hI := hC.1.2.2.2.2.1
  have hn := hI.2.1
  have hf := li_f h (by omega)
  have hl := lv_entry ([.ref (ad 7), .int li, .int yr]) (n := 4) (Nat.le_of_ble_eq_true rfl)
  rw [lg_entry_eq]
  generalize (lg_sl ([.ref (ad 7), .int li, .int yr]) ++ List.replicate (4 - (lg_sl ([.ref (ad 7), .int li, .int yr])).length) Slot.unset).toArray = ls at hl ⊢
  have hl : lv_has ls 4 [(0, .ref (ad 7)), (1, .int li), (2, .int yr)] := hl
  refine lv_aload_n hx hb dX1_lacks_0 rfl (lv_at hl 0 rfl) ?_
  refine lv_iconst (v := nI 0) hx hb dX1_lacks_1 (by decide) ?_
  refine w_f1 (m' := mS) (x' := ax_h x (nI 0)) hC hB hS hx hb hts hin hown 0 (by decide) (hts (.fieldLink RX1 20 "AbjadPoemsModel" "thrown" "I") (by decide +kernel)) rfl rfl rfl hC.1.2.2.2.2.1 dX1_lacks_2 (fun H locs hC hS => ?_)
  refine lv_aload_n hx hb dX1_lacks_5 rfl (lv_at hl 0 rfl) ?_
  refine lv_iload_n hx hb dX1_lacks_6 rfl (lv_at hl 1 rfl) ?_
  refine k_rV (As := [.int li]) (rest := []) (c_X1_isLine l B0 g ct ad cS mS (ax_h x (nI 0)) li) hC ⟨hx, hb, hml, hown, hts⟩ (cwV 1 hts gX1_lacks_X1_isLine rfl rfl rfl (by decide +kernel) ⟨Nat.le_of_ble_eq_true rfl, Nat.le_of_ble_eq_true rfl⟩) (rc1 hC) rfl hl.1 rfl (Nat.le_of_ble_eq_true rfl) dX1_lacks_7 ⟨Nat.le_of_ble_eq_true rfl, Nat.le_of_ble_eq_true rfl⟩ ?_
  refine lv_if_ne (tgt := 19) hx hb dX1_lacks_10 (by decide) (fun c_10 => ?_) (fun c_10 => ?_)
  · skip
    rw [hf] at c_10; exact absurd rfl c_10
  · skip
    refine lv_aload_n hx hb dX1_lacks_13 rfl (lv_at hl 0 rfl) ?_
    refine lv_iconst (v := nI 1) hx hb dX1_lacks_14 (by decide) ?_
    refine k_wV (As := [.int (nI 1)]) (rest := []) (c_X1_fail l B0 g ct ad cS mS (ax_h x (nI 0)) 1) hC hB hS ⟨hx, hb, hml, hown, hts⟩ (cwV 1 hts gX1_lacks_X1_fail rfl rfl rfl (by decide +kernel) ⟨Nat.le_of_ble_eq_true rfl, Nat.le_of_ble_eq_true rfl⟩) (rc1 hC) rfl hl.1 rfl (Nat.le_of_ble_eq_true rfl) dX1_lacks_15 ⟨Nat.le_of_ble_eq_true rfl, Nat.le_of_ble_eq_true rfl⟩ (fun u_15 H locs hu_15 hC hS => ?_)
    subst hu_15
    exact W.iret hx hb hr (fun t ht hW => ⟨⟨_, ax_h (ax_h x (nI 0)) (nI 1), rfl, ⟨rfl, rfl⟩, (by show CW B0 g ct ad cS mS (ax_h (ax_h x (nI 0)) (nI 1)) t.heap; rw [ht]; exact hC.1)⟩, hS.F ht⟩) hS.2.2 dX1_lacks_18
set_option maxHeartbeats 4000000 in
set_option maxRecDepth 100000 in
theorem c_X1_nearest (l : Launch) (B0 : Nat) (g : va_G) (ct ad : Nat → Nat) (cS mS : St_) (x : Ax_) (yr : Int32) : WI l yX1_nearest wsX1_nearest 5 0 0 B0 g ct ad cS mS x [.ref (ad 7), .int yr] (ni_ (nr_ mS yr (sn mS))) cS mS ((fun u => u = ax_h x (nI 0))) := by
  refine Met.ofW (cc := cX1_nearest) (maxL := 4) (ret := (some .int)) (by decide) rfl ?_
  intro p e s m args below meth c s₁ B hml hv
  obtain ⟨rfl, hC⟩ := hv
  have hx := B.exec
  have hb := B.bytes
  have hr := B.returns
  have hts := atoms_spec (ws := wsX1_nearest) B.pre
  have hown : s.vm.findClass RX1 = some m.cls := findClass_of_methodNamed B.named
  have hlocks := B.notSynchronized
  have hin : ∀ w ∈ wsX10, w ∈ wsX1_nearest := fun _ h => List.mem_cons_of_mem _ (List.mem_append_right _ h)
  have hS : va_S (AA B0) s.heap s.heap [] := va_S.rf
  have hB : B0 ≤ s.heap.size := hC.1.2.2.1
  have hI := hC.1.2.2.2.2.1
  have hn := hI.2.1
  have hl := lv_entry ([.ref (ad 7), .int yr]) (n := 4) (Nat.le_of_ble_eq_true rfl)
  rw [lg_entry_eq]
  generalize (lg_sl ([.ref (ad 7), .int yr]) ++ List.replicate (4 - (lg_sl ([.ref (ad 7), .int yr])).length) Slot.unset).toArray = ls at hl ⊢
  have hl : lv_has ls 4 [(0, .ref (ad 7)), (1, .int yr)] := hl
  refine lv_aload_n hx hb dX1_nearest_0 rfl (lv_at hl 0 rfl) ?_
  refine lv_iconst (v := nI 0) hx hb dX1_nearest_1 (by decide) ?_
  refine w_f1 (m' := mS) (x' := ax_h x (nI 0)) hC hB hS hx hb hts hin hown 0 (by decide) (hts (.fieldLink RX1 20 "AbjadPoemsModel" "thrown" "I") (by decide +kernel)) rfl rfl rfl hC.1.2.2.2.2.1 dX1_nearest_2 (fun H locs hC hS => ?_)
  refine lv_iconst (v := -1) hx hb dX1_nearest_5 (by decide) ?_
  refine lv_istore_n (lv' := [(2, .int ((-1))), (0, .ref (ad 7)), (1, .int yr)]) hx hb dX1_nearest_6 rfl hl (by decide) rfl (fun ls hl => ?_)
  refine lv_iconst (v := nI 0) hx hb dX1_nearest_7 (by decide) ?_
  refine lv_istore_n (lv' := [(3, .int (nI 0)), (2, .int ((-1))), (0, .ref (ad 7)), (1, .int yr)]) hx hb dX1_nearest_8 rfl hl (by decide) rfl (fun ls hl => ?_)
  have LP_9 : ∀ (n_ : Nat) (bi : Int32) (k : Nat), sn mS - k < n_ → (bi = ni_ (nr_ mS yr k)) → (k ≤ sn mS) → ∀ ls : Array Slot, lv_has ls 4 [(3, .int (nI k)), (2, .int bi), (0, .ref (ad 7)), (1, .int yr)] → W p l e (headSpec wsX1_nearest (rm_ 5 0 0)).room s m ([.ref (ad 7), .int yr] : List Value).toArray below meth c H locs 0 0 (MQ below (va_Qi (fun r (u : Ax_) => r = ni_ (nr_ mS yr (sn mS)) ∧ ((fun u => u = ax_h x (nI 0))) u) (fun u t => CW B0 g ct ad cS mS u t.heap) (AA B0)) ([.ref (ad 7), .int yr] : List Value).toArray s 0 0 (AA B0)) (F0 m 9 ls []) := by
    intro n_
    induction n_ with
    | zero => intro bi k hm; exact absurd hm (Nat.not_lt_zero _)
    | succ n_ ih_9 =>
      intro bi k hm hb_ hk ls hl
      have hlt : ∀ b, nr_ mS yr k = some b → b < 2 ^ 31 := fun b q => by have := nr_lt q; omega
      refine lv_iload_n hx hb dX1_nearest_9 rfl (lv_at hl 0 rfl) ?_
      refine lv_aload_n hx hb dX1_nearest_10 rfl (lv_at hl 2 rfl) ?_
      refine r_g1 hC hx hb hts hin hown 2 (by decide) (hts (.fieldLink RX1 24 "AbjadPoemsModel" "lines" "I") (by decide +kernel)) rfl dX1_nearest_11 ?_
      refine lv_icmp_ge (tgt := 60) hx hb dX1_nearest_14 (by decide) (fun c_14 => ?_) (fun c_14 => ?_)
      · skip
        have n_14 : sn mS ≤ k := (nI_leI (a := sn mS) (b := k) (by omega) (by omega)).mp c_14
        have hE : bi = ni_ (nr_ mS yr (sn mS)) := by rw [hb_, show k = sn mS by omega]
        refine lv_iload_n hx hb dX1_nearest_60 rfl (lv_at hl 1 rfl) ?_
        exact W.iret hx hb hr (fun t ht hW => ⟨⟨_, ax_h x (nI 0), rfl, ⟨hE, rfl⟩, (by show CW B0 g ct ad cS mS (ax_h x (nI 0)) t.heap; rw [ht]; exact hC.1)⟩, hS.F ht⟩) hS.2.2 dX1_nearest_61
      · skip
        have n_14 : ¬ sn mS ≤ k := fun q__ => c_14 ((nI_leI (a := sn mS) (b := k) (by omega) (by omega)).mpr q__)
        refine lv_iload_n hx hb dX1_nearest_17 rfl (lv_at hl 1 rfl) ?_
        refine lv_iconst (v := -1) hx hb dX1_nearest_18 (by decide) ?_
        refine lv_icmp_eq (tgt := 52) hx hb dX1_nearest_19 (by decide) (fun c_19 => ?_) (fun c_19 => ?_)
        · skip
          have n_19 : nr_ mS yr k = none := (ni_neg hlt).mp (by rw [← hb_, c_19]; decide)
          have hS1 : nI k = ni_ (nr_ mS yr (k + 1)) := by rw [nr_1 n_19]; rfl
          refine lv_iload_n hx hb dX1_nearest_52 rfl (lv_at hl 0 rfl) ?_
          refine lv_istore_n (lv' := [(2, .int (nI k)), (3, .int (nI k)), (0, .ref (ad 7)), (1, .int yr)]) hx hb dX1_nearest_53 rfl hl (by decide) rfl (fun ls hl => ?_)
          refine lv_iinc (v := nI (k + 1)) (lv' := [(3, .int (nI (k + 1))), (2, .int (nI k)), (0, .ref (ad 7)), (1, .int yr)]) hx hb dX1_nearest_54 hl (k := 1) rfl (nI_1 _) (by decide) rfl (fun ls hl => ?_)
          refine lv_goto (tgt := 9) hx hb dX1_nearest_57 (by decide) ?_
          exact ih_9 (nI k) (k + 1) (by omega) hS1 (by omega) ls (lv_sub hl [0, 1, 2, 3] rfl)
        · skip
          obtain ⟨b0, n_19⟩ : ∃ b0, nr_ mS yr k = some b0 := by
            cases e9 : nr_ mS yr k with
            | none => exact absurd (by rw [hb_, e9]; rfl) c_19
            | some b0 => exact ⟨b0, rfl⟩
          have hb0 := nr_lt n_19
          have hbi : bi = nI b0 := by rw [hb_, n_19]; rfl
          clear hb_
          subst hbi
          have hl : lv_has ls 4 [(3, .int (nI k)), (2, .int (nI b0)), (0, .ref (ad 7)), (1, .int yr)] := hl
          refine lv_aload_n hx hb dX1_nearest_22 rfl (lv_at hl 2 rfl) ?_
          refine lv_iload_n hx hb dX1_nearest_23 rfl (lv_at hl 0 rfl) ?_
          refine lv_iconst (v := nI 2) hx hb dX1_nearest_24 (by decide) ?_
          refine k_rV (As := [.int (nI k), .int (nI 2)]) (rest := []) (c_X1_lineTold l B0 g ct ad cS mS (ax_h x (nI 0)) k 2 (by omega) (by omega)) hC ⟨hx, hb, hml, hown, hts⟩ (cwV 2 hts gX1_nearest_X1_lineTold rfl rfl rfl (by decide +kernel) ⟨Nat.le_of_ble_eq_true rfl, Nat.le_of_ble_eq_true rfl⟩) (rc1 hC) rfl hl.1 rfl (Nat.le_of_ble_eq_true rfl) dX1_nearest_25 ⟨Nat.le_of_ble_eq_true rfl, Nat.le_of_ble_eq_true rfl⟩ ?_
          refine lv_i2l (v := (nI (lt_ mS k 2)).toInt64) hx hb dX1_nearest_28 rfl ?_
          refine lv_iload_n hx hb dX1_nearest_29 rfl (lv_at hl 3 rfl) ?_
          refine lv_i2l (v := (yr).toInt64) hx hb dX1_nearest_30 rfl ?_
          refine lv_lsub hx hb dX1_nearest_31 ?_
          refine va_mabs_long hx hb (hml.trans hl.1.symm) hown (hts (.methodLink RX1 91 Lib.MathLoose.abs_long.x) (by decide +kernel)) (hts (.static Lib.MathLoose.abs_long.x) (by decide +kernel)) (hts (.initialized "java/lang/Math") (by decide +kernel)) (hts (.code Lib.MathLoose.abs_long.x Lib.MathLoose.abs_long.code 2 (some .long)) (by decide +kernel)) (Nat.le_of_ble_eq_true rfl) (Nat.le_of_ble_eq_true rfl) (Nat.zero_le _) (Nat.zero_le _) dX1_nearest_32 ?_
          refine lv_tl (w := gp_ mS yr k) rfl ?_
          refine lv_aload_n hx hb dX1_nearest_35 rfl (lv_at hl 2 rfl) ?_
          refine lv_iload_n hx hb dX1_nearest_36 rfl (lv_at hl 1 rfl) ?_
          refine lv_iconst (v := nI 2) hx hb dX1_nearest_37 (by decide) ?_
          refine k_rV (As := [.int (nI b0), .int (nI 2)]) (rest := [.long (gp_ mS yr k)]) (c_X1_lineTold l B0 g ct ad cS mS (ax_h x (nI 0)) b0 2 (by omega) (by omega)) hC ⟨hx, hb, hml, hown, hts⟩ (cwV 2 hts gX1_nearest_X1_lineTold rfl rfl rfl (by decide +kernel) ⟨Nat.le_of_ble_eq_true rfl, Nat.le_of_ble_eq_true rfl⟩) (rc1 hC) rfl hl.1 rfl (Nat.le_of_ble_eq_true rfl) dX1_nearest_38 ⟨Nat.le_of_ble_eq_true rfl, Nat.le_of_ble_eq_true rfl⟩ ?_
          refine lv_i2l (v := (nI (lt_ mS b0 2)).toInt64) hx hb dX1_nearest_41 rfl ?_
          refine lv_iload_n hx hb dX1_nearest_42 rfl (lv_at hl 3 rfl) ?_
          refine lv_i2l (v := (yr).toInt64) hx hb dX1_nearest_43 rfl ?_
          refine lv_lsub hx hb dX1_nearest_44 ?_
          refine va_mabs_long hx hb (hml.trans hl.1.symm) hown (hts (.methodLink RX1 91 Lib.MathLoose.abs_long.x) (by decide +kernel)) (hts (.static Lib.MathLoose.abs_long.x) (by decide +kernel)) (hts (.initialized "java/lang/Math") (by decide +kernel)) (hts (.code Lib.MathLoose.abs_long.x Lib.MathLoose.abs_long.code 2 (some .long)) (by decide +kernel)) (Nat.le_of_ble_eq_true rfl) (Nat.le_of_ble_eq_true rfl) (Nat.zero_le _) (Nat.zero_le _) dX1_nearest_45 ?_
          refine lv_tl (w := gp_ mS yr b0) rfl ?_
          refine W.lcmp hx hb dX1_nearest_48 ?_
          refine lv_if_ge (tgt := 54) hx hb dX1_nearest_49 (by decide) (fun c_49 => ?_) (fun c_49 => ?_)
          · skip
            have hS1 : nI b0 = ni_ (nr_ mS yr (k + 1)) := by rw [nr_3 n_19 ((lc_ _ _).mp c_49)]; rfl
            refine lv_iinc (v := nI (k + 1)) (lv' := [(3, .int (nI (k + 1))), (2, .int (nI b0)), (0, .ref (ad 7)), (1, .int yr)]) hx hb dX1_nearest_54 hl (k := 0) rfl (nI_1 _) (by decide) rfl (fun ls hl => ?_)
            refine lv_goto (tgt := 9) hx hb dX1_nearest_57 (by decide) ?_
            exact ih_9 (nI b0) (k + 1) (by omega) hS1 (by omega) ls (lv_sub hl [0, 1, 2, 3] rfl)
          · skip
            have hS1 : nI k = ni_ (nr_ mS yr (k + 1)) := by rw [nr_2 n_19 (Decidable.of_not_not (fun q => c_49 ((lc_ _ _).mpr q)))]; rfl
            refine lv_iload_n hx hb dX1_nearest_52 rfl (lv_at hl 0 rfl) ?_
            refine lv_istore_n (lv' := [(2, .int (nI k)), (3, .int (nI k)), (0, .ref (ad 7)), (1, .int yr)]) hx hb dX1_nearest_53 rfl hl (by decide) rfl (fun ls hl => ?_)
            refine lv_iinc (v := nI (k + 1)) (lv' := [(3, .int (nI (k + 1))), (2, .int (nI k)), (0, .ref (ad 7)), (1, .int yr)]) hx hb dX1_nearest_54 hl (k := 1) rfl (nI_1 _) (by decide) rfl (fun ls hl => ?_)
            refine lv_goto (tgt := 9) hx hb dX1_nearest_57 (by decide) ?_
            exact ih_9 (nI k) (k + 1) (by omega) hS1 (by omega) ls (lv_sub hl [0, 1, 2, 3] rfl)
  exact LP_9 _ (-1) 0 (Nat.lt_succ_self _) rfl (Nat.zero_le _) ls (lv_sub hl [0, 1, 2, 3] rfl)
set_option maxHeartbeats 4000000 in
set_option maxRecDepth 100000 in
theorem c_X1_digest (l : Launch) (B0 : Nat) (g : va_G) (ct ad : Nat → Nat) (cS mS : St_) (x : Ax_)  : WL l yX1_digest wsX1_digest 7 0 0 B0 g ct ad cS mS x [.ref (ad 7)] (dg_ mS) cS mS ((fun u => u = ax_h x (nI 0))) := by
  refine Met.ofW (cc := cX1_digest) (maxL := 6) (ret := (some .long)) (by decide) rfl ?_
  intro p e s m args below meth c s₁ B hml hv
  obtain ⟨rfl, hC⟩ := hv
  have hx := B.exec
  have hb := B.bytes
  have hr := B.returns
  have hts := atoms_spec (ws := wsX1_digest) B.pre
  have hown : s.vm.findClass RX1 = some m.cls := findClass_of_methodNamed B.named
  have hlocks := B.notSynchronized
  have hin : ∀ w ∈ wsX10, w ∈ wsX1_digest := fun _ h => List.mem_cons_of_mem _ (List.mem_append_right _ h)
  have hS : va_S (AA B0) s.heap s.heap [] := va_S.rf
  have hB : B0 ≤ s.heap.size := hC.1.2.2.1
  have hI := hC.1.2.2.2.2.1
  have hn := hI.2.1
  have hl := lv_entry ([.ref (ad 7)]) (n := 6) (Nat.le_of_ble_eq_true rfl)
  rw [lg_entry_eq]
  generalize (lg_sl ([.ref (ad 7)]) ++ List.replicate (6 - (lg_sl ([.ref (ad 7)])).length) Slot.unset).toArray = ls at hl ⊢
  have hl : lv_has ls 6 [(0, .ref (ad 7))] := hl
  refine lv_aload_n hx hb dX1_digest_0 rfl (lv_at hl 0 rfl) ?_
  refine lv_iconst (v := nI 0) hx hb dX1_digest_1 (by decide) ?_
  refine w_f1 (m' := mS) (x' := ax_h x (nI 0)) hC hB hS hx hb hts hin hown 0 (by decide) (hts (.fieldLink RX1 20 "AbjadPoemsModel" "thrown" "I") (by decide +kernel)) rfl rfl rfl hC.1.2.2.2.2.1 dX1_digest_2 (fun H locs hC hS => ?_)
  refine lv_ldc2 hx hb hown (hts (.constantLong RX1 104 (40207)) (by decide +kernel)) dX1_digest_5 ?_
  refine lv_aload_n hx hb dX1_digest_8 rfl (lv_at hl 0 rfl) ?_
  refine r_g1 hC hx hb hts hin hown 1 (by decide) (hts (.fieldLink RX1 35 "AbjadPoemsModel" "order" "I") (by decide +kernel)) rfl dX1_digest_9 ?_
  refine lv_i2l (v := (nI (so mS)).toInt64) hx hb dX1_digest_12 rfl ?_
  refine lv_ladd hx hb dX1_digest_13 ?_
  refine lv_lstore_n (lv' := [(1, .long (40207 + ((nI (so mS)).toInt64))), (0, .ref (ad 7))]) hx hb dX1_digest_14 rfl hl (by decide) rfl (fun ls hl => ?_)
  refine lv_iconst (v := nI 0) hx hb dX1_digest_15 (by decide) ?_
  refine lv_istore_n (lv' := [(3, .int (nI 0)), (1, .long (40207 + ((nI (so mS)).toInt64))), (0, .ref (ad 7))]) hx hb dX1_digest_16 rfl hl (by decide) rfl (fun ls hl => ?_)
  have LP_17 : ∀ (n_ : Nat) (dd : Int64) (k : Nat), 7 - k < n_ → (dd = df_ (fun what => to_ mS what) k (40207 + (nI (so mS)).toInt64)) → (k ≤ 7) → ∀ ls : Array Slot, lv_has ls 6 [(3, .int (nI k)), (1, .long dd), (0, .ref (ad 7))] → W p l e (headSpec wsX1_digest (rm_ 7 0 0)).room s m ([.ref (ad 7)] : List Value).toArray below meth c H locs 0 0 (MQ below (va_Ql (fun r (u : Ax_) => r = dg_ mS ∧ ((fun u => u = ax_h x (nI 0))) u) (fun u t => CW B0 g ct ad cS mS u t.heap) (AA B0)) ([.ref (ad 7)] : List Value).toArray s 0 0 (AA B0)) (F0 m 17 ls []) := by
    intro n_
    induction n_ with
    | zero => intro dd k hm; exact absurd hm (Nat.not_lt_zero _)
    | succ n_ ih_17 =>
      intro dd k hm hd hk ls hl
      refine lv_iload_n hx hb dX1_digest_17 rfl (lv_at hl 0 rfl) ?_
      refine lv_bipush (v := nI 7) hx hb dX1_digest_18 (by decide) ?_
      refine lv_icmp_ge (tgt := 42) hx hb dX1_digest_20 (by decide) (fun c_20 => ?_) (fun c_20 => ?_)
      · skip
        have n_20 : 7 ≤ k := (nI_leI (a := 7) (b := k) (by omega) (by omega)).mp c_20
        have hE1 : dd = df_ (fun what => to_ mS what) 7 (40207 + (nI (so mS)).toInt64) := by rw [hd, show k = 7 by omega]
        refine lv_iconst (v := nI 0) hx hb dX1_digest_42 (by decide) ?_
        refine lv_istore_n (lv' := [(3, .int (nI 0)), (1, .long dd), (0, .ref (ad 7))]) hx hb dX1_digest_43 rfl hl (by decide) rfl (fun ls hl => ?_)
        have LP_44 : ∀ (n_ : Nat) (ee : Int64) (j : Nat), sn mS - j < n_ → (ee = dl_ mS j (df_ (fun what => to_ mS what) 7 (40207 + (nI (so mS)).toInt64))) → (j ≤ sn mS) → ∀ ls : Array Slot, lv_has ls 6 [(3, .int (nI j)), (1, .long ee), (0, .ref (ad 7))] → W p l e (headSpec wsX1_digest (rm_ 7 0 0)).room s m ([.ref (ad 7)] : List Value).toArray below meth c H locs 0 0 (MQ below (va_Ql (fun r (u : Ax_) => r = dg_ mS ∧ ((fun u => u = ax_h x (nI 0))) u) (fun u t => CW B0 g ct ad cS mS u t.heap) (AA B0)) ([.ref (ad 7)] : List Value).toArray s 0 0 (AA B0)) (F0 m 44 ls []) := by
          intro n_
          induction n_ with
          | zero => intro ee j hm; exact absurd hm (Nat.not_lt_zero _)
          | succ n_ ih_44 =>
            intro ee j hm he hj ls hl
            have hz := hI.2.2.1 j
            refine lv_iload_n hx hb dX1_digest_44 rfl (lv_at hl 0 rfl) ?_
            refine lv_aload_n hx hb dX1_digest_45 rfl (lv_at hl 2 rfl) ?_
            refine r_g1 hC hx hb hts hin hown 2 (by decide) (hts (.fieldLink RX1 24 "AbjadPoemsModel" "lines" "I") (by decide +kernel)) rfl dX1_digest_46 ?_
            refine lv_icmp_ge (tgt := 140) hx hb dX1_digest_49 (by decide) (fun c_49 => ?_) (fun c_49 => ?_)
            · skip
              have n_49 : sn mS ≤ j := (nI_leI (a := sn mS) (b := j) (by omega) (by omega)).mp c_49
              have hE : ee = dg_ mS := by rw [he, show j = sn mS by omega]; rfl
              refine lv_lload_n hx hb dX1_digest_140 rfl (lv_at hl 1 rfl) ?_
              exact W.lret hx hb hr (fun t ht hW => ⟨⟨_, ax_h x (nI 0), rfl, ⟨hE, rfl⟩, (by show CW B0 g ct ad cS mS (ax_h x (nI 0)) t.heap; rw [ht]; exact hC.1)⟩, hS.F ht⟩) hS.2.2 dX1_digest_141
            · skip
              have n_49 : ¬ sn mS ≤ j := fun q__ => c_49 ((nI_leI (a := sn mS) (b := j) (by omega) (by omega)).mpr q__)
              refine lv_iconst (v := nI 0) hx hb dX1_digest_52 (by decide) ?_
              refine lv_istore (lv' := [(4, .int (nI 0)), (3, .int (nI j)), (1, .long ee), (0, .ref (ad 7))]) hx hb dX1_digest_53 hl (by decide) rfl (fun ls hl => ?_)
              have LP_55 : ∀ (n_ : Nat) (ff : Int64) (q : Nat), 5 - q < n_ → (ff = df_ (fun what => lt_ mS j what) q ee) → (q ≤ 5) → ∀ ls : Array Slot, lv_has ls 6 [(4, .int (nI q)), (3, .int (nI j)), (1, .long ff), (0, .ref (ad 7))] → W p l e (headSpec wsX1_digest (rm_ 7 0 0)).room s m ([.ref (ad 7)] : List Value).toArray below meth c H locs 0 0 (MQ below (va_Ql (fun r (u : Ax_) => r = dg_ mS ∧ ((fun u => u = ax_h x (nI 0))) u) (fun u t => CW B0 g ct ad cS mS u t.heap) (AA B0)) ([.ref (ad 7)] : List Value).toArray s 0 0 (AA B0)) (F0 m 55 ls []) := by
                intro n_
                induction n_ with
                | zero => intro ff q hm; exact absurd hm (Nat.not_lt_zero _)
                | succ n_ ih_55 =>
                  intro ff q hm hf hq ls hl
                  refine lv_iload hx hb dX1_digest_55 (lv_at hl 0 rfl) ?_
                  refine lv_iconst (v := nI 5) hx hb dX1_digest_57 (by decide) ?_
                  refine lv_icmp_ge (tgt := 82) hx hb dX1_digest_58 (by decide) (fun c_58 => ?_) (fun c_58 => ?_)
                  · skip
                    have n_58 : 5 ≤ q := (nI_leI (a := 5) (b := q) (by omega) (by omega)).mp c_58
                    have hE2 : ff = df_ (fun what => lt_ mS j what) 5 ee := by rw [hf, show q = 5 by omega]
                    refine lv_iconst (v := nI 0) hx hb dX1_digest_82 (by decide) ?_
                    refine lv_istore (lv' := [(4, .int (nI 0)), (3, .int (nI j)), (1, .long ff), (0, .ref (ad 7))]) hx hb dX1_digest_83 hl (by decide) rfl (fun ls hl => ?_)
                    have LP_85 : ∀ (n_ : Nat) (gg : Int64) (v : Nat), ss mS j - v < n_ → (gg = dw_ mS j v (df_ (fun what => lt_ mS j what) 5 ee)) → (v ≤ ss mS j) → ∀ ls : Array Slot, lv_has ls 6 [(4, .int (nI v)), (3, .int (nI j)), (1, .long gg), (0, .ref (ad 7))] → W p l e (headSpec wsX1_digest (rm_ 7 0 0)).room s m ([.ref (ad 7)] : List Value).toArray below meth c H locs 0 0 (MQ below (va_Ql (fun r (u : Ax_) => r = dg_ mS ∧ ((fun u => u = ax_h x (nI 0))) u) (fun u t => CW B0 g ct ad cS mS u t.heap) (AA B0)) ([.ref (ad 7)] : List Value).toArray s 0 0 (AA B0)) (F0 m 85 ls []) := by
                      intro n_
                      induction n_ with
                      | zero => intro gg v hm; exact absurd hm (Nat.not_lt_zero _)
                      | succ n_ ih_85 =>
                        intro gg v hm hg hv ls hl
                        refine lv_iload hx hb dX1_digest_85 (lv_at hl 0 rfl) ?_
                        refine lv_aload_n hx hb dX1_digest_87 rfl (lv_at hl 3 rfl) ?_
                        refine r_g1 hC hx hb hts hin hown 3 (by decide) (hts (.fieldLink RX1 9 "AbjadPoemsModel" "longs" "[I") (by decide +kernel)) rfl dX1_digest_88 ?_
                        refine lv_iload_n hx hb dX1_digest_91 rfl (lv_at hl 1 rfl) ?_
                        refine r_lg hC hx hb dX1_digest_92 (j := j) (by omega) ?_
                        refine lv_icmp_ge (tgt := 134) hx hb dX1_digest_93 (by decide) (fun c_93 => ?_) (fun c_93 => ?_)
                        · skip
                          have n_93 : ss mS j ≤ v := (nI_leI (a := ss mS j) (b := v) (by omega) (by omega)).mp c_93
                          have hE3 : gg = dw_ mS j (ss mS j) (df_ (fun what => lt_ mS j what) 5 ee) := by rw [hg, show v = ss mS j by omega]
                          refine lv_iinc (v := nI (j + 1)) (lv' := [(3, .int (nI (j + 1))), (4, .int (nI v)), (1, .long gg), (0, .ref (ad 7))]) hx hb dX1_digest_134 hl (k := 1) rfl (nI_1 _) (by decide) rfl (fun ls hl => ?_)
                          refine lv_goto (tgt := 44) hx hb dX1_digest_137 (by decide) ?_
                          exact ih_44 gg (j + 1) (by omega) (by rw [hE3, he]; rfl) (by omega) ls (lv_sub hl [0, 2, 3] rfl)
                        · skip
                          have n_93 : ¬ ss mS j ≤ v := fun q__ => c_93 ((nI_leI (a := ss mS j) (b := v) (by omega) (by omega)).mpr q__)
                          refine lv_iconst (v := nI 0) hx hb dX1_digest_96 (by decide) ?_
                          refine lv_istore (lv' := [(5, .int (nI 0)), (4, .int (nI v)), (3, .int (nI j)), (1, .long gg), (0, .ref (ad 7))]) hx hb dX1_digest_97 hl (by decide) rfl (fun ls hl => ?_)
                          have LP_99 : ∀ (n_ : Nat) (hh_ : Int64) (z : Nat), 5 - z < n_ → (hh_ = df_ (fun what => wt_ mS j v what) z gg) → (z ≤ 5) → ∀ ls : Array Slot, lv_has ls 6 [(5, .int (nI z)), (4, .int (nI v)), (3, .int (nI j)), (1, .long hh_), (0, .ref (ad 7))] → W p l e (headSpec wsX1_digest (rm_ 7 0 0)).room s m ([.ref (ad 7)] : List Value).toArray below meth c H locs 0 0 (MQ below (va_Ql (fun r (u : Ax_) => r = dg_ mS ∧ ((fun u => u = ax_h x (nI 0))) u) (fun u t => CW B0 g ct ad cS mS u t.heap) (AA B0)) ([.ref (ad 7)] : List Value).toArray s 0 0 (AA B0)) (F0 m 99 ls []) := by
                            intro n_
                            induction n_ with
                            | zero => intro hh_ z hm; exact absurd hm (Nat.not_lt_zero _)
                            | succ n_ ih_99 =>
                              intro hh_ z hm hh hz2 ls hl
                              refine lv_iload hx hb dX1_digest_99 (lv_at hl 0 rfl) ?_
                              refine lv_iconst (v := nI 5) hx hb dX1_digest_101 (by decide) ?_
                              refine lv_icmp_ge (tgt := 128) hx hb dX1_digest_102 (by decide) (fun c_102 => ?_) (fun c_102 => ?_)
                              · skip
                                have n_102 : 5 ≤ z := (nI_leI (a := 5) (b := z) (by omega) (by omega)).mp c_102
                                refine lv_iinc (v := nI (v + 1)) (lv' := [(4, .int (nI (v + 1))), (5, .int (nI z)), (3, .int (nI j)), (1, .long hh_), (0, .ref (ad 7))]) hx hb dX1_digest_128 hl (k := 1) rfl (nI_1 _) (by decide) rfl (fun ls hl => ?_)
                                refine lv_goto (tgt := 85) hx hb dX1_digest_131 (by decide) ?_
                                exact ih_85 hh_ (v + 1) (by omega) (by rw [hh, show z = 5 by omega, hg]; rfl) (by omega) ls (lv_sub hl [0, 2, 3, 4] rfl)
                              · skip
                                have n_102 : ¬ 5 ≤ z := fun q__ => c_102 ((nI_leI (a := 5) (b := z) (by omega) (by omega)).mpr q__)
                                refine lv_lload_n hx hb dX1_digest_105 rfl (lv_at hl 3 rfl) ?_
                                refine lv_ldc2 hx hb hown (hts (.constantLong RX1 106 (31)) (by decide +kernel)) dX1_digest_106 ?_
                                refine lv_lmul hx hb dX1_digest_109 ?_
                                refine lv_aload_n hx hb dX1_digest_110 rfl (lv_at hl 4 rfl) ?_
                                refine lv_iload_n hx hb dX1_digest_111 rfl (lv_at hl 2 rfl) ?_
                                refine lv_iload hx hb dX1_digest_112 (lv_at hl 1 rfl) ?_
                                refine lv_iload hx hb dX1_digest_114 (lv_at hl 0 rfl) ?_
                                refine k_rV (As := [.int (nI j), .int (nI v), .int (nI z)]) (rest := [.long (hh_ * 31)]) (c_X1_wordTold l B0 g ct ad cS mS (ax_h x (nI 0)) j v z (by omega) (by omega) (by omega)) hC ⟨hx, hb, hml, hown, hts⟩ (cwV 3 hts gX1_digest_X1_wordTold rfl rfl rfl (by decide +kernel) ⟨Nat.le_of_ble_eq_true rfl, Nat.le_of_ble_eq_true rfl⟩) (rc1 hC) rfl hl.1 rfl (Nat.le_of_ble_eq_true rfl) dX1_digest_116 ⟨Nat.le_of_ble_eq_true rfl, Nat.le_of_ble_eq_true rfl⟩ ?_
                                refine lv_i2l (v := (nI (wt_ mS j v z)).toInt64) hx hb dX1_digest_119 rfl ?_
                                refine lv_ladd hx hb dX1_digest_120 ?_
                                refine lv_lstore_n (lv' := [(1, .long ((hh_ * 31) + ((nI (wt_ mS j v z)).toInt64))), (5, .int (nI z)), (4, .int (nI v)), (3, .int (nI j)), (0, .ref (ad 7))]) hx hb dX1_digest_121 rfl hl (by decide) rfl (fun ls hl => ?_)
                                refine lv_iinc (v := nI (z + 1)) (lv' := [(5, .int (nI (z + 1))), (1, .long ((hh_ * 31) + ((nI (wt_ mS j v z)).toInt64))), (4, .int (nI v)), (3, .int (nI j)), (0, .ref (ad 7))]) hx hb dX1_digest_122 hl (k := 1) rfl (nI_1 _) (by decide) rfl (fun ls hl => ?_)
                                refine lv_goto (tgt := 99) hx hb dX1_digest_125 (by decide) ?_
                                exact ih_99 ((hh_ * 31) + ((nI (wt_ mS j v z)).toInt64)) (z + 1) (by omega) (by rw [hh]; rfl) (by omega) ls (lv_sub hl [0, 2, 3, 1, 4] rfl)
                          exact LP_99 _ gg 0 (Nat.lt_succ_self _) rfl (by omega) ls (lv_sub hl [0, 1, 2, 3, 4] rfl)
                    exact LP_85 _ ff 0 (Nat.lt_succ_self _) hE2 (by omega) ls (lv_sub hl [0, 1, 2, 3] rfl)
                  · skip
                    have n_58 : ¬ 5 ≤ q := fun q__ => c_58 ((nI_leI (a := 5) (b := q) (by omega) (by omega)).mpr q__)
                    refine lv_lload_n hx hb dX1_digest_61 rfl (lv_at hl 2 rfl) ?_
                    refine lv_ldc2 hx hb hown (hts (.constantLong RX1 106 (31)) (by decide +kernel)) dX1_digest_62 ?_
                    refine lv_lmul hx hb dX1_digest_65 ?_
                    refine lv_aload_n hx hb dX1_digest_66 rfl (lv_at hl 3 rfl) ?_
                    refine lv_iload_n hx hb dX1_digest_67 rfl (lv_at hl 1 rfl) ?_
                    refine lv_iload hx hb dX1_digest_68 (lv_at hl 0 rfl) ?_
                    refine k_rV (As := [.int (nI j), .int (nI q)]) (rest := [.long (ff * 31)]) (c_X1_lineTold l B0 g ct ad cS mS (ax_h x (nI 0)) j q (by omega) (by omega)) hC ⟨hx, hb, hml, hown, hts⟩ (cwV 2 hts gX1_digest_X1_lineTold rfl rfl rfl (by decide +kernel) ⟨Nat.le_of_ble_eq_true rfl, Nat.le_of_ble_eq_true rfl⟩) (rc1 hC) rfl hl.1 rfl (Nat.le_of_ble_eq_true rfl) dX1_digest_70 ⟨Nat.le_of_ble_eq_true rfl, Nat.le_of_ble_eq_true rfl⟩ ?_
                    refine lv_i2l (v := (nI (lt_ mS j q)).toInt64) hx hb dX1_digest_73 rfl ?_
                    refine lv_ladd hx hb dX1_digest_74 ?_
                    refine lv_lstore_n (lv' := [(1, .long ((ff * 31) + ((nI (lt_ mS j q)).toInt64))), (4, .int (nI q)), (3, .int (nI j)), (0, .ref (ad 7))]) hx hb dX1_digest_75 rfl hl (by decide) rfl (fun ls hl => ?_)
                    refine lv_iinc (v := nI (q + 1)) (lv' := [(4, .int (nI (q + 1))), (1, .long ((ff * 31) + ((nI (lt_ mS j q)).toInt64))), (3, .int (nI j)), (0, .ref (ad 7))]) hx hb dX1_digest_76 hl (k := 1) rfl (nI_1 _) (by decide) rfl (fun ls hl => ?_)
                    refine lv_goto (tgt := 55) hx hb dX1_digest_79 (by decide) ?_
                    exact ih_55 ((ff * 31) + ((nI (lt_ mS j q)).toInt64)) (q + 1) (by omega) (by rw [hf]; rfl) (by omega) ls (lv_sub hl [0, 2, 1, 3] rfl)
              exact LP_55 _ ee 0 (Nat.lt_succ_self _) rfl (by omega) ls (lv_sub hl [0, 1, 2, 3] rfl)
        exact LP_44 _ dd 0 (Nat.lt_succ_self _) hE1 (by omega) ls (lv_sub hl [0, 1, 2] rfl)
      · skip
        have n_20 : ¬ 7 ≤ k := fun q__ => c_20 ((nI_leI (a := 7) (b := k) (by omega) (by omega)).mpr q__)
        refine lv_lload_n hx hb dX1_digest_23 rfl (lv_at hl 1 rfl) ?_
        refine lv_ldc2 hx hb hown (hts (.constantLong RX1 106 (31)) (by decide +kernel)) dX1_digest_24 ?_
        refine lv_lmul hx hb dX1_digest_27 ?_
        refine lv_aload_n hx hb dX1_digest_28 rfl (lv_at hl 2 rfl) ?_
        refine lv_iload_n hx hb dX1_digest_29 rfl (lv_at hl 0 rfl) ?_
        refine k_rV (As := [.int (nI k)]) (rest := [.long (dd * 31)]) (c_X1_toldOf l B0 g ct ad cS mS (ax_h x (nI 0)) k (by omega)) hC ⟨hx, hb, hml, hown, hts⟩ (cwV 1 hts gX1_digest_X1_toldOf rfl rfl rfl (by decide +kernel) ⟨Nat.le_of_ble_eq_true rfl, Nat.le_of_ble_eq_true rfl⟩) (rc1 hC) rfl hl.1 rfl (Nat.le_of_ble_eq_true rfl) dX1_digest_30 ⟨Nat.le_of_ble_eq_true rfl, Nat.le_of_ble_eq_true rfl⟩ ?_
        refine lv_i2l (v := (nI (to_ mS k)).toInt64) hx hb dX1_digest_33 rfl ?_
        refine lv_ladd hx hb dX1_digest_34 ?_
        refine lv_lstore_n (lv' := [(1, .long ((dd * 31) + ((nI (to_ mS k)).toInt64))), (3, .int (nI k)), (0, .ref (ad 7))]) hx hb dX1_digest_35 rfl hl (by decide) rfl (fun ls hl => ?_)
        refine lv_iinc (v := nI (k + 1)) (lv' := [(3, .int (nI (k + 1))), (1, .long ((dd * 31) + ((nI (to_ mS k)).toInt64))), (0, .ref (ad 7))]) hx hb dX1_digest_36 hl (k := 1) rfl (nI_1 _) (by decide) rfl (fun ls hl => ?_)
        refine lv_goto (tgt := 17) hx hb dX1_digest_39 (by decide) ?_
        exact ih_17 ((dd * 31) + ((nI (to_ mS k)).toInt64)) (k + 1) (by omega) (by rw [hd]; rfl) (by omega) ls (lv_sub hl [0, 1, 2] rfl)
  exact LP_17 _ (40207 + (nI (so mS)).toInt64) 0 (Nat.lt_succ_self _) rfl (by omega) ls (lv_sub hl [0, 1, 2] rfl)
