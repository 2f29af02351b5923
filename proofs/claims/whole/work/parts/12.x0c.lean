set_option maxHeartbeats 4000000 in
set_option maxRecDepth 100000 in
theorem c_X0_checkLine (l : Launch) (B0 : Nat) (g : va_G) (ct ad : Nat → Nat) (cS mS : St_) (x : Ax_) (j : Nat) (hj : j < sn cS) : RV l yX0_checkLine wsX0_checkLine 0 (PX B0 g ct ad cS mS x [.ref (ad 0), .int (nI j)]) := by
  refine Met.ofW (cc := cX0_checkLine) (maxL := 2) (ret := none) (by decide) rfl ?_
  intro p e s m args below meth c s₁ B hml hv
  obtain ⟨rfl, hC⟩ := hv
  have hx := B.exec
  have hb := B.bytes
  have hr := B.returns
  have hts := atoms_spec (ws := wsX0_checkLine) B.pre
  have hown : s.vm.findClass RX0 = some m.cls := findClass_of_methodNamed B.named
  have hlocks := B.notSynchronized
  have hin : ∀ w ∈ wsX00, w ∈ wsX0_checkLine := fun _ h => List.mem_cons_of_mem _ (List.mem_append_left _ (List.mem_append_right _ h))
  have hI := hC.1.2.2.2.1
  have hn := hI.2.1
  have hl := lv_entry ([.ref (ad 0), .int (nI j)]) (n := 2) (Nat.le_of_ble_eq_true rfl)
  rw [lg_entry_eq]
  generalize (lg_sl ([.ref (ad 0), .int (nI j)]) ++ List.replicate (2 - (lg_sl ([.ref (ad 0), .int (nI j)])).length) Slot.unset).toArray = ls at hl ⊢
  have hl : lv_has ls 2 [(0, .ref (ad 0)), (1, .int (nI j))] := hl
  refine lv_iload_n hx hb dX0_checkLine_0 rfl (lv_at hl 1 rfl) ?_
  refine lv_if_lt (tgt := 12) hx hb dX0_checkLine_1 (by decide) (fun c_1 => ?_) (fun c_1 => ?_)
  · skip
    exact absurd c_1 (nI_pos (by omega))
  · skip
    refine lv_iload_n hx hb dX0_checkLine_4 rfl (lv_at hl 1 rfl) ?_
    refine lv_aload_n hx hb dX0_checkLine_5 rfl (lv_at hl 0 rfl) ?_
    refine r_g0 hC hx hb hts hin hown 1 (by decide) (hts (.fieldLink RX0 13 "AbjadPoems" "lines" "I") (by decide +kernel)) rfl dX0_checkLine_6 ?_
    refine lv_icmp_lt (tgt := 22) hx hb dX0_checkLine_9 (by decide) (fun c_9 => ?_) (fun c_9 => ?_)
    · skip
      have n_9 : j < sn cS := (nI_ltI (a := j) (b := sn cS) (by omega) (by omega)).mp c_9
      exact W.vret hx hb hr (fun t ht hW => ⟨rfl, trivial, ht⟩) (fun q hq => absurd hq List.not_mem_nil) dX0_checkLine_22
    · skip
      have n_9 : ¬ j < sn cS := fun q__ => c_9 ((nI_ltI (a := j) (b := sn cS) (by omega) (by omega)).mpr q__)
      exact absurd hj n_9
set_option maxHeartbeats 4000000 in
set_option maxRecDepth 100000 in
theorem t_X0_checkLine (l : Launch) (B0 : Nat) (g : va_G) (ct ad : Nat → Nat) (cS mS : St_) (x : Ax_) (hflags : l.stackTraces = false) (li : Int32) (h : li < 0 ∨ nI (sn cS) ≤ li) : TX l yX0_checkLine wsX0_checkLine 6 B0 g ct ad cS mS x [.ref (ad 0), .int li] EI_ := by
  refine vx_ofW (cc := cX0_checkLine) (maxL := 2) (ret := none) (by decide) rfl ?_
  intro p e s m args below meth c s₁ B hml hxt hv
  obtain ⟨rfl, hC⟩ := hv
  have hx := B.exec
  have hb := B.bytes
  have hr := B.returns
  have hts := atoms_spec (ws := wsX0_checkLine) B.pre
  have hown : s.vm.findClass RX0 = some m.cls := findClass_of_methodNamed B.named
  have hlocks := B.notSynchronized
  have hin : ∀ w ∈ wsX00, w ∈ wsX0_checkLine := fun _ h => List.mem_cons_of_mem _ (List.mem_append_left _ (List.mem_append_right _ h))
  have hS : va_S (AA B0) s.heap s.heap [] := va_S.rf
  have hB : B0 ≤ s.heap.size := hC.1.2.2.1
  have hK0 := hC.2
  have hl := lv_entry ([.ref (ad 0), .int li]) (n := 2) (Nat.le_of_ble_eq_true rfl)
  rw [lg_entry_eq]
  generalize (lg_sl ([.ref (ad 0), .int li]) ++ List.replicate (2 - (lg_sl ([.ref (ad 0), .int li])).length) Slot.unset).toArray = ls at hl ⊢
  have hl : lv_has ls 2 [(0, .ref (ad 0)), (1, .int li)] := hl
  refine lv_iload_n hx hb dX0_checkLine_0 rfl (lv_at hl 1 rfl) ?_
  refine lv_if_lt (tgt := 12) hx hb dX0_checkLine_1 (by decide) (fun c_1 => ?_) (fun c_1 => ?_)
  · skip
    exact x_thr (E := EI_) (ik := 38) (ic := 42) (is := 133) (text := "no such line") hC hS hK0 hx hb hflags hown (by decide) hts (by decide +kernel) (by decide +kernel) (by decide) (fun _ h => List.mem_cons_of_mem _ (List.mem_append_right _ h)) gb_42 go_42 (by decide +kernel) (hl.1.trans hml.symm) dX0_checkLine_12 dX0_checkLine_15 dX0_checkLine_16 dX0_checkLine_18 dX0_checkLine_21 hxt (Nat.le_of_ble_eq_true rfl) (Nat.le_of_ble_eq_true rfl) (Nat.le_of_ble_eq_true rfl) (Nat.le_of_ble_eq_true rfl) hlocks (Nat.le_of_ble_eq_true rfl) (Nat.le_of_ble_eq_true rfl)
  · skip
    refine lv_iload_n hx hb dX0_checkLine_4 rfl (lv_at hl 1 rfl) ?_
    refine lv_aload_n hx hb dX0_checkLine_5 rfl (lv_at hl 0 rfl) ?_
    refine r_g0 hC hx hb hts hin hown 1 (by decide) (hts (.fieldLink RX0 13 "AbjadPoems" "lines" "I") (by decide +kernel)) rfl dX0_checkLine_6 ?_
    refine lv_icmp_lt (tgt := 22) hx hb dX0_checkLine_9 (by decide) (fun c_9 => ?_) (fun c_9 => ?_)
    · skip
      exact h.elim (fun q => absurd q c_1) (fun q => absurd c_9 (Int32.not_lt.mpr q))
    · skip
      exact x_thr (E := EI_) (ik := 38) (ic := 42) (is := 133) (text := "no such line") hC hS hK0 hx hb hflags hown (by decide) hts (by decide +kernel) (by decide +kernel) (by decide) (fun _ h => List.mem_cons_of_mem _ (List.mem_append_right _ h)) gb_42 go_42 (by decide +kernel) (hl.1.trans hml.symm) dX0_checkLine_12 dX0_checkLine_15 dX0_checkLine_16 dX0_checkLine_18 dX0_checkLine_21 hxt (Nat.le_of_ble_eq_true rfl) (Nat.le_of_ble_eq_true rfl) (Nat.le_of_ble_eq_true rfl) (Nat.le_of_ble_eq_true rfl) hlocks (Nat.le_of_ble_eq_true rfl) (Nat.le_of_ble_eq_true rfl)
set_option maxHeartbeats 4000000 in
set_option maxRecDepth 100000 in
theorem c_X0_checkWordOfLine (l : Launch) (B0 : Nat) (g : va_G) (ct ad : Nat → Nat) (cS mS : St_) (x : Ax_) (i w : Nat) (hi : i < sn cS) (hw : w < ss cS i) : RV l yX0_checkWordOfLine wsX0_checkWordOfLine 1 (PX B0 g ct ad cS mS x [.ref (ad 0), .int (nI i), .int (nI w)]) := by
  refine Met.ofW (cc := cX0_checkWordOfLine) (maxL := 3) (ret := none) (by decide) rfl ?_
  intro p e s m args below meth c s₁ B hml hv
  obtain ⟨rfl, hC⟩ := hv
  have hx := B.exec
  have hb := B.bytes
  have hr := B.returns
  have hts := atoms_spec (ws := wsX0_checkWordOfLine) B.pre
  have hown : s.vm.findClass RX0 = some m.cls := findClass_of_methodNamed B.named
  have hlocks := B.notSynchronized
  have hin : ∀ w ∈ wsX00, w ∈ wsX0_checkWordOfLine := fun _ h => List.mem_cons_of_mem _ (List.mem_append_left _ (List.mem_append_right _ h))
  have hI := hC.1.2.2.2.1
  have hn := hI.2.1
  have hz := hI.2.2.1 i
  have hl := lv_entry ([.ref (ad 0), .int (nI i), .int (nI w)]) (n := 3) (Nat.le_of_ble_eq_true rfl)
  rw [lg_entry_eq]
  generalize (lg_sl ([.ref (ad 0), .int (nI i), .int (nI w)]) ++ List.replicate (3 - (lg_sl ([.ref (ad 0), .int (nI i), .int (nI w)])).length) Slot.unset).toArray = ls at hl ⊢
  have hl : lv_has ls 3 [(0, .ref (ad 0)), (1, .int (nI i)), (2, .int (nI w))] := hl
  refine lv_aload_n hx hb dX0_checkWordOfLine_0 rfl (lv_at hl 0 rfl) ?_
  refine lv_iload_n hx hb dX0_checkWordOfLine_1 rfl (lv_at hl 1 rfl) ?_
  refine k_vV (As := [.int (nI i)]) (rest := []) (c_X0_checkLine l B0 g ct ad cS mS x i (by omega)) hC ⟨hx, hb, hml, hown, hts⟩ (cwV 1 hts gX0_checkWordOfLine_X0_checkLine rfl rfl rfl (by decide +kernel) ⟨Nat.le_of_ble_eq_true rfl, Nat.le_of_ble_eq_true rfl⟩) (rc0 hC) rfl hl.1 rfl (Nat.le_of_ble_eq_true rfl) dX0_checkWordOfLine_2 ⟨Nat.le_of_ble_eq_true rfl, Nat.le_of_ble_eq_true rfl⟩ ?_
  refine lv_iload_n hx hb dX0_checkWordOfLine_5 rfl (lv_at hl 2 rfl) ?_
  refine lv_if_lt (tgt := 19) hx hb dX0_checkWordOfLine_6 (by decide) (fun c_6 => ?_) (fun c_6 => ?_)
  · skip
    exact absurd c_6 (nI_pos (by omega))
  · skip
    refine lv_iload_n hx hb dX0_checkWordOfLine_9 rfl (lv_at hl 2 rfl) ?_
    refine lv_aload_n hx hb dX0_checkWordOfLine_10 rfl (lv_at hl 0 rfl) ?_
    refine r_g0 hC hx hb hts hin hown 2 (by decide) (hts (.fieldLink RX0 16 "AbjadPoems" "sizes" "[I") (by decide +kernel)) rfl dX0_checkWordOfLine_11 ?_
    refine lv_iload_n hx hb dX0_checkWordOfLine_14 rfl (lv_at hl 1 rfl) ?_
    refine r_sz hC hx hb dX0_checkWordOfLine_15 (j := i) (by omega) ?_
    refine lv_icmp_lt (tgt := 29) hx hb dX0_checkWordOfLine_16 (by decide) (fun c_16 => ?_) (fun c_16 => ?_)
    · skip
      have n_16 : w < ss cS i := (nI_ltI (a := w) (b := ss cS i) (by omega) (by omega)).mp c_16
      exact W.vret hx hb hr (fun t ht hW => ⟨rfl, trivial, ht⟩) (fun q hq => absurd hq List.not_mem_nil) dX0_checkWordOfLine_29
    · skip
      have n_16 : ¬ w < ss cS i := fun q__ => c_16 ((nI_ltI (a := w) (b := ss cS i) (by omega) (by omega)).mpr q__)
      exact absurd hw n_16
set_option maxHeartbeats 4000000 in
set_option maxRecDepth 100000 in
theorem t_X0_checkWordOfLine_1 (l : Launch) (B0 : Nat) (g : va_G) (ct ad : Nat → Nat) (cS mS : St_) (x : Ax_) (hflags : l.stackTraces = false) (li : Int32) (h : li < 0 ∨ nI (sn cS) ≤ li) (wi : Int32) : TX l yX0_checkWordOfLine wsX0_checkWordOfLine 7 B0 g ct ad cS mS x [.ref (ad 0), .int li, .int wi] EI_ := by
  refine vx_ofW (cc := cX0_checkWordOfLine) (maxL := 3) (ret := none) (by decide) rfl ?_
  intro p e s m args below meth c s₁ B hml hxt hv
  obtain ⟨rfl, hC⟩ := hv
  have hx := B.exec
  have hb := B.bytes
  have hr := B.returns
  have hts := atoms_spec (ws := wsX0_checkWordOfLine) B.pre
  have hown : s.vm.findClass RX0 = some m.cls := findClass_of_methodNamed B.named
  have hlocks := B.notSynchronized
  have hin : ∀ w ∈ wsX00, w ∈ wsX0_checkWordOfLine := fun _ h => List.mem_cons_of_mem _ (List.mem_append_left _ (List.mem_append_right _ h))
  have hS : va_S (AA B0) s.heap s.heap [] := va_S.rf
  have hB : B0 ≤ s.heap.size := hC.1.2.2.1
  have hK0 := hC.2
  have hl := lv_entry ([.ref (ad 0), .int li, .int wi]) (n := 3) (Nat.le_of_ble_eq_true rfl)
  rw [lg_entry_eq]
  generalize (lg_sl ([.ref (ad 0), .int li, .int wi]) ++ List.replicate (3 - (lg_sl ([.ref (ad 0), .int li, .int wi])).length) Slot.unset).toArray = ls at hl ⊢
  have hl : lv_has ls 3 [(0, .ref (ad 0)), (1, .int li), (2, .int wi)] := hl
  refine lv_aload_n hx hb dX0_checkWordOfLine_0 rfl (lv_at hl 0 rfl) ?_
  refine lv_iload_n hx hb dX0_checkWordOfLine_1 rfl (lv_at hl 1 rfl) ?_
  refine k_tV (As := [.int li]) (rest := []) (t_X0_checkLine l B0 g ct ad cS mS x hflags li h) hC hB hS ⟨hx, hb, hml, hown, hts⟩ (cwV 1 hts gX0_checkWordOfLine_X0_checkLine rfl rfl rfl (by decide +kernel) ⟨Nat.le_of_ble_eq_true rfl, Nat.le_of_ble_eq_true rfl⟩) (rc0 hC) rfl hl.1 rfl (Nat.le_of_ble_eq_true rfl) dX0_checkWordOfLine_2 ⟨Nat.le_of_ble_eq_true rfl, Nat.le_of_ble_eq_true rfl⟩ (fun ce_ q9_ H locs hC hS hce_ hcv_ hcl_ => ?_)
  exact vx_out (fun x hx_ => (hxt x hx_).elim) hlocks hce_ hcv_ hcl_ (fun t ht hA => ⟨(), trivial, ⟨rfl, by rw [ht]; exact hC.1⟩, hS.F ht⟩) hS.2.2 (Nat.le_of_ble_eq_true rfl) (Nat.le_of_ble_eq_true rfl)
set_option maxHeartbeats 4000000 in
set_option maxRecDepth 100000 in
theorem t_X0_checkWordOfLine_2 (l : Launch) (B0 : Nat) (g : va_G) (ct ad : Nat → Nat) (cS mS : St_) (x : Ax_) (hflags : l.stackTraces = false) (i : Nat) (hi : i < sn cS) (wi : Int32) (h : wi < 0 ∨ nI (ss cS i) ≤ wi) : TX l yX0_checkWordOfLine wsX0_checkWordOfLine 7 B0 g ct ad cS mS x [.ref (ad 0), .int (nI i), .int wi] EI_ := by
  refine vx_ofW (cc := cX0_checkWordOfLine) (maxL := 3) (ret := none) (by decide) rfl ?_
  intro p e s m args below meth c s₁ B hml hxt hv
  obtain ⟨rfl, hC⟩ := hv
  have hx := B.exec
  have hb := B.bytes
  have hr := B.returns
  have hts := atoms_spec (ws := wsX0_checkWordOfLine) B.pre
  have hown : s.vm.findClass RX0 = some m.cls := findClass_of_methodNamed B.named
  have hlocks := B.notSynchronized
  have hin : ∀ w ∈ wsX00, w ∈ wsX0_checkWordOfLine := fun _ h => List.mem_cons_of_mem _ (List.mem_append_left _ (List.mem_append_right _ h))
  have hS : va_S (AA B0) s.heap s.heap [] := va_S.rf
  have hB : B0 ≤ s.heap.size := hC.1.2.2.1
  have hK0 := hC.2
  have hI := hC.1.2.2.2.1
  have hn := hI.2.1
  have hz := hI.2.2.1 i
  have hl := lv_entry ([.ref (ad 0), .int (nI i), .int wi]) (n := 3) (Nat.le_of_ble_eq_true rfl)
  rw [lg_entry_eq]
  generalize (lg_sl ([.ref (ad 0), .int (nI i), .int wi]) ++ List.replicate (3 - (lg_sl ([.ref (ad 0), .int (nI i), .int wi])).length) Slot.unset).toArray = ls at hl ⊢
  have hl : lv_has ls 3 [(0, .ref (ad 0)), (1, .int (nI i)), (2, .int wi)] := hl
  refine lv_aload_n hx hb dX0_checkWordOfLine_0 rfl (lv_at hl 0 rfl) ?_
  refine lv_iload_n hx hb dX0_checkWordOfLine_1 rfl (lv_at hl 1 rfl) ?_
  refine k_vV (As := [.int (nI i)]) (rest := []) (c_X0_checkLine l B0 g ct ad cS mS x i (by omega)) hC ⟨hx, hb, hml, hown, hts⟩ (cwV 1 hts gX0_checkWordOfLine_X0_checkLine rfl rfl rfl (by decide +kernel) ⟨Nat.le_of_ble_eq_true rfl, Nat.le_of_ble_eq_true rfl⟩) (rc0 hC) rfl hl.1 rfl (Nat.le_of_ble_eq_true rfl) dX0_checkWordOfLine_2 ⟨Nat.le_of_ble_eq_true rfl, Nat.le_of_ble_eq_true rfl⟩ ?_
  refine lv_iload_n hx hb dX0_checkWordOfLine_5 rfl (lv_at hl 2 rfl) ?_
  refine lv_if_lt (tgt := 19) hx hb dX0_checkWordOfLine_6 (by decide) (fun c_6 => ?_) (fun c_6 => ?_)
  · skip
    exact x_thr (E := EI_) (ik := 38) (ic := 42) (is := 135) (text := "no such word") hC hS hK0 hx hb hflags hown (by decide) hts (by decide +kernel) (by decide +kernel) (by decide) (fun _ h => List.mem_cons_of_mem _ (List.mem_append_right _ h)) gb_42 go_42 (by decide +kernel) (hl.1.trans hml.symm) dX0_checkWordOfLine_19 dX0_checkWordOfLine_22 dX0_checkWordOfLine_23 dX0_checkWordOfLine_25 dX0_checkWordOfLine_28 hxt (Nat.le_of_ble_eq_true rfl) (Nat.le_of_ble_eq_true rfl) (Nat.le_of_ble_eq_true rfl) (Nat.le_of_ble_eq_true rfl) hlocks (Nat.le_of_ble_eq_true rfl) (Nat.le_of_ble_eq_true rfl)
  · skip
    refine lv_iload_n hx hb dX0_checkWordOfLine_9 rfl (lv_at hl 2 rfl) ?_
    refine lv_aload_n hx hb dX0_checkWordOfLine_10 rfl (lv_at hl 0 rfl) ?_
    refine r_g0 hC hx hb hts hin hown 2 (by decide) (hts (.fieldLink RX0 16 "AbjadPoems" "sizes" "[I") (by decide +kernel)) rfl dX0_checkWordOfLine_11 ?_
    refine lv_iload_n hx hb dX0_checkWordOfLine_14 rfl (lv_at hl 1 rfl) ?_
    refine r_sz hC hx hb dX0_checkWordOfLine_15 (j := i) (by omega) ?_
    refine lv_icmp_lt (tgt := 29) hx hb dX0_checkWordOfLine_16 (by decide) (fun c_16 => ?_) (fun c_16 => ?_)
    · skip
      exact h.elim (fun q => absurd q c_6) (fun q => absurd c_16 (Int32.not_lt.mpr q))
    · skip
      exact x_thr (E := EI_) (ik := 38) (ic := 42) (is := 135) (text := "no such word") hC hS hK0 hx hb hflags hown (by decide) hts (by decide +kernel) (by decide +kernel) (by decide) (fun _ h => List.mem_cons_of_mem _ (List.mem_append_right _ h)) gb_42 go_42 (by decide +kernel) (hl.1.trans hml.symm) dX0_checkWordOfLine_19 dX0_checkWordOfLine_22 dX0_checkWordOfLine_23 dX0_checkWordOfLine_25 dX0_checkWordOfLine_28 hxt (Nat.le_of_ble_eq_true rfl) (Nat.le_of_ble_eq_true rfl) (Nat.le_of_ble_eq_true rfl) (Nat.le_of_ble_eq_true rfl) hlocks (Nat.le_of_ble_eq_true rfl) (Nat.le_of_ble_eq_true rfl)
set_option maxHeartbeats 4000000 in
set_option maxRecDepth 100000 in
theorem c_X0_checkWhat (l : Launch) (B0 : Nat) (g : va_G) (ct ad : Nat → Nat) (cS mS : St_) (x : Ax_) (q f : Nat) (hq : q < f) (hf : f < 9) : RV l yX0_checkWhat wsX0_checkWhat 0 (PX B0 g ct ad cS mS x [.int (nI q), .int (nI f)]) := by
  refine Met.ofW (cc := cX0_checkWhat) (maxL := 2) (ret := none) (by decide) rfl ?_
  intro p e s m args below meth c s₁ B hml hv
  obtain ⟨rfl, hC⟩ := hv
  have hx := B.exec
  have hb := B.bytes
  have hr := B.returns
  have hts := atoms_spec (ws := wsX0_checkWhat) B.pre
  have hown : s.vm.findClass RX0 = some m.cls := findClass_of_methodNamed B.named
  have hlocks := B.notSynchronized
  have hl := lv_entry ([.int (nI q), .int (nI f)]) (n := 2) (Nat.le_of_ble_eq_true rfl)
  rw [lg_entry_eq]
  generalize (lg_sl ([.int (nI q), .int (nI f)]) ++ List.replicate (2 - (lg_sl ([.int (nI q), .int (nI f)])).length) Slot.unset).toArray = ls at hl ⊢
  have hl : lv_has ls 2 [(0, .int (nI q)), (1, .int (nI f))] := hl
  refine lv_iload_n hx hb dX0_checkWhat_0 rfl (lv_at hl 0 rfl) ?_
  refine lv_if_lt (tgt := 9) hx hb dX0_checkWhat_1 (by decide) (fun c_1 => ?_) (fun c_1 => ?_)
  · skip
    exact absurd c_1 (nI_pos (by omega))
  · skip
    refine lv_iload_n hx hb dX0_checkWhat_4 rfl (lv_at hl 0 rfl) ?_
    refine lv_iload_n hx hb dX0_checkWhat_5 rfl (lv_at hl 1 rfl) ?_
    refine lv_icmp_lt (tgt := 19) hx hb dX0_checkWhat_6 (by decide) (fun c_6 => ?_) (fun c_6 => ?_)
    · skip
      have n_6 : q < f := (nI_ltI (a := q) (b := f) (by omega) (by omega)).mp c_6
      exact W.vret hx hb hr (fun t ht hW => ⟨rfl, trivial, ht⟩) (fun q hq => absurd hq List.not_mem_nil) dX0_checkWhat_19
    · skip
      have n_6 : ¬ q < f := fun q__ => c_6 ((nI_ltI (a := q) (b := f) (by omega) (by omega)).mpr q__)
      exact absurd hq n_6
set_option maxHeartbeats 4000000 in
set_option maxRecDepth 100000 in
theorem t_X0_checkWhat (l : Launch) (B0 : Nat) (g : va_G) (ct ad : Nat → Nat) (cS mS : St_) (x : Ax_) (hflags : l.stackTraces = false) (q : Int32) (f : Nat) (h : q < 0 ∨ nI f ≤ q) : TX l yX0_checkWhat wsX0_checkWhat 6 B0 g ct ad cS mS x [.int q, .int (nI f)] EI_ := by
  refine vx_ofW (cc := cX0_checkWhat) (maxL := 2) (ret := none) (by decide) rfl ?_
  intro p e s m args below meth c s₁ B hml hxt hv
  obtain ⟨rfl, hC⟩ := hv
  have hx := B.exec
  have hb := B.bytes
  have hr := B.returns
  have hts := atoms_spec (ws := wsX0_checkWhat) B.pre
  have hown : s.vm.findClass RX0 = some m.cls := findClass_of_methodNamed B.named
  have hlocks := B.notSynchronized
  have hS : va_S (AA B0) s.heap s.heap [] := va_S.rf
  have hB : B0 ≤ s.heap.size := hC.1.2.2.1
  have hK0 := hC.2
  have hl := lv_entry ([.int q, .int (nI f)]) (n := 2) (Nat.le_of_ble_eq_true rfl)
  rw [lg_entry_eq]
  generalize (lg_sl ([.int q, .int (nI f)]) ++ List.replicate (2 - (lg_sl ([.int q, .int (nI f)])).length) Slot.unset).toArray = ls at hl ⊢
  have hl : lv_has ls 2 [(0, .int q), (1, .int (nI f))] := hl
  refine lv_iload_n hx hb dX0_checkWhat_0 rfl (lv_at hl 0 rfl) ?_
  refine lv_if_lt (tgt := 9) hx hb dX0_checkWhat_1 (by decide) (fun c_1 => ?_) (fun c_1 => ?_)
  · skip
    exact x_thr (E := EI_) (ik := 38) (ic := 42) (is := 137) (text := "nothing such is told") hC hS hK0 hx hb hflags hown (by decide) hts (by decide +kernel) (by decide +kernel) (by decide) (fun _ h => List.mem_cons_of_mem _ (List.mem_append_right _ h)) gb_42 go_42 (by decide +kernel) (hl.1.trans hml.symm) dX0_checkWhat_9 dX0_checkWhat_12 dX0_checkWhat_13 dX0_checkWhat_15 dX0_checkWhat_18 hxt (Nat.le_of_ble_eq_true rfl) (Nat.le_of_ble_eq_true rfl) (Nat.le_of_ble_eq_true rfl) (Nat.le_of_ble_eq_true rfl) hlocks (Nat.le_of_ble_eq_true rfl) (Nat.le_of_ble_eq_true rfl)
  · skip
    refine lv_iload_n hx hb dX0_checkWhat_4 rfl (lv_at hl 0 rfl) ?_
    refine lv_iload_n hx hb dX0_checkWhat_5 rfl (lv_at hl 1 rfl) ?_
    refine lv_icmp_lt (tgt := 19) hx hb dX0_checkWhat_6 (by decide) (fun c_6 => ?_) (fun c_6 => ?_)
    · skip
      exact h.elim (fun z => absurd z c_1) (fun z => absurd c_6 (Int32.not_lt.mpr z))
    · skip
      exact x_thr (E := EI_) (ik := 38) (ic := 42) (is := 137) (text := "nothing such is told") hC hS hK0 hx hb hflags hown (by decide) hts (by decide +kernel) (by decide +kernel) (by decide) (fun _ h => List.mem_cons_of_mem _ (List.mem_append_right _ h)) gb_42 go_42 (by decide +kernel) (hl.1.trans hml.symm) dX0_checkWhat_9 dX0_checkWhat_12 dX0_checkWhat_13 dX0_checkWhat_15 dX0_checkWhat_18 hxt (Nat.le_of_ble_eq_true rfl) (Nat.le_of_ble_eq_true rfl) (Nat.le_of_ble_eq_true rfl) (Nat.le_of_ble_eq_true rfl) hlocks (Nat.le_of_ble_eq_true rfl) (Nat.le_of_ble_eq_true rfl)
set_option maxHeartbeats 4000000 in
set_option maxRecDepth 100000 in
theorem c_X0_checkWord (l : Launch) (B0 : Nat) (g : va_G) (ct ad : Nat → Nat) (cS mS : St_) (x : Ax_) (w : Int32) (h : wd_ w = true) : RV l yX0_checkWord wsX0_checkWord 1 (PX B0 g ct ad cS mS x [.int w]) := by
  refine Met.ofW (cc := cX0_checkWord) (maxL := 1) (ret := none) (by decide) rfl ?_
  intro p e s m args below meth c s₁ B hml hv
  obtain ⟨rfl, hC⟩ := hv
  have hx := B.exec
  have hb := B.bytes
  have hr := B.returns
  have hts := atoms_spec (ws := wsX0_checkWord) B.pre
  have hown : s.vm.findClass RX0 = some m.cls := findClass_of_methodNamed B.named
  have hlocks := B.notSynchronized
  have hl := lv_entry ([.int w]) (n := 1) (Nat.le_of_ble_eq_true rfl)
  rw [lg_entry_eq]
  generalize (lg_sl ([.int w]) ++ List.replicate (1 - (lg_sl ([.int w])).length) Slot.unset).toArray = ls at hl ⊢
  have hl : lv_has ls 1 [(0, .int w)] := hl
  refine lv_iload_n hx hb dX0_checkWord_0 rfl (lv_at hl 0 rfl) ?_
  refine k_pS (As := [.int w]) (rest := []) (c_X0_isWord l w) ⟨hx, hb, hml, hown, hts⟩ (va_cwS 1 hts gX0_checkWord_X0_isWord rfl rfl rfl (by decide +kernel) ⟨Nat.le_of_ble_eq_true rfl, Nat.le_of_ble_eq_true rfl⟩) rfl hl.1 rfl (Nat.le_of_ble_eq_true rfl) dX0_checkWord_1 ⟨Nat.le_of_ble_eq_true rfl, Nat.le_of_ble_eq_true rfl⟩ ?_
  refine lv_if_ne (tgt := 17) hx hb dX0_checkWord_4 (by decide) (fun c_4 => ?_) (fun c_4 => ?_)
  · skip
    exact W.vret hx hb hr (fun t ht hW => ⟨rfl, trivial, ht⟩) (fun q hq => absurd hq List.not_mem_nil) dX0_checkWord_17
  · skip
    rw [h] at c_4; exact absurd c_4 (by decide)
set_option maxHeartbeats 4000000 in
set_option maxRecDepth 100000 in
theorem t_X0_checkWord (l : Launch) (B0 : Nat) (g : va_G) (ct ad : Nat → Nat) (cS mS : St_) (x : Ax_) (hflags : l.stackTraces = false) (w : Int32) (h : wd_ w = false) : TX l yX0_checkWord wsX0_checkWord 6 B0 g ct ad cS mS x [.int w] EA_ := by
  refine vx_ofW (cc := cX0_checkWord) (maxL := 1) (ret := none) (by decide) rfl ?_
  intro p e s m args below meth c s₁ B hml hxt hv
  obtain ⟨rfl, hC⟩ := hv
  have hx := B.exec
  have hb := B.bytes
  have hr := B.returns
  have hts := atoms_spec (ws := wsX0_checkWord) B.pre
  have hown : s.vm.findClass RX0 = some m.cls := findClass_of_methodNamed B.named
  have hlocks := B.notSynchronized
  have hS : va_S (AA B0) s.heap s.heap [] := va_S.rf
  have hB : B0 ≤ s.heap.size := hC.1.2.2.1
  have hK0 := hC.2
  have hl := lv_entry ([.int w]) (n := 1) (Nat.le_of_ble_eq_true rfl)
  rw [lg_entry_eq]
  generalize (lg_sl ([.int w]) ++ List.replicate (1 - (lg_sl ([.int w])).length) Slot.unset).toArray = ls at hl ⊢
  have hl : lv_has ls 1 [(0, .int w)] := hl
  refine lv_iload_n hx hb dX0_checkWord_0 rfl (lv_at hl 0 rfl) ?_
  refine k_pS (As := [.int w]) (rest := []) (c_X0_isWord l w) ⟨hx, hb, hml, hown, hts⟩ (va_cwS 1 hts gX0_checkWord_X0_isWord rfl rfl rfl (by decide +kernel) ⟨Nat.le_of_ble_eq_true rfl, Nat.le_of_ble_eq_true rfl⟩) rfl hl.1 rfl (Nat.le_of_ble_eq_true rfl) dX0_checkWord_1 ⟨Nat.le_of_ble_eq_true rfl, Nat.le_of_ble_eq_true rfl⟩ ?_
  refine lv_if_ne (tgt := 17) hx hb dX0_checkWord_4 (by decide) (fun c_4 => ?_) (fun c_4 => ?_)
  · skip
    rw [h] at c_4; exact absurd rfl c_4
  · skip
    exact x_thr (E := EA_) (ik := 143) (ic := 147) (is := 145) (text := "no word") hC hS hK0 hx hb hflags hown (by decide) hts (by decide +kernel) (by decide +kernel) (by decide) (fun _ h => List.mem_cons_of_mem _ (List.mem_append_right _ h)) gb_147 go_147 (by decide +kernel) (hl.1.trans hml.symm) dX0_checkWord_7 dX0_checkWord_10 dX0_checkWord_11 dX0_checkWord_13 dX0_checkWord_16 hxt (Nat.le_of_ble_eq_true rfl) (Nat.le_of_ble_eq_true rfl) (Nat.le_of_ble_eq_true rfl) (Nat.le_of_ble_eq_true rfl) hlocks (Nat.le_of_ble_eq_true rfl) (Nat.le_of_ble_eq_true rfl)
set_option maxHeartbeats 4000000 in
set_option maxRecDepth 100000 in
theorem c_X0_checkYear (l : Launch) (B0 : Nat) (g : va_G) (ct ad : Nat → Nat) (cS mS : St_) (x : Ax_) (y : Nat) (h1 : 1 ≤ y) (h2 : y ≤ 3000) : RV l yX0_checkYear wsX0_checkYear 0 (PX B0 g ct ad cS mS x [.int (nI y)]) := by
  refine Met.ofW (cc := cX0_checkYear) (maxL := 1) (ret := none) (by decide) rfl ?_
  intro p e s m args below meth c s₁ B hml hv
  obtain ⟨rfl, hC⟩ := hv
  have hx := B.exec
  have hb := B.bytes
  have hr := B.returns
  have hts := atoms_spec (ws := wsX0_checkYear) B.pre
  have hown : s.vm.findClass RX0 = some m.cls := findClass_of_methodNamed B.named
  have hlocks := B.notSynchronized
  have hl := lv_entry ([.int (nI y)]) (n := 1) (Nat.le_of_ble_eq_true rfl)
  rw [lg_entry_eq]
  generalize (lg_sl ([.int (nI y)]) ++ List.replicate (1 - (lg_sl ([.int (nI y)])).length) Slot.unset).toArray = ls at hl ⊢
  have hl : lv_has ls 1 [(0, .int (nI y))] := hl
  refine lv_iload_n hx hb dX0_checkYear_0 rfl (lv_at hl 0 rfl) ?_
  refine lv_iconst (v := nI 1) hx hb dX0_checkYear_1 (by decide) ?_
  refine lv_icmp_lt (tgt := 12) hx hb dX0_checkYear_2 (by decide) (fun c_2 => ?_) (fun c_2 => ?_)
  · skip
    have n_2 : y < 1 := (nI_ltI (a := y) (b := 1) (by omega) (by omega)).mp c_2
    exact absurd n_2 (by omega)
  · skip
    have n_2 : ¬ y < 1 := fun q__ => c_2 ((nI_ltI (a := y) (b := 1) (by omega) (by omega)).mpr q__)
    refine lv_iload_n hx hb dX0_checkYear_5 rfl (lv_at hl 0 rfl) ?_
    refine lv_sipush (v := nI 3000) hx hb dX0_checkYear_6 (by decide) ?_
    refine lv_icmp_le (tgt := 22) hx hb dX0_checkYear_9 (by decide) (fun c_9 => ?_) (fun c_9 => ?_)
    · skip
      have n_9 : y ≤ 3000 := (nI_leI (a := y) (b := 3000) (by omega) (by omega)).mp c_9
      exact W.vret hx hb hr (fun t ht hW => ⟨rfl, trivial, ht⟩) (fun q hq => absurd hq List.not_mem_nil) dX0_checkYear_22
    · skip
      have n_9 : ¬ y ≤ 3000 := fun q__ => c_9 ((nI_leI (a := y) (b := 3000) (by omega) (by omega)).mpr q__)
      exact absurd h2 n_9
set_option maxHeartbeats 4000000 in
set_option maxRecDepth 100000 in
theorem t_X0_checkYear (l : Launch) (B0 : Nat) (g : va_G) (ct ad : Nat → Nat) (cS mS : St_) (x : Ax_) (hflags : l.stackTraces = false) (y : Int32) (h : y < nI 1 ∨ nI 3000 < y) : TX l yX0_checkYear wsX0_checkYear 6 B0 g ct ad cS mS x [.int y] EA_ := by
  refine vx_ofW (cc := cX0_checkYear) (maxL := 1) (ret := none) (by decide) rfl ?_
  intro p e s m args below meth c s₁ B hml hxt hv
  obtain ⟨rfl, hC⟩ := hv
  have hx := B.exec
  have hb := B.bytes
  have hr := B.returns
  have hts := atoms_spec (ws := wsX0_checkYear) B.pre
  have hown : s.vm.findClass RX0 = some m.cls := findClass_of_methodNamed B.named
  have hlocks := B.notSynchronized
  have hS : va_S (AA B0) s.heap s.heap [] := va_S.rf
  have hB : B0 ≤ s.heap.size := hC.1.2.2.1
  have hK0 := hC.2
  have hl := lv_entry ([.int y]) (n := 1) (Nat.le_of_ble_eq_true rfl)
  rw [lg_entry_eq]
  generalize (lg_sl ([.int y]) ++ List.replicate (1 - (lg_sl ([.int y])).length) Slot.unset).toArray = ls at hl ⊢
  have hl : lv_has ls 1 [(0, .int y)] := hl
  refine lv_iload_n hx hb dX0_checkYear_0 rfl (lv_at hl 0 rfl) ?_
  refine lv_iconst (v := nI 1) hx hb dX0_checkYear_1 (by decide) ?_
  refine lv_icmp_lt (tgt := 12) hx hb dX0_checkYear_2 (by decide) (fun c_2 => ?_) (fun c_2 => ?_)
  · skip
    exact x_thr (E := EA_) (ik := 143) (ic := 147) (is := 148) (text := "no year that can be spelled") hC hS hK0 hx hb hflags hown (by decide) hts (by decide +kernel) (by decide +kernel) (by decide) (fun _ h => List.mem_cons_of_mem _ (List.mem_append_right _ h)) gb_147 go_147 (by decide +kernel) (hl.1.trans hml.symm) dX0_checkYear_12 dX0_checkYear_15 dX0_checkYear_16 dX0_checkYear_18 dX0_checkYear_21 hxt (Nat.le_of_ble_eq_true rfl) (Nat.le_of_ble_eq_true rfl) (Nat.le_of_ble_eq_true rfl) (Nat.le_of_ble_eq_true rfl) hlocks (Nat.le_of_ble_eq_true rfl) (Nat.le_of_ble_eq_true rfl)
  · skip
    refine lv_iload_n hx hb dX0_checkYear_5 rfl (lv_at hl 0 rfl) ?_
    refine lv_sipush (v := nI 3000) hx hb dX0_checkYear_6 (by decide) ?_
    refine lv_icmp_le (tgt := 22) hx hb dX0_checkYear_9 (by decide) (fun c_9 => ?_) (fun c_9 => ?_)
    · skip
      exact h.elim (fun z => absurd z c_2) (fun z => absurd c_9 (Int32.not_le.mpr z))
    · skip
      exact x_thr (E := EA_) (ik := 143) (ic := 147) (is := 148) (text := "no year that can be spelled") hC hS hK0 hx hb hflags hown (by decide) hts (by decide +kernel) (by decide +kernel) (by decide) (fun _ h => List.mem_cons_of_mem _ (List.mem_append_right _ h)) gb_147 go_147 (by decide +kernel) (hl.1.trans hml.symm) dX0_checkYear_12 dX0_checkYear_15 dX0_checkYear_16 dX0_checkYear_18 dX0_checkYear_21 hxt (Nat.le_of_ble_eq_true rfl) (Nat.le_of_ble_eq_true rfl) (Nat.le_of_ble_eq_true rfl) (Nat.le_of_ble_eq_true rfl) hlocks (Nat.le_of_ble_eq_true rfl) (Nat.le_of_ble_eq_true rfl)
set_option maxHeartbeats 4000000 in
set_option maxRecDepth 100000 in
theorem c_X0_letter (l : Launch) (B0 : Nat) (g : va_G) (ct ad : Nat → Nat) (cS mS : St_) (x : Ax_) (k : Nat) (h1 : 1 ≤ k) (h2 : k ≤ 26) : RI l yX0_letter wsX0_letter 1 (PX B0 g ct ad cS mS x [.ref (ad 0), .int (nI k)]) (nI (vl_ (so cS) k)) := by
  refine Met.ofW (cc := cX0_letter) (maxL := 2) (ret := (some .int)) (by decide) rfl ?_
  intro p e s m args below meth c s₁ B hml hv
  obtain ⟨rfl, hC⟩ := hv
  have hx := B.exec
  have hb := B.bytes
  have hr := B.returns
  have hts := atoms_spec (ws := wsX0_letter) B.pre
  have hown : s.vm.findClass RX0 = some m.cls := findClass_of_methodNamed B.named
  have hlocks := B.notSynchronized
  have hin : ∀ w ∈ wsX00, w ∈ wsX0_letter := fun _ h => List.mem_cons_of_mem _ (List.mem_append_left _ (List.mem_append_right _ h))
  have hl := lv_entry ([.ref (ad 0), .int (nI k)]) (n := 2) (Nat.le_of_ble_eq_true rfl)
  rw [lg_entry_eq]
  generalize (lg_sl ([.ref (ad 0), .int (nI k)]) ++ List.replicate (2 - (lg_sl ([.ref (ad 0), .int (nI k)])).length) Slot.unset).toArray = ls at hl ⊢
  have hl : lv_has ls 2 [(0, .ref (ad 0)), (1, .int (nI k))] := hl
  refine lv_iload_n hx hb dX0_letter_0 rfl (lv_at hl 1 rfl) ?_
  refine lv_iconst (v := nI 1) hx hb dX0_letter_1 (by decide) ?_
  refine lv_icmp_lt (tgt := 11) hx hb dX0_letter_2 (by decide) (fun c_2 => ?_) (fun c_2 => ?_)
  · skip
    have n_2 : k < 1 := (nI_ltI (a := k) (b := 1) (by omega) (by omega)).mp c_2
    exact absurd n_2 (by omega)
  · skip
    have n_2 : ¬ k < 1 := fun q__ => c_2 ((nI_ltI (a := k) (b := 1) (by omega) (by omega)).mpr q__)
    refine lv_iload_n hx hb dX0_letter_5 rfl (lv_at hl 1 rfl) ?_
    refine lv_bipush (v := nI 26) hx hb dX0_letter_6 (by decide) ?_
    refine lv_icmp_le (tgt := 21) hx hb dX0_letter_8 (by decide) (fun c_8 => ?_) (fun c_8 => ?_)
    · skip
      have n_8 : k ≤ 26 := (nI_leI (a := k) (b := 26) (by omega) (by omega)).mp c_8
      refine lv_aload_n hx hb dX0_letter_21 rfl (lv_at hl 0 rfl) ?_
      refine lv_iload_n hx hb dX0_letter_22 rfl (lv_at hl 1 rfl) ?_
      refine k_rV (As := [.int (nI k)]) (rest := []) (c_X0_worthOfLetter l B0 g ct ad cS mS x k (by omega)) hC ⟨hx, hb, hml, hown, hts⟩ (cwV 1 hts gX0_letter_X0_worthOfLetter rfl rfl rfl (by decide +kernel) ⟨Nat.le_of_ble_eq_true rfl, Nat.le_of_ble_eq_true rfl⟩) (rc0 hC) rfl hl.1 rfl (Nat.le_of_ble_eq_true rfl) dX0_letter_23 ⟨Nat.le_of_ble_eq_true rfl, Nat.le_of_ble_eq_true rfl⟩ ?_
      exact W.iret hx hb hr (fun t ht hW => ⟨_, rfl, rfl, ht⟩) (fun q hq => absurd hq List.not_mem_nil) dX0_letter_26
    · skip
      have n_8 : ¬ k ≤ 26 := fun q__ => c_8 ((nI_leI (a := k) (b := 26) (by omega) (by omega)).mpr q__)
      exact absurd h2 n_8
set_option maxHeartbeats 4000000 in
set_option maxRecDepth 100000 in
theorem t_X0_letter (l : Launch) (B0 : Nat) (g : va_G) (ct ad : Nat → Nat) (cS mS : St_) (x : Ax_) (hflags : l.stackTraces = false) (k : Int32) (h : k < nI 1 ∨ nI 26 < k) : TX l yX0_letter wsX0_letter 7 B0 g ct ad cS mS x [.ref (ad 0), .int k] EI_ := by
  refine vx_ofW (cc := cX0_letter) (maxL := 2) (ret := (some .int)) (by decide) rfl ?_
  intro p e s m args below meth c s₁ B hml hxt hv
  obtain ⟨rfl, hC⟩ := hv
  have hx := B.exec
  have hb := B.bytes
  have hr := B.returns
  have hts := atoms_spec (ws := wsX0_letter) B.pre
  have hown : s.vm.findClass RX0 = some m.cls := findClass_of_methodNamed B.named
  have hlocks := B.notSynchronized
  have hin : ∀ w ∈ wsX00, w ∈ wsX0_letter := fun _ h => List.mem_cons_of_mem _ (List.mem_append_left _ (List.mem_append_right _ h))
  have hS : va_S (AA B0) s.heap s.heap [] := va_S.rf
  have hB : B0 ≤ s.heap.size := hC.1.2.2.1
  have hK0 := hC.2
  have hl := lv_entry ([.ref (ad 0), .int k]) (n := 2) (Nat.le_of_ble_eq_true rfl)
  rw [lg_entry_eq]
  generalize (lg_sl ([.ref (ad 0), .int k]) ++ List.replicate (2 - (lg_sl ([.ref (ad 0), .int k])).length) Slot.unset).toArray = ls at hl ⊢
  have hl : lv_has ls 2 [(0, .ref (ad 0)), (1, .int k)] := hl
  refine lv_iload_n hx hb dX0_letter_0 rfl (lv_at hl 1 rfl) ?_
  refine lv_iconst (v := nI 1) hx hb dX0_letter_1 (by decide) ?_
  refine lv_icmp_lt (tgt := 11) hx hb dX0_letter_2 (by decide) (fun c_2 => ?_) (fun c_2 => ?_)
  · skip
    exact x_thr (E := EI_) (ik := 38) (ic := 42) (is := 45) (text := "no such letter") hC hS hK0 hx hb hflags hown (by decide) hts (by decide +kernel) (by decide +kernel) (by decide) (fun _ h => List.mem_cons_of_mem _ (List.mem_append_right _ h)) gb_42 go_42 (by decide +kernel) (hl.1.trans hml.symm) dX0_letter_11 dX0_letter_14 dX0_letter_15 dX0_letter_17 dX0_letter_20 hxt (Nat.le_of_ble_eq_true rfl) (Nat.le_of_ble_eq_true rfl) (Nat.le_of_ble_eq_true rfl) (Nat.le_of_ble_eq_true rfl) hlocks (Nat.le_of_ble_eq_true rfl) (Nat.le_of_ble_eq_true rfl)
  · skip
    refine lv_iload_n hx hb dX0_letter_5 rfl (lv_at hl 1 rfl) ?_
    refine lv_bipush (v := nI 26) hx hb dX0_letter_6 (by decide) ?_
    refine lv_icmp_le (tgt := 21) hx hb dX0_letter_8 (by decide) (fun c_8 => ?_) (fun c_8 => ?_)
    · skip
      exact h.elim (fun z => absurd z c_2) (fun z => absurd c_8 (Int32.not_le.mpr z))
    · skip
      exact x_thr (E := EI_) (ik := 38) (ic := 42) (is := 45) (text := "no such letter") hC hS hK0 hx hb hflags hown (by decide) hts (by decide +kernel) (by decide +kernel) (by decide) (fun _ h => List.mem_cons_of_mem _ (List.mem_append_right _ h)) gb_42 go_42 (by decide +kernel) (hl.1.trans hml.symm) dX0_letter_11 dX0_letter_14 dX0_letter_15 dX0_letter_17 dX0_letter_20 hxt (Nat.le_of_ble_eq_true rfl) (Nat.le_of_ble_eq_true rfl) (Nat.le_of_ble_eq_true rfl) (Nat.le_of_ble_eq_true rfl) hlocks (Nat.le_of_ble_eq_true rfl) (Nat.le_of_ble_eq_true rfl)
set_option maxHeartbeats 4000000 in
set_option maxRecDepth 100000 in
theorem c_X0_value (l : Launch) (B0 : Nat) (g : va_G) (ct ad : Nat → Nat) (cS mS : St_) (x : Ax_) (w : Nat) (hw : w < 387420489) (h : wd_ (nI w) = true) : RI l yX0_value wsX0_value 2 (PX B0 g ct ad cS mS x [.ref (ad 0), .int (nI w)]) (nI (ws0 (so cS) w)) := by
  refine Met.ofW (cc := cX0_value) (maxL := 2) (ret := (some .int)) (by decide) rfl ?_
  intro p e s m args below meth c s₁ B hml hv
  obtain ⟨rfl, hC⟩ := hv
  have hx := B.exec
  have hb := B.bytes
  have hr := B.returns
  have hts := atoms_spec (ws := wsX0_value) B.pre
  have hown : s.vm.findClass RX0 = some m.cls := findClass_of_methodNamed B.named
  have hlocks := B.notSynchronized
  have hin : ∀ w ∈ wsX00, w ∈ wsX0_value := fun _ h => List.mem_cons_of_mem _ (List.mem_append_left _ (List.mem_append_right _ h))
  have hl := lv_entry ([.ref (ad 0), .int (nI w)]) (n := 2) (Nat.le_of_ble_eq_true rfl)
  rw [lg_entry_eq]
  generalize (lg_sl ([.ref (ad 0), .int (nI w)]) ++ List.replicate (2 - (lg_sl ([.ref (ad 0), .int (nI w)])).length) Slot.unset).toArray = ls at hl ⊢
  have hl : lv_has ls 2 [(0, .ref (ad 0)), (1, .int (nI w))] := hl
  refine lv_iload_n hx hb dX0_value_0 rfl (lv_at hl 1 rfl) ?_
  refine k_vS (As := [.int (nI w)]) (rest := []) (c_X0_checkWord l B0 g ct ad cS mS x (nI w) h) hC ⟨hx, hb, hml, hown, hts⟩ (va_cwS 1 hts gX0_value_X0_checkWord rfl rfl rfl (by decide +kernel) ⟨Nat.le_of_ble_eq_true rfl, Nat.le_of_ble_eq_true rfl⟩) rfl hl.1 rfl (Nat.le_of_ble_eq_true rfl) dX0_value_1 ⟨Nat.le_of_ble_eq_true rfl, Nat.le_of_ble_eq_true rfl⟩ ?_
  refine lv_aload_n hx hb dX0_value_4 rfl (lv_at hl 0 rfl) ?_
  refine lv_iload_n hx hb dX0_value_5 rfl (lv_at hl 1 rfl) ?_
  refine lv_bipush (v := nI 63) hx hb dX0_value_6 (by decide) ?_
  refine k_rV (As := [.int (nI w), .int (nI 63)]) (rest := []) (c_X0_worthOfPlaces l B0 g ct ad cS mS x w 63 (by omega) (by omega)) hC ⟨hx, hb, hml, hown, hts⟩ (cwV 2 hts gX0_value_X0_worthOfPlaces rfl rfl rfl (by decide +kernel) ⟨Nat.le_of_ble_eq_true rfl, Nat.le_of_ble_eq_true rfl⟩) (rc0 hC) rfl hl.1 rfl (Nat.le_of_ble_eq_true rfl) dX0_value_8 ⟨Nat.le_of_ble_eq_true rfl, Nat.le_of_ble_eq_true rfl⟩ ?_
  exact W.iret hx hb hr (fun t ht hW => ⟨_, rfl, (congrArg nI (wm_63 hw)), ht⟩) (fun q hq => absurd hq List.not_mem_nil) dX0_value_11
set_option maxHeartbeats 4000000 in
set_option maxRecDepth 100000 in
theorem t_X0_value (l : Launch) (B0 : Nat) (g : va_G) (ct ad : Nat → Nat) (cS mS : St_) (x : Ax_) (hflags : l.stackTraces = false) (w : Int32) (h : wd_ w = false) : TX l yX0_value wsX0_value 7 B0 g ct ad cS mS x [.ref (ad 0), .int w] EA_ := by
  refine vx_ofW (cc := cX0_value) (maxL := 2) (ret := (some .int)) (by decide) rfl ?_
  intro p e s m args below meth c s₁ B hml hxt hv
  obtain ⟨rfl, hC⟩ := hv
  have hx := B.exec
  have hb := B.bytes
  have hr := B.returns
  have hts := atoms_spec (ws := wsX0_value) B.pre
  have hown : s.vm.findClass RX0 = some m.cls := findClass_of_methodNamed B.named
  have hlocks := B.notSynchronized
  have hin : ∀ w ∈ wsX00, w ∈ wsX0_value := fun _ h => List.mem_cons_of_mem _ (List.mem_append_left _ (List.mem_append_right _ h))
  have hS : va_S (AA B0) s.heap s.heap [] := va_S.rf
  have hB : B0 ≤ s.heap.size := hC.1.2.2.1
  have hK0 := hC.2
  have hl := lv_entry ([.ref (ad 0), .int w]) (n := 2) (Nat.le_of_ble_eq_true rfl)
  rw [lg_entry_eq]
  generalize (lg_sl ([.ref (ad 0), .int w]) ++ List.replicate (2 - (lg_sl ([.ref (ad 0), .int w])).length) Slot.unset).toArray = ls at hl ⊢
  have hl : lv_has ls 2 [(0, .ref (ad 0)), (1, .int w)] := hl
  refine lv_iload_n hx hb dX0_value_0 rfl (lv_at hl 1 rfl) ?_
  refine k_tS (As := [.int w]) (rest := []) (t_X0_checkWord l B0 g ct ad cS mS x hflags w h) hC hB hS ⟨hx, hb, hml, hown, hts⟩ (va_cwS 1 hts gX0_value_X0_checkWord rfl rfl rfl (by decide +kernel) ⟨Nat.le_of_ble_eq_true rfl, Nat.le_of_ble_eq_true rfl⟩) rfl hl.1 rfl (Nat.le_of_ble_eq_true rfl) dX0_value_1 ⟨Nat.le_of_ble_eq_true rfl, Nat.le_of_ble_eq_true rfl⟩ (fun ce_ q9_ H locs hC hS hce_ hcv_ hcl_ => ?_)
  exact vx_out (fun x hx_ => (hxt x hx_).elim) hlocks hce_ hcv_ hcl_ (fun t ht hA => ⟨(), trivial, ⟨rfl, by rw [ht]; exact hC.1⟩, hS.F ht⟩) hS.2.2 (Nat.le_of_ble_eq_true rfl) (Nat.le_of_ble_eq_true rfl)
set_option maxHeartbeats 4000000 in
set_option maxRecDepth 100000 in
theorem c_X0_alike (l : Launch) (B0 : Nat) (g : va_G) (ct ad : Nat → Nat) (cS mS : St_) (x : Ax_) (a b : Nat) (ha : a < 387420489) (hb_ : b < 387420489) (h : wd_ (nI a) = true) (h2 : wd_ (nI b) = true) : RI l yX0_alike wsX0_alike 2 (PX B0 g ct ad cS mS x [.ref (ad 0), .int (nI a), .int (nI b)]) (b2_ (ak_ a b 26 1)) := by
  refine Met.ofW (cc := cX0_alike) (maxL := 4) (ret := (some .boolean)) (by decide) rfl ?_
  intro p e s m args below meth c s₁ B hml hv
  obtain ⟨rfl, hC⟩ := hv
  have hx := B.exec
  have hb := B.bytes
  have hr := B.returns
  have hts := atoms_spec (ws := wsX0_alike) B.pre
  have hown : s.vm.findClass RX0 = some m.cls := findClass_of_methodNamed B.named
  have hlocks := B.notSynchronized
  have hl := lv_entry ([.ref (ad 0), .int (nI a), .int (nI b)]) (n := 4) (Nat.le_of_ble_eq_true rfl)
  rw [lg_entry_eq]
  generalize (lg_sl ([.ref (ad 0), .int (nI a), .int (nI b)]) ++ List.replicate (4 - (lg_sl ([.ref (ad 0), .int (nI a), .int (nI b)])).length) Slot.unset).toArray = ls at hl ⊢
  have hl : lv_has ls 4 [(0, .ref (ad 0)), (1, .int (nI a)), (2, .int (nI b))] := hl
  refine lv_iload_n hx hb dX0_alike_0 rfl (lv_at hl 1 rfl) ?_
  refine k_vS (As := [.int (nI a)]) (rest := []) (c_X0_checkWord l B0 g ct ad cS mS x (nI a) h) hC ⟨hx, hb, hml, hown, hts⟩ (va_cwS 1 hts gX0_alike_X0_checkWord rfl rfl rfl (by decide +kernel) ⟨Nat.le_of_ble_eq_true rfl, Nat.le_of_ble_eq_true rfl⟩) rfl hl.1 rfl (Nat.le_of_ble_eq_true rfl) dX0_alike_1 ⟨Nat.le_of_ble_eq_true rfl, Nat.le_of_ble_eq_true rfl⟩ ?_
  refine lv_iload_n hx hb dX0_alike_4 rfl (lv_at hl 2 rfl) ?_
  refine k_vS (As := [.int (nI b)]) (rest := []) (c_X0_checkWord l B0 g ct ad cS mS x (nI b) h2) hC ⟨hx, hb, hml, hown, hts⟩ (va_cwS 1 hts gX0_alike_X0_checkWord rfl rfl rfl (by decide +kernel) ⟨Nat.le_of_ble_eq_true rfl, Nat.le_of_ble_eq_true rfl⟩) rfl hl.1 rfl (Nat.le_of_ble_eq_true rfl) dX0_alike_5 ⟨Nat.le_of_ble_eq_true rfl, Nat.le_of_ble_eq_true rfl⟩ ?_
  refine lv_iconst (v := nI 1) hx hb dX0_alike_8 (by decide) ?_
  refine lv_istore_n (lv' := [(3, .int (nI 1)), (0, .ref (ad 0)), (1, .int (nI a)), (2, .int (nI b))]) hx hb dX0_alike_9 rfl hl (by decide) rfl (fun ls hl => ?_)
  have LP_10 : ∀ (n_ : Nat) (k : Nat), 27 - k < n_ → (ak_ a b (27 - k) k = ak_ a b 26 1) → (1 ≤ k ∧ k ≤ 27) → ∀ ls : Array Slot, lv_has ls 4 [(3, .int (nI k)), (0, .ref (ad 0)), (1, .int (nI a)), (2, .int (nI b))] → W p l e (headSpec wsX0_alike (rm_ 2 0 0)).room s m ([.ref (ad 0), .int (nI a), .int (nI b)] : List Value).toArray below meth c s.heap [] 0 0 (MQ below (vp_Si (fun r => r = b2_ (ak_ a b 26 1))) ([.ref (ad 0), .int (nI a), .int (nI b)] : List Value).toArray s 0 0 (fun _ => False)) (F0 m 10 ls []) := by
    intro n_
    induction n_ with
    | zero => intro k hm; exact absurd hm (Nat.not_lt_zero _)
    | succ n_ ih_10 =>
      intro k hm h1 hk ls hl
      have b1 := oc_b a k
      have b2 := oc_b b k
      refine lv_iload_n hx hb dX0_alike_10 rfl (lv_at hl 0 rfl) ?_
      refine lv_bipush (v := nI 26) hx hb dX0_alike_11 (by decide) ?_
      refine lv_icmp_gt (tgt := 37) hx hb dX0_alike_13 (by decide) (fun c_13 => ?_) (fun c_13 => ?_)
      · skip
        have n_13 : 26 < k := (nI_ltI (a := 26) (b := k) (by omega) (by omega)).mp c_13
        have hE : ak_ a b 26 1 = true := by rw [← h1, show 27 - k = 0 by omega]; rfl
        refine lv_iconst (v := nI 1) hx hb dX0_alike_37 (by decide) ?_
        exact W.zret hx hb hr rfl (fun t ht hW => ⟨_, rfl, (by show nI 1 = b2_ (ak_ a b 26 1); rw [hE]; rfl), ht⟩) (fun q hq => absurd hq List.not_mem_nil) dX0_alike_38
      · skip
        have n_13 : ¬ 26 < k := fun q__ => c_13 ((nI_ltI (a := 26) (b := k) (by omega) (by omega)).mpr q__)
        refine lv_iload_n hx hb dX0_alike_16 rfl (lv_at hl 2 rfl) ?_
        refine lv_iload_n hx hb dX0_alike_17 rfl (lv_at hl 0 rfl) ?_
        refine k_pS (As := [.int (nI a), .int (nI k)]) (rest := []) (c_X0_timesIn l a k (by omega) (by omega)) ⟨hx, hb, hml, hown, hts⟩ (va_cwS 2 hts gX0_alike_X0_timesIn rfl rfl rfl (by decide +kernel) ⟨Nat.le_of_ble_eq_true rfl, Nat.le_of_ble_eq_true rfl⟩) rfl hl.1 rfl (Nat.le_of_ble_eq_true rfl) dX0_alike_18 ⟨Nat.le_of_ble_eq_true rfl, Nat.le_of_ble_eq_true rfl⟩ ?_
        refine lv_iload_n hx hb dX0_alike_21 rfl (lv_at hl 3 rfl) ?_
        refine lv_iload_n hx hb dX0_alike_22 rfl (lv_at hl 0 rfl) ?_
        refine k_pS (As := [.int (nI b), .int (nI k)]) (rest := [.int (nI (oc_ a k))]) (c_X0_timesIn l b k (by omega) (by omega)) ⟨hx, hb, hml, hown, hts⟩ (va_cwS 2 hts gX0_alike_X0_timesIn rfl rfl rfl (by decide +kernel) ⟨Nat.le_of_ble_eq_true rfl, Nat.le_of_ble_eq_true rfl⟩) rfl hl.1 rfl (Nat.le_of_ble_eq_true rfl) dX0_alike_23 ⟨Nat.le_of_ble_eq_true rfl, Nat.le_of_ble_eq_true rfl⟩ ?_
        refine lv_icmp_eq (tgt := 31) hx hb dX0_alike_26 (by decide) (fun c_26 => ?_) (fun c_26 => ?_)
        · skip
          have n_26 : oc_ a k = oc_ b k := (nI_eq (a := oc_ a k) (b := oc_ b k) (by omega) (by omega)).mp c_26
          refine lv_iinc (v := nI (k + 1)) (lv' := [(3, .int (nI (k + 1))), (0, .ref (ad 0)), (1, .int (nI a)), (2, .int (nI b))]) hx hb dX0_alike_31 hl (k := 0) rfl (nI_1 _) (by decide) rfl (fun ls hl => ?_)
          refine lv_goto (tgt := 10) hx hb dX0_alike_34 (by decide) ?_
          exact ih_10 (k + 1) (by omega) (by rw [← h1, show 27 - k = (26 - k) + 1 by omega, ak_e n_26, show 27 - (k + 1) = 26 - k by omega]) (by omega) ls (lv_sub hl [0, 1, 2, 3] rfl)
        · skip
          have n_26 : ¬ oc_ a k = oc_ b k := fun q__ => c_26 ((nI_eq (a := oc_ a k) (b := oc_ b k) (by omega) (by omega)).mpr q__)
          have hE : ak_ a b 26 1 = false := by rw [← h1, show 27 - k = (26 - k) + 1 by omega, ak_n n_26]
          refine lv_iconst (v := nI 0) hx hb dX0_alike_29 (by decide) ?_
          exact W.zret hx hb hr rfl (fun t ht hW => ⟨_, rfl, (by show nI 0 = b2_ (ak_ a b 26 1); rw [hE]; rfl), ht⟩) (fun q hq => absurd hq List.not_mem_nil) dX0_alike_30
  exact LP_10 _ 1 (Nat.lt_succ_self _) rfl (by omega) ls (lv_sub hl [0, 1, 2, 3] rfl)
set_option maxHeartbeats 4000000 in
set_option maxRecDepth 100000 in
theorem t_X0_alike_1 (l : Launch) (B0 : Nat) (g : va_G) (ct ad : Nat → Nat) (cS mS : St_) (x : Ax_) (hflags : l.stackTraces = false) (a b : Int32) (h : wd_ a = false) : TX l yX0_alike wsX0_alike 7 B0 g ct ad cS mS x [.ref (ad 0), .int a, .int b] EA_ := by
  refine vx_ofW (cc := cX0_alike) (maxL := 4) (ret := (some .boolean)) (by decide) rfl ?_
  intro p e s m args below meth c s₁ B hml hxt hv
  obtain ⟨rfl, hC⟩ := hv
  have hx := B.exec
  have hb := B.bytes
  have hr := B.returns
  have hts := atoms_spec (ws := wsX0_alike) B.pre
  have hown : s.vm.findClass RX0 = some m.cls := findClass_of_methodNamed B.named
  have hlocks := B.notSynchronized
  have hS : va_S (AA B0) s.heap s.heap [] := va_S.rf
  have hB : B0 ≤ s.heap.size := hC.1.2.2.1
  have hK0 := hC.2
  have hl := lv_entry ([.ref (ad 0), .int a, .int b]) (n := 4) (Nat.le_of_ble_eq_true rfl)
  rw [lg_entry_eq]
  generalize (lg_sl ([.ref (ad 0), .int a, .int b]) ++ List.replicate (4 - (lg_sl ([.ref (ad 0), .int a, .int b])).length) Slot.unset).toArray = ls at hl ⊢
  have hl : lv_has ls 4 [(0, .ref (ad 0)), (1, .int a), (2, .int b)] := hl
  refine lv_iload_n hx hb dX0_alike_0 rfl (lv_at hl 1 rfl) ?_
  refine k_tS (As := [.int a]) (rest := []) (t_X0_checkWord l B0 g ct ad cS mS x hflags a h) hC hB hS ⟨hx, hb, hml, hown, hts⟩ (va_cwS 1 hts gX0_alike_X0_checkWord rfl rfl rfl (by decide +kernel) ⟨Nat.le_of_ble_eq_true rfl, Nat.le_of_ble_eq_true rfl⟩) rfl hl.1 rfl (Nat.le_of_ble_eq_true rfl) dX0_alike_1 ⟨Nat.le_of_ble_eq_true rfl, Nat.le_of_ble_eq_true rfl⟩ (fun ce_ q9_ H locs hC hS hce_ hcv_ hcl_ => ?_)
  exact vx_out (fun x hx_ => (hxt x hx_).elim) hlocks hce_ hcv_ hcl_ (fun t ht hA => ⟨(), trivial, ⟨rfl, by rw [ht]; exact hC.1⟩, hS.F ht⟩) hS.2.2 (Nat.le_of_ble_eq_true rfl) (Nat.le_of_ble_eq_true rfl)
set_option maxHeartbeats 4000000 in
set_option maxRecDepth 100000 in
theorem t_X0_alike_2 (l : Launch) (B0 : Nat) (g : va_G) (ct ad : Nat → Nat) (cS mS : St_) (x : Ax_) (hflags : l.stackTraces = false) (a b : Int32) (h : wd_ a = true) (h2 : wd_ b = false) : TX l yX0_alike wsX0_alike 7 B0 g ct ad cS mS x [.ref (ad 0), .int a, .int b] EA_ := by
  refine vx_ofW (cc := cX0_alike) (maxL := 4) (ret := (some .boolean)) (by decide) rfl ?_
  intro p e s m args below meth c s₁ B hml hxt hv
  obtain ⟨rfl, hC⟩ := hv
  have hx := B.exec
  have hb := B.bytes
  have hr := B.returns
  have hts := atoms_spec (ws := wsX0_alike) B.pre
  have hown : s.vm.findClass RX0 = some m.cls := findClass_of_methodNamed B.named
  have hlocks := B.notSynchronized
  have hS : va_S (AA B0) s.heap s.heap [] := va_S.rf
  have hB : B0 ≤ s.heap.size := hC.1.2.2.1
  have hK0 := hC.2
  have hl := lv_entry ([.ref (ad 0), .int a, .int b]) (n := 4) (Nat.le_of_ble_eq_true rfl)
  rw [lg_entry_eq]
  generalize (lg_sl ([.ref (ad 0), .int a, .int b]) ++ List.replicate (4 - (lg_sl ([.ref (ad 0), .int a, .int b])).length) Slot.unset).toArray = ls at hl ⊢
  have hl : lv_has ls 4 [(0, .ref (ad 0)), (1, .int a), (2, .int b)] := hl
  refine lv_iload_n hx hb dX0_alike_0 rfl (lv_at hl 1 rfl) ?_
  refine k_vS (As := [.int a]) (rest := []) (c_X0_checkWord l B0 g ct ad cS mS x a h) hC ⟨hx, hb, hml, hown, hts⟩ (va_cwS 1 hts gX0_alike_X0_checkWord rfl rfl rfl (by decide +kernel) ⟨Nat.le_of_ble_eq_true rfl, Nat.le_of_ble_eq_true rfl⟩) rfl hl.1 rfl (Nat.le_of_ble_eq_true rfl) dX0_alike_1 ⟨Nat.le_of_ble_eq_true rfl, Nat.le_of_ble_eq_true rfl⟩ ?_
  refine lv_iload_n hx hb dX0_alike_4 rfl (lv_at hl 2 rfl) ?_
  refine k_tS (As := [.int b]) (rest := []) (t_X0_checkWord l B0 g ct ad cS mS x hflags b h2) hC hB hS ⟨hx, hb, hml, hown, hts⟩ (va_cwS 1 hts gX0_alike_X0_checkWord rfl rfl rfl (by decide +kernel) ⟨Nat.le_of_ble_eq_true rfl, Nat.le_of_ble_eq_true rfl⟩) rfl hl.1 rfl (Nat.le_of_ble_eq_true rfl) dX0_alike_5 ⟨Nat.le_of_ble_eq_true rfl, Nat.le_of_ble_eq_true rfl⟩ (fun ce_ q9_ H locs hC hS hce_ hcv_ hcl_ => ?_)
  exact vx_out (fun x hx_ => (hxt x hx_).elim) hlocks hce_ hcv_ hcl_ (fun t ht hA => ⟨(), trivial, ⟨rfl, by rw [ht]; exact hC.1⟩, hS.F ht⟩) hS.2.2 (Nat.le_of_ble_eq_true rfl) (Nat.le_of_ble_eq_true rfl)
set_option maxHeartbeats 4000000 in
set_option maxRecDepth 100000 in
theorem c_X0_word (l : Launch) (B0 : Nat) (g : va_G) (ct ad : Nat → Nat) (cS mS : St_) (x : Ax_) (i w q : Nat) (hi : i < sn cS) (hw : w < ss cS i) (hq : q < 5) : RI l yX0_word wsX0_word 3 (PX B0 g ct ad cS mS x [.ref (ad 0), .int (nI i), .int (nI w), .int (nI q)]) (nI (wt_ cS i w q)) := by
  refine Met.ofW (cc := cX0_word) (maxL := 4) (ret := (some .int)) (by decide) rfl ?_
  intro p e s m args below meth c s₁ B hml hv
  obtain ⟨rfl, hC⟩ := hv
  have hx := B.exec
  have hb := B.bytes
  have hr := B.returns
  have hts := atoms_spec (ws := wsX0_word) B.pre
  have hown : s.vm.findClass RX0 = some m.cls := findClass_of_methodNamed B.named
  have hlocks := B.notSynchronized
  have hin : ∀ w ∈ wsX00, w ∈ wsX0_word := fun _ h => List.mem_cons_of_mem _ (List.mem_append_left _ (List.mem_append_right _ h))
  have hI := hC.1.2.2.2.1
  have hn := hI.2.1
  have hz := hI.2.2.1 i
  have hl := lv_entry ([.ref (ad 0), .int (nI i), .int (nI w), .int (nI q)]) (n := 4) (Nat.le_of_ble_eq_true rfl)
  rw [lg_entry_eq]
  generalize (lg_sl ([.ref (ad 0), .int (nI i), .int (nI w), .int (nI q)]) ++ List.replicate (4 - (lg_sl ([.ref (ad 0), .int (nI i), .int (nI w), .int (nI q)])).length) Slot.unset).toArray = ls at hl ⊢
  have hl : lv_has ls 4 [(0, .ref (ad 0)), (1, .int (nI i)), (2, .int (nI w)), (3, .int (nI q))] := hl
  refine lv_aload_n hx hb dX0_word_0 rfl (lv_at hl 0 rfl) ?_
  refine lv_iload_n hx hb dX0_word_1 rfl (lv_at hl 1 rfl) ?_
  refine lv_iload_n hx hb dX0_word_2 rfl (lv_at hl 2 rfl) ?_
  refine k_vV (As := [.int (nI i), .int (nI w)]) (rest := []) (c_X0_checkWordOfLine l B0 g ct ad cS mS x i w (by omega) (by omega)) hC ⟨hx, hb, hml, hown, hts⟩ (cwV 2 hts gX0_word_X0_checkWordOfLine rfl rfl rfl (by decide +kernel) ⟨Nat.le_of_ble_eq_true rfl, Nat.le_of_ble_eq_true rfl⟩) (rc0 hC) rfl hl.1 rfl (Nat.le_of_ble_eq_true rfl) dX0_word_3 ⟨Nat.le_of_ble_eq_true rfl, Nat.le_of_ble_eq_true rfl⟩ ?_
  refine lv_iload_n hx hb dX0_word_6 rfl (lv_at hl 3 rfl) ?_
  refine lv_iconst (v := nI 5) hx hb dX0_word_7 (by decide) ?_
  refine k_vS (As := [.int (nI q), .int (nI 5)]) (rest := []) (c_X0_checkWhat l B0 g ct ad cS mS x q 5 (by omega) (by omega)) hC ⟨hx, hb, hml, hown, hts⟩ (va_cwS 2 hts gX0_word_X0_checkWhat rfl rfl rfl (by decide +kernel) ⟨Nat.le_of_ble_eq_true rfl, Nat.le_of_ble_eq_true rfl⟩) rfl hl.1 rfl (Nat.le_of_ble_eq_true rfl) dX0_word_8 ⟨Nat.le_of_ble_eq_true rfl, Nat.le_of_ble_eq_true rfl⟩ ?_
  refine lv_aload_n hx hb dX0_word_11 rfl (lv_at hl 0 rfl) ?_
  refine lv_iload_n hx hb dX0_word_12 rfl (lv_at hl 1 rfl) ?_
  refine lv_iload_n hx hb dX0_word_13 rfl (lv_at hl 2 rfl) ?_
  refine lv_iload_n hx hb dX0_word_14 rfl (lv_at hl 3 rfl) ?_
  refine k_rV (As := [.int (nI i), .int (nI w), .int (nI q)]) (rest := []) (c_X0_figureOfWord l B0 g ct ad cS mS x i w q (by omega) (by omega) (by omega) (fun _ => hI.2.2.2.2.2 i w hw)) hC ⟨hx, hb, hml, hown, hts⟩ (cwV 3 hts gX0_word_X0_figureOfWord rfl rfl rfl (by decide +kernel) ⟨Nat.le_of_ble_eq_true rfl, Nat.le_of_ble_eq_true rfl⟩) (rc0 hC) rfl hl.1 rfl (Nat.le_of_ble_eq_true rfl) dX0_word_15 ⟨Nat.le_of_ble_eq_true rfl, Nat.le_of_ble_eq_true rfl⟩ ?_
  exact W.iret hx hb hr (fun t ht hW => ⟨_, rfl, rfl, ht⟩) (fun q hq => absurd hq List.not_mem_nil) dX0_word_18
set_option maxHeartbeats 4000000 in
set_option maxRecDepth 100000 in
theorem t_X0_word_1 (l : Launch) (B0 : Nat) (g : va_G) (ct ad : Nat → Nat) (cS mS : St_) (x : Ax_) (hflags : l.stackTraces = false) (li : Int32) (h : li < 0 ∨ nI (sn cS) ≤ li) (wi q : Int32) : TX l yX0_word wsX0_word 8 B0 g ct ad cS mS x [.ref (ad 0), .int li, .int wi, .int q] EI_ := by
  refine vx_ofW (cc := cX0_word) (maxL := 4) (ret := (some .int)) (by decide) rfl ?_
  intro p e s m args below meth c s₁ B hml hxt hv
  obtain ⟨rfl, hC⟩ := hv
  have hx := B.exec
  have hb := B.bytes
  have hr := B.returns
  have hts := atoms_spec (ws := wsX0_word) B.pre
  have hown : s.vm.findClass RX0 = some m.cls := findClass_of_methodNamed B.named
  have hlocks := B.notSynchronized
  have hin : ∀ w ∈ wsX00, w ∈ wsX0_word := fun _ h => List.mem_cons_of_mem _ (List.mem_append_left _ (List.mem_append_right _ h))
  have hS : va_S (AA B0) s.heap s.heap [] := va_S.rf
  have hB : B0 ≤ s.heap.size := hC.1.2.2.1
  have hK0 := hC.2
  have hl := lv_entry ([.ref (ad 0), .int li, .int wi, .int q]) (n := 4) (Nat.le_of_ble_eq_true rfl)
  rw [lg_entry_eq]
  generalize (lg_sl ([.ref (ad 0), .int li, .int wi, .int q]) ++ List.replicate (4 - (lg_sl ([.ref (ad 0), .int li, .int wi, .int q])).length) Slot.unset).toArray = ls at hl ⊢
  have hl : lv_has ls 4 [(0, .ref (ad 0)), (1, .int li), (2, .int wi), (3, .int q)] := hl
  refine lv_aload_n hx hb dX0_word_0 rfl (lv_at hl 0 rfl) ?_
  refine lv_iload_n hx hb dX0_word_1 rfl (lv_at hl 1 rfl) ?_
  refine lv_iload_n hx hb dX0_word_2 rfl (lv_at hl 2 rfl) ?_
  refine k_tV (As := [.int li, .int wi]) (rest := []) (t_X0_checkWordOfLine_1 l B0 g ct ad cS mS x hflags li h wi) hC hB hS ⟨hx, hb, hml, hown, hts⟩ (cwV 2 hts gX0_word_X0_checkWordOfLine rfl rfl rfl (by decide +kernel) ⟨Nat.le_of_ble_eq_true rfl, Nat.le_of_ble_eq_true rfl⟩) (rc0 hC) rfl hl.1 rfl (Nat.le_of_ble_eq_true rfl) dX0_word_3 ⟨Nat.le_of_ble_eq_true rfl, Nat.le_of_ble_eq_true rfl⟩ (fun ce_ q9_ H locs hC hS hce_ hcv_ hcl_ => ?_)
  exact vx_out (fun x hx_ => (hxt x hx_).elim) hlocks hce_ hcv_ hcl_ (fun t ht hA => ⟨(), trivial, ⟨rfl, by rw [ht]; exact hC.1⟩, hS.F ht⟩) hS.2.2 (Nat.le_of_ble_eq_true rfl) (Nat.le_of_ble_eq_true rfl)
set_option maxHeartbeats 4000000 in
set_option maxRecDepth 100000 in
theorem t_X0_word_2 (l : Launch) (B0 : Nat) (g : va_G) (ct ad : Nat → Nat) (cS mS : St_) (x : Ax_) (hflags : l.stackTraces = false) (i : Nat) (hi : i < sn cS) (wi q : Int32) (h : wi < 0 ∨ nI (ss cS i) ≤ wi) : TX l yX0_word wsX0_word 8 B0 g ct ad cS mS x [.ref (ad 0), .int (nI i), .int wi, .int q] EI_ := by
  refine vx_ofW (cc := cX0_word) (maxL := 4) (ret := (some .int)) (by decide) rfl ?_
  intro p e s m args below meth c s₁ B hml hxt hv
  obtain ⟨rfl, hC⟩ := hv
  have hx := B.exec
  have hb := B.bytes
  have hr := B.returns
  have hts := atoms_spec (ws := wsX0_word) B.pre
  have hown : s.vm.findClass RX0 = some m.cls := findClass_of_methodNamed B.named
  have hlocks := B.notSynchronized
  have hin : ∀ w ∈ wsX00, w ∈ wsX0_word := fun _ h => List.mem_cons_of_mem _ (List.mem_append_left _ (List.mem_append_right _ h))
  have hS : va_S (AA B0) s.heap s.heap [] := va_S.rf
  have hB : B0 ≤ s.heap.size := hC.1.2.2.1
  have hK0 := hC.2
  have hl := lv_entry ([.ref (ad 0), .int (nI i), .int wi, .int q]) (n := 4) (Nat.le_of_ble_eq_true rfl)
  rw [lg_entry_eq]
  generalize (lg_sl ([.ref (ad 0), .int (nI i), .int wi, .int q]) ++ List.replicate (4 - (lg_sl ([.ref (ad 0), .int (nI i), .int wi, .int q])).length) Slot.unset).toArray = ls at hl ⊢
  have hl : lv_has ls 4 [(0, .ref (ad 0)), (1, .int (nI i)), (2, .int wi), (3, .int q)] := hl
  refine lv_aload_n hx hb dX0_word_0 rfl (lv_at hl 0 rfl) ?_
  refine lv_iload_n hx hb dX0_word_1 rfl (lv_at hl 1 rfl) ?_
  refine lv_iload_n hx hb dX0_word_2 rfl (lv_at hl 2 rfl) ?_
  refine k_tV (As := [.int (nI i), .int wi]) (rest := []) (t_X0_checkWordOfLine_2 l B0 g ct ad cS mS x hflags i hi wi h) hC hB hS ⟨hx, hb, hml, hown, hts⟩ (cwV 2 hts gX0_word_X0_checkWordOfLine rfl rfl rfl (by decide +kernel) ⟨Nat.le_of_ble_eq_true rfl, Nat.le_of_ble_eq_true rfl⟩) (rc0 hC) rfl hl.1 rfl (Nat.le_of_ble_eq_true rfl) dX0_word_3 ⟨Nat.le_of_ble_eq_true rfl, Nat.le_of_ble_eq_true rfl⟩ (fun ce_ q9_ H locs hC hS hce_ hcv_ hcl_ => ?_)
  exact vx_out (fun x hx_ => (hxt x hx_).elim) hlocks hce_ hcv_ hcl_ (fun t ht hA => ⟨(), trivial, ⟨rfl, by rw [ht]; exact hC.1⟩, hS.F ht⟩) hS.2.2 (Nat.le_of_ble_eq_true rfl) (Nat.le_of_ble_eq_true rfl)
set_option maxHeartbeats 4000000 in
set_option maxRecDepth 100000 in
theorem t_X0_word_3 (l : Launch) (B0 : Nat) (g : va_G) (ct ad : Nat → Nat) (cS mS : St_) (x : Ax_) (hflags : l.stackTraces = false) (i w : Nat) (hi : i < sn cS) (hw : w < ss cS i) (q : Int32) (h : q < 0 ∨ nI 5 ≤ q) : TX l yX0_word wsX0_word 8 B0 g ct ad cS mS x [.ref (ad 0), .int (nI i), .int (nI w), .int q] EI_ := by
  refine vx_ofW (cc := cX0_word) (maxL := 4) (ret := (some .int)) (by decide) rfl ?_
  intro p e s m args below meth c s₁ B hml hxt hv
  obtain ⟨rfl, hC⟩ := hv
  have hx := B.exec
  have hb := B.bytes
  have hr := B.returns
  have hts := atoms_spec (ws := wsX0_word) B.pre
  have hown : s.vm.findClass RX0 = some m.cls := findClass_of_methodNamed B.named
  have hlocks := B.notSynchronized
  have hin : ∀ w ∈ wsX00, w ∈ wsX0_word := fun _ h => List.mem_cons_of_mem _ (List.mem_append_left _ (List.mem_append_right _ h))
  have hS : va_S (AA B0) s.heap s.heap [] := va_S.rf
  have hB : B0 ≤ s.heap.size := hC.1.2.2.1
  have hK0 := hC.2
  have hl := lv_entry ([.ref (ad 0), .int (nI i), .int (nI w), .int q]) (n := 4) (Nat.le_of_ble_eq_true rfl)
  rw [lg_entry_eq]
  generalize (lg_sl ([.ref (ad 0), .int (nI i), .int (nI w), .int q]) ++ List.replicate (4 - (lg_sl ([.ref (ad 0), .int (nI i), .int (nI w), .int q])).length) Slot.unset).toArray = ls at hl ⊢
  have hl : lv_has ls 4 [(0, .ref (ad 0)), (1, .int (nI i)), (2, .int (nI w)), (3, .int q)] := hl
  refine lv_aload_n hx hb dX0_word_0 rfl (lv_at hl 0 rfl) ?_
  refine lv_iload_n hx hb dX0_word_1 rfl (lv_at hl 1 rfl) ?_
  refine lv_iload_n hx hb dX0_word_2 rfl (lv_at hl 2 rfl) ?_
  refine k_vV (As := [.int (nI i), .int (nI w)]) (rest := []) (c_X0_checkWordOfLine l B0 g ct ad cS mS x i w (by omega) (by omega)) hC ⟨hx, hb, hml, hown, hts⟩ (cwV 2 hts gX0_word_X0_checkWordOfLine rfl rfl rfl (by decide +kernel) ⟨Nat.le_of_ble_eq_true rfl, Nat.le_of_ble_eq_true rfl⟩) (rc0 hC) rfl hl.1 rfl (Nat.le_of_ble_eq_true rfl) dX0_word_3 ⟨Nat.le_of_ble_eq_true rfl, Nat.le_of_ble_eq_true rfl⟩ ?_
  refine lv_iload_n hx hb dX0_word_6 rfl (lv_at hl 3 rfl) ?_
  refine lv_iconst (v := nI 5) hx hb dX0_word_7 (by decide) ?_
  refine k_tS (As := [.int q, .int (nI 5)]) (rest := []) (t_X0_checkWhat l B0 g ct ad cS mS x hflags q 5 h) hC hB hS ⟨hx, hb, hml, hown, hts⟩ (va_cwS 2 hts gX0_word_X0_checkWhat rfl rfl rfl (by decide +kernel) ⟨Nat.le_of_ble_eq_true rfl, Nat.le_of_ble_eq_true rfl⟩) rfl hl.1 rfl (Nat.le_of_ble_eq_true rfl) dX0_word_8 ⟨Nat.le_of_ble_eq_true rfl, Nat.le_of_ble_eq_true rfl⟩ (fun ce_ q9_ H locs hC hS hce_ hcv_ hcl_ => ?_)
  exact vx_out (fun x hx_ => (hxt x hx_).elim) hlocks hce_ hcv_ hcl_ (fun t ht hA => ⟨(), trivial, ⟨rfl, by rw [ht]; exact hC.1⟩, hS.F ht⟩) hS.2.2 (Nat.le_of_ble_eq_true rfl) (Nat.le_of_ble_eq_true rfl)
set_option maxHeartbeats 4000000 in
set_option maxRecDepth 100000 in
theorem c_X0_line (l : Launch) (B0 : Nat) (g : va_G) (ct ad : Nat → Nat) (cS mS : St_) (x : Ax_) (i q : Nat) (hi : i < sn cS) (hq : q < 5) : RI l yX0_line wsX0_line 4 (PX B0 g ct ad cS mS x [.ref (ad 0), .int (nI i), .int (nI q)]) (nI (lt_ cS i q)) := by
  refine Met.ofW (cc := cX0_line) (maxL := 3) (ret := (some .int)) (by decide) rfl ?_
  intro p e s m args below meth c s₁ B hml hv
  obtain ⟨rfl, hC⟩ := hv
  have hx := B.exec
  have hb := B.bytes
  have hr := B.returns
  have hts := atoms_spec (ws := wsX0_line) B.pre
  have hown : s.vm.findClass RX0 = some m.cls := findClass_of_methodNamed B.named
  have hlocks := B.notSynchronized
  have hin : ∀ w ∈ wsX00, w ∈ wsX0_line := fun _ h => List.mem_cons_of_mem _ (List.mem_append_left _ (List.mem_append_right _ h))
  have hI := hC.1.2.2.2.1
  have hn := hI.2.1
  have hl := lv_entry ([.ref (ad 0), .int (nI i), .int (nI q)]) (n := 3) (Nat.le_of_ble_eq_true rfl)
  rw [lg_entry_eq]
  generalize (lg_sl ([.ref (ad 0), .int (nI i), .int (nI q)]) ++ List.replicate (3 - (lg_sl ([.ref (ad 0), .int (nI i), .int (nI q)])).length) Slot.unset).toArray = ls at hl ⊢
  have hl : lv_has ls 3 [(0, .ref (ad 0)), (1, .int (nI i)), (2, .int (nI q))] := hl
  refine lv_aload_n hx hb dX0_line_0 rfl (lv_at hl 0 rfl) ?_
  refine lv_iload_n hx hb dX0_line_1 rfl (lv_at hl 1 rfl) ?_
  refine k_vV (As := [.int (nI i)]) (rest := []) (c_X0_checkLine l B0 g ct ad cS mS x i (by omega)) hC ⟨hx, hb, hml, hown, hts⟩ (cwV 1 hts gX0_line_X0_checkLine rfl rfl rfl (by decide +kernel) ⟨Nat.le_of_ble_eq_true rfl, Nat.le_of_ble_eq_true rfl⟩) (rc0 hC) rfl hl.1 rfl (Nat.le_of_ble_eq_true rfl) dX0_line_2 ⟨Nat.le_of_ble_eq_true rfl, Nat.le_of_ble_eq_true rfl⟩ ?_
  refine lv_iload_n hx hb dX0_line_5 rfl (lv_at hl 2 rfl) ?_
  refine lv_iconst (v := nI 5) hx hb dX0_line_6 (by decide) ?_
  refine k_vS (As := [.int (nI q), .int (nI 5)]) (rest := []) (c_X0_checkWhat l B0 g ct ad cS mS x q 5 (by omega) (by omega)) hC ⟨hx, hb, hml, hown, hts⟩ (va_cwS 2 hts gX0_line_X0_checkWhat rfl rfl rfl (by decide +kernel) ⟨Nat.le_of_ble_eq_true rfl, Nat.le_of_ble_eq_true rfl⟩) rfl hl.1 rfl (Nat.le_of_ble_eq_true rfl) dX0_line_7 ⟨Nat.le_of_ble_eq_true rfl, Nat.le_of_ble_eq_true rfl⟩ ?_
  refine lv_aload_n hx hb dX0_line_10 rfl (lv_at hl 0 rfl) ?_
  refine lv_iload_n hx hb dX0_line_11 rfl (lv_at hl 1 rfl) ?_
  refine lv_iload_n hx hb dX0_line_12 rfl (lv_at hl 2 rfl) ?_
  refine k_rV (As := [.int (nI i), .int (nI q)]) (rest := []) (c_X0_figureOfLine l B0 g ct ad cS mS x i q (by omega) (by omega)) hC ⟨hx, hb, hml, hown, hts⟩ (cwV 2 hts gX0_line_X0_figureOfLine rfl rfl rfl (by decide +kernel) ⟨Nat.le_of_ble_eq_true rfl, Nat.le_of_ble_eq_true rfl⟩) (rc0 hC) rfl hl.1 rfl (Nat.le_of_ble_eq_true rfl) dX0_line_13 ⟨Nat.le_of_ble_eq_true rfl, Nat.le_of_ble_eq_true rfl⟩ ?_
  exact W.iret hx hb hr (fun t ht hW => ⟨_, rfl, rfl, ht⟩) (fun q hq => absurd hq List.not_mem_nil) dX0_line_16
set_option maxHeartbeats 4000000 in
set_option maxRecDepth 100000 in
theorem t_X0_line_1 (l : Launch) (B0 : Nat) (g : va_G) (ct ad : Nat → Nat) (cS mS : St_) (x : Ax_) (hflags : l.stackTraces = false) (li : Int32) (h : li < 0 ∨ nI (sn cS) ≤ li) (q : Int32) : TX l yX0_line wsX0_line 7 B0 g ct ad cS mS x [.ref (ad 0), .int li, .int q] EI_ := by
  refine vx_ofW (cc := cX0_line) (maxL := 3) (ret := (some .int)) (by decide) rfl ?_
  intro p e s m args below meth c s₁ B hml hxt hv
  obtain ⟨rfl, hC⟩ := hv
  have hx := B.exec
  have hb := B.bytes
  have hr := B.returns
  have hts := atoms_spec (ws := wsX0_line) B.pre
  have hown : s.vm.findClass RX0 = some m.cls := findClass_of_methodNamed B.named
  have hlocks := B.notSynchronized
  have hin : ∀ w ∈ wsX00, w ∈ wsX0_line := fun _ h => List.mem_cons_of_mem _ (List.mem_append_left _ (List.mem_append_right _ h))
  have hS : va_S (AA B0) s.heap s.heap [] := va_S.rf
  have hB : B0 ≤ s.heap.size := hC.1.2.2.1
  have hK0 := hC.2
  have hl := lv_entry ([.ref (ad 0), .int li, .int q]) (n := 3) (Nat.le_of_ble_eq_true rfl)
  rw [lg_entry_eq]
  generalize (lg_sl ([.ref (ad 0), .int li, .int q]) ++ List.replicate (3 - (lg_sl ([.ref (ad 0), .int li, .int q])).length) Slot.unset).toArray = ls at hl ⊢
  have hl : lv_has ls 3 [(0, .ref (ad 0)), (1, .int li), (2, .int q)] := hl
  refine lv_aload_n hx hb dX0_line_0 rfl (lv_at hl 0 rfl) ?_
  refine lv_iload_n hx hb dX0_line_1 rfl (lv_at hl 1 rfl) ?_
  refine k_tV (As := [.int li]) (rest := []) (t_X0_checkLine l B0 g ct ad cS mS x hflags li h) hC hB hS ⟨hx, hb, hml, hown, hts⟩ (cwV 1 hts gX0_line_X0_checkLine rfl rfl rfl (by decide +kernel) ⟨Nat.le_of_ble_eq_true rfl, Nat.le_of_ble_eq_true rfl⟩) (rc0 hC) rfl hl.1 rfl (Nat.le_of_ble_eq_true rfl) dX0_line_2 ⟨Nat.le_of_ble_eq_true rfl, Nat.le_of_ble_eq_true rfl⟩ (fun ce_ q9_ H locs hC hS hce_ hcv_ hcl_ => ?_)
  exact vx_out (fun x hx_ => (hxt x hx_).elim) hlocks hce_ hcv_ hcl_ (fun t ht hA => ⟨(), trivial, ⟨rfl, by rw [ht]; exact hC.1⟩, hS.F ht⟩) hS.2.2 (Nat.le_of_ble_eq_true rfl) (Nat.le_of_ble_eq_true rfl)
set_option maxHeartbeats 4000000 in
set_option maxRecDepth 100000 in
theorem t_X0_line_2 (l : Launch) (B0 : Nat) (g : va_G) (ct ad : Nat → Nat) (cS mS : St_) (x : Ax_) (hflags : l.stackTraces = false) (i : Nat) (hi : i < sn cS) (q : Int32) (h : q < 0 ∨ nI 5 ≤ q) : TX l yX0_line wsX0_line 7 B0 g ct ad cS mS x [.ref (ad 0), .int (nI i), .int q] EI_ := by
  refine vx_ofW (cc := cX0_line) (maxL := 3) (ret := (some .int)) (by decide) rfl ?_
  intro p e s m args below meth c s₁ B hml hxt hv
  obtain ⟨rfl, hC⟩ := hv
  have hx := B.exec
  have hb := B.bytes
  have hr := B.returns
  have hts := atoms_spec (ws := wsX0_line) B.pre
  have hown : s.vm.findClass RX0 = some m.cls := findClass_of_methodNamed B.named
  have hlocks := B.notSynchronized
  have hin : ∀ w ∈ wsX00, w ∈ wsX0_line := fun _ h => List.mem_cons_of_mem _ (List.mem_append_left _ (List.mem_append_right _ h))
  have hS : va_S (AA B0) s.heap s.heap [] := va_S.rf
  have hB : B0 ≤ s.heap.size := hC.1.2.2.1
  have hK0 := hC.2
  have hl := lv_entry ([.ref (ad 0), .int (nI i), .int q]) (n := 3) (Nat.le_of_ble_eq_true rfl)
  rw [lg_entry_eq]
  generalize (lg_sl ([.ref (ad 0), .int (nI i), .int q]) ++ List.replicate (3 - (lg_sl ([.ref (ad 0), .int (nI i), .int q])).length) Slot.unset).toArray = ls at hl ⊢
  have hl : lv_has ls 3 [(0, .ref (ad 0)), (1, .int (nI i)), (2, .int q)] := hl
  refine lv_aload_n hx hb dX0_line_0 rfl (lv_at hl 0 rfl) ?_
  refine lv_iload_n hx hb dX0_line_1 rfl (lv_at hl 1 rfl) ?_
  refine k_vV (As := [.int (nI i)]) (rest := []) (c_X0_checkLine l B0 g ct ad cS mS x i (by omega)) hC ⟨hx, hb, hml, hown, hts⟩ (cwV 1 hts gX0_line_X0_checkLine rfl rfl rfl (by decide +kernel) ⟨Nat.le_of_ble_eq_true rfl, Nat.le_of_ble_eq_true rfl⟩) (rc0 hC) rfl hl.1 rfl (Nat.le_of_ble_eq_true rfl) dX0_line_2 ⟨Nat.le_of_ble_eq_true rfl, Nat.le_of_ble_eq_true rfl⟩ ?_
  refine lv_iload_n hx hb dX0_line_5 rfl (lv_at hl 2 rfl) ?_
  refine lv_iconst (v := nI 5) hx hb dX0_line_6 (by decide) ?_
  refine k_tS (As := [.int q, .int (nI 5)]) (rest := []) (t_X0_checkWhat l B0 g ct ad cS mS x hflags q 5 h) hC hB hS ⟨hx, hb, hml, hown, hts⟩ (va_cwS 2 hts gX0_line_X0_checkWhat rfl rfl rfl (by decide +kernel) ⟨Nat.le_of_ble_eq_true rfl, Nat.le_of_ble_eq_true rfl⟩) rfl hl.1 rfl (Nat.le_of_ble_eq_true rfl) dX0_line_7 ⟨Nat.le_of_ble_eq_true rfl, Nat.le_of_ble_eq_true rfl⟩ (fun ce_ q9_ H locs hC hS hce_ hcv_ hcl_ => ?_)
  exact vx_out (fun x hx_ => (hxt x hx_).elim) hlocks hce_ hcv_ hcl_ (fun t ht hA => ⟨(), trivial, ⟨rfl, by rw [ht]; exact hC.1⟩, hS.F ht⟩) hS.2.2 (Nat.le_of_ble_eq_true rfl) (Nat.le_of_ble_eq_true rfl)
set_option maxHeartbeats 4000000 in
set_option maxRecDepth 100000 in
theorem c_X0_hidden (l : Launch) (B0 : Nat) (g : va_G) (ct ad : Nat → Nat) (cS mS : St_) (x : Ax_) (i : Nat) (hi : i < sn cS) (yr : Int32) : RI l yX0_hidden wsX0_hidden 3 (PX B0 g ct ad cS mS x [.ref (ad 0), .int (nI i), .int yr]) (hd_ cS i yr (ss cS i) 0) := by
  refine Met.ofW (cc := cX0_hidden) (maxL := 5) (ret := (some .int)) (by decide) rfl ?_
  intro p e s m args below meth c s₁ B hml hv
  obtain ⟨rfl, hC⟩ := hv
  have hx := B.exec
  have hb := B.bytes
  have hr := B.returns
  have hts := atoms_spec (ws := wsX0_hidden) B.pre
  have hown : s.vm.findClass RX0 = some m.cls := findClass_of_methodNamed B.named
  have hlocks := B.notSynchronized
  have hin : ∀ w ∈ wsX00, w ∈ wsX0_hidden := fun _ h => List.mem_cons_of_mem _ (List.mem_append_left _ (List.mem_append_right _ h))
  have hI := hC.1.2.2.2.1
  have hn := hI.2.1
  have hz := hI.2.2.1 i
  have hl := lv_entry ([.ref (ad 0), .int (nI i), .int yr]) (n := 5) (Nat.le_of_ble_eq_true rfl)
  rw [lg_entry_eq]
  generalize (lg_sl ([.ref (ad 0), .int (nI i), .int yr]) ++ List.replicate (5 - (lg_sl ([.ref (ad 0), .int (nI i), .int yr])).length) Slot.unset).toArray = ls at hl ⊢
  have hl : lv_has ls 5 [(0, .ref (ad 0)), (1, .int (nI i)), (2, .int yr)] := hl
  refine lv_aload_n hx hb dX0_hidden_0 rfl (lv_at hl 0 rfl) ?_
  refine lv_iload_n hx hb dX0_hidden_1 rfl (lv_at hl 1 rfl) ?_
  refine k_vV (As := [.int (nI i)]) (rest := []) (c_X0_checkLine l B0 g ct ad cS mS x i (by omega)) hC ⟨hx, hb, hml, hown, hts⟩ (cwV 1 hts gX0_hidden_X0_checkLine rfl rfl rfl (by decide +kernel) ⟨Nat.le_of_ble_eq_true rfl, Nat.le_of_ble_eq_true rfl⟩) (rc0 hC) rfl hl.1 rfl (Nat.le_of_ble_eq_true rfl) dX0_hidden_2 ⟨Nat.le_of_ble_eq_true rfl, Nat.le_of_ble_eq_true rfl⟩ ?_
  refine lv_iconst (v := nI 0) hx hb dX0_hidden_5 (by decide) ?_
  refine lv_istore_n (lv' := [(3, .int (nI 0)), (0, .ref (ad 0)), (1, .int (nI i)), (2, .int yr)]) hx hb dX0_hidden_6 rfl hl (by decide) rfl (fun ls hl => ?_)
  have LP_7 : ∀ (n_ : Nat) (w : Nat), ss cS i - w < n_ → (hd_ cS i yr (ss cS i - w) w = hd_ cS i yr (ss cS i) 0) → (w ≤ 10) → ∀ ls : Array Slot, lv_has ls 5 [(3, .int (nI w)), (0, .ref (ad 0)), (1, .int (nI i)), (2, .int yr)] → W p l e (headSpec wsX0_hidden (rm_ 3 0 0)).room s m ([.ref (ad 0), .int (nI i), .int yr] : List Value).toArray below meth c s.heap [] 0 0 (MQ below (vp_Si (fun r => r = hd_ cS i yr (ss cS i) 0)) ([.ref (ad 0), .int (nI i), .int yr] : List Value).toArray s 0 0 (fun _ => False)) (F0 m 7 ls []) := by
    intro n_
    induction n_ with
    | zero => intro w hm; exact absurd hm (Nat.not_lt_zero _)
    | succ n_ ih_7 =>
      intro w hm h1 hw_ ls hl
      refine lv_iload_n hx hb dX0_hidden_7 rfl (lv_at hl 0 rfl) ?_
      refine lv_aload_n hx hb dX0_hidden_8 rfl (lv_at hl 1 rfl) ?_
      refine r_g0 hC hx hb hts hin hown 2 (by decide) (hts (.fieldLink RX0 16 "AbjadPoems" "sizes" "[I") (by decide +kernel)) rfl dX0_hidden_9 ?_
      refine lv_iload_n hx hb dX0_hidden_12 rfl (lv_at hl 2 rfl) ?_
      refine r_sz hC hx hb dX0_hidden_13 (j := i) (by omega) ?_
      refine lv_icmp_ge (tgt := 45) hx hb dX0_hidden_14 (by decide) (fun c_14 => ?_) (fun c_14 => ?_)
      · skip
        have n_14 : ss cS i ≤ w := (nI_leI (a := ss cS i) (b := w) (by omega) (by omega)).mp c_14
        have hE : hd_ cS i yr (ss cS i) 0 = -1 := by rw [← h1, hd_e (by omega)]
        refine lv_iconst (v := -1) hx hb dX0_hidden_45 (by decide) ?_
        exact W.iret hx hb hr (fun t ht hW => ⟨_, rfl, (by show (-1) = hd_ cS i yr (ss cS i) 0; rw [hE]), ht⟩) (fun q hq => absurd hq List.not_mem_nil) dX0_hidden_46
      · skip
        have n_14 : ¬ ss cS i ≤ w := fun q__ => c_14 ((nI_leI (a := ss cS i) (b := w) (by omega) (by omega)).mpr q__)
        refine lv_aload_n hx hb dX0_hidden_17 rfl (lv_at hl 1 rfl) ?_
        refine lv_iload_n hx hb dX0_hidden_18 rfl (lv_at hl 2 rfl) ?_
        refine lv_iload_n hx hb dX0_hidden_19 rfl (lv_at hl 0 rfl) ?_
        refine lv_iload_n hx hb dX0_hidden_20 rfl (lv_at hl 3 rfl) ?_
        refine k_rV (As := [.int (nI i), .int (nI w), .int yr]) (rest := []) (c_X0_lastOfRun l B0 g ct ad cS mS x i w yr (by omega) (by omega)) hC ⟨hx, hb, hml, hown, hts⟩ (cwV 3 hts gX0_hidden_X0_lastOfRun rfl rfl rfl (by decide +kernel) ⟨Nat.le_of_ble_eq_true rfl, Nat.le_of_ble_eq_true rfl⟩) (rc0 hC) rfl hl.1 rfl (Nat.le_of_ble_eq_true rfl) dX0_hidden_21 ⟨Nat.le_of_ble_eq_true rfl, Nat.le_of_ble_eq_true rfl⟩ ?_
        refine lv_istore (lv' := [(4, .int (ru_ cS i yr w)), (3, .int (nI w)), (0, .ref (ad 0)), (1, .int (nI i)), (2, .int yr)]) hx hb dX0_hidden_24 hl (by decide) rfl (fun ls hl => ?_)
        refine lv_iload hx hb dX0_hidden_26 (lv_at hl 0 rfl) ?_
        refine lv_if_lt (tgt := 39) hx hb dX0_hidden_28 (by decide) (fun c_28 => ?_) (fun c_28 => ?_)
        · skip
          have n_28 := (ru_i (y := yr) hI.2.2.1 (show w < ss cS i by omega)).mp c_28
          refine lv_iinc (v := nI (w + 1)) (lv' := [(3, .int (nI (w + 1))), (4, .int (ru_ cS i yr w)), (0, .ref (ad 0)), (1, .int (nI i)), (2, .int yr)]) hx hb dX0_hidden_39 hl (k := 1) rfl (nI_1 _) (by decide) rfl (fun ls hl => ?_)
          refine lv_goto (tgt := 7) hx hb dX0_hidden_42 (by decide) ?_
          exact ih_7 (w + 1) (by omega) (by rw [← h1, hd_s (show w < ss cS i by omega), if_pos n_28]) (by omega) ls (lv_sub hl [0, 2, 3, 4] rfl)
        · skip
          have n_28 : ¬ ru_ cS i yr w = -1 := fun q => c_28 ((ru_i hI.2.2.1 (show w < ss cS i by omega)).mpr q)
          have hE : hd_ cS i yr (ss cS i) 0 = nI (10 * w) + ru_ cS i yr w := by rw [← h1, hd_s (show w < ss cS i by omega), if_neg n_28]
          refine lv_bipush (v := nI 10) hx hb dX0_hidden_31 (by decide) ?_
          refine lv_iload_n hx hb dX0_hidden_33 rfl (lv_at hl 1 rfl) ?_
          refine lv_imul hx hb dX0_hidden_34 ?_
          refine lv_tn (pk_mul _ _) ?_
          refine lv_iload hx hb dX0_hidden_35 (lv_at hl 0 rfl) ?_
          refine lv_iadd hx hb dX0_hidden_37 ?_
          exact W.iret hx hb hr (fun t ht hW => ⟨_, rfl, (by show (nI (10 * w)) + (ru_ cS i yr w) = hd_ cS i yr (ss cS i) 0; rw [hE]), ht⟩) (fun q hq => absurd hq List.not_mem_nil) dX0_hidden_38
  exact LP_7 _ 0 (Nat.lt_succ_self _) rfl (by omega) ls (lv_sub hl [0, 1, 2, 3] rfl)
set_option maxHeartbeats 4000000 in
set_option maxRecDepth 100000 in
theorem t_X0_hidden (l : Launch) (B0 : Nat) (g : va_G) (ct ad : Nat → Nat) (cS mS : St_) (x : Ax_) (hflags : l.stackTraces = false) (li : Int32) (h : li < 0 ∨ nI (sn cS) ≤ li) (yr : Int32) : TX l yX0_hidden wsX0_hidden 7 B0 g ct ad cS mS x [.ref (ad 0), .int li, .int yr] EI_ := by
  refine vx_ofW (cc := cX0_hidden) (maxL := 5) (ret := (some .int)) (by decide) rfl ?_
  intro p e s m args below meth c s₁ B hml hxt hv
  obtain ⟨rfl, hC⟩ := hv
  have hx := B.exec
  have hb := B.bytes
  have hr := B.returns
  have hts := atoms_spec (ws := wsX0_hidden) B.pre
  have hown : s.vm.findClass RX0 = some m.cls := findClass_of_methodNamed B.named
  have hlocks := B.notSynchronized
  have hin : ∀ w ∈ wsX00, w ∈ wsX0_hidden := fun _ h => List.mem_cons_of_mem _ (List.mem_append_left _ (List.mem_append_right _ h))
  have hS : va_S (AA B0) s.heap s.heap [] := va_S.rf
  have hB : B0 ≤ s.heap.size := hC.1.2.2.1
  have hK0 := hC.2
  have hl := lv_entry ([.ref (ad 0), .int li, .int yr]) (n := 5) (Nat.le_of_ble_eq_true rfl)
  rw [lg_entry_eq]
  generalize (lg_sl ([.ref (ad 0), .int li, .int yr]) ++ List.replicate (5 - (lg_sl ([.ref (ad 0), .int li, .int yr])).length) Slot.unset).toArray = ls at hl ⊢
  have hl : lv_has ls 5 [(0, .ref (ad 0)), (1, .int li), (2, .int yr)] := hl
  refine lv_aload_n hx hb dX0_hidden_0 rfl (lv_at hl 0 rfl) ?_
  refine lv_iload_n hx hb dX0_hidden_1 rfl (lv_at hl 1 rfl) ?_
  refine k_tV (As := [.int li]) (rest := []) (t_X0_checkLine l B0 g ct ad cS mS x hflags li h) hC hB hS ⟨hx, hb, hml, hown, hts⟩ (cwV 1 hts gX0_hidden_X0_checkLine rfl rfl rfl (by decide +kernel) ⟨Nat.le_of_ble_eq_true rfl, Nat.le_of_ble_eq_true rfl⟩) (rc0 hC) rfl hl.1 rfl (Nat.le_of_ble_eq_true rfl) dX0_hidden_2 ⟨Nat.le_of_ble_eq_true rfl, Nat.le_of_ble_eq_true rfl⟩ (fun ce_ q9_ H locs hC hS hce_ hcv_ hcl_ => ?_)
  exact vx_out (fun x hx_ => (hxt x hx_).elim) hlocks hce_ hcv_ hcl_ (fun t ht hA => ⟨(), trivial, ⟨rfl, by rw [ht]; exact hC.1⟩, hS.F ht⟩) hS.2.2 (Nat.le_of_ble_eq_true rfl) (Nat.le_of_ble_eq_true rfl)
set_option maxHeartbeats 4000000 in
set_option maxRecDepth 100000 in
theorem c_X0_hides (l : Launch) (B0 : Nat) (g : va_G) (ct ad : Nat → Nat) (cS mS : St_) (x : Ax_) (yr : Int32) : RI l yX0_hides wsX0_hides 3 (PX B0 g ct ad cS mS x [.ref (ad 0), .int yr]) (nI (hs_ cS yr)) := by
  refine Met.ofW (cc := cX0_hides) (maxL := 5) (ret := (some .int)) (by decide) rfl ?_
  intro p e s m args below meth c s₁ B hml hv
  obtain ⟨rfl, hC⟩ := hv
  have hx := B.exec
  have hb := B.bytes
  have hr := B.returns
  have hts := atoms_spec (ws := wsX0_hides) B.pre
  have hown : s.vm.findClass RX0 = some m.cls := findClass_of_methodNamed B.named
  have hlocks := B.notSynchronized
  have hin : ∀ w ∈ wsX00, w ∈ wsX0_hides := fun _ h => List.mem_cons_of_mem _ (List.mem_append_right _ h)
  have hI := hC.1.2.2.2.1
  have hn := hI.2.1
  have hl := lv_entry ([.ref (ad 0), .int yr]) (n := 5) (Nat.le_of_ble_eq_true rfl)
  rw [lg_entry_eq]
  generalize (lg_sl ([.ref (ad 0), .int yr]) ++ List.replicate (5 - (lg_sl ([.ref (ad 0), .int yr])).length) Slot.unset).toArray = ls at hl ⊢
  have hl : lv_has ls 5 [(0, .ref (ad 0)), (1, .int yr)] := hl
  refine lv_iconst (v := nI 0) hx hb dX0_hides_0 (by decide) ?_
  refine lv_istore_n (lv' := [(2, .int (nI 0)), (0, .ref (ad 0)), (1, .int yr)]) hx hb dX0_hides_1 rfl hl (by decide) rfl (fun ls hl => ?_)
  refine lv_iconst (v := nI 0) hx hb dX0_hides_2 (by decide) ?_
  refine lv_istore_n (lv' := [(3, .int (nI 0)), (2, .int (nI 0)), (0, .ref (ad 0)), (1, .int yr)]) hx hb dX0_hides_3 rfl hl (by decide) rfl (fun ls hl => ?_)
  have LP_4 : ∀ (n_ : Nat) (t : Nat) (k : Nat), sn cS - k < n_ → (t = qs_ (fun l => hl_ cS yr l) k) → (k ≤ sn cS) → ∀ ls : Array Slot, lv_has ls 5 [(3, .int (nI k)), (2, .int (nI t)), (0, .ref (ad 0)), (1, .int yr)] → W p l e (headSpec wsX0_hides (rm_ 3 0 0)).room s m ([.ref (ad 0), .int yr] : List Value).toArray below meth c s.heap [] 0 0 (MQ below (vp_Si (fun r => r = nI (hs_ cS yr))) ([.ref (ad 0), .int yr] : List Value).toArray s 0 0 (fun _ => False)) (F0 m 4 ls []) := by
    intro n_
    induction n_ with
    | zero => intro t k hm; exact absurd hm (Nat.not_lt_zero _)
    | succ n_ ih_4 =>
      intro t k hm ht hk ls hl
      have hz := hI.2.2.1 k
      refine lv_iload_n hx hb dX0_hides_4 rfl (lv_at hl 0 rfl) ?_
      refine lv_aload_n hx hb dX0_hides_5 rfl (lv_at hl 2 rfl) ?_
      refine r_g0 hC hx hb hts hin hown 1 (by decide) (hts (.fieldLink RX0 13 "AbjadPoems" "lines" "I") (by decide +kernel)) rfl dX0_hides_6 ?_
      refine lv_icmp_ge (tgt := 52) hx hb dX0_hides_9 (by decide) (fun c_9 => ?_) (fun c_9 => ?_)
      · skip
        have n_9 : sn cS ≤ k := (nI_leI (a := sn cS) (b := k) (by omega) (by omega)).mp c_9
        have hE : t = hs_ cS yr := by rw [ht, show k = sn cS by omega]; rfl
        refine lv_iload_n hx hb dX0_hides_52 rfl (lv_at hl 1 rfl) ?_
        exact W.iret hx hb hr (fun t ht hW => ⟨_, rfl, (congrArg nI hE), ht⟩) (fun q hq => absurd hq List.not_mem_nil) dX0_hides_53
      · skip
        have n_9 : ¬ sn cS ≤ k := fun q__ => c_9 ((nI_leI (a := sn cS) (b := k) (by omega) (by omega)).mpr q__)
        refine lv_iconst (v := nI 0) hx hb dX0_hides_12 (by decide) ?_
        refine lv_istore (lv' := [(4, .int (nI 0)), (3, .int (nI k)), (2, .int (nI t)), (0, .ref (ad 0)), (1, .int yr)]) hx hb dX0_hides_13 hl (by decide) rfl (fun ls hl => ?_)
        have LP_15 : ∀ (n_ : Nat) (u : Nat) (w : Nat), ss cS k - w < n_ → (u = t + qs_ (hf_ cS yr k) w) → (w ≤ ss cS k) → ∀ ls : Array Slot, lv_has ls 5 [(4, .int (nI w)), (3, .int (nI k)), (2, .int (nI u)), (0, .ref (ad 0)), (1, .int yr)] → W p l e (headSpec wsX0_hides (rm_ 3 0 0)).room s m ([.ref (ad 0), .int yr] : List Value).toArray below meth c s.heap [] 0 0 (MQ below (vp_Si (fun r => r = nI (hs_ cS yr))) ([.ref (ad 0), .int yr] : List Value).toArray s 0 0 (fun _ => False)) (F0 m 15 ls []) := by
          intro n_
          induction n_ with
          | zero => intro u w hm; exact absurd hm (Nat.not_lt_zero _)
          | succ n_ ih_15 =>
            intro u w hm hu hw_ ls hl
            refine lv_iload hx hb dX0_hides_15 (lv_at hl 0 rfl) ?_
            refine lv_aload_n hx hb dX0_hides_17 rfl (lv_at hl 3 rfl) ?_
            refine r_g0 hC hx hb hts hin hown 2 (by decide) (hts (.fieldLink RX0 16 "AbjadPoems" "sizes" "[I") (by decide +kernel)) rfl dX0_hides_18 ?_
            refine lv_iload_n hx hb dX0_hides_21 rfl (lv_at hl 1 rfl) ?_
            refine r_sz hC hx hb dX0_hides_22 (j := k) (by omega) ?_
            refine lv_icmp_ge (tgt := 46) hx hb dX0_hides_23 (by decide) (fun c_23 => ?_) (fun c_23 => ?_)
            · skip
              have n_23 : ss cS k ≤ w := (nI_leI (a := ss cS k) (b := w) (by omega) (by omega)).mp c_23
              refine lv_iinc (v := nI (k + 1)) (lv' := [(3, .int (nI (k + 1))), (4, .int (nI w)), (2, .int (nI u)), (0, .ref (ad 0)), (1, .int yr)]) hx hb dX0_hides_46 hl (k := 1) rfl (nI_1 _) (by decide) rfl (fun ls hl => ?_)
              refine lv_goto (tgt := 4) hx hb dX0_hides_49 (by decide) ?_
              exact ih_4 u (k + 1) (by omega) (by rw [hu, show w = ss cS k by omega, ht]; rfl) (by omega) ls (lv_sub hl [0, 2, 3, 4] rfl)
            · skip
              have n_23 : ¬ ss cS k ≤ w := fun q__ => c_23 ((nI_leI (a := ss cS k) (b := w) (by omega) (by omega)).mpr q__)
              refine lv_aload_n hx hb dX0_hides_26 rfl (lv_at hl 3 rfl) ?_
              refine lv_iload_n hx hb dX0_hides_27 rfl (lv_at hl 1 rfl) ?_
              refine lv_iload hx hb dX0_hides_28 (lv_at hl 0 rfl) ?_
              refine lv_iload_n hx hb dX0_hides_30 rfl (lv_at hl 4 rfl) ?_
              refine k_rV (As := [.int (nI k), .int (nI w), .int yr]) (rest := []) (c_X0_lastOfRun l B0 g ct ad cS mS x k w yr (by omega) (by omega)) hC ⟨hx, hb, hml, hown, hts⟩ (cwV 3 hts gX0_hides_X0_lastOfRun rfl rfl rfl (by decide +kernel) ⟨Nat.le_of_ble_eq_true rfl, Nat.le_of_ble_eq_true rfl⟩) (rc0 hC) rfl hl.1 rfl (Nat.le_of_ble_eq_true rfl) dX0_hides_31 ⟨Nat.le_of_ble_eq_true rfl, Nat.le_of_ble_eq_true rfl⟩ ?_
              refine lv_if_lt (tgt := 40) hx hb dX0_hides_34 (by decide) (fun c_34 => ?_) (fun c_34 => ?_)
              · skip
                have n_34 := (ru_i (y := yr) hI.2.2.1 (show w < ss cS k by omega)).mp c_34
                refine lv_iinc (v := nI (w + 1)) (lv' := [(4, .int (nI (w + 1))), (3, .int (nI k)), (2, .int (nI u)), (0, .ref (ad 0)), (1, .int yr)]) hx hb dX0_hides_40 hl (k := 0) rfl (nI_1 _) (by decide) rfl (fun ls hl => ?_)
                refine lv_goto (tgt := 15) hx hb dX0_hides_43 (by decide) ?_
                exact ih_15 u (w + 1) (by omega) (by first | rw [hf_t n_34]; exact hu | rw [hf_f n_34, hu]; rfl) (by omega) ls (lv_sub hl [0, 1, 2, 3, 4] rfl)
              · skip
                have n_34 : ¬ ru_ cS k yr w = -1 := fun q => c_34 ((ru_i hI.2.2.1 (show w < ss cS k by omega)).mpr q)
                refine lv_iinc (v := nI (u + 1)) (lv' := [(2, .int (nI (u + 1))), (4, .int (nI w)), (3, .int (nI k)), (0, .ref (ad 0)), (1, .int yr)]) hx hb dX0_hides_37 hl (k := 2) rfl (nI_1 _) (by decide) rfl (fun ls hl => ?_)
                refine lv_iinc (v := nI (w + 1)) (lv' := [(4, .int (nI (w + 1))), (2, .int (nI (u + 1))), (3, .int (nI k)), (0, .ref (ad 0)), (1, .int yr)]) hx hb dX0_hides_40 hl (k := 1) rfl (nI_1 _) (by decide) rfl (fun ls hl => ?_)
                refine lv_goto (tgt := 15) hx hb dX0_hides_43 (by decide) ?_
                exact ih_15 (u + 1) (w + 1) (by omega) (by first | rw [hf_t n_34]; exact hu | rw [hf_f n_34, hu]; rfl) (by omega) ls (lv_sub hl [0, 2, 1, 3, 4] rfl)
        exact LP_15 _ t 0 (Nat.lt_succ_self _) rfl (Nat.zero_le _) ls (lv_sub hl [0, 1, 2, 3, 4] rfl)
  exact LP_4 _ 0 0 (Nat.lt_succ_self _) rfl (Nat.zero_le _) ls (lv_sub hl [0, 1, 2, 3] rfl)
set_option maxHeartbeats 4000000 in
set_option maxRecDepth 100000 in
theorem c_X0_lacks (l : Launch) (B0 : Nat) (g : va_G) (ct ad : Nat → Nat) (cS mS : St_) (x : Ax_) (i : Nat) (hi : i < sn cS) (yr : Int32) : RI l yX0_lacks wsX0_lacks 4 (PX B0 g ct ad cS mS x [.ref (ad 0), .int (nI i), .int yr]) (lk_ cS i yr 26 1) := by
  refine Met.ofW (cc := cX0_lacks) (maxL := 5) (ret := (some .int)) (by decide) rfl ?_
  intro p e s m args below meth c s₁ B hml hv
  obtain ⟨rfl, hC⟩ := hv
  have hx := B.exec
  have hb := B.bytes
  have hr := B.returns
  have hts := atoms_spec (ws := wsX0_lacks) B.pre
  have hown : s.vm.findClass RX0 = some m.cls := findClass_of_methodNamed B.named
  have hlocks := B.notSynchronized
  have hin : ∀ w ∈ wsX00, w ∈ wsX0_lacks := fun _ h => List.mem_cons_of_mem _ (List.mem_append_left _ (List.mem_append_right _ h))
  have hI := hC.1.2.2.2.1
  have hn := hI.2.1
  have hl := lv_entry ([.ref (ad 0), .int (nI i), .int yr]) (n := 5) (Nat.le_of_ble_eq_true rfl)
  rw [lg_entry_eq]
  generalize (lg_sl ([.ref (ad 0), .int (nI i), .int yr]) ++ List.replicate (5 - (lg_sl ([.ref (ad 0), .int (nI i), .int yr])).length) Slot.unset).toArray = ls at hl ⊢
  have hl : lv_has ls 5 [(0, .ref (ad 0)), (1, .int (nI i)), (2, .int yr)] := hl
  refine lv_aload_n hx hb dX0_lacks_0 rfl (lv_at hl 0 rfl) ?_
  refine lv_iload_n hx hb dX0_lacks_1 rfl (lv_at hl 1 rfl) ?_
  refine k_vV (As := [.int (nI i)]) (rest := []) (c_X0_checkLine l B0 g ct ad cS mS x i (by omega)) hC ⟨hx, hb, hml, hown, hts⟩ (cwV 1 hts gX0_lacks_X0_checkLine rfl rfl rfl (by decide +kernel) ⟨Nat.le_of_ble_eq_true rfl, Nat.le_of_ble_eq_true rfl⟩) (rc0 hC) rfl hl.1 rfl (Nat.le_of_ble_eq_true rfl) dX0_lacks_2 ⟨Nat.le_of_ble_eq_true rfl, Nat.le_of_ble_eq_true rfl⟩ ?_
  refine lv_aload_n hx hb dX0_lacks_5 rfl (lv_at hl 0 rfl) ?_
  refine lv_iload_n hx hb dX0_lacks_6 rfl (lv_at hl 1 rfl) ?_
  refine lv_iconst (v := nI 2) hx hb dX0_lacks_7 (by decide) ?_
  refine k_rV (As := [.int (nI i), .int (nI 2)]) (rest := []) (c_X0_figureOfLine l B0 g ct ad cS mS x i 2 (by omega) (by omega)) hC ⟨hx, hb, hml, hown, hts⟩ (cwV 2 hts gX0_lacks_X0_figureOfLine rfl rfl rfl (by decide +kernel) ⟨Nat.le_of_ble_eq_true rfl, Nat.le_of_ble_eq_true rfl⟩) (rc0 hC) rfl hl.1 rfl (Nat.le_of_ble_eq_true rfl) dX0_lacks_8 ⟨Nat.le_of_ble_eq_true rfl, Nat.le_of_ble_eq_true rfl⟩ ?_
  refine lv_istore_n (lv' := [(3, .int (nI (lt_ cS i 2))), (0, .ref (ad 0)), (1, .int (nI i)), (2, .int yr)]) hx hb dX0_lacks_11 rfl hl (by decide) rfl (fun ls hl => ?_)
  refine lv_iconst (v := nI 1) hx hb dX0_lacks_12 (by decide) ?_
  refine lv_istore (lv' := [(4, .int (nI 1)), (3, .int (nI (lt_ cS i 2))), (0, .ref (ad 0)), (1, .int (nI i)), (2, .int yr)]) hx hb dX0_lacks_13 hl (by decide) rfl (fun ls hl => ?_)
  have LP_15 : ∀ (n_ : Nat) (k : Nat), 27 - k < n_ → (lk_ cS i yr (27 - k) k = lk_ cS i yr 26 1) → (1 ≤ k ∧ k ≤ 27) → ∀ ls : Array Slot, lv_has ls 5 [(4, .int (nI k)), (3, .int (nI (lt_ cS i 2))), (0, .ref (ad 0)), (1, .int (nI i)), (2, .int yr)] → W p l e (headSpec wsX0_lacks (rm_ 4 0 0)).room s m ([.ref (ad 0), .int (nI i), .int yr] : List Value).toArray below meth c s.heap [] 0 0 (MQ below (vp_Si (fun r => r = lk_ cS i yr 26 1)) ([.ref (ad 0), .int (nI i), .int yr] : List Value).toArray s 0 0 (fun _ => False)) (F0 m 15 ls []) := by
    intro n_
    induction n_ with
    | zero => intro k hm; exact absurd hm (Nat.not_lt_zero _)
    | succ n_ ih_15 =>
      intro k hm h1 hk ls hl
      refine lv_iload hx hb dX0_lacks_15 (lv_at hl 0 rfl) ?_
      refine lv_bipush (v := nI 26) hx hb dX0_lacks_17 (by decide) ?_
      refine lv_icmp_gt (tgt := 43) hx hb dX0_lacks_19 (by decide) (fun c_19 => ?_) (fun c_19 => ?_)
      · skip
        have n_19 : 26 < k := (nI_ltI (a := 26) (b := k) (by omega) (by omega)).mp c_19
        have hE : lk_ cS i yr 26 1 = -1 := by rw [← h1, show 27 - k = 0 by omega]; rfl
        refine lv_iconst (v := -1) hx hb dX0_lacks_43 (by decide) ?_
        exact W.iret hx hb hr (fun t ht hW => ⟨_, rfl, (by show (-1) = lk_ cS i yr 26 1; rw [hE]), ht⟩) (fun q hq => absurd hq List.not_mem_nil) dX0_lacks_44
      · skip
        have n_19 : ¬ 26 < k := fun q__ => c_19 ((nI_ltI (a := 26) (b := k) (by omega) (by omega)).mpr q__)
        refine lv_iload_n hx hb dX0_lacks_22 rfl (lv_at hl 1 rfl) ?_
        refine lv_aload_n hx hb dX0_lacks_23 rfl (lv_at hl 2 rfl) ?_
        refine lv_iload hx hb dX0_lacks_24 (lv_at hl 0 rfl) ?_
        refine k_rV (As := [.int (nI k)]) (rest := [.int (nI (lt_ cS i 2))]) (c_X0_worthOfLetter l B0 g ct ad cS mS x k (by omega)) hC ⟨hx, hb, hml, hown, hts⟩ (cwV 1 hts gX0_lacks_X0_worthOfLetter rfl rfl rfl (by decide +kernel) ⟨Nat.le_of_ble_eq_true rfl, Nat.le_of_ble_eq_true rfl⟩) (rc0 hC) rfl hl.1 rfl (Nat.le_of_ble_eq_true rfl) dX0_lacks_26 ⟨Nat.le_of_ble_eq_true rfl, Nat.le_of_ble_eq_true rfl⟩ ?_
        refine lv_iadd hx hb dX0_lacks_29 ?_
        refine lv_tn (nI_add _ _) ?_
        refine lv_iload_n hx hb dX0_lacks_30 rfl (lv_at hl 4 rfl) ?_
        refine lv_icmp_ne (tgt := 37) hx hb dX0_lacks_31 (by decide) (fun c_31 => ?_) (fun c_31 => ?_)
        · skip
          refine lv_iinc (v := nI (k + 1)) (lv' := [(4, .int (nI (k + 1))), (3, .int (nI (lt_ cS i 2))), (0, .ref (ad 0)), (1, .int (nI i)), (2, .int yr)]) hx hb dX0_lacks_37 hl (k := 0) rfl (nI_1 _) (by decide) rfl (fun ls hl => ?_)
          refine lv_goto (tgt := 15) hx hb dX0_lacks_40 (by decide) ?_
          exact ih_15 (k + 1) (by omega) (by rw [← h1, lk_s (show k < 27 by omega), if_neg c_31]) (by omega) ls (lv_sub hl [0, 1, 2, 3, 4] rfl)
        · skip
          have hE : lk_ cS i yr 26 1 = nI k := by rw [← h1, lk_s (show k < 27 by omega), if_pos c_31]
          refine lv_iload hx hb dX0_lacks_34 (lv_at hl 0 rfl) ?_
          exact W.iret hx hb hr (fun t ht hW => ⟨_, rfl, (by show nI k = lk_ cS i yr 26 1; rw [hE]), ht⟩) (fun q hq => absurd hq List.not_mem_nil) dX0_lacks_36
  exact LP_15 _ 1 (Nat.lt_succ_self _) rfl (by omega) ls (lv_sub hl [0, 1, 2, 3, 4] rfl)
set_option maxHeartbeats 4000000 in
set_option maxRecDepth 100000 in
theorem t_X0_lacks (l : Launch) (B0 : Nat) (g : va_G) (ct ad : Nat → Nat) (cS mS : St_) (x : Ax_) (hflags : l.stackTraces = false) (li : Int32) (h : li < 0 ∨ nI (sn cS) ≤ li) (yr : Int32) : TX l yX0_lacks wsX0_lacks 7 B0 g ct ad cS mS x [.ref (ad 0), .int li, .int yr] EI_ := by
  refine vx_ofW (cc := cX0_lacks) (maxL := 5) (ret := (some .int)) (by decide) rfl ?_
  intro p e s m args below meth c s₁ B hml hxt hv
  obtain ⟨rfl, hC⟩ := hv
  have hx := B.exec
  have hb := B.bytes
  have hr := B.returns
  have hts := atoms_spec (ws := wsX0_lacks) B.pre
  have hown : s.vm.findClass RX0 = some m.cls := findClass_of_methodNamed B.named
  have hlocks := B.notSynchronized
  have hin : ∀ w ∈ wsX00, w ∈ wsX0_lacks := fun _ h => List.mem_cons_of_mem _ (List.mem_append_left _ (List.mem_append_right _ h))
  have hS : va_S (AA B0) s.heap s.heap [] := va_S.rf
  have hB : B0 ≤ s.heap.size := hC.1.2.2.1
  have hK0 := hC.2
  have hl := lv_entry ([.ref (ad 0), .int li, .int yr]) (n := 5) (Nat.le_of_ble_eq_true rfl)
  rw [lg_entry_eq]
  generalize (lg_sl ([.ref (ad 0), .int li, .int yr]) ++ List.replicate (5 - (lg_sl ([.ref (ad 0), .int li, .int yr])).length) Slot.unset).toArray = ls at hl ⊢
  have hl : lv_has ls 5 [(0, .ref (ad 0)), (1, .int li), (2, .int yr)] := hl
  refine lv_aload_n hx hb dX0_lacks_0 rfl (lv_at hl 0 rfl) ?_
  refine lv_iload_n hx hb dX0_lacks_1 rfl (lv_at hl 1 rfl) ?_
  refine k_tV (As := [.int li]) (rest := []) (t_X0_checkLine l B0 g ct ad cS mS x hflags li h) hC hB hS ⟨hx, hb, hml, hown, hts⟩ (cwV 1 hts gX0_lacks_X0_checkLine rfl rfl rfl (by decide +kernel) ⟨Nat.le_of_ble_eq_true rfl, Nat.le_of_ble_eq_true rfl⟩) (rc0 hC) rfl hl.1 rfl (Nat.le_of_ble_eq_true rfl) dX0_lacks_2 ⟨Nat.le_of_ble_eq_true rfl, Nat.le_of_ble_eq_true rfl⟩ (fun ce_ q9_ H locs hC hS hce_ hcv_ hcl_ => ?_)
  exact vx_out (fun x hx_ => (hxt x hx_).elim) hlocks hce_ hcv_ hcl_ (fun t ht hA => ⟨(), trivial, ⟨rfl, by rw [ht]; exact hC.1⟩, hS.F ht⟩) hS.2.2 (Nat.le_of_ble_eq_true rfl) (Nat.le_of_ble_eq_true rfl)
set_option maxHeartbeats 4000000 in
set_option maxRecDepth 100000 in
theorem c_X0_nearest (l : Launch) (B0 : Nat) (g : va_G) (ct ad : Nat → Nat) (cS mS : St_) (x : Ax_) (yr : Int32) : RI l yX0_nearest wsX0_nearest 4 (PX B0 g ct ad cS mS x [.ref (ad 0), .int yr]) (ni_ (nr_ cS yr (sn cS))) := by
  refine Met.ofW (cc := cX0_nearest) (maxL := 8) (ret := (some .int)) (by decide) rfl ?_
  intro p e s m args below meth c s₁ B hml hv
  obtain ⟨rfl, hC⟩ := hv
  have hx := B.exec
  have hb := B.bytes
  have hr := B.returns
  have hts := atoms_spec (ws := wsX0_nearest) B.pre
  have hown : s.vm.findClass RX0 = some m.cls := findClass_of_methodNamed B.named
  have hlocks := B.notSynchronized
  have hin : ∀ w ∈ wsX00, w ∈ wsX0_nearest := fun _ h => List.mem_cons_of_mem _ (List.mem_append_right _ h)
  have hI := hC.1.2.2.2.1
  have hn := hI.2.1
  have hl := lv_entry ([.ref (ad 0), .int yr]) (n := 8) (Nat.le_of_ble_eq_true rfl)
  rw [lg_entry_eq]
  generalize (lg_sl ([.ref (ad 0), .int yr]) ++ List.replicate (8 - (lg_sl ([.ref (ad 0), .int yr])).length) Slot.unset).toArray = ls at hl ⊢
  have hl : lv_has ls 8 [(0, .ref (ad 0)), (1, .int yr)] := hl
  refine lv_iconst (v := -1) hx hb dX0_nearest_0 (by decide) ?_
  refine lv_istore_n (lv' := [(2, .int ((-1))), (0, .ref (ad 0)), (1, .int yr)]) hx hb dX0_nearest_1 rfl hl (by decide) rfl (fun ls hl => ?_)
  refine lv_lconst (v := 0) hx hb dX0_nearest_2 rfl ?_
  refine lv_lstore_n (lv' := [(3, .long 0), (2, .int ((-1))), (0, .ref (ad 0)), (1, .int yr)]) hx hb dX0_nearest_3 rfl hl (by decide) rfl (fun ls hl => ?_)
  refine lv_iconst (v := nI 0) hx hb dX0_nearest_4 (by decide) ?_
  refine lv_istore (lv' := [(5, .int (nI 0)), (3, .long 0), (2, .int ((-1))), (0, .ref (ad 0)), (1, .int yr)]) hx hb dX0_nearest_5 hl (by decide) rfl (fun ls hl => ?_)
  have LP_7 : ∀ (n_ : Nat) (bi : Int32) (bg : Int64) (k : Nat), sn cS - k < n_ → (bi = ni_ (nr_ cS yr k)) → (∀ b, nr_ cS yr k = some b → bg = gp_ cS yr b) → (k ≤ sn cS) → ∀ ls : Array Slot, lv_has ls 8 [(5, .int (nI k)), (3, .long bg), (2, .int bi), (0, .ref (ad 0)), (1, .int yr)] → W p l e (headSpec wsX0_nearest (rm_ 4 0 0)).room s m ([.ref (ad 0), .int yr] : List Value).toArray below meth c s.heap [] 0 0 (MQ below (vp_Si (fun r => r = ni_ (nr_ cS yr (sn cS)))) ([.ref (ad 0), .int yr] : List Value).toArray s 0 0 (fun _ => False)) (F0 m 7 ls []) := by
    intro n_
    induction n_ with
    | zero => intro bi bg k hm; exact absurd hm (Nat.not_lt_zero _)
    | succ n_ ih_7 =>
      intro bi bg k hm hb_ hg hk ls hl
      have hlt : ∀ b, nr_ cS yr k = some b → b < 2 ^ 31 := fun b q => by have := nr_lt q; omega
      refine lv_iload hx hb dX0_nearest_7 (lv_at hl 0 rfl) ?_
      refine lv_aload_n hx hb dX0_nearest_9 rfl (lv_at hl 3 rfl) ?_
      refine r_g0 hC hx hb hts hin hown 1 (by decide) (hts (.fieldLink RX0 13 "AbjadPoems" "lines" "I") (by decide +kernel)) rfl dX0_nearest_10 ?_
      refine lv_icmp_ge (tgt := 55) hx hb dX0_nearest_13 (by decide) (fun c_13 => ?_) (fun c_13 => ?_)
      · skip
        have n_13 : sn cS ≤ k := (nI_leI (a := sn cS) (b := k) (by omega) (by omega)).mp c_13
        have hE : bi = ni_ (nr_ cS yr (sn cS)) := by rw [hb_, show k = sn cS by omega]
        refine lv_iload_n hx hb dX0_nearest_55 rfl (lv_at hl 2 rfl) ?_
        exact W.iret hx hb hr (fun t ht hW => ⟨_, rfl, hE, ht⟩) (fun q hq => absurd hq List.not_mem_nil) dX0_nearest_56
      · skip
        have n_13 : ¬ sn cS ≤ k := fun q__ => c_13 ((nI_leI (a := sn cS) (b := k) (by omega) (by omega)).mpr q__)
        refine lv_aload_n hx hb dX0_nearest_16 rfl (lv_at hl 3 rfl) ?_
        refine lv_iload hx hb dX0_nearest_17 (lv_at hl 0 rfl) ?_
        refine lv_iconst (v := nI 2) hx hb dX0_nearest_19 (by decide) ?_
        refine k_rV (As := [.int (nI k), .int (nI 2)]) (rest := []) (c_X0_figureOfLine l B0 g ct ad cS mS x k 2 (by omega) (by omega)) hC ⟨hx, hb, hml, hown, hts⟩ (cwV 2 hts gX0_nearest_X0_figureOfLine rfl rfl rfl (by decide +kernel) ⟨Nat.le_of_ble_eq_true rfl, Nat.le_of_ble_eq_true rfl⟩) (rc0 hC) rfl hl.1 rfl (Nat.le_of_ble_eq_true rfl) dX0_nearest_20 ⟨Nat.le_of_ble_eq_true rfl, Nat.le_of_ble_eq_true rfl⟩ ?_
        refine lv_i2l (v := (nI (lt_ cS k 2)).toInt64) hx hb dX0_nearest_23 rfl ?_
        refine lv_iload_n hx hb dX0_nearest_24 rfl (lv_at hl 4 rfl) ?_
        refine lv_i2l (v := (yr).toInt64) hx hb dX0_nearest_25 rfl ?_
        refine lv_lsub hx hb dX0_nearest_26 ?_
        refine va_mabs_long hx hb (hml.trans hl.1.symm) hown (hts (.methodLink RX0 107 Lib.MathLoose.abs_long.x) (by decide +kernel)) (hts (.static Lib.MathLoose.abs_long.x) (by decide +kernel)) (hts (.initialized "java/lang/Math") (by decide +kernel)) (hts (.code Lib.MathLoose.abs_long.x Lib.MathLoose.abs_long.code 2 (some .long)) (by decide +kernel)) (Nat.le_of_ble_eq_true rfl) (Nat.le_of_ble_eq_true rfl) (Nat.zero_le _) (Nat.zero_le _) dX0_nearest_27 ?_
        refine lv_tl (w := gp_ cS yr k) rfl ?_
        refine lv_lstore (lv' := [(6, .long (gp_ cS yr k)), (5, .int (nI k)), (3, .long bg), (2, .int bi), (0, .ref (ad 0)), (1, .int yr)]) hx hb dX0_nearest_30 hl (by decide) rfl (fun ls hl => ?_)
        refine lv_iload_n hx hb dX0_nearest_32 rfl (lv_at hl 3 rfl) ?_
        refine lv_if_lt (tgt := 43) hx hb dX0_nearest_33 (by decide) (fun c_33 => ?_) (fun c_33 => ?_)
        · skip
          have n_33 : nr_ cS yr k = none := (ni_neg hlt).mp (by rw [← hb_]; exact c_33)
          have hN : nr_ cS yr (k + 1) = some k := by rw [nr_, n_33]
          have hS1 : nI k = ni_ (nr_ cS yr (k + 1)) := by rw [hN]; rfl
          have hS2 : ∀ b, nr_ cS yr (k + 1) = some b → gp_ cS yr k = gp_ cS yr b := fun b q => by rw [hN] at q; cases q; rfl
          refine lv_iload hx hb dX0_nearest_43 (lv_at hl 1 rfl) ?_
          refine lv_istore_n (lv' := [(2, .int (nI k)), (6, .long (gp_ cS yr k)), (5, .int (nI k)), (3, .long bg), (0, .ref (ad 0)), (1, .int yr)]) hx hb dX0_nearest_45 rfl hl (by decide) rfl (fun ls hl => ?_)
          refine lv_lload hx hb dX0_nearest_46 (lv_at hl 1 rfl) ?_
          refine lv_lstore_n (lv' := [(3, .long (gp_ cS yr k)), (2, .int (nI k)), (6, .long (gp_ cS yr k)), (5, .int (nI k)), (0, .ref (ad 0)), (1, .int yr)]) hx hb dX0_nearest_48 rfl hl (by decide) rfl (fun ls hl => ?_)
          refine lv_iinc (v := nI (k + 1)) (lv' := [(5, .int (nI (k + 1))), (3, .long (gp_ cS yr k)), (2, .int (nI k)), (6, .long (gp_ cS yr k)), (0, .ref (ad 0)), (1, .int yr)]) hx hb dX0_nearest_49 hl (k := 3) rfl (nI_1 _) (by decide) rfl (fun ls hl => ?_)
          refine lv_goto (tgt := 7) hx hb dX0_nearest_52 (by decide) ?_
          exact ih_7 (nI k) (gp_ cS yr k) (k + 1) (by omega) (hS1) (hS2) (by omega) ls (lv_sub hl [0, 1, 2, 4, 5] rfl)
        · skip
          obtain ⟨b0, n_33⟩ : ∃ b0, nr_ cS yr k = some b0 := by
            cases e9 : nr_ cS yr k with
            | none => exact absurd (by rw [hb_, e9]; decide) c_33
            | some b0 => exact ⟨b0, rfl⟩
          have hg0 := hg b0 n_33
          refine lv_lload hx hb dX0_nearest_36 (lv_at hl 0 rfl) ?_
          refine lv_lload_n hx hb dX0_nearest_38 rfl (lv_at hl 2 rfl) ?_
          refine W.lcmp hx hb dX0_nearest_39 ?_
          refine lv_if_ge (tgt := 49) hx hb dX0_nearest_40 (by decide) (fun c_40 => ?_) (fun c_40 => ?_)
          · skip
            have n_40 := (lc_ _ _).mp c_40
            rw [hg0] at n_40
            have hN : nr_ cS yr (k + 1) = some b0 := by rw [nr_, n_33]; exact if_neg n_40
            have hS1 : bi = ni_ (nr_ cS yr (k + 1)) := by rw [hN, hb_, n_33]
            have hS2 : ∀ b, nr_ cS yr (k + 1) = some b → bg = gp_ cS yr b := fun b q => by rw [hN] at q; cases q; exact hg0
            refine lv_iinc (v := nI (k + 1)) (lv' := [(5, .int (nI (k + 1))), (6, .long (gp_ cS yr k)), (3, .long bg), (2, .int bi), (0, .ref (ad 0)), (1, .int yr)]) hx hb dX0_nearest_49 hl (k := 1) rfl (nI_1 _) (by decide) rfl (fun ls hl => ?_)
            refine lv_goto (tgt := 7) hx hb dX0_nearest_52 (by decide) ?_
            exact ih_7 bi bg (k + 1) (by omega) (hS1) (hS2) (by omega) ls (lv_sub hl [0, 2, 3, 4, 5] rfl)
          · skip
            have n_40 : gp_ cS yr k < gp_ cS yr b0 := by
              rw [← hg0]
              exact Decidable.of_not_not (fun q => c_40 ((lc_ _ _).mpr q))
            have hN : nr_ cS yr (k + 1) = some k := by rw [nr_, n_33]; exact if_pos n_40
            have hS1 : nI k = ni_ (nr_ cS yr (k + 1)) := by rw [hN]; rfl
            have hS2 : ∀ b, nr_ cS yr (k + 1) = some b → gp_ cS yr k = gp_ cS yr b := fun b q => by rw [hN] at q; cases q; rfl
            refine lv_iload hx hb dX0_nearest_43 (lv_at hl 1 rfl) ?_
            refine lv_istore_n (lv' := [(2, .int (nI k)), (6, .long (gp_ cS yr k)), (5, .int (nI k)), (3, .long bg), (0, .ref (ad 0)), (1, .int yr)]) hx hb dX0_nearest_45 rfl hl (by decide) rfl (fun ls hl => ?_)
            refine lv_lload hx hb dX0_nearest_46 (lv_at hl 1 rfl) ?_
            refine lv_lstore_n (lv' := [(3, .long (gp_ cS yr k)), (2, .int (nI k)), (6, .long (gp_ cS yr k)), (5, .int (nI k)), (0, .ref (ad 0)), (1, .int yr)]) hx hb dX0_nearest_48 rfl hl (by decide) rfl (fun ls hl => ?_)
            refine lv_iinc (v := nI (k + 1)) (lv' := [(5, .int (nI (k + 1))), (3, .long (gp_ cS yr k)), (2, .int (nI k)), (6, .long (gp_ cS yr k)), (0, .ref (ad 0)), (1, .int yr)]) hx hb dX0_nearest_49 hl (k := 3) rfl (nI_1 _) (by decide) rfl (fun ls hl => ?_)
            refine lv_goto (tgt := 7) hx hb dX0_nearest_52 (by decide) ?_
            exact ih_7 (nI k) (gp_ cS yr k) (k + 1) (by omega) (hS1) (hS2) (by omega) ls (lv_sub hl [0, 1, 2, 4, 5] rfl)
  exact LP_7 _ (-1) 0 0 (Nat.lt_succ_self _) rfl (fun b q => by cases q) (Nat.zero_le _) ls (lv_sub hl [0, 1, 2, 3, 4] rfl)
set_option maxHeartbeats 4000000 in
set_option maxRecDepth 100000 in
theorem c_X0_fewestBySmaller (l : Launch) (B0 : Nat) (g : va_G) (ct ad : Nat → Nat) (cS mS : St_) (x : Ax_) (y : Nat) (h1 : 0 < y) (h2 : y ≤ 3000) (hrow : ∀ j, j < y → xf x (so cS) j = en_ (fe_ (so cS) j)) : RI l yX0_fewestBySmaller wsX0_fewestBySmaller 1 (PX B0 g ct ad cS mS x [.ref (ad 0), .int (nI y)]) (en_ (fe_ (so cS) y)) := by
  refine Met.ofW (cc := cX0_fewestBySmaller) (maxL := 5) (ret := (some .int)) (by decide) rfl ?_
  intro p e s m args below meth c s₁ B hml hv
  obtain ⟨rfl, hC⟩ := hv
  have hx := B.exec
  have hb := B.bytes
  have hr := B.returns
  have hts := atoms_spec (ws := wsX0_fewestBySmaller) B.pre
  have hown : s.vm.findClass RX0 = some m.cls := findClass_of_methodNamed B.named
  have hlocks := B.notSynchronized
  have hin : ∀ w ∈ wsX00, w ∈ wsX0_fewestBySmaller := fun _ h => List.mem_cons_of_mem _ (List.mem_append_right _ h)
  have hI := hC.1.2.2.2.1
  have ho := hI.1
  have hl := lv_entry ([.ref (ad 0), .int (nI y)]) (n := 5) (Nat.le_of_ble_eq_true rfl)
  rw [lg_entry_eq]
  generalize (lg_sl ([.ref (ad 0), .int (nI y)]) ++ List.replicate (5 - (lg_sl ([.ref (ad 0), .int (nI y)])).length) Slot.unset).toArray = ls at hl ⊢
  have hl : lv_has ls 5 [(0, .ref (ad 0)), (1, .int (nI y))] := hl
  refine lv_iconst (v := -1) hx hb dX0_fewestBySmaller_0 (by decide) ?_
  refine lv_istore_n (lv' := [(2, .int ((-1))), (0, .ref (ad 0)), (1, .int (nI y))]) hx hb dX0_fewestBySmaller_1 rfl hl (by decide) rfl (fun ls hl => ?_)
  refine lv_iconst (v := nI 1) hx hb dX0_fewestBySmaller_2 (by decide) ?_
  refine lv_istore_n (lv' := [(3, .int (nI 1)), (2, .int ((-1))), (0, .ref (ad 0)), (1, .int (nI y))]) hx hb dX0_fewestBySmaller_3 rfl hl (by decide) rfl (fun ls hl => ?_)
  have LP_4 : ∀ (n_ : Nat) (bi : Int32) (k : Nat), 27 - k < n_ → (bi = en_ (bs_ (so cS) (fe_ (so cS)) y (k - 1))) → (1 ≤ k ∧ k ≤ 27) → ∀ ls : Array Slot, lv_has ls 5 [(3, .int (nI k)), (2, .int bi), (0, .ref (ad 0)), (1, .int (nI y))] → W p l e (headSpec wsX0_fewestBySmaller (rm_ 1 0 0)).room s m ([.ref (ad 0), .int (nI y)] : List Value).toArray below meth c s.heap [] 0 0 (MQ below (vp_Si (fun r => r = en_ (fe_ (so cS) y))) ([.ref (ad 0), .int (nI y)] : List Value).toArray s 0 0 (fun _ => False)) (F0 m 4 ls []) := by
    intro n_
    induction n_ with
    | zero => intro bi k hm; exact absurd hm (Nat.not_lt_zero _)
    | succ n_ ih_4 =>
      intro bi k hm hb_ hk ls hl
      refine lv_iload_n hx hb dX0_fewestBySmaller_4 rfl (lv_at hl 0 rfl) ?_
      refine lv_bipush (v := nI 26) hx hb dX0_fewestBySmaller_5 (by decide) ?_
      refine lv_icmp_gt (tgt := 82) hx hb dX0_fewestBySmaller_7 (by decide) (fun c_7 => ?_) (fun c_7 => ?_)
      · skip
        have n_7 : 26 < k := (nI_ltI (a := 26) (b := k) (by omega) (by omega)).mp c_7
        have hE : bi = en_ (fe_ (so cS) y) := by rw [hb_, show k - 1 = 26 by omega, ← fe_s ho h1]
        refine lv_iload_n hx hb dX0_fewestBySmaller_82 rfl (lv_at hl 1 rfl) ?_
        exact W.iret hx hb hr (fun t ht hW => ⟨_, rfl, hE, ht⟩) (fun q hq => absurd hq List.not_mem_nil) dX0_fewestBySmaller_83
      · skip
        have n_7 : ¬ 26 < k := fun q__ => c_7 ((nI_ltI (a := 26) (b := k) (by omega) (by omega)).mpr q__)
        have hv := vl_pos _ ho k (by omega) (by omega)
        have hv2 := vl_le _ ho k (by omega)
        have hb9 := bs_le (so cS) (fe_ (so cS)) y (k - 1)
        refine lv_iload_n hx hb dX0_fewestBySmaller_10 rfl (lv_at hl 3 rfl) ?_
        refine lv_aload_n hx hb dX0_fewestBySmaller_11 rfl (lv_at hl 2 rfl) ?_
        refine lv_iload_n hx hb dX0_fewestBySmaller_12 rfl (lv_at hl 0 rfl) ?_
        refine k_rV (As := [.int (nI k)]) (rest := [.int (nI y)]) (c_X0_worthOfLetter l B0 g ct ad cS mS x k (by omega)) hC ⟨hx, hb, hml, hown, hts⟩ (cwV 1 hts gX0_fewestBySmaller_X0_worthOfLetter rfl rfl rfl (by decide +kernel) ⟨Nat.le_of_ble_eq_true rfl, Nat.le_of_ble_eq_true rfl⟩) (rc0 hC) rfl hl.1 rfl (Nat.le_of_ble_eq_true rfl) dX0_fewestBySmaller_13 ⟨Nat.le_of_ble_eq_true rfl, Nat.le_of_ble_eq_true rfl⟩ ?_
        refine lv_isub hx hb dX0_fewestBySmaller_16 ?_
        refine lv_istore (lv' := [(4, .int ((nI y) - (nI (vl_ (so cS) k)))), (3, .int (nI k)), (2, .int bi), (0, .ref (ad 0)), (1, .int (nI y))]) hx hb dX0_fewestBySmaller_17 hl (by decide) rfl (fun ls hl => ?_)
        refine lv_iload hx hb dX0_fewestBySmaller_19 (lv_at hl 0 rfl) ?_
        refine lv_if_lt (tgt := 76) hx hb dX0_fewestBySmaller_21 (by decide) (fun c_21 => ?_) (fun c_21 => ?_)
        · skip
          have n_21 := (sb_lt (by omega) (by omega)).mp c_21
          have hN : bs_ (so cS) (fe_ (so cS)) y k = bs_ (so cS) (fe_ (so cS)) y (k - 1) := bs_0 (by omega) (by omega)
          refine lv_iinc (v := nI (k + 1)) (lv' := [(3, .int (nI (k + 1))), (4, .int ((nI y) - (nI (vl_ (so cS) k)))), (2, .int bi), (0, .ref (ad 0)), (1, .int (nI y))]) hx hb dX0_fewestBySmaller_76 hl (k := 1) rfl (nI_1 _) (by decide) rfl (fun ls hl => ?_)
          refine lv_goto (tgt := 4) hx hb dX0_fewestBySmaller_79 (by decide) ?_
          exact ih_4 bi (k + 1) (by omega) (by first | (rw [Nat.add_sub_cancel, hN]; exact hb_) | (rw [Nat.add_sub_cancel]; exact hN2)) (by omega) ls (lv_sub hl [0, 2, 3, 4] rfl)
        · skip
          have n_21 : ¬ y < vl_ (so cS) k := fun q => c_21 ((sb_lt (by omega) (by omega)).mpr q)
          have hg9 := fe_le (so cS) (y - vl_ (so cS) k) ho
          have hgy := fe_y (o := so cS) (y := y - vl_ (so cS) k) ho
          have hl : lv_has ls 5 [(4, .int (nI (y - vl_ (so cS) k))), (3, .int (nI k)), (2, .int bi), (0, .ref (ad 0)), (1, .int (nI y))] := (by rw [pk_sub (show vl_ (so cS) k ≤ y by omega)] at hl; exact hl)
          refine lv_aload_n hx hb dX0_fewestBySmaller_24 rfl (lv_at hl 3 rfl) ?_
          refine r_g0 hC hx hb hts hin hown 6 (by decide) (hts (.fieldLink RX0 31 "AbjadPoems" "fewest" "[[I") (by decide +kernel)) rfl dX0_fewestBySmaller_25 ?_
          refine lv_aload_n hx hb dX0_fewestBySmaller_28 rfl (lv_at hl 3 rfl) ?_
          refine r_g0 hC hx hb hts hin hown 0 (by decide) (hts (.fieldLink RX0 9 "AbjadPoems" "order" "I") (by decide +kernel)) rfl dX0_fewestBySmaller_29 ?_
          refine r_fo hC hx hb dX0_fewestBySmaller_32 (j := so cS) (by omega) ?_
          refine lv_iload hx hb dX0_fewestBySmaller_33 (lv_at hl 0 rfl) ?_
          refine r_fr hC hx hb dX0_fewestBySmaller_35 (i := (so cS)) (j := y - vl_ (so cS) k) (by omega) (by omega) ?_
          refine lv_tn (w := en_ (fe_ (so cS) (y - vl_ (so cS) k))) (hrow _ (by omega)) ?_
          refine lv_if_lt (tgt := 76) hx hb dX0_fewestBySmaller_36 (by decide) (fun c_36 => ?_) (fun c_36 => ?_)
          · skip
            have n_36 := (en_neg hg9).mp c_36
            have hN : bs_ (so cS) (fe_ (so cS)) y k = bs_ (so cS) (fe_ (so cS)) y (k - 1) := bs_1 (by omega) (by omega) (by omega)
            refine lv_iinc (v := nI (k + 1)) (lv' := [(3, .int (nI (k + 1))), (4, .int (nI (y - vl_ (so cS) k))), (2, .int bi), (0, .ref (ad 0)), (1, .int (nI y))]) hx hb dX0_fewestBySmaller_76 hl (k := 1) rfl (nI_1 _) (by decide) rfl (fun ls hl => ?_)
            refine lv_goto (tgt := 4) hx hb dX0_fewestBySmaller_79 (by decide) ?_
            exact ih_4 bi (k + 1) (by omega) (by first | (rw [Nat.add_sub_cancel, hN]; exact hb_) | (rw [Nat.add_sub_cancel]; exact hN2)) (by omega) ls (lv_sub hl [0, 2, 3, 4] rfl)
          · skip
            have n_36 : fe_ (so cS) (y - vl_ (so cS) k) < 9999 := Decidable.of_not_not (fun q => c_36 ((en_neg hg9).mpr q))
            have hgy2 := hgy n_36
            refine lv_iload_n hx hb dX0_fewestBySmaller_39 rfl (lv_at hl 2 rfl) ?_
            refine lv_if_lt (tgt := 61) hx hb dX0_fewestBySmaller_40 (by decide) (fun c_40 => ?_) (fun c_40 => ?_)
            · skip
              have n_40 : ¬ bs_ (so cS) (fe_ (so cS)) y (k - 1) < 9999 := (en_neg hb9).mp (by rw [← hb_]; exact c_40)
              have hN2 : en_ (fe_ (so cS) (y - vl_ (so cS) k)) + nI 1 = en_ (bs_ (so cS) (fe_ (so cS)) y k) := by rw [bs_2 (by omega) (by omega) (by omega), en_t n_36, en_t (by omega), nI_add]
              refine lv_aload_n hx hb dX0_fewestBySmaller_61 rfl (lv_at hl 3 rfl) ?_
              refine r_g0 hC hx hb hts hin hown 6 (by decide) (hts (.fieldLink RX0 31 "AbjadPoems" "fewest" "[[I") (by decide +kernel)) rfl dX0_fewestBySmaller_62 ?_
              refine lv_aload_n hx hb dX0_fewestBySmaller_65 rfl (lv_at hl 3 rfl) ?_
              refine r_g0 hC hx hb hts hin hown 0 (by decide) (hts (.fieldLink RX0 9 "AbjadPoems" "order" "I") (by decide +kernel)) rfl dX0_fewestBySmaller_66 ?_
              refine r_fo hC hx hb dX0_fewestBySmaller_69 (j := so cS) (by omega) ?_
              refine lv_iload hx hb dX0_fewestBySmaller_70 (lv_at hl 0 rfl) ?_
              refine r_fr hC hx hb dX0_fewestBySmaller_72 (i := (so cS)) (j := y - vl_ (so cS) k) (by omega) (by omega) ?_
              refine lv_tn (w := en_ (fe_ (so cS) (y - vl_ (so cS) k))) (hrow _ (by omega)) ?_
              refine lv_iconst (v := nI 1) hx hb dX0_fewestBySmaller_73 (by decide) ?_
              refine lv_iadd hx hb dX0_fewestBySmaller_74 ?_
              refine lv_istore_n (lv' := [(2, .int ((en_ (fe_ (so cS) (y - vl_ (so cS) k))) + (nI 1))), (4, .int (nI (y - vl_ (so cS) k))), (3, .int (nI k)), (0, .ref (ad 0)), (1, .int (nI y))]) hx hb dX0_fewestBySmaller_75 rfl hl (by decide) rfl (fun ls hl => ?_)
              refine lv_iinc (v := nI (k + 1)) (lv' := [(3, .int (nI (k + 1))), (2, .int ((en_ (fe_ (so cS) (y - vl_ (so cS) k))) + (nI 1))), (4, .int (nI (y - vl_ (so cS) k))), (0, .ref (ad 0)), (1, .int (nI y))]) hx hb dX0_fewestBySmaller_76 hl (k := 2) rfl (nI_1 _) (by decide) rfl (fun ls hl => ?_)
              refine lv_goto (tgt := 4) hx hb dX0_fewestBySmaller_79 (by decide) ?_
              exact ih_4 ((en_ (fe_ (so cS) (y - vl_ (so cS) k))) + (nI 1)) (k + 1) (by omega) (by first | (rw [Nat.add_sub_cancel, hN]; exact hb_) | (rw [Nat.add_sub_cancel]; exact hN2)) (by omega) ls (lv_sub hl [0, 1, 3, 4] rfl)
            · skip
              have n_40 : bs_ (so cS) (fe_ (so cS)) y (k - 1) < 9999 := Decidable.of_not_not (fun q => c_40 (by rw [hb_]; exact (en_neg hb9).mpr q))
              refine lv_aload_n hx hb dX0_fewestBySmaller_43 rfl (lv_at hl 3 rfl) ?_
              refine r_g0 hC hx hb hts hin hown 6 (by decide) (hts (.fieldLink RX0 31 "AbjadPoems" "fewest" "[[I") (by decide +kernel)) rfl dX0_fewestBySmaller_44 ?_
              refine lv_aload_n hx hb dX0_fewestBySmaller_47 rfl (lv_at hl 3 rfl) ?_
              refine r_g0 hC hx hb hts hin hown 0 (by decide) (hts (.fieldLink RX0 9 "AbjadPoems" "order" "I") (by decide +kernel)) rfl dX0_fewestBySmaller_48 ?_
              refine r_fo hC hx hb dX0_fewestBySmaller_51 (j := so cS) (by omega) ?_
              refine lv_iload hx hb dX0_fewestBySmaller_52 (lv_at hl 0 rfl) ?_
              refine r_fr hC hx hb dX0_fewestBySmaller_54 (i := (so cS)) (j := y - vl_ (so cS) k) (by omega) (by omega) ?_
              refine lv_tn (w := en_ (fe_ (so cS) (y - vl_ (so cS) k))) (hrow _ (by omega)) ?_
              refine lv_iconst (v := nI 1) hx hb dX0_fewestBySmaller_55 (by decide) ?_
              refine lv_iadd hx hb dX0_fewestBySmaller_56 ?_
              refine lv_iload_n hx hb dX0_fewestBySmaller_57 rfl (lv_at hl 2 rfl) ?_
              refine lv_icmp_ge (tgt := 76) hx hb dX0_fewestBySmaller_58 (by decide) (fun c_58 => ?_) (fun c_58 => ?_)
              · skip
                have n_58 : bs_ (so cS) (fe_ (so cS)) y (k - 1) ≤ fe_ (so cS) (y - vl_ (so cS) k) + 1 := by
                  rw [hb_, en_t n_40, en_t n_36, nI_add, nI_leI (by omega) (by omega)] at c_58
                  exact c_58
                have hN : bs_ (so cS) (fe_ (so cS)) y k = bs_ (so cS) (fe_ (so cS)) y (k - 1) := bs_1 (by omega) (by omega) n_58
                refine lv_iinc (v := nI (k + 1)) (lv' := [(3, .int (nI (k + 1))), (4, .int (nI (y - vl_ (so cS) k))), (2, .int bi), (0, .ref (ad 0)), (1, .int (nI y))]) hx hb dX0_fewestBySmaller_76 hl (k := 1) rfl (nI_1 _) (by decide) rfl (fun ls hl => ?_)
                refine lv_goto (tgt := 4) hx hb dX0_fewestBySmaller_79 (by decide) ?_
                exact ih_4 bi (k + 1) (by omega) (by first | (rw [Nat.add_sub_cancel, hN]; exact hb_) | (rw [Nat.add_sub_cancel]; exact hN2)) (by omega) ls (lv_sub hl [0, 2, 3, 4] rfl)
              · skip
                have n_58 : ¬ bs_ (so cS) (fe_ (so cS)) y (k - 1) ≤ fe_ (so cS) (y - vl_ (so cS) k) + 1 := fun q => c_58 (by rw [hb_, en_t n_40, en_t n_36, nI_add, nI_leI (by omega) (by omega)]; exact q)
                have hN2 : en_ (fe_ (so cS) (y - vl_ (so cS) k)) + nI 1 = en_ (bs_ (so cS) (fe_ (so cS)) y k) := by rw [bs_2 (by omega) (by omega) n_58, en_t n_36, en_t (by omega), nI_add]
                refine lv_aload_n hx hb dX0_fewestBySmaller_61 rfl (lv_at hl 3 rfl) ?_
                refine r_g0 hC hx hb hts hin hown 6 (by decide) (hts (.fieldLink RX0 31 "AbjadPoems" "fewest" "[[I") (by decide +kernel)) rfl dX0_fewestBySmaller_62 ?_
                refine lv_aload_n hx hb dX0_fewestBySmaller_65 rfl (lv_at hl 3 rfl) ?_
                refine r_g0 hC hx hb hts hin hown 0 (by decide) (hts (.fieldLink RX0 9 "AbjadPoems" "order" "I") (by decide +kernel)) rfl dX0_fewestBySmaller_66 ?_
                refine r_fo hC hx hb dX0_fewestBySmaller_69 (j := so cS) (by omega) ?_
                refine lv_iload hx hb dX0_fewestBySmaller_70 (lv_at hl 0 rfl) ?_
                refine r_fr hC hx hb dX0_fewestBySmaller_72 (i := (so cS)) (j := y - vl_ (so cS) k) (by omega) (by omega) ?_
                refine lv_tn (w := en_ (fe_ (so cS) (y - vl_ (so cS) k))) (hrow _ (by omega)) ?_
                refine lv_iconst (v := nI 1) hx hb dX0_fewestBySmaller_73 (by decide) ?_
                refine lv_iadd hx hb dX0_fewestBySmaller_74 ?_
                refine lv_istore_n (lv' := [(2, .int ((en_ (fe_ (so cS) (y - vl_ (so cS) k))) + (nI 1))), (4, .int (nI (y - vl_ (so cS) k))), (3, .int (nI k)), (0, .ref (ad 0)), (1, .int (nI y))]) hx hb dX0_fewestBySmaller_75 rfl hl (by decide) rfl (fun ls hl => ?_)
                refine lv_iinc (v := nI (k + 1)) (lv' := [(3, .int (nI (k + 1))), (2, .int ((en_ (fe_ (so cS) (y - vl_ (so cS) k))) + (nI 1))), (4, .int (nI (y - vl_ (so cS) k))), (0, .ref (ad 0)), (1, .int (nI y))]) hx hb dX0_fewestBySmaller_76 hl (k := 2) rfl (nI_1 _) (by decide) rfl (fun ls hl => ?_)
                refine lv_goto (tgt := 4) hx hb dX0_fewestBySmaller_79 (by decide) ?_
                exact ih_4 ((en_ (fe_ (so cS) (y - vl_ (so cS) k))) + (nI 1)) (k + 1) (by omega) (by first | (rw [Nat.add_sub_cancel, hN]; exact hb_) | (rw [Nat.add_sub_cancel]; exact hN2)) (by omega) ls (lv_sub hl [0, 1, 3, 4] rfl)
  exact LP_4 _ (-1) 1 (Nat.lt_succ_self _) rfl (by omega) ls (lv_sub hl [0, 1, 2, 3] rfl)
set_option maxHeartbeats 4000000 in
set_option maxRecDepth 100000 in
theorem c_X0_greatestFirst (l : Launch) (B0 : Nat) (g : va_G) (ct ad : Nat → Nat) (cS mS : St_) (x : Ax_) (y : Nat) (h2 : y ≤ 3000) (h3 : 0 < fe_ (so cS) y) (h4 : fe_ (so cS) y < 9999) (hrow : ∀ j, j ≤ 3000 → xf x (so cS) j = en_ (fe_ (so cS) j)) : RI l yX0_greatestFirst wsX0_greatestFirst 1 (PX B0 g ct ad cS mS x [.ref (ad 0), .int (nI y)]) (nI (gf_ (so cS) y)) := by
  refine Met.ofW (cc := cX0_greatestFirst) (maxL := 4) (ret := (some .int)) (by decide) rfl ?_
  intro p e s m args below meth c s₁ B hml hv
  obtain ⟨rfl, hC⟩ := hv
  have hx := B.exec
  have hb := B.bytes
  have hr := B.returns
  have hts := atoms_spec (ws := wsX0_greatestFirst) B.pre
  have hown : s.vm.findClass RX0 = some m.cls := findClass_of_methodNamed B.named
  have hlocks := B.notSynchronized
  have hin : ∀ w ∈ wsX00, w ∈ wsX0_greatestFirst := fun _ h => List.mem_cons_of_mem _ (List.mem_append_right _ h)
  have hI := hC.1.2.2.2.1
  have ho := hI.1
  have hl := lv_entry ([.ref (ad 0), .int (nI y)]) (n := 4) (Nat.le_of_ble_eq_true rfl)
  rw [lg_entry_eq]
  generalize (lg_sl ([.ref (ad 0), .int (nI y)]) ++ List.replicate (4 - (lg_sl ([.ref (ad 0), .int (nI y)])).length) Slot.unset).toArray = ls at hl ⊢
  have hl : lv_has ls 4 [(0, .ref (ad 0)), (1, .int (nI y))] := hl
  refine lv_bipush (v := nI 26) hx hb dX0_greatestFirst_0 (by decide) ?_
  refine lv_istore_n (lv' := [(2, .int (nI 26)), (0, .ref (ad 0)), (1, .int (nI y))]) hx hb dX0_greatestFirst_2 rfl hl (by decide) rfl (fun ls hl => ?_)
  have LP_3 : ∀ (n_ : Nat) (k : Nat), k < n_ → (gs_ (so cS) y k = gf_ (so cS) y) → (k ≤ 26) → ∀ ls : Array Slot, lv_has ls 4 [(2, .int (nI k)), (0, .ref (ad 0)), (1, .int (nI y))] → W p l e (headSpec wsX0_greatestFirst (rm_ 1 0 0)).room s m ([.ref (ad 0), .int (nI y)] : List Value).toArray below meth c s.heap [] 0 0 (MQ below (vp_Si (fun r => r = nI (gf_ (so cS) y))) ([.ref (ad 0), .int (nI y)] : List Value).toArray s 0 0 (fun _ => False)) (F0 m 3 ls []) := by
    intro n_
    induction n_ with
    | zero => intro k hm; exact absurd hm (Nat.not_lt_zero _)
    | succ n_ ih_3 =>
      intro k hm h1 hk ls hl
      refine lv_iload_n hx hb dX0_greatestFirst_3 rfl (lv_at hl 0 rfl) ?_
      refine lv_iconst (v := nI 1) hx hb dX0_greatestFirst_4 (by decide) ?_
      refine lv_icmp_lt (tgt := 55) hx hb dX0_greatestFirst_5 (by decide) (fun c_5 => ?_) (fun c_5 => ?_)
      · skip
        have n_5 : k < 1 := (nI_ltI (a := k) (b := 1) (by omega) (by omega)).mp c_5
        have hE : gf_ (so cS) y = 0 := by rw [← h1, show k = 0 by omega]; rfl
        refine lv_iconst (v := nI 0) hx hb dX0_greatestFirst_55 (by decide) ?_
        exact W.iret hx hb hr (fun t ht hW => ⟨_, rfl, (by show nI 0 = nI (gf_ (so cS) y); rw [hE]), ht⟩) (fun q hq => absurd hq List.not_mem_nil) dX0_greatestFirst_56
      · skip
        have n_5 : ¬ k < 1 := fun q__ => c_5 ((nI_ltI (a := k) (b := 1) (by omega) (by omega)).mpr q__)
        have hv := vl_pos _ ho k (by omega) (by omega)
        have hv2 := vl_le _ ho k (by omega)
        refine lv_iload_n hx hb dX0_greatestFirst_8 rfl (lv_at hl 2 rfl) ?_
        refine lv_aload_n hx hb dX0_greatestFirst_9 rfl (lv_at hl 1 rfl) ?_
        refine lv_iload_n hx hb dX0_greatestFirst_10 rfl (lv_at hl 0 rfl) ?_
        refine k_rV (As := [.int (nI k)]) (rest := [.int (nI y)]) (c_X0_worthOfLetter l B0 g ct ad cS mS x k (by omega)) hC ⟨hx, hb, hml, hown, hts⟩ (cwV 1 hts gX0_greatestFirst_X0_worthOfLetter rfl rfl rfl (by decide +kernel) ⟨Nat.le_of_ble_eq_true rfl, Nat.le_of_ble_eq_true rfl⟩) (rc0 hC) rfl hl.1 rfl (Nat.le_of_ble_eq_true rfl) dX0_greatestFirst_11 ⟨Nat.le_of_ble_eq_true rfl, Nat.le_of_ble_eq_true rfl⟩ ?_
        refine lv_isub hx hb dX0_greatestFirst_14 ?_
        refine lv_istore_n (lv' := [(3, .int ((nI y) - (nI (vl_ (so cS) k)))), (2, .int (nI k)), (0, .ref (ad 0)), (1, .int (nI y))]) hx hb dX0_greatestFirst_15 rfl hl (by decide) rfl (fun ls hl => ?_)
        refine lv_iload_n hx hb dX0_greatestFirst_16 rfl (lv_at hl 0 rfl) ?_
        refine lv_if_lt (tgt := 49) hx hb dX0_greatestFirst_17 (by decide) (fun c_17 => ?_) (fun c_17 => ?_)
        · skip
          have n_17 := (sb_lt (by omega) (by omega)).mp c_17
          have hN : ¬ (vl_ (so cS) k ≤ y ∧ fe_ (so cS) (y - vl_ (so cS) k) + 1 = fe_ (so cS) y) := fun q => absurd q.1 (by omega)
          refine lv_iinc (v := nI (k - 1)) (lv' := [(2, .int (nI (k - 1))), (3, .int ((nI y) - (nI (vl_ (so cS) k)))), (0, .ref (ad 0)), (1, .int (nI y))]) hx hb dX0_greatestFirst_49 hl (k := 1) rfl (im2_ (by omega)) (by decide) rfl (fun ls hl => ?_)
          refine lv_goto (tgt := 3) hx hb dX0_greatestFirst_52 (by decide) ?_
          exact ih_3 (k - 1) (by omega) (by rw [← h1, gs_f (show 0 < k by omega) hN]) (by omega) ls (lv_sub hl [0, 2, 3] rfl)
        · skip
          have n_17 : ¬ y < vl_ (so cS) k := fun q => c_17 ((sb_lt (by omega) (by omega)).mpr q)
          have hl : lv_has ls 4 [(3, .int (nI (y - vl_ (so cS) k))), (2, .int (nI k)), (0, .ref (ad 0)), (1, .int (nI y))] := (by rw [pk_sub (show vl_ (so cS) k ≤ y by omega)] at hl; exact hl)
          refine lv_aload_n hx hb dX0_greatestFirst_20 rfl (lv_at hl 2 rfl) ?_
          refine r_g0 hC hx hb hts hin hown 6 (by decide) (hts (.fieldLink RX0 31 "AbjadPoems" "fewest" "[[I") (by decide +kernel)) rfl dX0_greatestFirst_21 ?_
          refine lv_aload_n hx hb dX0_greatestFirst_24 rfl (lv_at hl 2 rfl) ?_
          refine r_g0 hC hx hb hts hin hown 0 (by decide) (hts (.fieldLink RX0 9 "AbjadPoems" "order" "I") (by decide +kernel)) rfl dX0_greatestFirst_25 ?_
          refine r_fo hC hx hb dX0_greatestFirst_28 (j := so cS) (by omega) ?_
          refine lv_iload_n hx hb dX0_greatestFirst_29 rfl (lv_at hl 0 rfl) ?_
          refine r_fr hC hx hb dX0_greatestFirst_30 (i := (so cS)) (j := y - vl_ (so cS) k) (by omega) (by omega) ?_
          refine lv_tn (w := en_ (fe_ (so cS) (y - vl_ (so cS) k))) (hrow _ (by omega)) ?_
          refine lv_aload_n hx hb dX0_greatestFirst_31 rfl (lv_at hl 2 rfl) ?_
          refine r_g0 hC hx hb hts hin hown 6 (by decide) (hts (.fieldLink RX0 31 "AbjadPoems" "fewest" "[[I") (by decide +kernel)) rfl dX0_greatestFirst_32 ?_
          refine lv_aload_n hx hb dX0_greatestFirst_35 rfl (lv_at hl 2 rfl) ?_
          refine r_g0 hC hx hb hts hin hown 0 (by decide) (hts (.fieldLink RX0 9 "AbjadPoems" "order" "I") (by decide +kernel)) rfl dX0_greatestFirst_36 ?_
          refine r_fo hC hx hb dX0_greatestFirst_39 (j := so cS) (by omega) ?_
          refine lv_iload_n hx hb dX0_greatestFirst_40 rfl (lv_at hl 3 rfl) ?_
          refine r_fr hC hx hb dX0_greatestFirst_41 (i := (so cS)) (j := y) (by omega) (by omega) ?_
          refine lv_tn (w := en_ (fe_ (so cS) y)) (hrow _ (by omega)) ?_
          refine lv_iconst (v := nI 1) hx hb dX0_greatestFirst_42 (by decide) ?_
          refine lv_isub hx hb dX0_greatestFirst_43 ?_
          refine lv_icmp_ne (tgt := 49) hx hb dX0_greatestFirst_44 (by decide) (fun c_44 => ?_) (fun c_44 => ?_)
          · skip
            have hN : ¬ (vl_ (so cS) k ≤ y ∧ fe_ (so cS) (y - vl_ (so cS) k) + 1 = fe_ (so cS) y) := fun q => c_44 ((en_eq h3 h4).mpr q.2)
            refine lv_iinc (v := nI (k - 1)) (lv' := [(2, .int (nI (k - 1))), (3, .int (nI (y - vl_ (so cS) k))), (0, .ref (ad 0)), (1, .int (nI y))]) hx hb dX0_greatestFirst_49 hl (k := 1) rfl (im2_ (by omega)) (by decide) rfl (fun ls hl => ?_)
            refine lv_goto (tgt := 3) hx hb dX0_greatestFirst_52 (by decide) ?_
            exact ih_3 (k - 1) (by omega) (by rw [← h1, gs_f (show 0 < k by omega) hN]) (by omega) ls (lv_sub hl [0, 2, 3] rfl)
          · skip
            have hE : gf_ (so cS) y = k := by rw [← h1, gs_t (show 0 < k by omega) ⟨by omega, (en_eq h3 h4).mp c_44⟩]
            refine lv_iload_n hx hb dX0_greatestFirst_47 rfl (lv_at hl 1 rfl) ?_
            exact W.iret hx hb hr (fun t ht hW => ⟨_, rfl, (by show nI k = nI (gf_ (so cS) y); rw [hE]), ht⟩) (fun q hq => absurd hq List.not_mem_nil) dX0_greatestFirst_48
  exact LP_3 _ 26 (Nat.lt_succ_self _) rfl (by omega) ls (lv_sub hl [0, 1, 2] rfl)
