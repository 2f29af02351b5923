set_option maxHeartbeats 4000000 in
set_option maxRecDepth 100000 in
theorem c_X0_count (l : Launch) (B0 : Nat) (g : va_G) (ct ad : Nat → Nat) (cS : St_) (mS : Pl_) (x : Ax_) (o : Nat) (ho : o < 3) : WI l yX0_count wsX0_count 0 0 0 B0 g ct ad cS mS x [.ref (ad 0), .int (nI o)] (nI (so cS)) (st_count cS o) mS ((sx_ x)) := by
  refine Met.ofW (cc := cX0_count) (maxL := 3) (ret := (some .int)) (by decide) rfl ?_
  intro p e s m args below meth c s₁ B hml hv
  obtain ⟨rfl, hC⟩ := hv
  have hx := B.exec
  have hb := B.bytes
  have hr := B.returns
  have hts := atoms_spec (ws := wsX0_count) B.pre
  have hown : s.vm.findClass RX0 = some m.cls := findClass_of_methodNamed B.named
  have hlocks := B.notSynchronized
  have hin : ∀ w ∈ wsX00, w ∈ wsX0_count := fun _ h => List.mem_cons_of_mem _ (List.mem_append_left _ (List.mem_append_right _ h))
  have hS : va_S (AA B0) s.heap s.heap [] := va_S.rf
  have hB : B0 ≤ s.heap.size := hC.1.2.2.1
  have hI := hC.1.2.2.2
  have hl := lv_entry ([.ref (ad 0), .int (nI o)]) (n := 3) (Nat.le_of_ble_eq_true rfl)
  rw [lg_entry_eq]
  generalize (lg_sl ([.ref (ad 0), .int (nI o)]) ++ List.replicate (3 - (lg_sl ([.ref (ad 0), .int (nI o)])).length) Slot.unset).toArray = ls at hl ⊢
  have hl : lv_has ls 3 [(0, .ref (ad 0)), (1, .int (nI o))] := hl
  refine lv_iload_n hx hb dX0_count_0 rfl (lv_at hl 1 rfl) ?_
  refine lv_if_lt (tgt := 9) hx hb dX0_count_1 (by decide) (fun c_1 => ?_) (fun c_1 => ?_)
  · skip
    exact absurd c_1 (nI_pos (by omega))
  · skip
    refine lv_iload_n hx hb dX0_count_4 rfl (lv_at hl 1 rfl) ?_
    refine lv_iconst (v := nI 3) hx hb dX0_count_5 (by decide) ?_
    refine lv_icmp_lt (tgt := 19) hx hb dX0_count_6 (by decide) (fun c_6 => ?_) (fun c_6 => ?_)
    · skip
      have n_6 : o < 3 := (nI_ltI (a := o) (b := 3) (by omega) (by omega)).mp c_6
      refine lv_aload_n hx hb dX0_count_19 rfl (lv_at hl 0 rfl) ?_
      refine r_g0 hC hx hb hts hin hown 0 (by decide) (hts (.fieldLink RX0 9 "AbjadPoems" "order" "I") (by decide +kernel)) rfl dX0_count_20 ?_
      refine lv_istore_n (lv' := [(2, .int (nI (so cS))), (0, .ref (ad 0)), (1, .int (nI o))]) hx hb dX0_count_23 rfl hl (by decide) rfl (fun ls hl => ?_)
      refine lv_aload_n hx hb dX0_count_24 rfl (lv_at hl 1 rfl) ?_
      refine lv_iload_n hx hb dX0_count_25 rfl (lv_at hl 2 rfl) ?_
      refine w_f0 (c' := st_count cS o) hC hB hS hx hb hts hin hown 0 (by decide) (hts (.fieldLink RX0 9 "AbjadPoems" "order" "I") (by decide +kernel)) rfl rfl (iv_o hI ho) dX0_count_26 (fun H locs hC hS => ?_)
      refine lv_iload_n hx hb dX0_count_29 rfl (lv_at hl 0 rfl) ?_
      exact W.iret hx hb hr (fun t ht hW => ⟨⟨_, x, rfl, ⟨rfl, (sx_r _)⟩, (by show CW B0 g ct ad (st_count cS o) mS x t.heap; rw [ht]; exact hC.1)⟩, hS.F ht⟩) hS.2.2 dX0_count_30
    · skip
      have n_6 : ¬ o < 3 := fun q__ => c_6 ((nI_ltI (a := o) (b := 3) (by omega) (by omega)).mpr q__)
      exact absurd ho n_6
set_option maxHeartbeats 4000000 in
set_option maxRecDepth 100000 in
theorem c_X0_write (l : Launch) (B0 : Nat) (g : va_G) (ct ad : Nat → Nat) (cS : St_) (mS : Pl_) (x : Ax_) (hn : sn cS < 12) : WI l yX0_write wsX0_write 0 0 0 B0 g ct ad cS mS x [.ref (ad 0)] (nI (sn cS)) (st_write cS) mS ((sx_ x)) := by
  refine Met.ofW (cc := cX0_write) (maxL := 1) (ret := (some .int)) (by decide) rfl ?_
  intro p e s m args below meth c s₁ B hml hv
  obtain ⟨rfl, hC⟩ := hv
  have hx := B.exec
  have hb := B.bytes
  have hr := B.returns
  have hts := atoms_spec (ws := wsX0_write) B.pre
  have hown : s.vm.findClass RX0 = some m.cls := findClass_of_methodNamed B.named
  have hlocks := B.notSynchronized
  have hin : ∀ w ∈ wsX00, w ∈ wsX0_write := fun _ h => List.mem_cons_of_mem _ (List.mem_append_left _ (List.mem_append_right _ h))
  have hS : va_S (AA B0) s.heap s.heap [] := va_S.rf
  have hB : B0 ≤ s.heap.size := hC.1.2.2.1
  have hI := hC.1.2.2.2
  have hl := lv_entry ([.ref (ad 0)]) (n := 1) (Nat.le_of_ble_eq_true rfl)
  rw [lg_entry_eq]
  generalize (lg_sl ([.ref (ad 0)]) ++ List.replicate (1 - (lg_sl ([.ref (ad 0)])).length) Slot.unset).toArray = ls at hl ⊢
  have hl : lv_has ls 1 [(0, .ref (ad 0))] := hl
  refine lv_aload_n hx hb dX0_write_0 rfl (lv_at hl 0 rfl) ?_
  refine r_g0 hC hx hb hts hin hown 1 (by decide) (hts (.fieldLink RX0 13 "AbjadPoems" "lines" "I") (by decide +kernel)) rfl dX0_write_1 ?_
  refine lv_bipush (v := nI 12) hx hb dX0_write_4 (by decide) ?_
  refine lv_icmp_lt (tgt := 19) hx hb dX0_write_6 (by decide) (fun c_6 => ?_) (fun c_6 => ?_)
  · skip
    have n_6 : sn cS < 12 := (nI_ltI (a := sn cS) (b := 12) (by omega) (by omega)).mp c_6
    refine lv_aload_n hx hb dX0_write_19 rfl (lv_at hl 0 rfl) ?_
    refine lv_dup hx hb dX0_write_20 rfl ?_
    refine r_g0 hC hx hb hts hin hown 1 (by decide) (hts (.fieldLink RX0 13 "AbjadPoems" "lines" "I") (by decide +kernel)) rfl dX0_write_21 ?_
    refine lv_iconst (v := nI 1) hx hb dX0_write_24 (by decide) ?_
    refine lv_iadd hx hb dX0_write_25 ?_
    refine lv_tn (nI_add _ _) ?_
    refine w_f0 (c' := st_write cS) hC hB hS hx hb hts hin hown 1 (by decide) (hts (.fieldLink RX0 13 "AbjadPoems" "lines" "I") (by decide +kernel)) rfl rfl (iv_n hI hn) dX0_write_26 (fun H locs hC hS => ?_)
    refine lv_aload_n hx hb dX0_write_29 rfl (lv_at hl 0 rfl) ?_
    refine r_g0 hC hx hb hts hin hown 1 (by decide) (hts (.fieldLink RX0 13 "AbjadPoems" "lines" "I") (by decide +kernel)) rfl dX0_write_30 ?_
    refine lv_iconst (v := nI 1) hx hb dX0_write_33 (by decide) ?_
    refine lv_isub hx hb dX0_write_34 ?_
    refine lv_tn (pk_sub (by show 1 ≤ sn cS + 1; omega)) ?_
    exact W.iret hx hb hr (fun t ht hW => ⟨⟨_, x, rfl, ⟨rfl, (sx_r _)⟩, (by show CW B0 g ct ad (st_write cS) mS x t.heap; rw [ht]; exact hC.1)⟩, hS.F ht⟩) hS.2.2 dX0_write_35
  · skip
    have n_6 : ¬ sn cS < 12 := fun q__ => c_6 ((nI_ltI (a := sn cS) (b := 12) (by omega) (by omega)).mpr q__)
    exact absurd hn n_6
set_option maxHeartbeats 4000000 in
set_option maxRecDepth 100000 in
theorem c_X0_add (l : Launch) (B0 : Nat) (g : va_G) (ct ad : Nat → Nat) (cS : St_) (mS : Pl_) (x : Ax_) (i w : Nat) (hi : i < sn cS) (hw : w < 387420489) (hwd : wd_ (nI w) = true) (hs : ss cS i < 10) : WI l yX0_add wsX0_add 2 0 0 B0 g ct ad cS mS x [.ref (ad 0), .int (nI i), .int (nI w)] (nI (ss cS i + 1)) (st_add cS i w) mS ((sx_ x)) := by
  refine Met.ofW (cc := cX0_add) (maxL := 4) (ret := (some .int)) (by decide) rfl ?_
  intro p e s m args below meth c s₁ B hml hv
  obtain ⟨rfl, hC⟩ := hv
  have hx := B.exec
  have hb := B.bytes
  have hr := B.returns
  have hts := atoms_spec (ws := wsX0_add) B.pre
  have hown : s.vm.findClass RX0 = some m.cls := findClass_of_methodNamed B.named
  have hlocks := B.notSynchronized
  have hin : ∀ w ∈ wsX00, w ∈ wsX0_add := fun _ h => List.mem_cons_of_mem _ (List.mem_append_left _ (List.mem_append_left _ (List.mem_append_left _ (List.mem_append_right _ h))))
  have hS : va_S (AA B0) s.heap s.heap [] := va_S.rf
  have hB : B0 ≤ s.heap.size := hC.1.2.2.1
  have hI := hC.1.2.2.2
  have hn := hI.2.1
  have hz := hI.2.2.1 i
  have hl := lv_entry ([.ref (ad 0), .int (nI i), .int (nI w)]) (n := 4) (Nat.le_of_ble_eq_true rfl)
  rw [lg_entry_eq]
  generalize (lg_sl ([.ref (ad 0), .int (nI i), .int (nI w)]) ++ List.replicate (4 - (lg_sl ([.ref (ad 0), .int (nI i), .int (nI w)])).length) Slot.unset).toArray = ls at hl ⊢
  have hl : lv_has ls 4 [(0, .ref (ad 0)), (1, .int (nI i)), (2, .int (nI w))] := hl
  refine lv_aload_n hx hb dX0_add_0 rfl (lv_at hl 0 rfl) ?_
  refine lv_iload_n hx hb dX0_add_1 rfl (lv_at hl 1 rfl) ?_
  refine k_vV (As := [.int (nI i)]) (rest := []) (c_X0_checkLine l B0 g ct ad cS mS x i (by omega)) hC ⟨hx, hb, hml, hown, hts⟩ (cwV 1 hts gX0_add_X0_checkLine rfl rfl rfl (by decide +kernel) ⟨Nat.le_of_ble_eq_true rfl, Nat.le_of_ble_eq_true rfl⟩) (rc0 hC) rfl hl.1 rfl (Nat.le_of_ble_eq_true rfl) dX0_add_2 ⟨Nat.le_of_ble_eq_true rfl, Nat.le_of_ble_eq_true rfl⟩ ?_
  refine lv_iload_n hx hb dX0_add_5 rfl (lv_at hl 2 rfl) ?_
  refine k_vS (As := [.int (nI w)]) (rest := []) (c_X0_checkWord l B0 g ct ad cS mS x (nI w) hwd) hC ⟨hx, hb, hml, hown, hts⟩ (va_cwS 1 hts gX0_add_X0_checkWord rfl rfl rfl (by decide +kernel) ⟨Nat.le_of_ble_eq_true rfl, Nat.le_of_ble_eq_true rfl⟩) rfl hl.1 rfl (Nat.le_of_ble_eq_true rfl) dX0_add_6 ⟨Nat.le_of_ble_eq_true rfl, Nat.le_of_ble_eq_true rfl⟩ ?_
  refine lv_aload_n hx hb dX0_add_9 rfl (lv_at hl 0 rfl) ?_
  refine r_g0 hC hx hb hts hin hown 2 (by decide) (hts (.fieldLink RX0 16 "AbjadPoems" "sizes" "[I") (by decide +kernel)) rfl dX0_add_10 ?_
  refine lv_iload_n hx hb dX0_add_13 rfl (lv_at hl 1 rfl) ?_
  refine r_sz hC hx hb dX0_add_14 (j := i) (by omega) ?_
  refine lv_istore_n (lv' := [(3, .int (nI (ss cS i))), (0, .ref (ad 0)), (1, .int (nI i)), (2, .int (nI w))]) hx hb dX0_add_15 rfl hl (by decide) rfl (fun ls hl => ?_)
  refine lv_iload_n hx hb dX0_add_16 rfl (lv_at hl 0 rfl) ?_
  refine lv_bipush (v := nI 10) hx hb dX0_add_17 (by decide) ?_
  refine lv_icmp_lt (tgt := 32) hx hb dX0_add_19 (by decide) (fun c_19 => ?_) (fun c_19 => ?_)
  · skip
    have n_19 : ss cS i < 10 := (nI_ltI (a := ss cS i) (b := 10) (by omega) (by omega)).mp c_19
    refine lv_aload_n hx hb dX0_add_32 rfl (lv_at hl 1 rfl) ?_
    refine r_g0 hC hx hb hts hin hown 3 (by decide) (hts (.fieldLink RX0 22 "AbjadPoems" "words" "[[I") (by decide +kernel)) rfl dX0_add_33 ?_
    refine lv_iload_n hx hb dX0_add_36 rfl (lv_at hl 2 rfl) ?_
    refine r_wo hC hx hb dX0_add_37 (j := i) (by omega) ?_
    refine lv_iload_n hx hb dX0_add_38 rfl (lv_at hl 0 rfl) ?_
    refine lv_iload_n hx hb dX0_add_39 rfl (lv_at hl 3 rfl) ?_
    refine w_wr hC hB hS hx hb dX0_add_40 (i := i) (j := (ss cS i)) (v := w) (by omega) (by omega) (iv_w hI hw (ix_ hI hs)) (fun H locs hC hS => ?_)
    refine lv_aload_n hx hb dX0_add_41 rfl (lv_at hl 1 rfl) ?_
    refine r_g0 hC hx hb hts hin hown 4 (by decide) (hts (.fieldLink RX0 25 "AbjadPoems" "marks" "[[I") (by decide +kernel)) rfl dX0_add_42 ?_
    refine lv_iload_n hx hb dX0_add_45 rfl (lv_at hl 2 rfl) ?_
    refine r_ko hC hx hb dX0_add_46 (j := i) (by omega) ?_
    refine lv_iload_n hx hb dX0_add_47 rfl (lv_at hl 0 rfl) ?_
    refine lv_iconst (v := nI 0) hx hb dX0_add_48 (by decide) ?_
    refine w_kr hC hB hS hx hb dX0_add_49 (i := i) (j := (ss cS i)) (v := 0) (by omega) (by omega) (iv_k (iv_w hI hw (ix_ hI hs)) (by omega) (fun l w hw e => absurd e (ix_ hI hs l w hw))) (fun H locs hC hS => ?_)
    refine lv_aload_n hx hb dX0_add_50 rfl (lv_at hl 1 rfl) ?_
    refine r_g0 hC hx hb hts hin hown 2 (by decide) (hts (.fieldLink RX0 16 "AbjadPoems" "sizes" "[I") (by decide +kernel)) rfl dX0_add_51 ?_
    refine lv_iload_n hx hb dX0_add_54 rfl (lv_at hl 2 rfl) ?_
    refine lv_iload_n hx hb dX0_add_55 rfl (lv_at hl 0 rfl) ?_
    refine lv_iconst (v := nI 1) hx hb dX0_add_56 (by decide) ?_
    refine lv_iadd hx hb dX0_add_57 ?_
    refine lv_tn (nI_add _ _) ?_
    refine w_sz hC hB hS hx hb dX0_add_58 (j := i) (v := (ss cS i) + 1) (by omega) (iv_add hI hs hw) (fun H locs hC hS => ?_)
    refine lv_iload_n hx hb dX0_add_59 rfl (lv_at hl 0 rfl) ?_
    refine lv_iconst (v := nI 1) hx hb dX0_add_60 (by decide) ?_
    refine lv_iadd hx hb dX0_add_61 ?_
    refine lv_tn (nI_add _ _) ?_
    exact W.iret hx hb hr (fun t ht hW => ⟨⟨_, x, rfl, ⟨rfl, (sx_r _)⟩, (by show CW B0 g ct ad (st_add cS i w) mS x t.heap; rw [ht]; exact hC.1)⟩, hS.F ht⟩) hS.2.2 dX0_add_62
  · skip
    have n_19 : ¬ ss cS i < 10 := fun q__ => c_19 ((nI_ltI (a := ss cS i) (b := 10) (by omega) (by omega)).mpr q__)
    exact absurd hs n_19
set_option maxHeartbeats 4000000 in
set_option maxRecDepth 100000 in
theorem c_X0_cut (l : Launch) (B0 : Nat) (g : va_G) (ct ad : Nat → Nat) (cS : St_) (mS : Pl_) (x : Ax_) (i : Nat) (hi : i < sn cS) (hs : 0 < ss cS i) : WI l yX0_cut wsX0_cut 1 0 0 B0 g ct ad cS mS x [.ref (ad 0), .int (nI i)] (nI (sw cS (10 * i + (ss cS i - 1)))) (st_cut cS i) mS ((sx_ x)) := by
  refine Met.ofW (cc := cX0_cut) (maxL := 3) (ret := (some .int)) (by decide) rfl ?_
  intro p e s m args below meth c s₁ B hml hv
  obtain ⟨rfl, hC⟩ := hv
  have hx := B.exec
  have hb := B.bytes
  have hr := B.returns
  have hts := atoms_spec (ws := wsX0_cut) B.pre
  have hown : s.vm.findClass RX0 = some m.cls := findClass_of_methodNamed B.named
  have hlocks := B.notSynchronized
  have hin : ∀ w ∈ wsX00, w ∈ wsX0_cut := fun _ h => List.mem_cons_of_mem _ (List.mem_append_left _ (List.mem_append_left _ (List.mem_append_right _ h)))
  have hS : va_S (AA B0) s.heap s.heap [] := va_S.rf
  have hB : B0 ≤ s.heap.size := hC.1.2.2.1
  have hI := hC.1.2.2.2
  have hn := hI.2.1
  have hz := hI.2.2.1 i
  have hl := lv_entry ([.ref (ad 0), .int (nI i)]) (n := 3) (Nat.le_of_ble_eq_true rfl)
  rw [lg_entry_eq]
  generalize (lg_sl ([.ref (ad 0), .int (nI i)]) ++ List.replicate (3 - (lg_sl ([.ref (ad 0), .int (nI i)])).length) Slot.unset).toArray = ls at hl ⊢
  have hl : lv_has ls 3 [(0, .ref (ad 0)), (1, .int (nI i))] := hl
  refine lv_aload_n hx hb dX0_cut_0 rfl (lv_at hl 0 rfl) ?_
  refine lv_iload_n hx hb dX0_cut_1 rfl (lv_at hl 1 rfl) ?_
  refine k_vV (As := [.int (nI i)]) (rest := []) (c_X0_checkLine l B0 g ct ad cS mS x i (by omega)) hC ⟨hx, hb, hml, hown, hts⟩ (cwV 1 hts gX0_cut_X0_checkLine rfl rfl rfl (by decide +kernel) ⟨Nat.le_of_ble_eq_true rfl, Nat.le_of_ble_eq_true rfl⟩) (rc0 hC) rfl hl.1 rfl (Nat.le_of_ble_eq_true rfl) dX0_cut_2 ⟨Nat.le_of_ble_eq_true rfl, Nat.le_of_ble_eq_true rfl⟩ ?_
  refine lv_aload_n hx hb dX0_cut_5 rfl (lv_at hl 0 rfl) ?_
  refine r_g0 hC hx hb hts hin hown 2 (by decide) (hts (.fieldLink RX0 16 "AbjadPoems" "sizes" "[I") (by decide +kernel)) rfl dX0_cut_6 ?_
  refine lv_iload_n hx hb dX0_cut_9 rfl (lv_at hl 1 rfl) ?_
  refine r_sz hC hx hb dX0_cut_10 (j := i) (by omega) ?_
  refine lv_iconst (v := nI 1) hx hb dX0_cut_11 (by decide) ?_
  refine lv_isub hx hb dX0_cut_12 ?_
  refine lv_tn (pk_sub (by omega)) ?_
  refine lv_istore_n (lv' := [(2, .int (nI ((ss cS i) - 1))), (0, .ref (ad 0)), (1, .int (nI i))]) hx hb dX0_cut_13 rfl hl (by decide) rfl (fun ls hl => ?_)
  refine lv_iload_n hx hb dX0_cut_14 rfl (lv_at hl 0 rfl) ?_
  refine lv_if_ge (tgt := 28) hx hb dX0_cut_15 (by decide) (fun c_15 => ?_) (fun c_15 => ?_)
  · skip
    refine lv_aload_n hx hb dX0_cut_28 rfl (lv_at hl 1 rfl) ?_
    refine r_g0 hC hx hb hts hin hown 2 (by decide) (hts (.fieldLink RX0 16 "AbjadPoems" "sizes" "[I") (by decide +kernel)) rfl dX0_cut_29 ?_
    refine lv_iload_n hx hb dX0_cut_32 rfl (lv_at hl 2 rfl) ?_
    refine lv_iload_n hx hb dX0_cut_33 rfl (lv_at hl 0 rfl) ?_
    refine w_sz hC hB hS hx hb dX0_cut_34 (j := i) (v := (ss cS i) - 1) (by omega) (iv_s hI (by omega) (fun w hw => hI.2.2.2.2.2 i w (by omega))) (fun H locs hC hS => ?_)
    refine lv_aload_n hx hb dX0_cut_35 rfl (lv_at hl 1 rfl) ?_
    refine r_g0 hC hx hb hts hin hown 3 (by decide) (hts (.fieldLink RX0 22 "AbjadPoems" "words" "[[I") (by decide +kernel)) rfl dX0_cut_36 ?_
    refine lv_iload_n hx hb dX0_cut_39 rfl (lv_at hl 2 rfl) ?_
    refine r_wo hC hx hb dX0_cut_40 (j := i) (by omega) ?_
    refine lv_iload_n hx hb dX0_cut_41 rfl (lv_at hl 0 rfl) ?_
    refine r_wr hC hx hb dX0_cut_42 (i := i) (j := (ss cS i) - 1) (by omega) (by omega) ?_
    exact W.iret hx hb hr (fun t ht hW => ⟨⟨_, x, rfl, ⟨rfl, (sx_r _)⟩, (by show CW B0 g ct ad (st_cut cS i) mS x t.heap; rw [ht]; exact hC.1)⟩, hS.F ht⟩) hS.2.2 dX0_cut_43
  · skip
    exact absurd (nI_pos' (by omega)) c_15
set_option maxHeartbeats 4000000 in
set_option maxRecDepth 100000 in
theorem c_X0_mark (l : Launch) (B0 : Nat) (g : va_G) (ct ad : Nat → Nat) (cS : St_) (mS : Pl_) (x : Ax_) (i w p_ : Nat) (hi : i < sn cS) (hw : w < ss cS i) (hp : p_ < ln_ (sw cS (10 * i + w))) : WI l yX0_mark wsX0_mark 2 0 0 B0 g ct ad cS mS x [.ref (ad 0), .int (nI i), .int (nI w), .int (nI p_)] (b2_ ((sk cS (10 * i + w) ^^^ 2 ^ p_).testBit p_)) (st_mark cS (10 * i + w) p_) mS ((sx_ x)) := by
  refine Met.ofW (cc := cX0_mark) (maxL := 4) (ret := (some .boolean)) (by decide) rfl ?_
  intro p e s m args below meth c s₁ B hml hv
  obtain ⟨rfl, hC⟩ := hv
  have hx := B.exec
  have hb := B.bytes
  have hr := B.returns
  have hts := atoms_spec (ws := wsX0_mark) B.pre
  have hown : s.vm.findClass RX0 = some m.cls := findClass_of_methodNamed B.named
  have hlocks := B.notSynchronized
  have hin : ∀ w ∈ wsX00, w ∈ wsX0_mark := fun _ h => List.mem_cons_of_mem _ (List.mem_append_left _ (List.mem_append_right _ h))
  have hS : va_S (AA B0) s.heap s.heap [] := va_S.rf
  have hB : B0 ≤ s.heap.size := hC.1.2.2.1
  have hI := hC.1.2.2.2
  have hn := hI.2.1
  have hz := hI.2.2.1 i
  have hw6 := hI.2.2.2.1 (10 * i + w)
  have h6 := ln_le hw6
  have hk6 := hI.2.2.2.2.1 (10 * i + w)
  have hx6 := xl_ _ hk6 p_ (by omega)
  have hl := lv_entry ([.ref (ad 0), .int (nI i), .int (nI w), .int (nI p_)]) (n := 4) (Nat.le_of_ble_eq_true rfl)
  rw [lg_entry_eq]
  generalize (lg_sl ([.ref (ad 0), .int (nI i), .int (nI w), .int (nI p_)]) ++ List.replicate (4 - (lg_sl ([.ref (ad 0), .int (nI i), .int (nI w), .int (nI p_)])).length) Slot.unset).toArray = ls at hl ⊢
  have hl : lv_has ls 4 [(0, .ref (ad 0)), (1, .int (nI i)), (2, .int (nI w)), (3, .int (nI p_))] := hl
  refine lv_aload_n hx hb dX0_mark_0 rfl (lv_at hl 0 rfl) ?_
  refine lv_iload_n hx hb dX0_mark_1 rfl (lv_at hl 1 rfl) ?_
  refine lv_iload_n hx hb dX0_mark_2 rfl (lv_at hl 2 rfl) ?_
  refine k_vV (As := [.int (nI i), .int (nI w)]) (rest := []) (c_X0_checkWordOfLine l B0 g ct ad cS mS x i w (by omega) (by omega)) hC ⟨hx, hb, hml, hown, hts⟩ (cwV 2 hts gX0_mark_X0_checkWordOfLine rfl rfl rfl (by decide +kernel) ⟨Nat.le_of_ble_eq_true rfl, Nat.le_of_ble_eq_true rfl⟩) (rc0 hC) rfl hl.1 rfl (Nat.le_of_ble_eq_true rfl) dX0_mark_3 ⟨Nat.le_of_ble_eq_true rfl, Nat.le_of_ble_eq_true rfl⟩ ?_
  refine lv_iload_n hx hb dX0_mark_6 rfl (lv_at hl 3 rfl) ?_
  refine lv_if_lt (tgt := 25) hx hb dX0_mark_7 (by decide) (fun c_7 => ?_) (fun c_7 => ?_)
  · skip
    exact absurd c_7 (nI_pos (by omega))
  · skip
    refine lv_iload_n hx hb dX0_mark_10 rfl (lv_at hl 3 rfl) ?_
    refine lv_aload_n hx hb dX0_mark_11 rfl (lv_at hl 0 rfl) ?_
    refine r_g0 hC hx hb hts hin hown 3 (by decide) (hts (.fieldLink RX0 22 "AbjadPoems" "words" "[[I") (by decide +kernel)) rfl dX0_mark_12 ?_
    refine lv_iload_n hx hb dX0_mark_15 rfl (lv_at hl 1 rfl) ?_
    refine r_wo hC hx hb dX0_mark_16 (j := i) (by omega) ?_
    refine lv_iload_n hx hb dX0_mark_17 rfl (lv_at hl 2 rfl) ?_
    refine r_wr hC hx hb dX0_mark_18 (i := i) (j := w) (by omega) (by omega) ?_
    refine k_pS (As := [.int (nI (sw cS (10 * i + w)))]) (rest := [.int (nI p_)]) (c_X0_lengthOf l (sw cS (10 * i + w)) (by omega)) ⟨hx, hb, hml, hown, hts⟩ (va_cwS 1 hts gX0_mark_X0_lengthOf rfl rfl rfl (by decide +kernel) ⟨Nat.le_of_ble_eq_true rfl, Nat.le_of_ble_eq_true rfl⟩) rfl hl.1 rfl (Nat.le_of_ble_eq_true rfl) dX0_mark_19 ⟨Nat.le_of_ble_eq_true rfl, Nat.le_of_ble_eq_true rfl⟩ ?_
    refine lv_icmp_lt (tgt := 35) hx hb dX0_mark_22 (by decide) (fun c_22 => ?_) (fun c_22 => ?_)
    · skip
      have n_22 : p_ < ln_ (sw cS (10 * i + w)) := (nI_ltI (a := p_) (b := ln_ (sw cS (10 * i + w))) (by omega) (by omega)).mp c_22
      refine lv_aload_n hx hb dX0_mark_35 rfl (lv_at hl 0 rfl) ?_
      refine r_g0 hC hx hb hts hin hown 4 (by decide) (hts (.fieldLink RX0 25 "AbjadPoems" "marks" "[[I") (by decide +kernel)) rfl dX0_mark_36 ?_
      refine lv_iload_n hx hb dX0_mark_39 rfl (lv_at hl 1 rfl) ?_
      refine r_ko hC hx hb dX0_mark_40 (j := i) (by omega) ?_
      refine lv_iload_n hx hb dX0_mark_41 rfl (lv_at hl 2 rfl) ?_
      refine lv_dup2_11 hx hb dX0_mark_42 rfl rfl ?_
      refine r_kr hC hx hb dX0_mark_43 (i := i) (j := w) (by omega) (by omega) ?_
      refine lv_iconst (v := nI 1) hx hb dX0_mark_44 (by decide) ?_
      refine lv_iload_n hx hb dX0_mark_45 rfl (lv_at hl 3 rfl) ?_
      refine lv_ishl hx hb dX0_mark_46 ?_
      refine lv_ixor hx hb dX0_mark_47 ?_
      refine lv_tn (w := nI (sk cS (10 * i + w) ^^^ 2 ^ p_)) (xm_ _ hk6 _ (by omega)) ?_
      refine w_kr hC hB hS hx hb dX0_mark_48 (i := i) (j := w) (v := sk cS (10 * i + w) ^^^ 2 ^ p_) (by omega) (by omega) (iv_mark hI hw hp) (fun H locs hC hS => ?_)
      refine lv_aload_n hx hb dX0_mark_49 rfl (lv_at hl 0 rfl) ?_
      refine r_g0 hC hx hb hts hin hown 4 (by decide) (hts (.fieldLink RX0 25 "AbjadPoems" "marks" "[[I") (by decide +kernel)) rfl dX0_mark_50 ?_
      refine lv_iload_n hx hb dX0_mark_53 rfl (lv_at hl 1 rfl) ?_
      refine r_ko hC hx hb dX0_mark_54 (j := i) (by omega) ?_
      refine lv_iload_n hx hb dX0_mark_55 rfl (lv_at hl 2 rfl) ?_
      refine r_kr hC hx hb dX0_mark_56 (i := i) (j := w) (by omega) (by omega) ?_
      refine lv_tn (w := nI (sk cS (10 * i + w) ^^^ 2 ^ p_)) (congrArg nI up_s) ?_
      refine lv_iload_n hx hb dX0_mark_57 rfl (lv_at hl 3 rfl) ?_
      refine k_pS (As := [.int (nI (sk cS (10 * i + w) ^^^ 2 ^ p_)), .int (nI p_)]) (rest := []) (c_X0_isMarked l (sk cS (10 * i + w) ^^^ 2 ^ p_) p_ (by omega) (by omega)) ⟨hx, hb, hml, hown, hts⟩ (va_cwS 2 hts gX0_mark_X0_isMarked rfl rfl rfl (by decide +kernel) ⟨Nat.le_of_ble_eq_true rfl, Nat.le_of_ble_eq_true rfl⟩) rfl hl.1 rfl (Nat.le_of_ble_eq_true rfl) dX0_mark_58 ⟨Nat.le_of_ble_eq_true rfl, Nat.le_of_ble_eq_true rfl⟩ ?_
      exact W.zret hx hb hr b2_n (fun t ht hW => ⟨⟨_, x, rfl, ⟨rfl, (sx_r _)⟩, (by show CW B0 g ct ad (st_mark cS (10 * i + w) p_) mS x t.heap; rw [ht]; exact hC.1)⟩, hS.F ht⟩) hS.2.2 dX0_mark_61
    · skip
      have n_22 : ¬ p_ < ln_ (sw cS (10 * i + w)) := fun q__ => c_22 ((nI_ltI (a := p_) (b := ln_ (sw cS (10 * i + w))) (by omega) (by omega)).mpr q__)
      exact absurd hp n_22
set_option maxHeartbeats 4000000 in
set_option maxRecDepth 100000 in
theorem c_X0_pairsOfSameWorth (l : Launch) (B0 : Nat) (g : va_G) (ct ad : Nat → Nat) (cS : St_) (mS : Pl_) (x : Ax_)  : WI l yX0_pairsOfSameWorth wsX0_pairsOfSameWorth 2 0 0 B0 g ct ad cS mS x [.ref (ad 0)] (nI (pr_ cS)) cS mS ((sx_ x)) := by
  refine Met.ofW (cc := cX0_pairsOfSameWorth) (maxL := 6) (ret := (some .int)) (by decide) rfl ?_
  intro p e s m args below meth c s₁ B hml hv
  obtain ⟨rfl, hC⟩ := hv
  have hx := B.exec
  have hb := B.bytes
  have hr := B.returns
  have hts := atoms_spec (ws := wsX0_pairsOfSameWorth) B.pre
  have hown : s.vm.findClass RX0 = some m.cls := findClass_of_methodNamed B.named
  have hlocks := B.notSynchronized
  have hin : ∀ w ∈ wsX00, w ∈ wsX0_pairsOfSameWorth := fun _ h => List.mem_cons_of_mem _ (List.mem_append_right _ h)
  have hS : va_S (AA B0) s.heap s.heap [] := va_S.rf
  have hB : B0 ≤ s.heap.size := hC.1.2.2.1
  have hI := hC.1.2.2.2
  have hn := hI.2.1
  have hl := lv_entry ([.ref (ad 0)]) (n := 6) (Nat.le_of_ble_eq_true rfl)
  rw [lg_entry_eq]
  generalize (lg_sl ([.ref (ad 0)]) ++ List.replicate (6 - (lg_sl ([.ref (ad 0)])).length) Slot.unset).toArray = ls at hl ⊢
  have hl : lv_has ls 6 [(0, .ref (ad 0))] := hl
  refine lv_iconst (v := nI 0) hx hb dX0_pairsOfSameWorth_0 (by decide) ?_
  refine lv_istore_n (lv' := [(1, .int (nI 0)), (0, .ref (ad 0))]) hx hb dX0_pairsOfSameWorth_1 rfl hl (by decide) rfl (fun ls hl => ?_)
  refine lv_iconst (v := nI 0) hx hb dX0_pairsOfSameWorth_2 (by decide) ?_
  refine lv_istore_n (lv' := [(2, .int (nI 0)), (1, .int (nI 0)), (0, .ref (ad 0))]) hx hb dX0_pairsOfSameWorth_3 rfl hl (by decide) rfl (fun ls hl => ?_)
  refine lv_iconst (v := nI 0) hx hb dX0_pairsOfSameWorth_4 (by decide) ?_
  refine lv_istore_n (lv' := [(3, .int (nI 0)), (2, .int (nI 0)), (1, .int (nI 0)), (0, .ref (ad 0))]) hx hb dX0_pairsOfSameWorth_5 rfl hl (by decide) rfl (fun ls hl => ?_)
  have LP_6 : ∀ (n_ : Nat) (sN : Nat) (t : Nat) (k : Nat) (xv : Ax_), sn cS - k < n_ → (t = qs_ (pF_ cS) (10 * k)) → (∀ v : Int32, qs_ (fun j => if xw xv j = v then 1 else 0) sN = qs_ (pV_ cS v) (10 * k)) → (sN ≤ 10 * k) → (k ≤ sn cS) → (sx_ x xv) → ∀ (H : Heap) (locs : List Loc), CX B0 g ct ad cS mS xv s H → va_S (AA B0) s.heap H locs → ∀ ls : Array Slot, lv_has ls 6 [(3, .int (nI k)), (2, .int (nI t)), (1, .int (nI sN)), (0, .ref (ad 0))] → W p l e (headSpec wsX0_pairsOfSameWorth (rm_ 2 0 0)).room s m ([.ref (ad 0)] : List Value).toArray below meth c H locs 0 0 (MQ below (va_Qi (fun r (u : Ax_) => r = nI (pr_ cS) ∧ ((sx_ x)) u) (fun u t => CW B0 g ct ad cS mS u t.heap) (AA B0)) ([.ref (ad 0)] : List Value).toArray s 0 0 (AA B0)) (F0 m 6 ls []) := by
    intro n_
    induction n_ with
    | zero => intro sN t k xv hm; exact absurd hm (Nat.not_lt_zero _)
    | succ n_ ih_6 =>
      intro sN t k xv hm ht hw hN hk hsx H locs hC hS ls hl
      have hz := hI.2.2.1 k
      refine lv_iload_n hx hb dX0_pairsOfSameWorth_6 rfl (lv_at hl 0 rfl) ?_
      refine lv_aload_n hx hb dX0_pairsOfSameWorth_7 rfl (lv_at hl 3 rfl) ?_
      refine r_g0 hC hx hb hts hin hown 1 (by decide) (hts (.fieldLink RX0 13 "AbjadPoems" "lines" "I") (by decide +kernel)) rfl dX0_pairsOfSameWorth_8 ?_
      refine lv_icmp_ge (tgt := 78) hx hb dX0_pairsOfSameWorth_11 (by decide) (fun c_11 => ?_) (fun c_11 => ?_)
      · skip
        have n_11 : sn cS ≤ k := (nI_leI (a := sn cS) (b := k) (by omega) (by omega)).mp c_11
        have hE : t = pr_ cS := by rw [ht, show k = sn cS by omega]; rfl
        refine lv_iload_n hx hb dX0_pairsOfSameWorth_78 rfl (lv_at hl 1 rfl) ?_
        exact W.iret hx hb hr (fun t ht hW => ⟨⟨_, xv, rfl, ⟨(congrArg nI hE), hsx⟩, (by show CW B0 g ct ad cS mS xv t.heap; rw [ht]; exact hC.1)⟩, hS.F ht⟩) hS.2.2 dX0_pairsOfSameWorth_79
      · skip
        have n_11 : ¬ sn cS ≤ k := fun q__ => c_11 ((nI_leI (a := sn cS) (b := k) (by omega) (by omega)).mpr q__)
        refine lv_iconst (v := nI 0) hx hb dX0_pairsOfSameWorth_14 (by decide) ?_
        refine lv_istore (lv' := [(4, .int (nI 0)), (3, .int (nI k)), (2, .int (nI t)), (1, .int (nI sN)), (0, .ref (ad 0))]) hx hb dX0_pairsOfSameWorth_15 hl (by decide) rfl (fun ls hl => ?_)
        have LP_17 : ∀ (n_ : Nat) (sM : Nat) (u : Nat) (j : Nat) (yv : Ax_), ss cS k - j < n_ → (u = qs_ (pF_ cS) (10 * k + j)) → (∀ v : Int32, qs_ (fun i => if xw yv i = v then 1 else 0) sM = qs_ (pV_ cS v) (10 * k + j)) → (sM ≤ 10 * k + j) → (j ≤ ss cS k) → (sx_ x yv) → ∀ (H : Heap) (locs : List Loc), CX B0 g ct ad cS mS yv s H → va_S (AA B0) s.heap H locs → ∀ ls : Array Slot, lv_has ls 6 [(4, .int (nI j)), (3, .int (nI k)), (2, .int (nI u)), (1, .int (nI sM)), (0, .ref (ad 0))] → W p l e (headSpec wsX0_pairsOfSameWorth (rm_ 2 0 0)).room s m ([.ref (ad 0)] : List Value).toArray below meth c H locs 0 0 (MQ below (va_Qi (fun r (u : Ax_) => r = nI (pr_ cS) ∧ ((sx_ x)) u) (fun u t => CW B0 g ct ad cS mS u t.heap) (AA B0)) ([.ref (ad 0)] : List Value).toArray s 0 0 (AA B0)) (F0 m 17 ls []) := by
          intro n_
          induction n_ with
          | zero => intro sM u j yv hm; exact absurd hm (Nat.not_lt_zero _)
          | succ n_ ih_17 =>
            intro sM u j yv hm hu hq hM hj hsy H locs hC hS ls hl
            have hw6 := hI.2.2.2.1 (10 * k + j)
            refine lv_iload hx hb dX0_pairsOfSameWorth_17 (lv_at hl 0 rfl) ?_
            refine lv_aload_n hx hb dX0_pairsOfSameWorth_19 rfl (lv_at hl 4 rfl) ?_
            refine r_g0 hC hx hb hts hin hown 2 (by decide) (hts (.fieldLink RX0 16 "AbjadPoems" "sizes" "[I") (by decide +kernel)) rfl dX0_pairsOfSameWorth_20 ?_
            refine lv_iload_n hx hb dX0_pairsOfSameWorth_23 rfl (lv_at hl 1 rfl) ?_
            refine r_sz hC hx hb dX0_pairsOfSameWorth_24 (j := k) (by omega) ?_
            refine lv_icmp_ge (tgt := 72) hx hb dX0_pairsOfSameWorth_25 (by decide) (fun c_25 => ?_) (fun c_25 => ?_)
            · skip
              have n_25 : ss cS k ≤ j := (nI_leI (a := ss cS k) (b := j) (by omega) (by omega)).mp c_25
              refine lv_iinc (v := nI (k + 1)) (lv' := [(3, .int (nI (k + 1))), (4, .int (nI j)), (2, .int (nI u)), (1, .int (nI sM)), (0, .ref (ad 0))]) hx hb dX0_pairsOfSameWorth_72 hl (k := 1) rfl (nI_1 _) (by decide) rfl (fun ls hl => ?_)
              refine lv_goto (tgt := 6) hx hb dX0_pairsOfSameWorth_75 (by decide) ?_
              exact ih_6 sM u (k + 1) yv (by omega) (by rw [pF_e hz, hu, show j = ss cS k by omega]) (fun v => by rw [pV_e hz, hq v, show j = ss cS k by omega]) (by omega) (by omega) hsy H locs hC hS ls (lv_sub hl [0, 2, 3, 4] rfl)
            · skip
              have n_25 : ¬ ss cS k ≤ j := fun q__ => c_25 ((nI_leI (a := ss cS k) (b := j) (by omega) (by omega)).mpr q__)
              have hon : on_ cS (10 * k + j) = true := on_t (by omega) (by omega) (by omega)
              refine lv_aload_n hx hb dX0_pairsOfSameWorth_28 rfl (lv_at hl 4 rfl) ?_
              refine lv_aload_n hx hb dX0_pairsOfSameWorth_29 rfl (lv_at hl 4 rfl) ?_
              refine r_g0 hC hx hb hts hin hown 3 (by decide) (hts (.fieldLink RX0 22 "AbjadPoems" "words" "[[I") (by decide +kernel)) rfl dX0_pairsOfSameWorth_30 ?_
              refine lv_iload_n hx hb dX0_pairsOfSameWorth_33 rfl (lv_at hl 1 rfl) ?_
              refine r_wo hC hx hb dX0_pairsOfSameWorth_34 (j := k) (by omega) ?_
              refine lv_iload hx hb dX0_pairsOfSameWorth_35 (lv_at hl 0 rfl) ?_
              refine r_wr hC hx hb dX0_pairsOfSameWorth_37 (i := k) (j := j) (by omega) (by omega) ?_
              refine lv_bipush (v := nI 63) hx hb dX0_pairsOfSameWorth_38 (by decide) ?_
              refine k_rV (As := [.int (nI (sw cS (10 * k + j))), .int (nI 63)]) (rest := []) (c_X0_worthOfPlaces l B0 g ct ad cS mS yv (sw cS (10 * k + j)) 63 (by omega) (by omega)) hC ⟨hx, hb, hml, hown, hts⟩ (cwV 2 hts gX0_pairsOfSameWorth_X0_worthOfPlaces rfl rfl rfl (by decide +kernel) ⟨Nat.le_of_ble_eq_true rfl, Nat.le_of_ble_eq_true rfl⟩) (rc0 hC) rfl hl.1 rfl (Nat.le_of_ble_eq_true rfl) dX0_pairsOfSameWorth_40 ⟨Nat.le_of_ble_eq_true rfl, Nat.le_of_ble_eq_true rfl⟩ ?_
              refine lv_tn (w := nI (ws0 (so cS) (sw cS (10 * k + j)))) (congrArg nI (wm_63 hw6)) ?_
              refine lv_istore (lv' := [(5, .int (nI (ws0 (so cS) (sw cS (10 * k + j))))), (4, .int (nI j)), (3, .int (nI k)), (2, .int (nI u)), (1, .int (nI sM)), (0, .ref (ad 0))]) hx hb dX0_pairsOfSameWorth_43 hl (by decide) rfl (fun ls hl => ?_)
              refine lv_iload_n hx hb dX0_pairsOfSameWorth_45 rfl (lv_at hl 3 rfl) ?_
              refine lv_aload_n hx hb dX0_pairsOfSameWorth_46 rfl (lv_at hl 5 rfl) ?_
              refine lv_iload hx hb dX0_pairsOfSameWorth_47 (lv_at hl 0 rfl) ?_
              refine lv_iload_n hx hb dX0_pairsOfSameWorth_49 rfl (lv_at hl 4 rfl) ?_
              refine k_rV (As := [.int (nI (ws0 (so cS) (sw cS (10 * k + j)))), .int (nI sM)]) (rest := [.int (nI u)]) (c_X0_timesAmongWorths l B0 g ct ad cS mS yv (nI (ws0 (so cS) (sw cS (10 * k + j)))) sM (by omega)) hC ⟨hx, hb, hml, hown, hts⟩ (cwV 2 hts gX0_pairsOfSameWorth_X0_timesAmongWorths rfl rfl rfl (by decide +kernel) ⟨Nat.le_of_ble_eq_true rfl, Nat.le_of_ble_eq_true rfl⟩) (rc0 hC) rfl hl.1 rfl (Nat.le_of_ble_eq_true rfl) dX0_pairsOfSameWorth_50 ⟨Nat.le_of_ble_eq_true rfl, Nat.le_of_ble_eq_true rfl⟩ ?_
              refine lv_iadd hx hb dX0_pairsOfSameWorth_53 ?_
              refine lv_tn (nI_add _ _) ?_
              refine lv_istore_n (lv' := [(2, .int (nI (u + (qs_ (fun j_ => if xw yv j_ = nI (ws0 (so cS) (sw cS (10 * k + j))) then 1 else 0) sM)))), (5, .int (nI (ws0 (so cS) (sw cS (10 * k + j))))), (4, .int (nI j)), (3, .int (nI k)), (1, .int (nI sM)), (0, .ref (ad 0))]) hx hb dX0_pairsOfSameWorth_54 rfl hl (by decide) rfl (fun ls hl => ?_)
              refine lv_aload_n hx hb dX0_pairsOfSameWorth_55 rfl (lv_at hl 5 rfl) ?_
              refine r_g0 hC hx hb hts hin hown 5 (by decide) (hts (.fieldLink RX0 28 "AbjadPoems" "worths" "[I") (by decide +kernel)) rfl dX0_pairsOfSameWorth_56 ?_
              refine lv_iload_n hx hb dX0_pairsOfSameWorth_59 rfl (lv_at hl 4 rfl) ?_
              refine lv_iload hx hb dX0_pairsOfSameWorth_60 (lv_at hl 1 rfl) ?_
              refine w_wt hC hB hS hx hb dX0_pairsOfSameWorth_62 (j := sM) (v := nI (ws0 (so cS) (sw cS (10 * k + j)))) (by omega) (fun H locs hC hS => ?_)
              refine lv_iinc (v := nI (sM + 1)) (lv' := [(1, .int (nI (sM + 1))), (2, .int (nI (u + (qs_ (fun j_ => if xw yv j_ = nI (ws0 (so cS) (sw cS (10 * k + j))) then 1 else 0) sM)))), (5, .int (nI (ws0 (so cS) (sw cS (10 * k + j))))), (4, .int (nI j)), (3, .int (nI k)), (0, .ref (ad 0))]) hx hb dX0_pairsOfSameWorth_63 hl (k := 4) rfl (nI_1 _) (by decide) rfl (fun ls hl => ?_)
              refine lv_iinc (v := nI (j + 1)) (lv' := [(4, .int (nI (j + 1))), (1, .int (nI (sM + 1))), (2, .int (nI (u + (qs_ (fun j_ => if xw yv j_ = nI (ws0 (so cS) (sw cS (10 * k + j))) then 1 else 0) sM)))), (5, .int (nI (ws0 (so cS) (sw cS (10 * k + j))))), (3, .int (nI k)), (0, .ref (ad 0))]) hx hb dX0_pairsOfSameWorth_66 hl (k := 3) rfl (nI_1 _) (by decide) rfl (fun ls hl => ?_)
              refine lv_goto (tgt := 17) hx hb dX0_pairsOfSameWorth_69 (by decide) ?_
              exact ih_17 (sM + 1) (u + (qs_ (fun j_ => if xw yv j_ = nI (ws0 (so cS) (sw cS (10 * k + j))) then 1 else 0) sM)) (j + 1) (ax_w yv (upd (xw yv) sM (nI (ws0 (so cS) (sw cS (10 * k + j)))))) (by omega) (by rw [show 10 * k + (j + 1) = 10 * k + j + 1 by omega, pF_t hon, hu, hq, pV_a hI]) (fun v => pw_n hon hq v) (by omega) (by omega) hsy H locs hC hS ls (lv_sub hl [0, 4, 2, 1, 5] rfl)
        exact LP_17 _ sN t 0 xv (Nat.lt_succ_self _) ht hw hN (by omega) hsx H locs hC hS ls (lv_sub hl [0, 1, 2, 3, 4] rfl)
  exact LP_6 _ 0 0 0 x (Nat.lt_succ_self _) rfl (fun v => rfl) (by omega) (by omega) (sx_r x) s.heap [] hC hS ls (lv_sub hl [0, 1, 2, 3] rfl)
set_option maxHeartbeats 4000000 in
set_option maxRecDepth 100000 in
theorem c_X0_told (l : Launch) (B0 : Nat) (g : va_G) (ct ad : Nat → Nat) (cS : St_) (mS : Pl_) (x : Ax_) (q : Nat) (hq : q < 7) : WI l yX0_told wsX0_told 5 0 0 B0 g ct ad cS mS x [.ref (ad 0), .int (nI q)] (nI (to_ cS q)) cS mS ((sx_ x)) := by
  refine Met.ofW (cc := cX0_told) (maxL := 2) (ret := (some .int)) (by decide) rfl ?_
  intro p e s m args below meth c s₁ B hml hv
  obtain ⟨rfl, hC⟩ := hv
  have hx := B.exec
  have hb := B.bytes
  have hr := B.returns
  have hts := atoms_spec (ws := wsX0_told) B.pre
  have hown : s.vm.findClass RX0 = some m.cls := findClass_of_methodNamed B.named
  have hlocks := B.notSynchronized
  have hin : ∀ w ∈ wsX00, w ∈ wsX0_told := fun _ h => List.mem_cons_of_mem _ (List.mem_append_left _ (List.mem_append_right _ h))
  have hS : va_S (AA B0) s.heap s.heap [] := va_S.rf
  have hB : B0 ≤ s.heap.size := hC.1.2.2.1
  have hI := hC.1.2.2.2
  have hn := hI.2.1
  have hl := lv_entry ([.ref (ad 0), .int (nI q)]) (n := 2) (Nat.le_of_ble_eq_true rfl)
  rw [lg_entry_eq]
  generalize (lg_sl ([.ref (ad 0), .int (nI q)]) ++ List.replicate (2 - (lg_sl ([.ref (ad 0), .int (nI q)])).length) Slot.unset).toArray = ls at hl ⊢
  have hl : lv_has ls 2 [(0, .ref (ad 0)), (1, .int (nI q))] := hl
  refine lv_iload_n hx hb dX0_told_0 rfl (lv_at hl 1 rfl) ?_
  refine lv_bipush (v := nI 7) hx hb dX0_told_1 (by decide) ?_
  refine k_vS (As := [.int (nI q), .int (nI 7)]) (rest := []) (c_X0_checkWhat l B0 g ct ad cS mS x q 7 (by omega) (by omega)) hC ⟨hx, hb, hml, hown, hts⟩ (va_cwS 2 hts gX0_told_X0_checkWhat rfl rfl rfl (by decide +kernel) ⟨Nat.le_of_ble_eq_true rfl, Nat.le_of_ble_eq_true rfl⟩) rfl hl.1 rfl (Nat.le_of_ble_eq_true rfl) dX0_told_3 ⟨Nat.le_of_ble_eq_true rfl, Nat.le_of_ble_eq_true rfl⟩ ?_
  refine lv_iload_n hx hb dX0_told_6 rfl (lv_at hl 1 rfl) ?_
  refine lv_if_ne (tgt := 15) hx hb dX0_told_7 (by decide) (fun c_7 => ?_) (fun c_7 => ?_)
  · skip
    have n_7 : ¬ q = 0 := fun q__ => c_7 ((eq0_ (by omega)).mpr q__)
    refine lv_iload_n hx hb dX0_told_15 rfl (lv_at hl 1 rfl) ?_
    refine lv_bipush (v := nI 6) hx hb dX0_told_16 (by decide) ?_
    refine lv_icmp_ne (tgt := 26) hx hb dX0_told_18 (by decide) (fun c_18 => ?_) (fun c_18 => ?_)
    · skip
      have n_18 : ¬ q = 6 := fun q__ => c_18 ((nI_eq (a := q) (b := 6) (by omega) (by omega)).mpr q__)
      refine lv_aload_n hx hb dX0_told_26 rfl (lv_at hl 0 rfl) ?_
      refine lv_iload_n hx hb dX0_told_27 rfl (lv_at hl 1 rfl) ?_
      refine lv_iconst (v := nI 1) hx hb dX0_told_28 (by decide) ?_
      refine lv_isub hx hb dX0_told_29 ?_
      refine lv_tn (pk_sub (by omega)) ?_
      refine k_rV (As := [.int (nI (q - 1))]) (rest := []) (c_X0_sumOverLines l B0 g ct ad cS mS x (q - 1) (by omega)) hC ⟨hx, hb, hml, hown, hts⟩ (cwV 1 hts gX0_told_X0_sumOverLines rfl rfl rfl (by decide +kernel) ⟨Nat.le_of_ble_eq_true rfl, Nat.le_of_ble_eq_true rfl⟩) (rc0 hC) rfl hl.1 rfl (Nat.le_of_ble_eq_true rfl) dX0_told_30 ⟨Nat.le_of_ble_eq_true rfl, Nat.le_of_ble_eq_true rfl⟩ ?_
      exact W.iret hx hb hr (fun t ht hW => ⟨⟨_, x, rfl, ⟨(congrArg nI (to_n n_7 n_18).symm), (sx_r _)⟩, (by show CW B0 g ct ad cS mS x t.heap; rw [ht]; exact hC.1)⟩, hS.F ht⟩) hS.2.2 dX0_told_33
    · skip
      have n_18 : q = 6 := (nI_eq (a := q) (b := 6) (by omega) (by omega)).mp c_18
      refine lv_aload_n hx hb dX0_told_21 rfl (lv_at hl 0 rfl) ?_
      refine k_wV (As := []) (rest := []) (c_X0_pairsOfSameWorth l B0 g ct ad cS mS x) hC hB hS ⟨hx, hb, hml, hown, hts⟩ (cwV 0 hts gX0_told_X0_pairsOfSameWorth rfl rfl rfl (by decide +kernel) ⟨Nat.le_of_ble_eq_true rfl, Nat.le_of_ble_eq_true rfl⟩) (rc0 hC) rfl hl.1 rfl (Nat.le_of_ble_eq_true rfl) dX0_told_22 ⟨Nat.le_of_ble_eq_true rfl, Nat.le_of_ble_eq_true rfl⟩ (fun u_22 H locs hu_22 hC hS => ?_)
      exact W.iret hx hb hr (fun t ht hW => ⟨⟨_, u_22, rfl, ⟨(by show nI (pr_ cS) = nI (to_ cS q); rw [n_18]; rfl), hu_22⟩, (by show CW B0 g ct ad cS mS u_22 t.heap; rw [ht]; exact hC.1)⟩, hS.F ht⟩) hS.2.2 dX0_told_25
  · skip
    have n_7 : q = 0 := (eq0_ (by omega)).mp c_7
    refine lv_aload_n hx hb dX0_told_10 rfl (lv_at hl 0 rfl) ?_
    refine r_g0 hC hx hb hts hin hown 1 (by decide) (hts (.fieldLink RX0 13 "AbjadPoems" "lines" "I") (by decide +kernel)) rfl dX0_told_11 ?_
    exact W.iret hx hb hr (fun t ht hW => ⟨⟨_, x, rfl, ⟨(by show nI (sn cS) = nI (to_ cS q); rw [n_7]; rfl), (sx_r _)⟩, (by show CW B0 g ct ad cS mS x t.heap; rw [ht]; exact hC.1)⟩, hS.F ht⟩) hS.2.2 dX0_told_14
