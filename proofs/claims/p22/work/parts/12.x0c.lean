set_option maxHeartbeats 4000000 in
set_option maxRecDepth 100000 in
theorem c_X0_checkLine (l : Launch) (B0 : Nat) (g : va_G) (ct ad : Nat → Nat) (cS : St_) (mS : Pl_) (x : Ax_) (j : Nat) (hj : j < sn cS) : RV l yX0_checkLine wsX0_checkLine 0 (PX B0 g ct ad cS mS x [.ref (ad 0), .int (nI j)]) := by
  refine Met.ofW (cc := cX0_checkLine) (maxL := 2) (ret := none) (by decide) rfl ?_
  intro p e s m args below meth c s₁ B hml hv
  obtain ⟨rfl, hC⟩ := hv
  have hx := B.exec
  have hb := B.bytes
  have hr := B.returns
  have hts := atoms_spec (ws := wsX0_checkLine) B.pre
  have hown : s.vm.findClass RX0 = some m.cls := findClass_of_methodNamed B.named
  have hlocks := B.notSynchronized
  have hin : ∀ w ∈ wsX00, w ∈ wsX0_checkLine := fun _ h => List.mem_cons_of_mem _ (List.mem_append_left _ (List.mem_append_right _ h))
  have hI := hC.1.2.2.2
  have hn := hI.2.1
  have hl := lv_entry ([.ref (ad 0), .int (nI j)]) (n := 2) (Nat.le_of_ble_eq_true rfl)
  rw [lg_entry_eq]
  generalize (lg_sl ([.ref (ad 0), .int (nI j)]) ++ List.replicate (2 - (lg_sl ([.ref (ad 0), .int (nI j)])).length) Slot.unset).toArray = ls at hl ⊢
  have hl : lv_has ls 2 [(0, .ref (ad 0)), (1, .int (nI j))] := hl
  refine lv_iload_n hx hb dX0_checkLine_0 rfl (lv_at hl 1 rfl) ?_
  refine lv_if_lt (tgt := 12) hx hb dX0_checkLine_1 (by decide) (fun c_1 => ?_) (fun c_1 => ?_)
  · skip
    exact absurd c_1 (nI_pos (by omega))
  · skip
    refine lv_iload_n hx hb dX0_checkLine_4 rfl (lv_at hl 1 rfl) ?_
    refine lv_aload_n hx hb dX0_checkLine_5 rfl (lv_at hl 0 rfl) ?_
    refine r_g0 hC hx hb hts hin hown 1 (by decide) (hts (.fieldLink RX0 13 "AbjadPoems" "lines" "I") (by decide +kernel)) rfl dX0_checkLine_6 ?_
    refine lv_icmp_lt (tgt := 22) hx hb dX0_checkLine_9 (by decide) (fun c_9 => ?_) (fun c_9 => ?_)
    · skip
      have n_9 : j < sn cS := (nI_ltI (a := j) (b := sn cS) (by omega) (by omega)).mp c_9
      exact W.vret hx hb hr (fun t ht hW => ⟨rfl, trivial, ht⟩) (fun q hq => absurd hq List.not_mem_nil) dX0_checkLine_22
    · skip
      have n_9 : ¬ j < sn cS := fun q__ => c_9 ((nI_ltI (a := j) (b := sn cS) (by omega) (by omega)).mpr q__)
      exact absurd hj n_9
set_option maxHeartbeats 4000000 in
set_option maxRecDepth 100000 in
theorem c_X0_checkWordOfLine (l : Launch) (B0 : Nat) (g : va_G) (ct ad : Nat → Nat) (cS : St_) (mS : Pl_) (x : Ax_) (i w : Nat) (hi : i < sn cS) (hw : w < ss cS i) : RV l yX0_checkWordOfLine wsX0_checkWordOfLine 1 (PX B0 g ct ad cS mS x [.ref (ad 0), .int (nI i), .int (nI w)]) := by
  refine Met.ofW (cc := cX0_checkWordOfLine) (maxL := 3) (ret := none) (by decide) rfl ?_
  intro p e s m args below meth c s₁ B hml hv
  obtain ⟨rfl, hC⟩ := hv
  have hx := B.exec
  have hb := B.bytes
  have hr := B.returns
  have hts := atoms_spec (ws := wsX0_checkWordOfLine) B.pre
  have hown : s.vm.findClass RX0 = some m.cls := findClass_of_methodNamed B.named
  have hlocks := B.notSynchronized
  have hin : ∀ w ∈ wsX00, w ∈ wsX0_checkWordOfLine := fun _ h => List.mem_cons_of_mem _ (List.mem_append_left _ (List.mem_append_right _ h))
  have hI := hC.1.2.2.2
  have hn := hI.2.1
  have hz := hI.2.2.1 i
  have hl := lv_entry ([.ref (ad 0), .int (nI i), .int (nI w)]) (n := 3) (Nat.le_of_ble_eq_true rfl)
  rw [lg_entry_eq]
  generalize (lg_sl ([.ref (ad 0), .int (nI i), .int (nI w)]) ++ List.replicate (3 - (lg_sl ([.ref (ad 0), .int (nI i), .int (nI w)])).length) Slot.unset).toArray = ls at hl ⊢
  have hl : lv_has ls 3 [(0, .ref (ad 0)), (1, .int (nI i)), (2, .int (nI w))] := hl
  refine lv_aload_n hx hb dX0_checkWordOfLine_0 rfl (lv_at hl 0 rfl) ?_
  refine lv_iload_n hx hb dX0_checkWordOfLine_1 rfl (lv_at hl 1 rfl) ?_
  refine k_vV (As := [.int (nI i)]) (rest := []) (c_X0_checkLine l B0 g ct ad cS mS x i (by omega)) hC ⟨hx, hb, hml, hown, hts⟩ (cwV 1 hts gX0_checkWordOfLine_X0_checkLine rfl rfl rfl (by decide +kernel) ⟨Nat.le_of_ble_eq_true rfl, Nat.le_of_ble_eq_true rfl⟩) (rc0 hC) rfl hl.1 rfl (Nat.le_of_ble_eq_true rfl) dX0_checkWordOfLine_2 ⟨Nat.le_of_ble_eq_true rfl, Nat.le_of_ble_eq_true rfl⟩ ?_
  refine lv_iload_n hx hb dX0_checkWordOfLine_5 rfl (lv_at hl 2 rfl) ?_
  refine lv_if_lt (tgt := 19) hx hb dX0_checkWordOfLine_6 (by decide) (fun c_6 => ?_) (fun c_6 => ?_)
  · skip
    exact absurd c_6 (nI_pos (by omega))
  · skip
    refine lv_iload_n hx hb dX0_checkWordOfLine_9 rfl (lv_at hl 2 rfl) ?_
    refine lv_aload_n hx hb dX0_checkWordOfLine_10 rfl (lv_at hl 0 rfl) ?_
    refine r_g0 hC hx hb hts hin hown 2 (by decide) (hts (.fieldLink RX0 16 "AbjadPoems" "sizes" "[I") (by decide +kernel)) rfl dX0_checkWordOfLine_11 ?_
    refine lv_iload_n hx hb dX0_checkWordOfLine_14 rfl (lv_at hl 1 rfl) ?_
    refine r_sz hC hx hb dX0_checkWordOfLine_15 (j := i) (by omega) ?_
    refine lv_icmp_lt (tgt := 29) hx hb dX0_checkWordOfLine_16 (by decide) (fun c_16 => ?_) (fun c_16 => ?_)
    · skip
      have n_16 : w < ss cS i := (nI_ltI (a := w) (b := ss cS i) (by omega) (by omega)).mp c_16
      exact W.vret hx hb hr (fun t ht hW => ⟨rfl, trivial, ht⟩) (fun q hq => absurd hq List.not_mem_nil) dX0_checkWordOfLine_29
    · skip
      have n_16 : ¬ w < ss cS i := fun q__ => c_16 ((nI_ltI (a := w) (b := ss cS i) (by omega) (by omega)).mpr q__)
      exact absurd hw n_16
set_option maxHeartbeats 4000000 in
set_option maxRecDepth 100000 in
theorem c_X0_checkWhat (l : Launch) (B0 : Nat) (g : va_G) (ct ad : Nat → Nat) (cS : St_) (mS : Pl_) (x : Ax_) (q f : Nat) (hq : q < f) (hf : f < 9) : RV l yX0_checkWhat wsX0_checkWhat 0 (PX B0 g ct ad cS mS x [.int (nI q), .int (nI f)]) := by
  refine Met.ofW (cc := cX0_checkWhat) (maxL := 2) (ret := none) (by decide) rfl ?_
  intro p e s m args below meth c s₁ B hml hv
  obtain ⟨rfl, hC⟩ := hv
  have hx := B.exec
  have hb := B.bytes
  have hr := B.returns
  have hts := atoms_spec (ws := wsX0_checkWhat) B.pre
  have hown : s.vm.findClass RX0 = some m.cls := findClass_of_methodNamed B.named
  have hlocks := B.notSynchronized
  have hl := lv_entry ([.int (nI q), .int (nI f)]) (n := 2) (Nat.le_of_ble_eq_true rfl)
  rw [lg_entry_eq]
  generalize (lg_sl ([.int (nI q), .int (nI f)]) ++ List.replicate (2 - (lg_sl ([.int (nI q), .int (nI f)])).length) Slot.unset).toArray = ls at hl ⊢
  have hl : lv_has ls 2 [(0, .int (nI q)), (1, .int (nI f))] := hl
  refine lv_iload_n hx hb dX0_checkWhat_0 rfl (lv_at hl 0 rfl) ?_
  refine lv_if_lt (tgt := 9) hx hb dX0_checkWhat_1 (by decide) (fun c_1 => ?_) (fun c_1 => ?_)
  · skip
    exact absurd c_1 (nI_pos (by omega))
  · skip
    refine lv_iload_n hx hb dX0_checkWhat_4 rfl (lv_at hl 0 rfl) ?_
    refine lv_iload_n hx hb dX0_checkWhat_5 rfl (lv_at hl 1 rfl) ?_
    refine lv_icmp_lt (tgt := 19) hx hb dX0_checkWhat_6 (by decide) (fun c_6 => ?_) (fun c_6 => ?_)
    · skip
      have n_6 : q < f := (nI_ltI (a := q) (b := f) (by omega) (by omega)).mp c_6
      exact W.vret hx hb hr (fun t ht hW => ⟨rfl, trivial, ht⟩) (fun q hq => absurd hq List.not_mem_nil) dX0_checkWhat_19
    · skip
      have n_6 : ¬ q < f := fun q__ => c_6 ((nI_ltI (a := q) (b := f) (by omega) (by omega)).mpr q__)
      exact absurd hq n_6
set_option maxHeartbeats 4000000 in
set_option maxRecDepth 100000 in
theorem c_X0_checkWord (l : Launch) (B0 : Nat) (g : va_G) (ct ad : Nat → Nat) (cS : St_) (mS : Pl_) (x : Ax_) (w : Int32) (h : wd_ w = true) : RV l yX0_checkWord wsX0_checkWord 1 (PX B0 g ct ad cS mS x [.int w]) := by
  refine Met.ofW (cc := cX0_checkWord) (maxL := 1) (ret := none) (by decide) rfl ?_
  intro p e s m args below meth c s₁ B hml hv
  obtain ⟨rfl, hC⟩ := hv
  have hx := B.exec
  have hb := B.bytes
  have hr := B.returns
  have hts := atoms_spec (ws := wsX0_checkWord) B.pre
  have hown : s.vm.findClass RX0 = some m.cls := findClass_of_methodNamed B.named
  have hlocks := B.notSynchronized
  have hl := lv_entry ([.int w]) (n := 1) (Nat.le_of_ble_eq_true rfl)
  rw [lg_entry_eq]
  generalize (lg_sl ([.int w]) ++ List.replicate (1 - (lg_sl ([.int w])).length) Slot.unset).toArray = ls at hl ⊢
  have hl : lv_has ls 1 [(0, .int w)] := hl
  refine lv_iload_n hx hb dX0_checkWord_0 rfl (lv_at hl 0 rfl) ?_
  refine k_pS (As := [.int w]) (rest := []) (c_X0_isWord l w) ⟨hx, hb, hml, hown, hts⟩ (va_cwS 1 hts gX0_checkWord_X0_isWord rfl rfl rfl (by decide +kernel) ⟨Nat.le_of_ble_eq_true rfl, Nat.le_of_ble_eq_true rfl⟩) rfl hl.1 rfl (Nat.le_of_ble_eq_true rfl) dX0_checkWord_1 ⟨Nat.le_of_ble_eq_true rfl, Nat.le_of_ble_eq_true rfl⟩ ?_
  refine lv_if_ne (tgt := 17) hx hb dX0_checkWord_4 (by decide) (fun c_4 => ?_) (fun c_4 => ?_)
  · skip
    exact W.vret hx hb hr (fun t ht hW => ⟨rfl, trivial, ht⟩) (fun q hq => absurd hq List.not_mem_nil) dX0_checkWord_17
  · skip
    rw [h] at c_4; exact absurd c_4 (by decide)
set_option maxHeartbeats 4000000 in
set_option maxRecDepth 100000 in
theorem c_X0_letter (l : Launch) (B0 : Nat) (g : va_G) (ct ad : Nat → Nat) (cS : St_) (mS : Pl_) (x : Ax_) (k : Nat) (h1 : 1 ≤ k) (h2 : k ≤ 26) : RI l yX0_letter wsX0_letter 1 (PX B0 g ct ad cS mS x [.ref (ad 0), .int (nI k)]) (nI (vl_ (so cS) k)) := by
  refine Met.ofW (cc := cX0_letter) (maxL := 2) (ret := (some .int)) (by decide) rfl ?_
  intro p e s m args below meth c s₁ B hml hv
  obtain ⟨rfl, hC⟩ := hv
  have hx := B.exec
  have hb := B.bytes
  have hr := B.returns
  have hts := atoms_spec (ws := wsX0_letter) B.pre
  have hown : s.vm.findClass RX0 = some m.cls := findClass_of_methodNamed B.named
  have hlocks := B.notSynchronized
  have hin : ∀ w ∈ wsX00, w ∈ wsX0_letter := fun _ h => List.mem_cons_of_mem _ (List.mem_append_left _ (List.mem_append_right _ h))
  have hl := lv_entry ([.ref (ad 0), .int (nI k)]) (n := 2) (Nat.le_of_ble_eq_true rfl)
  rw [lg_entry_eq]
  generalize (lg_sl ([.ref (ad 0), .int (nI k)]) ++ List.replicate (2 - (lg_sl ([.ref (ad 0), .int (nI k)])).length) Slot.unset).toArray = ls at hl ⊢
  have hl : lv_has ls 2 [(0, .ref (ad 0)), (1, .int (nI k))] := hl
  refine lv_iload_n hx hb dX0_letter_0 rfl (lv_at hl 1 rfl) ?_
  refine lv_iconst (v := nI 1) hx hb dX0_letter_1 (by decide) ?_
  refine lv_icmp_lt (tgt := 11) hx hb dX0_letter_2 (by decide) (fun c_2 => ?_) (fun c_2 => ?_)
  · skip
    have n_2 : k < 1 := (nI_ltI (a := k) (b := 1) (by omega) (by omega)).mp c_2
    exact absurd n_2 (by omega)
  · skip
    have n_2 : ¬ k < 1 := fun q__ => c_2 ((nI_ltI (a := k) (b := 1) (by omega) (by omega)).mpr q__)
    refine lv_iload_n hx hb dX0_letter_5 rfl (lv_at hl 1 rfl) ?_
    refine lv_bipush (v := nI 26) hx hb dX0_letter_6 (by decide) ?_
    refine lv_icmp_le (tgt := 21) hx hb dX0_letter_8 (by decide) (fun c_8 => ?_) (fun c_8 => ?_)
    · skip
      have n_8 : k ≤ 26 := (nI_leI (a := k) (b := 26) (by omega) (by omega)).mp c_8
      refine lv_aload_n hx hb dX0_letter_21 rfl (lv_at hl 0 rfl) ?_
      refine lv_iload_n hx hb dX0_letter_22 rfl (lv_at hl 1 rfl) ?_
      refine k_rV (As := [.int (nI k)]) (rest := []) (c_X0_worthOfLetter l B0 g ct ad cS mS x k (by omega)) hC ⟨hx, hb, hml, hown, hts⟩ (cwV 1 hts gX0_letter_X0_worthOfLetter rfl rfl rfl (by decide +kernel) ⟨Nat.le_of_ble_eq_true rfl, Nat.le_of_ble_eq_true rfl⟩) (rc0 hC) rfl hl.1 rfl (Nat.le_of_ble_eq_true rfl) dX0_letter_23 ⟨Nat.le_of_ble_eq_true rfl, Nat.le_of_ble_eq_true rfl⟩ ?_
      exact W.iret hx hb hr (fun t ht hW => ⟨_, rfl, rfl, ht⟩) (fun q hq => absurd hq List.not_mem_nil) dX0_letter_26
    · skip
      have n_8 : ¬ k ≤ 26 := fun q__ => c_8 ((nI_leI (a := k) (b := 26) (by omega) (by omega)).mpr q__)
      exact absurd h2 n_8
set_option maxHeartbeats 4000000 in
set_option maxRecDepth 100000 in
theorem c_X0_value (l : Launch) (B0 : Nat) (g : va_G) (ct ad : Nat → Nat) (cS : St_) (mS : Pl_) (x : Ax_) (w : Nat) (hw : w < 387420489) (h : wd_ (nI w) = true) : RI l yX0_value wsX0_value 2 (PX B0 g ct ad cS mS x [.ref (ad 0), .int (nI w)]) (nI (ws0 (so cS) w)) := by
  refine Met.ofW (cc := cX0_value) (maxL := 2) (ret := (some .int)) (by decide) rfl ?_
  intro p e s m args below meth c s₁ B hml hv
  obtain ⟨rfl, hC⟩ := hv
  have hx := B.exec
  have hb := B.bytes
  have hr := B.returns
  have hts := atoms_spec (ws := wsX0_value) B.pre
  have hown : s.vm.findClass RX0 = some m.cls := findClass_of_methodNamed B.named
  have hlocks := B.notSynchronized
  have hin : ∀ w ∈ wsX00, w ∈ wsX0_value := fun _ h => List.mem_cons_of_mem _ (List.mem_append_left _ (List.mem_append_right _ h))
  have hl := lv_entry ([.ref (ad 0), .int (nI w)]) (n := 2) (Nat.le_of_ble_eq_true rfl)
  rw [lg_entry_eq]
  generalize (lg_sl ([.ref (ad 0), .int (nI w)]) ++ List.replicate (2 - (lg_sl ([.ref (ad 0), .int (nI w)])).length) Slot.unset).toArray = ls at hl ⊢
  have hl : lv_has ls 2 [(0, .ref (ad 0)), (1, .int (nI w))] := hl
  refine lv_iload_n hx hb dX0_value_0 rfl (lv_at hl 1 rfl) ?_
  refine k_vS (As := [.int (nI w)]) (rest := []) (c_X0_checkWord l B0 g ct ad cS mS x (nI w) h) hC ⟨hx, hb, hml, hown, hts⟩ (va_cwS 1 hts gX0_value_X0_checkWord rfl rfl rfl (by decide +kernel) ⟨Nat.le_of_ble_eq_true rfl, Nat.le_of_ble_eq_true rfl⟩) rfl hl.1 rfl (Nat.le_of_ble_eq_true rfl) dX0_value_1 ⟨Nat.le_of_ble_eq_true rfl, Nat.le_of_ble_eq_true rfl⟩ ?_
  refine lv_aload_n hx hb dX0_value_4 rfl (lv_at hl 0 rfl) ?_
  refine lv_iload_n hx hb dX0_value_5 rfl (lv_at hl 1 rfl) ?_
  refine lv_bipush (v := nI 63) hx hb dX0_value_6 (by decide) ?_
  refine k_rV (As := [.int (nI w), .int (nI 63)]) (rest := []) (c_X0_worthOfPlaces l B0 g ct ad cS mS x w 63 (by omega) (by omega)) hC ⟨hx, hb, hml, hown, hts⟩ (cwV 2 hts gX0_value_X0_worthOfPlaces rfl rfl rfl (by decide +kernel) ⟨Nat.le_of_ble_eq_true rfl, Nat.le_of_ble_eq_true rfl⟩) (rc0 hC) rfl hl.1 rfl (Nat.le_of_ble_eq_true rfl) dX0_value_8 ⟨Nat.le_of_ble_eq_true rfl, Nat.le_of_ble_eq_true rfl⟩ ?_
  exact W.iret hx hb hr (fun t ht hW => ⟨_, rfl, (congrArg nI (wm_63 hw)), ht⟩) (fun q hq => absurd hq List.not_mem_nil) dX0_value_11
set_option maxHeartbeats 4000000 in
set_option maxRecDepth 100000 in
theorem c_X0_word (l : Launch) (B0 : Nat) (g : va_G) (ct ad : Nat → Nat) (cS : St_) (mS : Pl_) (x : Ax_) (i w q : Nat) (hi : i < sn cS) (hw : w < ss cS i) (hq : q < 5) : RI l yX0_word wsX0_word 3 (PX B0 g ct ad cS mS x [.ref (ad 0), .int (nI i), .int (nI w), .int (nI q)]) (nI (wt_ cS i w q)) := by
  refine Met.ofW (cc := cX0_word) (maxL := 4) (ret := (some .int)) (by decide) rfl ?_
  intro p e s m args below meth c s₁ B hml hv
  obtain ⟨rfl, hC⟩ := hv
  have hx := B.exec
  have hb := B.bytes
  have hr := B.returns
  have hts := atoms_spec (ws := wsX0_word) B.pre
  have hown : s.vm.findClass RX0 = some m.cls := findClass_of_methodNamed B.named
  have hlocks := B.notSynchronized
  have hin : ∀ w ∈ wsX00, w ∈ wsX0_word := fun _ h => List.mem_cons_of_mem _ (List.mem_append_left _ (List.mem_append_right _ h))
  have hI := hC.1.2.2.2
  have hn := hI.2.1
  have hz := hI.2.2.1 i
  have hl := lv_entry ([.ref (ad 0), .int (nI i), .int (nI w), .int (nI q)]) (n := 4) (Nat.le_of_ble_eq_true rfl)
  rw [lg_entry_eq]
  generalize (lg_sl ([.ref (ad 0), .int (nI i), .int (nI w), .int (nI q)]) ++ List.replicate (4 - (lg_sl ([.ref (ad 0), .int (nI i), .int (nI w), .int (nI q)])).length) Slot.unset).toArray = ls at hl ⊢
  have hl : lv_has ls 4 [(0, .ref (ad 0)), (1, .int (nI i)), (2, .int (nI w)), (3, .int (nI q))] := hl
  refine lv_aload_n hx hb dX0_word_0 rfl (lv_at hl 0 rfl) ?_
  refine lv_iload_n hx hb dX0_word_1 rfl (lv_at hl 1 rfl) ?_
  refine lv_iload_n hx hb dX0_word_2 rfl (lv_at hl 2 rfl) ?_
  refine k_vV (As := [.int (nI i), .int (nI w)]) (rest := []) (c_X0_checkWordOfLine l B0 g ct ad cS mS x i w (by omega) (by omega)) hC ⟨hx, hb, hml, hown, hts⟩ (cwV 2 hts gX0_word_X0_checkWordOfLine rfl rfl rfl (by decide +kernel) ⟨Nat.le_of_ble_eq_true rfl, Nat.le_of_ble_eq_true rfl⟩) (rc0 hC) rfl hl.1 rfl (Nat.le_of_ble_eq_true rfl) dX0_word_3 ⟨Nat.le_of_ble_eq_true rfl, Nat.le_of_ble_eq_true rfl⟩ ?_
  refine lv_iload_n hx hb dX0_word_6 rfl (lv_at hl 3 rfl) ?_
  refine lv_iconst (v := nI 5) hx hb dX0_word_7 (by decide) ?_
  refine k_vS (As := [.int (nI q), .int (nI 5)]) (rest := []) (c_X0_checkWhat l B0 g ct ad cS mS x q 5 (by omega) (by omega)) hC ⟨hx, hb, hml, hown, hts⟩ (va_cwS 2 hts gX0_word_X0_checkWhat rfl rfl rfl (by decide +kernel) ⟨Nat.le_of_ble_eq_true rfl, Nat.le_of_ble_eq_true rfl⟩) rfl hl.1 rfl (Nat.le_of_ble_eq_true rfl) dX0_word_8 ⟨Nat.le_of_ble_eq_true rfl, Nat.le_of_ble_eq_true rfl⟩ ?_
  refine lv_aload_n hx hb dX0_word_11 rfl (lv_at hl 0 rfl) ?_
  refine lv_iload_n hx hb dX0_word_12 rfl (lv_at hl 1 rfl) ?_
  refine lv_iload_n hx hb dX0_word_13 rfl (lv_at hl 2 rfl) ?_
  refine lv_iload_n hx hb dX0_word_14 rfl (lv_at hl 3 rfl) ?_
  refine k_rV (As := [.int (nI i), .int (nI w), .int (nI q)]) (rest := []) (c_X0_figureOfWord l B0 g ct ad cS mS x i w q (by omega) (by omega) (by omega) (fun _ => hI.2.2.2.2.2 i w hw)) hC ⟨hx, hb, hml, hown, hts⟩ (cwV 3 hts gX0_word_X0_figureOfWord rfl rfl rfl (by decide +kernel) ⟨Nat.le_of_ble_eq_true rfl, Nat.le_of_ble_eq_true rfl⟩) (rc0 hC) rfl hl.1 rfl (Nat.le_of_ble_eq_true rfl) dX0_word_15 ⟨Nat.le_of_ble_eq_true rfl, Nat.le_of_ble_eq_true rfl⟩ ?_
  exact W.iret hx hb hr (fun t ht hW => ⟨_, rfl, rfl, ht⟩) (fun q hq => absurd hq List.not_mem_nil) dX0_word_18
set_option maxHeartbeats 4000000 in
set_option maxRecDepth 100000 in
theorem c_X0_line (l : Launch) (B0 : Nat) (g : va_G) (ct ad : Nat → Nat) (cS : St_) (mS : Pl_) (x : Ax_) (i q : Nat) (hi : i < sn cS) (hq : q < 5) : RI l yX0_line wsX0_line 4 (PX B0 g ct ad cS mS x [.ref (ad 0), .int (nI i), .int (nI q)]) (nI (lt_ cS i q)) := by
  refine Met.ofW (cc := cX0_line) (maxL := 3) (ret := (some .int)) (by decide) rfl ?_
  intro p e s m args below meth c s₁ B hml hv
  obtain ⟨rfl, hC⟩ := hv
  have hx := B.exec
  have hb := B.bytes
  have hr := B.returns
  have hts := atoms_spec (ws := wsX0_line) B.pre
  have hown : s.vm.findClass RX0 = some m.cls := findClass_of_methodNamed B.named
  have hlocks := B.notSynchronized
  have hin : ∀ w ∈ wsX00, w ∈ wsX0_line := fun _ h => List.mem_cons_of_mem _ (List.mem_append_left _ (List.mem_append_right _ h))
  have hI := hC.1.2.2.2
  have hn := hI.2.1
  have hl := lv_entry ([.ref (ad 0), .int (nI i), .int (nI q)]) (n := 3) (Nat.le_of_ble_eq_true rfl)
  rw [lg_entry_eq]
  generalize (lg_sl ([.ref (ad 0), .int (nI i), .int (nI q)]) ++ List.replicate (3 - (lg_sl ([.ref (ad 0), .int (nI i), .int (nI q)])).length) Slot.unset).toArray = ls at hl ⊢
  have hl : lv_has ls 3 [(0, .ref (ad 0)), (1, .int (nI i)), (2, .int (nI q))] := hl
  refine lv_aload_n hx hb dX0_line_0 rfl (lv_at hl 0 rfl) ?_
  refine lv_iload_n hx hb dX0_line_1 rfl (lv_at hl 1 rfl) ?_
  refine k_vV (As := [.int (nI i)]) (rest := []) (c_X0_checkLine l B0 g ct ad cS mS x i (by omega)) hC ⟨hx, hb, hml, hown, hts⟩ (cwV 1 hts gX0_line_X0_checkLine rfl rfl rfl (by decide +kernel) ⟨Nat.le_of_ble_eq_true rfl, Nat.le_of_ble_eq_true rfl⟩) (rc0 hC) rfl hl.1 rfl (Nat.le_of_ble_eq_true rfl) dX0_line_2 ⟨Nat.le_of_ble_eq_true rfl, Nat.le_of_ble_eq_true rfl⟩ ?_
  refine lv_iload_n hx hb dX0_line_5 rfl (lv_at hl 2 rfl) ?_
  refine lv_iconst (v := nI 5) hx hb dX0_line_6 (by decide) ?_
  refine k_vS (As := [.int (nI q), .int (nI 5)]) (rest := []) (c_X0_checkWhat l B0 g ct ad cS mS x q 5 (by omega) (by omega)) hC ⟨hx, hb, hml, hown, hts⟩ (va_cwS 2 hts gX0_line_X0_checkWhat rfl rfl rfl (by decide +kernel) ⟨Nat.le_of_ble_eq_true rfl, Nat.le_of_ble_eq_true rfl⟩) rfl hl.1 rfl (Nat.le_of_ble_eq_true rfl) dX0_line_7 ⟨Nat.le_of_ble_eq_true rfl, Nat.le_of_ble_eq_true rfl⟩ ?_
  refine lv_aload_n hx hb dX0_line_10 rfl (lv_at hl 0 rfl) ?_
  refine lv_iload_n hx hb dX0_line_11 rfl (lv_at hl 1 rfl) ?_
  refine lv_iload_n hx hb dX0_line_12 rfl (lv_at hl 2 rfl) ?_
  refine k_rV (As := [.int (nI i), .int (nI q)]) (rest := []) (c_X0_figureOfLine l B0 g ct ad cS mS x i q (by omega) (by omega)) hC ⟨hx, hb, hml, hown, hts⟩ (cwV 2 hts gX0_line_X0_figureOfLine rfl rfl rfl (by decide +kernel) ⟨Nat.le_of_ble_eq_true rfl, Nat.le_of_ble_eq_true rfl⟩) (rc0 hC) rfl hl.1 rfl (Nat.le_of_ble_eq_true rfl) dX0_line_13 ⟨Nat.le_of_ble_eq_true rfl, Nat.le_of_ble_eq_true rfl⟩ ?_
  exact W.iret hx hb hr (fun t ht hW => ⟨_, rfl, rfl, ht⟩) (fun q hq => absurd hq List.not_mem_nil) dX0_line_16
set_option maxHeartbeats 4000000 in
set_option maxRecDepth 100000 in
theorem c_X0_hidden (l : Launch) (B0 : Nat) (g : va_G) (ct ad : Nat → Nat) (cS : St_) (mS : Pl_) (x : Ax_) (i : Nat) (hi : i < sn cS) (yr : Int32) : RI l yX0_hidden wsX0_hidden 3 (PX B0 g ct ad cS mS x [.ref (ad 0), .int (nI i), .int yr]) (hd_ cS i yr (ss cS i) 0) := by
  refine Met.ofW (cc := cX0_hidden) (maxL := 5) (ret := (some .int)) (by decide) rfl ?_
  intro p e s m args below meth c s₁ B hml hv
  obtain ⟨rfl, hC⟩ := hv
  have hx := B.exec
  have hb := B.bytes
  have hr := B.returns
  have hts := atoms_spec (ws := wsX0_hidden) B.pre
  have hown : s.vm.findClass RX0 = some m.cls := findClass_of_methodNamed B.named
  have hlocks := B.notSynchronized
  have hin : ∀ w ∈ wsX00, w ∈ wsX0_hidden := fun _ h => List.mem_cons_of_mem _ (List.mem_append_left _ (List.mem_append_right _ h))
  have hI := hC.1.2.2.2
  have hn := hI.2.1
  have hz := hI.2.2.1 i
  have hl := lv_entry ([.ref (ad 0), .int (nI i), .int yr]) (n := 5) (Nat.le_of_ble_eq_true rfl)
  rw [lg_entry_eq]
  generalize (lg_sl ([.ref (ad 0), .int (nI i), .int yr]) ++ List.replicate (5 - (lg_sl ([.ref (ad 0), .int (nI i), .int yr])).length) Slot.unset).toArray = ls at hl ⊢
  have hl : lv_has ls 5 [(0, .ref (ad 0)), (1, .int (nI i)), (2, .int yr)] := hl
  refine lv_aload_n hx hb dX0_hidden_0 rfl (lv_at hl 0 rfl) ?_
  refine lv_iload_n hx hb dX0_hidden_1 rfl (lv_at hl 1 rfl) ?_
  refine k_vV (As := [.int (nI i)]) (rest := []) (c_X0_checkLine l B0 g ct ad cS mS x i (by omega)) hC ⟨hx, hb, hml, hown, hts⟩ (cwV 1 hts gX0_hidden_X0_checkLine rfl rfl rfl (by decide +kernel) ⟨Nat.le_of_ble_eq_true rfl, Nat.le_of_ble_eq_true rfl⟩) (rc0 hC) rfl hl.1 rfl (Nat.le_of_ble_eq_true rfl) dX0_hidden_2 ⟨Nat.le_of_ble_eq_true rfl, Nat.le_of_ble_eq_true rfl⟩ ?_
  refine lv_iconst (v := nI 0) hx hb dX0_hidden_5 (by decide) ?_
  refine lv_istore_n (lv' := [(3, .int (nI 0)), (0, .ref (ad 0)), (1, .int (nI i)), (2, .int yr)]) hx hb dX0_hidden_6 rfl hl (by decide) rfl (fun ls hl => ?_)
  have LP_7 : ∀ (n_ : Nat) (w : Nat), ss cS i - w < n_ → (hd_ cS i yr (ss cS i - w) w = hd_ cS i yr (ss cS i) 0) → (w ≤ 10) → ∀ ls : Array Slot, lv_has ls 5 [(3, .int (nI w)), (0, .ref (ad 0)), (1, .int (nI i)), (2, .int yr)] → W p l e (headSpec wsX0_hidden (rm_ 3 0 0)).room s m ([.ref (ad 0), .int (nI i), .int yr] : List Value).toArray below meth c s.heap [] 0 0 (MQ below (vp_Si (fun r => r = hd_ cS i yr (ss cS i) 0)) ([.ref (ad 0), .int (nI i), .int yr] : List Value).toArray s 0 0 (fun _ => False)) (F0 m 7 ls []) := by
    intro n_
    induction n_ with
    | zero => intro w hm; exact absurd hm (Nat.not_lt_zero _)
    | succ n_ ih_7 =>
      intro w hm h1 hw_ ls hl
      refine lv_iload_n hx hb dX0_hidden_7 rfl (lv_at hl 0 rfl) ?_
      refine lv_aload_n hx hb dX0_hidden_8 rfl (lv_at hl 1 rfl) ?_
      refine r_g0 hC hx hb hts hin hown 2 (by decide) (hts (.fieldLink RX0 16 "AbjadPoems" "sizes" "[I") (by decide +kernel)) rfl dX0_hidden_9 ?_
      refine lv_iload_n hx hb dX0_hidden_12 rfl (lv_at hl 2 rfl) ?_
      refine r_sz hC hx hb dX0_hidden_13 (j := i) (by omega) ?_
      refine lv_icmp_ge (tgt := 45) hx hb dX0_hidden_14 (by decide) (fun c_14 => ?_) (fun c_14 => ?_)
      · skip
        have n_14 : ss cS i ≤ w := (nI_leI (a := ss cS i) (b := w) (by omega) (by omega)).mp c_14
        have hE : hd_ cS i yr (ss cS i) 0 = -1 := by rw [← h1, hd_e (by omega)]
        refine lv_iconst (v := -1) hx hb dX0_hidden_45 (by decide) ?_
        exact W.iret hx hb hr (fun t ht hW => ⟨_, rfl, (by show (-1) = hd_ cS i yr (ss cS i) 0; rw [hE]), ht⟩) (fun q hq => absurd hq List.not_mem_nil) dX0_hidden_46
      · skip
        have n_14 : ¬ ss cS i ≤ w := fun q__ => c_14 ((nI_leI (a := ss cS i) (b := w) (by omega) (by omega)).mpr q__)
        refine lv_aload_n hx hb dX0_hidden_17 rfl (lv_at hl 1 rfl) ?_
        refine lv_iload_n hx hb dX0_hidden_18 rfl (lv_at hl 2 rfl) ?_
        refine lv_iload_n hx hb dX0_hidden_19 rfl (lv_at hl 0 rfl) ?_
        refine lv_iload_n hx hb dX0_hidden_20 rfl (lv_at hl 3 rfl) ?_
        refine k_rV (As := [.int (nI i), .int (nI w), .int yr]) (rest := []) (c_X0_lastOfRun l B0 g ct ad cS mS x i w yr (by omega) (by omega)) hC ⟨hx, hb, hml, hown, hts⟩ (cwV 3 hts gX0_hidden_X0_lastOfRun rfl rfl rfl (by decide +kernel) ⟨Nat.le_of_ble_eq_true rfl, Nat.le_of_ble_eq_true rfl⟩) (rc0 hC) rfl hl.1 rfl (Nat.le_of_ble_eq_true rfl) dX0_hidden_21 ⟨Nat.le_of_ble_eq_true rfl, Nat.le_of_ble_eq_true rfl⟩ ?_
        refine lv_istore (lv' := [(4, .int (ru_ cS i yr w)), (3, .int (nI w)), (0, .ref (ad 0)), (1, .int (nI i)), (2, .int yr)]) hx hb dX0_hidden_24 hl (by decide) rfl (fun ls hl => ?_)
        refine lv_iload hx hb dX0_hidden_26 (lv_at hl 0 rfl) ?_
        refine lv_if_lt (tgt := 39) hx hb dX0_hidden_28 (by decide) (fun c_28 => ?_) (fun c_28 => ?_)
        · skip
          have n_28 := (ru_i (y := yr) hI.2.2.1 (show w < ss cS i by omega)).mp c_28
          refine lv_iinc (v := nI (w + 1)) (lv' := [(3, .int (nI (w + 1))), (4, .int (ru_ cS i yr w)), (0, .ref (ad 0)), (1, .int (nI i)), (2, .int yr)]) hx hb dX0_hidden_39 hl (k := 1) rfl (nI_1 _) (by decide) rfl (fun ls hl => ?_)
          refine lv_goto (tgt := 7) hx hb dX0_hidden_42 (by decide) ?_
          exact ih_7 (w + 1) (by omega) (by rw [← h1, hd_s (show w < ss cS i by omega), if_pos n_28]) (by omega) ls (lv_sub hl [0, 2, 3, 4] rfl)
        · skip
          have n_28 : ¬ ru_ cS i yr w = -1 := fun q => c_28 ((ru_i hI.2.2.1 (show w < ss cS i by omega)).mpr q)
          have hE : hd_ cS i yr (ss cS i) 0 = nI (10 * w) + ru_ cS i yr w := by rw [← h1, hd_s (show w < ss cS i by omega), if_neg n_28]
          refine lv_bipush (v := nI 10) hx hb dX0_hidden_31 (by decide) ?_
          refine lv_iload_n hx hb dX0_hidden_33 rfl (lv_at hl 1 rfl) ?_
          refine lv_imul hx hb dX0_hidden_34 ?_
          refine lv_tn (pk_mul _ _) ?_
          refine lv_iload hx hb dX0_hidden_35 (lv_at hl 0 rfl) ?_
          refine lv_iadd hx hb dX0_hidden_37 ?_
          exact W.iret hx hb hr (fun t ht hW => ⟨_, rfl, (by show (nI (10 * w)) + (ru_ cS i yr w) = hd_ cS i yr (ss cS i) 0; rw [hE]), ht⟩) (fun q hq => absurd hq List.not_mem_nil) dX0_hidden_38
  exact LP_7 _ 0 (Nat.lt_succ_self _) rfl (by omega) ls (lv_sub hl [0, 1, 2, 3] rfl)
set_option maxHeartbeats 4000000 in
set_option maxRecDepth 100000 in
theorem c_X0_hides (l : Launch) (B0 : Nat) (g : va_G) (ct ad : Nat → Nat) (cS : St_) (mS : Pl_) (x : Ax_) (yr : Int32) : RI l yX0_hides wsX0_hides 3 (PX B0 g ct ad cS mS x [.ref (ad 0), .int yr]) (nI (hs_ cS yr)) := by
  refine Met.ofW (cc := cX0_hides) (maxL := 5) (ret := (some .int)) (by decide) rfl ?_
  intro p e s m args below meth c s₁ B hml hv
  obtain ⟨rfl, hC⟩ := hv
  have hx := B.exec
  have hb := B.bytes
  have hr := B.returns
  have hts := atoms_spec (ws := wsX0_hides) B.pre
  have hown : s.vm.findClass RX0 = some m.cls := findClass_of_methodNamed B.named
  have hlocks := B.notSynchronized
  have hin : ∀ w ∈ wsX00, w ∈ wsX0_hides := fun _ h => List.mem_cons_of_mem _ (List.mem_append_right _ h)
  have hI := hC.1.2.2.2
  have hn := hI.2.1
  have hl := lv_entry ([.ref (ad 0), .int yr]) (n := 5) (Nat.le_of_ble_eq_true rfl)
  rw [lg_entry_eq]
  generalize (lg_sl ([.ref (ad 0), .int yr]) ++ List.replicate (5 - (lg_sl ([.ref (ad 0), .int yr])).length) Slot.unset).toArray = ls at hl ⊢
  have hl : lv_has ls 5 [(0, .ref (ad 0)), (1, .int yr)] := hl
  refine lv_iconst (v := nI 0) hx hb dX0_hides_0 (by decide) ?_
  refine lv_istore_n (lv' := [(2, .int (nI 0)), (0, .ref (ad 0)), (1, .int yr)]) hx hb dX0_hides_1 rfl hl (by decide) rfl (fun ls hl => ?_)
  refine lv_iconst (v := nI 0) hx hb dX0_hides_2 (by decide) ?_
  refine lv_istore_n (lv' := [(3, .int (nI 0)), (2, .int (nI 0)), (0, .ref (ad 0)), (1, .int yr)]) hx hb dX0_hides_3 rfl hl (by decide) rfl (fun ls hl => ?_)
  have LP_4 : ∀ (n_ : Nat) (t : Nat) (k : Nat), sn cS - k < n_ → (t = qs_ (fun l => hl_ cS yr l) k) → (k ≤ sn cS) → ∀ ls : Array Slot, lv_has ls 5 [(3, .int (nI k)), (2, .int (nI t)), (0, .ref (ad 0)), (1, .int yr)] → W p l e (headSpec wsX0_hides (rm_ 3 0 0)).room s m ([.ref (ad 0), .int yr] : List Value).toArray below meth c s.heap [] 0 0 (MQ below (vp_Si (fun r => r = nI (hs_ cS yr))) ([.ref (ad 0), .int yr] : List Value).toArray s 0 0 (fun _ => False)) (F0 m 4 ls []) := by
    intro n_
    induction n_ with
    | zero => intro t k hm; exact absurd hm (Nat.not_lt_zero _)
    | succ n_ ih_4 =>
      intro t k hm ht hk ls hl
      have hz := hI.2.2.1 k
      refine lv_iload_n hx hb dX0_hides_4 rfl (lv_at hl 0 rfl) ?_
      refine lv_aload_n hx hb dX0_hides_5 rfl (lv_at hl 2 rfl) ?_
      refine r_g0 hC hx hb hts hin hown 1 (by decide) (hts (.fieldLink RX0 13 "AbjadPoems" "lines" "I") (by decide +kernel)) rfl dX0_hides_6 ?_
      refine lv_icmp_ge (tgt := 52) hx hb dX0_hides_9 (by decide) (fun c_9 => ?_) (fun c_9 => ?_)
      · skip
        have n_9 : sn cS ≤ k := (nI_leI (a := sn cS) (b := k) (by omega) (by omega)).mp c_9
        have hE : t = hs_ cS yr := by rw [ht, show k = sn cS by omega]; rfl
        refine lv_iload_n hx hb dX0_hides_52 rfl (lv_at hl 1 rfl) ?_
        exact W.iret hx hb hr (fun t ht hW => ⟨_, rfl, (congrArg nI hE), ht⟩) (fun q hq => absurd hq List.not_mem_nil) dX0_hides_53
      · skip
        have n_9 : ¬ sn cS ≤ k := fun q__ => c_9 ((nI_leI (a := sn cS) (b := k) (by omega) (by omega)).mpr q__)
        refine lv_iconst (v := nI 0) hx hb dX0_hides_12 (by decide) ?_
        refine lv_istore (lv' := [(4, .int (nI 0)), (3, .int (nI k)), (2, .int (nI t)), (0, .ref (ad 0)), (1, .int yr)]) hx hb dX0_hides_13 hl (by decide) rfl (fun ls hl => ?_)
        have LP_15 : ∀ (n_ : Nat) (u : Nat) (w : Nat), ss cS k - w < n_ → (u = t + qs_ (hf_ cS yr k) w) → (w ≤ ss cS k) → ∀ ls : Array Slot, lv_has ls 5 [(4, .int (nI w)), (3, .int (nI k)), (2, .int (nI u)), (0, .ref (ad 0)), (1, .int yr)] → W p l e (headSpec wsX0_hides (rm_ 3 0 0)).room s m ([.ref (ad 0), .int yr] : List Value).toArray below meth c s.heap [] 0 0 (MQ below (vp_Si (fun r => r = nI (hs_ cS yr))) ([.ref (ad 0), .int yr] : List Value).toArray s 0 0 (fun _ => False)) (F0 m 15 ls []) := by
          intro n_
          induction n_ with
          | zero => intro u w hm; exact absurd hm (Nat.not_lt_zero _)
          | succ n_ ih_15 =>
            intro u w hm hu hw_ ls hl
            refine lv_iload hx hb dX0_hides_15 (lv_at hl 0 rfl) ?_
            refine lv_aload_n hx hb dX0_hides_17 rfl (lv_at hl 3 rfl) ?_
            refine r_g0 hC hx hb hts hin hown 2 (by decide) (hts (.fieldLink RX0 16 "AbjadPoems" "sizes" "[I") (by decide +kernel)) rfl dX0_hides_18 ?_
            refine lv_iload_n hx hb dX0_hides_21 rfl (lv_at hl 1 rfl) ?_
            refine r_sz hC hx hb dX0_hides_22 (j := k) (by omega) ?_
            refine lv_icmp_ge (tgt := 46) hx hb dX0_hides_23 (by decide) (fun c_23 => ?_) (fun c_23 => ?_)
            · skip
              have n_23 : ss cS k ≤ w := (nI_leI (a := ss cS k) (b := w) (by omega) (by omega)).mp c_23
              refine lv_iinc (v := nI (k + 1)) (lv' := [(3, .int (nI (k + 1))), (4, .int (nI w)), (2, .int (nI u)), (0, .ref (ad 0)), (1, .int yr)]) hx hb dX0_hides_46 hl (k := 1) rfl (nI_1 _) (by decide) rfl (fun ls hl => ?_)
              refine lv_goto (tgt := 4) hx hb dX0_hides_49 (by decide) ?_
              exact ih_4 u (k + 1) (by omega) (by rw [hu, show w = ss cS k by omega, ht]; rfl) (by omega) ls (lv_sub hl [0, 2, 3, 4] rfl)
            · skip
              have n_23 : ¬ ss cS k ≤ w := fun q__ => c_23 ((nI_leI (a := ss cS k) (b := w) (by omega) (by omega)).mpr q__)
              refine lv_aload_n hx hb dX0_hides_26 rfl (lv_at hl 3 rfl) ?_
              refine lv_iload_n hx hb dX0_hides_27 rfl (lv_at hl 1 rfl) ?_
              refine lv_iload hx hb dX0_hides_28 (lv_at hl 0 rfl) ?_
              refine lv_iload_n hx hb dX0_hides_30 rfl (lv_at hl 4 rfl) ?_
              refine k_rV (As := [.int (nI k), .int (nI w), .int yr]) (rest := []) (c_X0_lastOfRun l B0 g ct ad cS mS x k w yr (by omega) (by omega)) hC ⟨hx, hb, hml, hown, hts⟩ (cwV 3 hts gX0_hides_X0_lastOfRun rfl rfl rfl (by decide +kernel) ⟨Nat.le_of_ble_eq_true rfl, Nat.le_of_ble_eq_true rfl⟩) (rc0 hC) rfl hl.1 rfl (Nat.le_of_ble_eq_true rfl) dX0_hides_31 ⟨Nat.le_of_ble_eq_true rfl, Nat.le_of_ble_eq_true rfl⟩ ?_
              refine lv_if_lt (tgt := 40) hx hb dX0_hides_34 (by decide) (fun c_34 => ?_) (fun c_34 => ?_)
              · skip
                have n_34 := (ru_i (y := yr) hI.2.2.1 (show w < ss cS k by omega)).mp c_34
                refine lv_iinc (v := nI (w + 1)) (lv' := [(4, .int (nI (w + 1))), (3, .int (nI k)), (2, .int (nI u)), (0, .ref (ad 0)), (1, .int yr)]) hx hb dX0_hides_40 hl (k := 0) rfl (nI_1 _) (by decide) rfl (fun ls hl => ?_)
                refine lv_goto (tgt := 15) hx hb dX0_hides_43 (by decide) ?_
                exact ih_15 u (w + 1) (by omega) (by first | rw [hf_t n_34]; exact hu | rw [hf_f n_34, hu]; rfl) (by omega) ls (lv_sub hl [0, 1, 2, 3, 4] rfl)
              · skip
                have n_34 : ¬ ru_ cS k yr w = -1 := fun q => c_34 ((ru_i hI.2.2.1 (show w < ss cS k by omega)).mpr q)
                refine lv_iinc (v := nI (u + 1)) (lv' := [(2, .int (nI (u + 1))), (4, .int (nI w)), (3, .int (nI k)), (0, .ref (ad 0)), (1, .int yr)]) hx hb dX0_hides_37 hl (k := 2) rfl (nI_1 _) (by decide) rfl (fun ls hl => ?_)
                refine lv_iinc (v := nI (w + 1)) (lv' := [(4, .int (nI (w + 1))), (2, .int (nI (u + 1))), (3, .int (nI k)), (0, .ref (ad 0)), (1, .int yr)]) hx hb dX0_hides_40 hl (k := 1) rfl (nI_1 _) (by decide) rfl (fun ls hl => ?_)
                refine lv_goto (tgt := 15) hx hb dX0_hides_43 (by decide) ?_
                exact ih_15 (u + 1) (w + 1) (by omega) (by first | rw [hf_t n_34]; exact hu | rw [hf_f n_34, hu]; rfl) (by omega) ls (lv_sub hl [0, 2, 1, 3, 4] rfl)
        exact LP_15 _ t 0 (Nat.lt_succ_self _) rfl (Nat.zero_le _) ls (lv_sub hl [0, 1, 2, 3, 4] rfl)
  exact LP_4 _ 0 0 (Nat.lt_succ_self _) rfl (Nat.zero_le _) ls (lv_sub hl [0, 1, 2, 3] rfl)
set_option maxHeartbeats 4000000 in
set_option maxRecDepth 100000 in
theorem c_X0_lacks (l : Launch) (B0 : Nat) (g : va_G) (ct ad : Nat → Nat) (cS : St_) (mS : Pl_) (x : Ax_) (i : Nat) (hi : i < sn cS) (yr : Int32) : RI l yX0_lacks wsX0_lacks 4 (PX B0 g ct ad cS mS x [.ref (ad 0), .int (nI i), .int yr]) (lk_ cS i yr 26 1) := by
  refine Met.ofW (cc := cX0_lacks) (maxL := 5) (ret := (some .int)) (by decide) rfl ?_
  intro p e s m args below meth c s₁ B hml hv
  obtain ⟨rfl, hC⟩ := hv
  have hx := B.exec
  have hb := B.bytes
  have hr := B.returns
  have hts := atoms_spec (ws := wsX0_lacks) B.pre
  have hown : s.vm.findClass RX0 = some m.cls := findClass_of_methodNamed B.named
  have hlocks := B.notSynchronized
  have hin : ∀ w ∈ wsX00, w ∈ wsX0_lacks := fun _ h => List.mem_cons_of_mem _ (List.mem_append_left _ (List.mem_append_right _ h))
  have hI := hC.1.2.2.2
  have hn := hI.2.1
  have hl := lv_entry ([.ref (ad 0), .int (nI i), .int yr]) (n := 5) (Nat.le_of_ble_eq_true rfl)
  rw [lg_entry_eq]
  generalize (lg_sl ([.ref (ad 0), .int (nI i), .int yr]) ++ List.replicate (5 - (lg_sl ([.ref (ad 0), .int (nI i), .int yr])).length) Slot.unset).toArray = ls at hl ⊢
  have hl : lv_has ls 5 [(0, .ref (ad 0)), (1, .int (nI i)), (2, .int yr)] := hl
  refine lv_aload_n hx hb dX0_lacks_0 rfl (lv_at hl 0 rfl) ?_
  refine lv_iload_n hx hb dX0_lacks_1 rfl (lv_at hl 1 rfl) ?_
  refine k_vV (As := [.int (nI i)]) (rest := []) (c_X0_checkLine l B0 g ct ad cS mS x i (by omega)) hC ⟨hx, hb, hml, hown, hts⟩ (cwV 1 hts gX0_lacks_X0_checkLine rfl rfl rfl (by decide +kernel) ⟨Nat.le_of_ble_eq_true rfl, Nat.le_of_ble_eq_true rfl⟩) (rc0 hC) rfl hl.1 rfl (Nat.le_of_ble_eq_true rfl) dX0_lacks_2 ⟨Nat.le_of_ble_eq_true rfl, Nat.le_of_ble_eq_true rfl⟩ ?_
  refine lv_aload_n hx hb dX0_lacks_5 rfl (lv_at hl 0 rfl) ?_
  refine lv_iload_n hx hb dX0_lacks_6 rfl (lv_at hl 1 rfl) ?_
  refine lv_iconst (v := nI 2) hx hb dX0_lacks_7 (by decide) ?_
  refine k_rV (As := [.int (nI i), .int (nI 2)]) (rest := []) (c_X0_figureOfLine l B0 g ct ad cS mS x i 2 (by omega) (by omega)) hC ⟨hx, hb, hml, hown, hts⟩ (cwV 2 hts gX0_lacks_X0_figureOfLine rfl rfl rfl (by decide +kernel) ⟨Nat.le_of_ble_eq_true rfl, Nat.le_of_ble_eq_true rfl⟩) (rc0 hC) rfl hl.1 rfl (Nat.le_of_ble_eq_true rfl) dX0_lacks_8 ⟨Nat.le_of_ble_eq_true rfl, Nat.le_of_ble_eq_true rfl⟩ ?_
  refine lv_istore_n (lv' := [(3, .int (nI (lt_ cS i 2))), (0, .ref (ad 0)), (1, .int (nI i)), (2, .int yr)]) hx hb dX0_lacks_11 rfl hl (by decide) rfl (fun ls hl => ?_)
  refine lv_iconst (v := nI 1) hx hb dX0_lacks_12 (by decide) ?_
  refine lv_istore (lv' := [(4, .int (nI 1)), (3, .int (nI (lt_ cS i 2))), (0, .ref (ad 0)), (1, .int (nI i)), (2, .int yr)]) hx hb dX0_lacks_13 hl (by decide) rfl (fun ls hl => ?_)
  have LP_15 : ∀ (n_ : Nat) (k : Nat), 27 - k < n_ → (lk_ cS i yr (27 - k) k = lk_ cS i yr 26 1) → (1 ≤ k ∧ k ≤ 27) → ∀ ls : Array Slot, lv_has ls 5 [(4, .int (nI k)), (3, .int (nI (lt_ cS i 2))), (0, .ref (ad 0)), (1, .int (nI i)), (2, .int yr)] → W p l e (headSpec wsX0_lacks (rm_ 4 0 0)).room s m ([.ref (ad 0), .int (nI i), .int yr] : List Value).toArray below meth c s.heap [] 0 0 (MQ below (vp_Si (fun r => r = lk_ cS i yr 26 1)) ([.ref (ad 0), .int (nI i), .int yr] : List Value).toArray s 0 0 (fun _ => False)) (F0 m 15 ls []) := by
    intro n_
    induction n_ with
    | zero => intro k hm; exact absurd hm (Nat.not_lt_zero _)
    | succ n_ ih_15 =>
      intro k hm h1 hk ls hl
      refine lv_iload hx hb dX0_lacks_15 (lv_at hl 0 rfl) ?_
      refine lv_bipush (v := nI 26) hx hb dX0_lacks_17 (by decide) ?_
      refine lv_icmp_gt (tgt := 43) hx hb dX0_lacks_19 (by decide) (fun c_19 => ?_) (fun c_19 => ?_)
      · skip
        have n_19 : 26 < k := (nI_ltI (a := 26) (b := k) (by omega) (by omega)).mp c_19
        have hE : lk_ cS i yr 26 1 = -1 := by rw [← h1, show 27 - k = 0 by omega]; rfl
        refine lv_iconst (v := -1) hx hb dX0_lacks_43 (by decide) ?_
        exact W.iret hx hb hr (fun t ht hW => ⟨_, rfl, (by show (-1) = lk_ cS i yr 26 1; rw [hE]), ht⟩) (fun q hq => absurd hq List.not_mem_nil) dX0_lacks_44
      · skip
        have n_19 : ¬ 26 < k := fun q__ => c_19 ((nI_ltI (a := 26) (b := k) (by omega) (by omega)).mpr q__)
        refine lv_iload_n hx hb dX0_lacks_22 rfl (lv_at hl 1 rfl) ?_
        refine lv_aload_n hx hb dX0_lacks_23 rfl (lv_at hl 2 rfl) ?_
        refine lv_iload hx hb dX0_lacks_24 (lv_at hl 0 rfl) ?_
        refine k_rV (As := [.int (nI k)]) (rest := [.int (nI (lt_ cS i 2))]) (c_X0_worthOfLetter l B0 g ct ad cS mS x k (by omega)) hC ⟨hx, hb, hml, hown, hts⟩ (cwV 1 hts gX0_lacks_X0_worthOfLetter rfl rfl rfl (by decide +kernel) ⟨Nat.le_of_ble_eq_true rfl, Nat.le_of_ble_eq_true rfl⟩) (rc0 hC) rfl hl.1 rfl (Nat.le_of_ble_eq_true rfl) dX0_lacks_26 ⟨Nat.le_of_ble_eq_true rfl, Nat.le_of_ble_eq_true rfl⟩ ?_
        refine lv_iadd hx hb dX0_lacks_29 ?_
        refine lv_tn (nI_add _ _) ?_
        refine lv_iload_n hx hb dX0_lacks_30 rfl (lv_at hl 4 rfl) ?_
        refine lv_icmp_ne (tgt := 37) hx hb dX0_lacks_31 (by decide) (fun c_31 => ?_) (fun c_31 => ?_)
        · skip
          refine lv_iinc (v := nI (k + 1)) (lv' := [(4, .int (nI (k + 1))), (3, .int (nI (lt_ cS i 2))), (0, .ref (ad 0)), (1, .int (nI i)), (2, .int yr)]) hx hb dX0_lacks_37 hl (k := 0) rfl (nI_1 _) (by decide) rfl (fun ls hl => ?_)
          refine lv_goto (tgt := 15) hx hb dX0_lacks_40 (by decide) ?_
          exact ih_15 (k + 1) (by omega) (by rw [← h1, lk_s (show k < 27 by omega), if_neg c_31]) (by omega) ls (lv_sub hl [0, 1, 2, 3, 4] rfl)
        · skip
          have hE : lk_ cS i yr 26 1 = nI k := by rw [← h1, lk_s (show k < 27 by omega), if_pos c_31]
          refine lv_iload hx hb dX0_lacks_34 (lv_at hl 0 rfl) ?_
          exact W.iret hx hb hr (fun t ht hW => ⟨_, rfl, (by show nI k = lk_ cS i yr 26 1; rw [hE]), ht⟩) (fun q hq => absurd hq List.not_mem_nil) dX0_lacks_36
  exact LP_15 _ 1 (Nat.lt_succ_self _) rfl (by omega) ls (lv_sub hl [0, 1, 2, 3, 4] rfl)
set_option maxHeartbeats 4000000 in
set_option maxRecDepth 100000 in
theorem c_X0_nearest (l : Launch) (B0 : Nat) (g : va_G) (ct ad : Nat → Nat) (cS : St_) (mS : Pl_) (x : Ax_) (yr : Int32) : RI l yX0_nearest wsX0_nearest 4 (PX B0 g ct ad cS mS x [.ref (ad 0), .int yr]) (ni_ (nr_ cS yr (sn cS))) := by
  refine Met.ofW (cc := cX0_nearest) (maxL := 8) (ret := (some .int)) (by decide) rfl ?_
  intro p e s m args below meth c s₁ B hml hv
  obtain ⟨rfl, hC⟩ := hv
  have hx := B.exec
  have hb := B.bytes
  have hr := B.returns
  have hts := atoms_spec (ws := wsX0_nearest) B.pre
  have hown : s.vm.findClass RX0 = some m.cls := findClass_of_methodNamed B.named
  have hlocks := B.notSynchronized
  have hin : ∀ w ∈ wsX00, w ∈ wsX0_nearest := fun _ h => List.mem_cons_of_mem _ (List.mem_append_right _ h)
  have hI := hC.1.2.2.2
  have hn := hI.2.1
  have hl := lv_entry ([.ref (ad 0), .int yr]) (n := 8) (Nat.le_of_ble_eq_true rfl)
  rw [lg_entry_eq]
  generalize (lg_sl ([.ref (ad 0), .int yr]) ++ List.replicate (8 - (lg_sl ([.ref (ad 0), .int yr])).length) Slot.unset).toArray = ls at hl ⊢
  have hl : lv_has ls 8 [(0, .ref (ad 0)), (1, .int yr)] := hl
  refine lv_iconst (v := -1) hx hb dX0_nearest_0 (by decide) ?_
  refine lv_istore_n (lv' := [(2, .int ((-1))), (0, .ref (ad 0)), (1, .int yr)]) hx hb dX0_nearest_1 rfl hl (by decide) rfl (fun ls hl => ?_)
  refine lv_lconst (v := 0) hx hb dX0_nearest_2 rfl ?_
  refine lv_lstore_n (lv' := [(3, .long 0), (2, .int ((-1))), (0, .ref (ad 0)), (1, .int yr)]) hx hb dX0_nearest_3 rfl hl (by decide) rfl (fun ls hl => ?_)
  refine lv_iconst (v := nI 0) hx hb dX0_nearest_4 (by decide) ?_
  refine lv_istore (lv' := [(5, .int (nI 0)), (3, .long 0), (2, .int ((-1))), (0, .ref (ad 0)), (1, .int yr)]) hx hb dX0_nearest_5 hl (by decide) rfl (fun ls hl => ?_)
  have LP_7 : ∀ (n_ : Nat) (bi : Int32) (bg : Int64) (k : Nat), sn cS - k < n_ → (bi = ni_ (nr_ cS yr k)) → (∀ b, nr_ cS yr k = some b → bg = gp_ cS yr b) → (k ≤ sn cS) → ∀ ls : Array Slot, lv_has ls 8 [(5, .int (nI k)), (3, .long bg), (2, .int bi), (0, .ref (ad 0)), (1, .int yr)] → W p l e (headSpec wsX0_nearest (rm_ 4 0 0)).room s m ([.ref (ad 0), .int yr] : List Value).toArray below meth c s.heap [] 0 0 (MQ below (vp_Si (fun r => r = ni_ (nr_ cS yr (sn cS)))) ([.ref (ad 0), .int yr] : List Value).toArray s 0 0 (fun _ => False)) (F0 m 7 ls []) := by
    intro n_
    induction n_ with
    | zero => intro bi bg k hm; exact absurd hm (Nat.not_lt_zero _)
    | succ n_ ih_7 =>
      intro bi bg k hm hb_ hg hk ls hl
      have hlt : ∀ b, nr_ cS yr k = some b → b < 2 ^ 31 := fun b q => by have := nr_lt q; omega
      refine lv_iload hx hb dX0_nearest_7 (lv_at hl 0 rfl) ?_
      refine lv_aload_n hx hb dX0_nearest_9 rfl (lv_at hl 3 rfl) ?_
      refine r_g0 hC hx hb hts hin hown 1 (by decide) (hts (.fieldLink RX0 13 "AbjadPoems" "lines" "I") (by decide +kernel)) rfl dX0_nearest_10 ?_
      refine lv_icmp_ge (tgt := 55) hx hb dX0_nearest_13 (by decide) (fun c_13 => ?_) (fun c_13 => ?_)
      · skip
        have n_13 : sn cS ≤ k := (nI_leI (a := sn cS) (b := k) (by omega) (by omega)).mp c_13
        have hE : bi = ni_ (nr_ cS yr (sn cS)) := by rw [hb_, show k = sn cS by omega]
        refine lv_iload_n hx hb dX0_nearest_55 rfl (lv_at hl 2 rfl) ?_
        exact W.iret hx hb hr (fun t ht hW => ⟨_, rfl, hE, ht⟩) (fun q hq => absurd hq List.not_mem_nil) dX0_nearest_56
      · skip
        have n_13 : ¬ sn cS ≤ k := fun q__ => c_13 ((nI_leI (a := sn cS) (b := k) (by omega) (by omega)).mpr q__)
        refine lv_aload_n hx hb dX0_nearest_16 rfl (lv_at hl 3 rfl) ?_
        refine lv_iload hx hb dX0_nearest_17 (lv_at hl 0 rfl) ?_
        refine lv_iconst (v := nI 2) hx hb dX0_nearest_19 (by decide) ?_
        refine k_rV (As := [.int (nI k), .int (nI 2)]) (rest := []) (c_X0_figureOfLine l B0 g ct ad cS mS x k 2 (by omega) (by omega)) hC ⟨hx, hb, hml, hown, hts⟩ (cwV 2 hts gX0_nearest_X0_figureOfLine rfl rfl rfl (by decide +kernel) ⟨Nat.le_of_ble_eq_true rfl, Nat.le_of_ble_eq_true rfl⟩) (rc0 hC) rfl hl.1 rfl (Nat.le_of_ble_eq_true rfl) dX0_nearest_20 ⟨Nat.le_of_ble_eq_true rfl, Nat.le_of_ble_eq_true rfl⟩ ?_
        refine lv_i2l (v := (nI (lt_ cS k 2)).toInt64) hx hb dX0_nearest_23 rfl ?_
        refine lv_iload_n hx hb dX0_nearest_24 rfl (lv_at hl 4 rfl) ?_
        refine lv_i2l (v := (yr).toInt64) hx hb dX0_nearest_25 rfl ?_
        refine lv_lsub hx hb dX0_nearest_26 ?_
        refine va_mabs_long hx hb (hml.trans hl.1.symm) hown (hts (.methodLink RX0 107 Lib.MathLoose.abs_long.x) (by decide +kernel)) (hts (.static Lib.MathLoose.abs_long.x) (by decide +kernel)) (hts (.initialized "java/lang/Math") (by decide +kernel)) (hts (.code Lib.MathLoose.abs_long.x Lib.MathLoose.abs_long.code 2 (some .long)) (by decide +kernel)) (Nat.le_of_ble_eq_true rfl) (Nat.le_of_ble_eq_true rfl) (Nat.zero_le _) (Nat.zero_le _) dX0_nearest_27 ?_
        refine lv_tl (w := gp_ cS yr k) rfl ?_
        refine lv_lstore (lv' := [(6, .long (gp_ cS yr k)), (5, .int (nI k)), (3, .long bg), (2, .int bi), (0, .ref (ad 0)), (1, .int yr)]) hx hb dX0_nearest_30 hl (by decide) rfl (fun ls hl => ?_)
        refine lv_iload_n hx hb dX0_nearest_32 rfl (lv_at hl 3 rfl) ?_
        refine lv_if_lt (tgt := 43) hx hb dX0_nearest_33 (by decide) (fun c_33 => ?_) (fun c_33 => ?_)
        · skip
          have n_33 : nr_ cS yr k = none := (ni_neg hlt).mp (by rw [← hb_]; exact c_33)
          have hN : nr_ cS yr (k + 1) = some k := by rw [nr_, n_33]
          have hS1 : nI k = ni_ (nr_ cS yr (k + 1)) := by rw [hN]; rfl
          have hS2 : ∀ b, nr_ cS yr (k + 1) = some b → gp_ cS yr k = gp_ cS yr b := fun b q => by rw [hN] at q; cases q; rfl
          refine lv_iload hx hb dX0_nearest_43 (lv_at hl 1 rfl) ?_
          refine lv_istore_n (lv' := [(2, .int (nI k)), (6, .long (gp_ cS yr k)), (5, .int (nI k)), (3, .long bg), (0, .ref (ad 0)), (1, .int yr)]) hx hb dX0_nearest_45 rfl hl (by decide) rfl (fun ls hl => ?_)
          refine lv_lload hx hb dX0_nearest_46 (lv_at hl 1 rfl) ?_
          refine lv_lstore_n (lv' := [(3, .long (gp_ cS yr k)), (2, .int (nI k)), (6, .long (gp_ cS yr k)), (5, .int (nI k)), (0, .ref (ad 0)), (1, .int yr)]) hx hb dX0_nearest_48 rfl hl (by decide) rfl (fun ls hl => ?_)
          refine lv_iinc (v := nI (k + 1)) (lv' := [(5, .int (nI (k + 1))), (3, .long (gp_ cS yr k)), (2, .int (nI k)), (6, .long (gp_ cS yr k)), (0, .ref (ad 0)), (1, .int yr)]) hx hb dX0_nearest_49 hl (k := 3) rfl (nI_1 _) (by decide) rfl (fun ls hl => ?_)
          refine lv_goto (tgt := 7) hx hb dX0_nearest_52 (by decide) ?_
          exact ih_7 (nI k) (gp_ cS yr k) (k + 1) (by omega) (hS1) (hS2) (by omega) ls (lv_sub hl [0, 1, 2, 4, 5] rfl)
        · skip
          obtain ⟨b0, n_33⟩ : ∃ b0, nr_ cS yr k = some b0 := by
            cases e9 : nr_ cS yr k with
            | none => exact absurd (by rw [hb_, e9]; decide) c_33
            | some b0 => exact ⟨b0, rfl⟩
          have hg0 := hg b0 n_33
          refine lv_lload hx hb dX0_nearest_36 (lv_at hl 0 rfl) ?_
          refine lv_lload_n hx hb dX0_nearest_38 rfl (lv_at hl 2 rfl) ?_
          refine W.lcmp hx hb dX0_nearest_39 ?_
          refine lv_if_ge (tgt := 49) hx hb dX0_nearest_40 (by decide) (fun c_40 => ?_) (fun c_40 => ?_)
          · skip
            have n_40 := (lc_ _ _).mp c_40
            rw [hg0] at n_40
            have hN : nr_ cS yr (k + 1) = some b0 := by rw [nr_, n_33]; exact if_neg n_40
            have hS1 : bi = ni_ (nr_ cS yr (k + 1)) := by rw [hN, hb_, n_33]
            have hS2 : ∀ b, nr_ cS yr (k + 1) = some b → bg = gp_ cS yr b := fun b q => by rw [hN] at q; cases q; exact hg0
            refine lv_iinc (v := nI (k + 1)) (lv' := [(5, .int (nI (k + 1))), (6, .long (gp_ cS yr k)), (3, .long bg), (2, .int bi), (0, .ref (ad 0)), (1, .int yr)]) hx hb dX0_nearest_49 hl (k := 1) rfl (nI_1 _) (by decide) rfl (fun ls hl => ?_)
            refine lv_goto (tgt := 7) hx hb dX0_nearest_52 (by decide) ?_
            exact ih_7 bi bg (k + 1) (by omega) (hS1) (hS2) (by omega) ls (lv_sub hl [0, 2, 3, 4, 5] rfl)
          · skip
            have n_40 : gp_ cS yr k < gp_ cS yr b0 := by
              rw [← hg0]
              exact Decidable.of_not_not (fun q => c_40 ((lc_ _ _).mpr q))
            have hN : nr_ cS yr (k + 1) = some k := by rw [nr_, n_33]; exact if_pos n_40
            have hS1 : nI k = ni_ (nr_ cS yr (k + 1)) := by rw [hN]; rfl
            have hS2 : ∀ b, nr_ cS yr (k + 1) = some b → gp_ cS yr k = gp_ cS yr b := fun b q => by rw [hN] at q; cases q; rfl
            refine lv_iload hx hb dX0_nearest_43 (lv_at hl 1 rfl) ?_
            refine lv_istore_n (lv' := [(2, .int (nI k)), (6, .long (gp_ cS yr k)), (5, .int (nI k)), (3, .long bg), (0, .ref (ad 0)), (1, .int yr)]) hx hb dX0_nearest_45 rfl hl (by decide) rfl (fun ls hl => ?_)
            refine lv_lload hx hb dX0_nearest_46 (lv_at hl 1 rfl) ?_
            refine lv_lstore_n (lv' := [(3, .long (gp_ cS yr k)), (2, .int (nI k)), (6, .long (gp_ cS yr k)), (5, .int (nI k)), (0, .ref (ad 0)), (1, .int yr)]) hx hb dX0_nearest_48 rfl hl (by decide) rfl (fun ls hl => ?_)
            refine lv_iinc (v := nI (k + 1)) (lv' := [(5, .int (nI (k + 1))), (3, .long (gp_ cS yr k)), (2, .int (nI k)), (6, .long (gp_ cS yr k)), (0, .ref (ad 0)), (1, .int yr)]) hx hb dX0_nearest_49 hl (k := 3) rfl (nI_1 _) (by decide) rfl (fun ls hl => ?_)
            refine lv_goto (tgt := 7) hx hb dX0_nearest_52 (by decide) ?_
            exact ih_7 (nI k) (gp_ cS yr k) (k + 1) (by omega) (hS1) (hS2) (by omega) ls (lv_sub hl [0, 1, 2, 4, 5] rfl)
  exact LP_7 _ (-1) 0 0 (Nat.lt_succ_self _) rfl (fun b q => by cases q) (Nat.zero_le _) ls (lv_sub hl [0, 1, 2, 3, 4] rfl)
