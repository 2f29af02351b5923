/-! ===== the mean: one division, whose NaN may be drawn ===== -/
def me_ (n t : Nat) (r : UInt64) : Prop := (nI n = 0 ∧ r = FP.dconst0) ∨ (¬ nI n = 0 ∧ alike64 r (FP.ddiv (FP.i2d (nI t)) (FP.i2d (nI n))) = true)
theorem nan_c {a : UInt64} (h : isNaN64 a = true) : ¬ Op.cmpValue (FP.dcmp a a) CmpOp.l = 0 := by
  have hv : FP.Core.val64 a = .nan := by
    by_cases q : FP.Core.val64 a = .nan
    · exact q
    · exact absurd (Jvm.Free.Fl.val64_no.mpr q) (isNaN64_not.mp h)
  rw [show FP.dcmp a a = none from (FP.Core.dcmp_none a a).mpr (Or.inl hv)]
  decide
theorem al_l {a b : UInt64} (h : alike64 a b = true) : a = b ∨ (isNaN64 a = true ∧ isNaN64 b = true) := by
  simp only [alike64, Bool.or_eq_true, decide_eq_true_eq, Bool.and_eq_true] at h
  exact h
/-- two means of one poem pass the law's test -/
theorem me_t {n t : Nat} {a b : UInt64} (ha : me_ n t a) (hb : me_ n t b) (h : ¬ Op.cmpValue (FP.dcmp a b) CmpOp.l = 0) : ¬ Op.cmpValue (FP.dcmp a a) CmpOp.l = 0 ∧ ¬ Op.cmpValue (FP.dcmp b b) CmpOp.l = 0 := by
  have key : a = b ∨ (isNaN64 a = true ∧ isNaN64 b = true) := by
    rcases ha with ⟨z, rfl⟩ | ⟨z, ha⟩
    · rcases hb with ⟨-, rfl⟩ | ⟨z2, -⟩
      · exact Or.inl rfl
      · exact absurd z z2
    · rcases hb with ⟨z2, -⟩ | ⟨-, hb⟩
      · exact absurd z2 z
      · rcases al_l ha with e1 | ⟨n1, n2⟩
        · rcases al_l hb with e2 | ⟨m1, m2⟩
          · exact Or.inl (e1.trans e2.symm)
          · exact Or.inr ⟨by rw [e1]; exact m2, m1⟩
        · rcases al_l hb with e2 | ⟨m1, m2⟩
          · exact Or.inr ⟨n1, by rw [e2]; exact n2⟩
          · exact Or.inr ⟨n1, m1⟩
  rcases key with rfl | ⟨h1, h2⟩
  · exact ⟨h, h⟩
  · exact ⟨nan_c h1, nan_c h2⟩
theorem CX.drawn {B0 : Nat} {g : va_G} {ct ad : Nat → Nat} {c m : St_} {x : Ax_} {s : State} {H : Heap} (d : Drawn) (h : CX B0 g ct ad c m x s H) : CX B0 g ct ad c m x (s.setDrawn d) H := by
  obtain ⟨h1, h3, h4, h5, h6, h7⟩ := h
  exact ⟨h1, va_K.moved (u := s) (U := s.setDrawn d) (Vm.Alike.refl s.vm) h3, vx_Zq.moved (u := s) (U := s.setDrawn d) (Vm.Alike.refl s.vm) h4, vx_Zq.moved (u := s) (U := s.setDrawn d) (Vm.Alike.refl s.vm) h5, KS.same (u := s) (U := s.setDrawn d) rfl h6, KX.same (u := s) (U := s.setDrawn d) rfl h7⟩
set_option maxHeartbeats 4000000 in
set_option maxRecDepth 100000 in
theorem c_X0_mean (l : Launch) (B0 : Nat) (g : va_G) (ct ad : Nat → Nat) (cS mS : St_) (x : Ax_) : MetD lw_cs l yX0_mean wsX0_mean (rm_ 5 0 0) (PX B0 g ct ad cS mS x [.ref (ad 0)]) (va_Qd (fun r (u : Ax_) => me_ (al_ cS 0) (al_ cS 2) r ∧ (sx_ x) u) (fun u t => CW B0 g ct ad cS mS u t.heap) (AA B0)) 0 0 (AA B0) := by
  refine MetD.ofW (cc := cX0_mean) (maxL := 2) (ret := (some .double)) (by decide) rfl ?_
  intro p e s m args below meth c s₁ B hml hv hd0
  obtain ⟨rfl, hC⟩ := hv
  have hx := B.exec
  have hb := B.bytes
  have hr := B.returns
  have hts := atoms_spec (ws := wsX0_mean) B.pre
  have hts := dr_words hts s.drawn
  have hown : s.vm.findClass RX0 = some m.cls := findClass_of_methodNamed B.named
  have hlocks := B.notSynchronized
  have hin : ∀ w ∈ wsX00, w ∈ wsX0_mean := fun _ h => List.mem_cons_of_mem _ (List.mem_append_right _ h)
  have hS : va_S (AA B0) s.heap s.heap [] := va_S.rf
  have hB : B0 ≤ s.heap.size := hC.1.2.2.1
  have hC := hC.drawn s.drawn
  have hl := lv_entry ([.ref (ad 0)]) (n := 2) (Nat.le_of_ble_eq_true rfl)
  rw [lg_entry_eq]
  generalize (lg_sl ([.ref (ad 0)]) ++ List.replicate (2 - (lg_sl ([.ref (ad 0)])).length) Slot.unset).toArray = ls at hl ⊢
  have hl : lv_has ls 2 [(0, .ref (ad 0))] := hl
  refine lv_aload_n hx hb dX0_mean_0 rfl (lv_at hl 0 rfl) ?_
  refine lv_iconst (v := nI 0) hx hb dX0_mean_1 (by decide) ?_
  refine k_rV (As := [.int (nI 0)]) (rest := []) (c_X0_sumOverLines l B0 g ct ad cS mS x 0 (by omega)) hC ⟨hx, hb, hml, hown, hts⟩ (cwV 1 hts gX0_mean_X0_sumOverLines rfl rfl rfl (by decide +kernel) ⟨Nat.le_of_ble_eq_true rfl, Nat.le_of_ble_eq_true rfl⟩) (rc0 hC) rfl hl.1 rfl (Nat.le_of_ble_eq_true rfl) dX0_mean_2 ⟨Nat.le_of_ble_eq_true rfl, Nat.le_of_ble_eq_true rfl⟩ ?_
  refine lv_istore_n (lv' := [(1, .int (nI (al_ cS 0))), (0, .ref (ad 0))]) hx hb dX0_mean_5 rfl hl (by decide) rfl (fun ls hl => ?_)
  refine lv_iload_n hx hb dX0_mean_6 rfl (lv_at hl 0 rfl) ?_
  refine lv_if_ne (tgt := 12) hx hb dX0_mean_7 (by decide) (fun c_7 => ?_) (fun c_7 => ?_)
  · skip
    refine lv_aload_n hx hb dX0_mean_12 rfl (lv_at hl 1 rfl) ?_
    refine lv_iconst (v := nI 2) hx hb dX0_mean_13 (by decide) ?_
    refine k_rV (As := [.int (nI 2)]) (rest := []) (c_X0_sumOverLines l B0 g ct ad cS mS x 2 (by omega)) hC ⟨hx, hb, hml, hown, hts⟩ (cwV 1 hts gX0_mean_X0_sumOverLines rfl rfl rfl (by decide +kernel) ⟨Nat.le_of_ble_eq_true rfl, Nat.le_of_ble_eq_true rfl⟩) (rc0 hC) rfl hl.1 rfl (Nat.le_of_ble_eq_true rfl) dX0_mean_14 ⟨Nat.le_of_ble_eq_true rfl, Nat.le_of_ble_eq_true rfl⟩ ?_
    refine lv_i2d hx hb dX0_mean_17 ?_
    refine lv_iload_n hx hb dX0_mean_18 rfl (lv_at hl 0 rfl) ?_
    refine lv_i2d hx hb dX0_mean_19 ?_
    refine lv_ddiv_any hd0 lw_bits hx hb dX0_mean_20 (fun r d1 hal hd0 => ?_)
    refine W.endD hd0 ?_
    exact W.dret hx hb hr (fun t ht hW => ⟨⟨_, x, rfl, ⟨Or.inr ⟨c_7, hal⟩, (sx_r _)⟩, (by show CW B0 g ct ad cS mS x t.heap; rw [ht]; exact hC.1)⟩, hS.F ht⟩) hS.2.2 dX0_mean_21
  · skip
    refine lv_dconst0 hx hb dX0_mean_10 ?_
    refine W.endD hd0 ?_
    exact W.dret hx hb hr (fun t ht hW => ⟨⟨_, x, rfl, ⟨Or.inl ⟨c_7, rfl⟩, (sx_r _)⟩, (by show CW B0 g ct ad cS mS x t.heap; rw [ht]; exact hC.1)⟩, hS.F ht⟩) hS.2.2 dX0_mean_11
set_option maxHeartbeats 4000000 in
set_option maxRecDepth 100000 in
theorem c_X1_mean (l : Launch) (B0 : Nat) (g : va_G) (ct ad : Nat → Nat) (cS mS : St_) (x : Ax_) : MetD lw_cs l yX1_mean wsX1_mean (rm_ 6 0 0) (PX B0 g ct ad cS mS x [.ref (ad 7)]) (va_Qd (fun r (u : Ax_) => me_ (al_ mS 0) (al_ mS 2) r ∧ (fun u => u = ax_h x (nI 0)) u) (fun u t => CW B0 g ct ad cS mS u t.heap) (AA B0)) 0 0 (AA B0) := by
  refine MetD.ofW (cc := cX1_mean) (maxL := 1) (ret := (some .double)) (by decide) rfl ?_
  intro p e s m args below meth c s₁ B hml hv hd0
  obtain ⟨rfl, hC⟩ := hv
  have hx := B.exec
  have hb := B.bytes
  have hr := B.returns
  have hts := atoms_spec (ws := wsX1_mean) B.pre
  have hts := dr_words hts s.drawn
  have hown : s.vm.findClass RX1 = some m.cls := findClass_of_methodNamed B.named
  have hlocks := B.notSynchronized
  have hin : ∀ w ∈ wsX10, w ∈ wsX1_mean := fun _ h => List.mem_cons_of_mem _ (List.mem_append_right _ h)
  have hS : va_S (AA B0) s.heap s.heap [] := va_S.rf
  have hB : B0 ≤ s.heap.size := hC.1.2.2.1
  have hC := hC.drawn s.drawn
  have hl := lv_entry ([.ref (ad 7)]) (n := 1) (Nat.le_of_ble_eq_true rfl)
  rw [lg_entry_eq]
  generalize (lg_sl ([.ref (ad 7)]) ++ List.replicate (1 - (lg_sl ([.ref (ad 7)])).length) Slot.unset).toArray = ls at hl ⊢
  have hl : lv_has ls 1 [(0, .ref (ad 7))] := hl
  refine lv_aload_n hx hb dX1_mean_0 rfl (lv_at hl 0 rfl) ?_
  refine lv_iconst (v := nI 0) hx hb dX1_mean_1 (by decide) ?_
  refine w_f1 (m' := mS) (x' := ax_h x (nI 0)) hC hB hS hx hb hts hin hown 0 (by decide) (hts (.fieldLink RX1 20 "AbjadPoemsModel" "thrown" "I") (by decide +kernel)) rfl rfl rfl hC.1.2.2.2.2.1 dX1_mean_2 (fun H locs hC hS => ?_)
  refine lv_aload_n hx hb dX1_mean_5 rfl (lv_at hl 0 rfl) ?_
  refine lv_iconst (v := nI 0) hx hb dX1_mean_6 (by decide) ?_
  refine k_rV (As := [.int (nI 0)]) (rest := []) (c_X1_all l B0 g ct ad cS mS (ax_h x (nI 0)) 0 (by omega)) hC ⟨hx, hb, hml, hown, hts⟩ (cwV 1 hts gX1_mean_X1_all rfl rfl rfl (by decide +kernel) ⟨Nat.le_of_ble_eq_true rfl, Nat.le_of_ble_eq_true rfl⟩) (rc1 hC) rfl hl.1 rfl (Nat.le_of_ble_eq_true rfl) dX1_mean_7 ⟨Nat.le_of_ble_eq_true rfl, Nat.le_of_ble_eq_true rfl⟩ ?_
  refine lv_if_ne (tgt := 17) hx hb dX1_mean_10 (by decide) (fun c_10 => ?_) (fun c_10 => ?_)
  · skip
    refine lv_aload_n hx hb dX1_mean_17 rfl (lv_at hl 0 rfl) ?_
    refine lv_iconst (v := nI 2) hx hb dX1_mean_18 (by decide) ?_
    refine k_rV (As := [.int (nI 2)]) (rest := []) (c_X1_all l B0 g ct ad cS mS (ax_h x (nI 0)) 2 (by omega)) hC ⟨hx, hb, hml, hown, hts⟩ (cwV 1 hts gX1_mean_X1_all rfl rfl rfl (by decide +kernel) ⟨Nat.le_of_ble_eq_true rfl, Nat.le_of_ble_eq_true rfl⟩) (rc1 hC) rfl hl.1 rfl (Nat.le_of_ble_eq_true rfl) dX1_mean_19 ⟨Nat.le_of_ble_eq_true rfl, Nat.le_of_ble_eq_true rfl⟩ ?_
    refine lv_i2d hx hb dX1_mean_22 ?_
    refine lv_aload_n hx hb dX1_mean_23 rfl (lv_at hl 0 rfl) ?_
    refine lv_iconst (v := nI 0) hx hb dX1_mean_24 (by decide) ?_
    refine k_rV (As := [.int (nI 0)]) (rest := [.double (FP.i2d (nI (al_ mS 2)))]) (c_X1_all l B0 g ct ad cS mS (ax_h x (nI 0)) 0 (by omega)) hC ⟨hx, hb, hml, hown, hts⟩ (cwV 1 hts gX1_mean_X1_all rfl rfl rfl (by decide +kernel) ⟨Nat.le_of_ble_eq_true rfl, Nat.le_of_ble_eq_true rfl⟩) (rc1 hC) rfl hl.1 rfl (Nat.le_of_ble_eq_true rfl) dX1_mean_25 ⟨Nat.le_of_ble_eq_true rfl, Nat.le_of_ble_eq_true rfl⟩ ?_
    refine lv_i2d hx hb dX1_mean_28 ?_
    refine lv_ddiv_any hd0 lw_bits hx hb dX1_mean_29 (fun r d1 hal hd0 => ?_)
    refine W.endD hd0 ?_
    exact W.dret hx hb hr (fun t ht hW => ⟨⟨_, ax_h x (nI 0), rfl, ⟨Or.inr ⟨c_10, hal⟩, rfl⟩, (by show CW B0 g ct ad cS mS (ax_h x (nI 0)) t.heap; rw [ht]; exact hC.1)⟩, hS.F ht⟩) hS.2.2 dX1_mean_30
  · skip
    refine lv_dconst0 hx hb dX1_mean_13 ?_
    refine lv_goto (tgt := 30) hx hb dX1_mean_14 (by decide) ?_
    refine W.endD hd0 ?_
    exact W.dret hx hb hr (fun t ht hW => ⟨⟨_, ax_h x (nI 0), rfl, ⟨Or.inl ⟨c_10, rfl⟩, rfl⟩, (by show CW B0 g ct ad cS mS (ax_h x (nI 0)) t.heap; rw [ht]; exact hC.1)⟩, hS.F ht⟩) hS.2.2 dX1_mean_30
