set_option maxHeartbeats 4000000 in
set_option maxRecDepth 100000 in
theorem c_X0_mean (l : Launch) (B0 : Nat) (g : va_G) (ct ad : Nat → Nat) (cS : St_) (mS : Pl_) (x : Ax_) : RD_ l yX0_mean wsX0_mean 5 (PX B0 g ct ad cS mS x [.ref (ad 0)]) (mn_ (al_ cS 0) (al_ cS 2)) := by
  refine Met.ofW (cc := cX0_mean) (maxL := 2) (ret := (some .double)) (by decide) rfl ?_
  intro p e s m args below meth c s₁ B hml hv
  obtain ⟨rfl, hC⟩ := hv
  have hx := B.exec
  have hb := B.bytes
  have hr := B.returns
  have hts := atoms_spec (ws := wsX0_mean) B.pre
  have hown : s.vm.findClass RX0 = some m.cls := findClass_of_methodNamed B.named
  have hlocks := B.notSynchronized
  have hin : ∀ w ∈ wsX00, w ∈ wsX0_mean := fun _ h => List.mem_cons_of_mem _ (List.mem_append_right _ h)
  have hI := hC.1.2.2.2
  have hal := al_b hI
  have hl := lv_entry ([.ref (ad 0)]) (n := 2) (Nat.le_of_ble_eq_true rfl)
  rw [lg_entry_eq]
  generalize (lg_sl ([.ref (ad 0)]) ++ List.replicate (2 - (lg_sl ([.ref (ad 0)])).length) Slot.unset).toArray = ls at hl ⊢
  have hl : lv_has ls 2 [(0, .ref (ad 0))] := hl
  refine lv_aload_n hx hb dX0_mean_0 rfl (lv_at hl 0 rfl) ?_
  refine lv_iconst (v := nI 0) hx hb dX0_mean_1 (by decide) ?_
  refine k_rV (As := [.int (nI 0)]) (rest := []) (c_X0_sumOverLines l B0 g ct ad cS mS x 0 (by omega)) hC ⟨hx, hb, hml, hown, hts⟩ (cwV 1 hts gX0_mean_X0_sumOverLines rfl rfl rfl (by decide +kernel) ⟨Nat.le_of_ble_eq_true rfl, Nat.le_of_ble_eq_true rfl⟩) (rc0 hC) rfl hl.1 rfl (Nat.le_of_ble_eq_true rfl) dX0_mean_2 ⟨(by show _ ≤ 0; omega), (by show _ ≤ 0; omega)⟩ ?_
  refine lv_istore_n (lv' := [(1, .int (nI (al_ cS 0))), (0, .ref (ad 0))]) hx hb dX0_mean_5 rfl hl (by decide) rfl (fun ls hl => ?_)
  refine lv_iload_n hx hb dX0_mean_6 rfl (lv_at hl 0 rfl) ?_
  refine lv_if_ne (tgt := 12) hx hb dX0_mean_7 (by decide) (fun c_7 => ?_) (fun c_7 => ?_)
  · skip
    have n_7 : ¬ al_ cS 0 = 0 := fun q__ => c_7 ((eq0_ (by omega)).mpr q__)
    refine lv_aload_n hx hb dX0_mean_12 rfl (lv_at hl 1 rfl) ?_
    refine lv_iconst (v := nI 2) hx hb dX0_mean_13 (by decide) ?_
    refine k_rV (As := [.int (nI 2)]) (rest := []) (c_X0_sumOverLines l B0 g ct ad cS mS x 2 (by omega)) hC ⟨hx, hb, hml, hown, hts⟩ (cwV 1 hts gX0_mean_X0_sumOverLines rfl rfl rfl (by decide +kernel) ⟨Nat.le_of_ble_eq_true rfl, Nat.le_of_ble_eq_true rfl⟩) (rc0 hC) rfl hl.1 rfl (Nat.le_of_ble_eq_true rfl) dX0_mean_14 ⟨(by show _ ≤ 0; omega), (by show _ ≤ 0; omega)⟩ ?_
    refine lv_i2d hx hb dX0_mean_17 ?_
    refine lv_iload_n hx hb dX0_mean_18 rfl (lv_at hl 0 rfl) ?_
    refine lv_i2d hx hb dX0_mean_19 ?_
    refine lv_ddiv hx hb dX0_mean_20 (nn_ (by omega) (by omega)) ?_
    exact W.dret hx hb hr (fun t ht hW => ⟨_, rfl, (mn_1 n_7).symm, ht⟩) (fun q hq => absurd hq List.not_mem_nil) dX0_mean_21
  · skip
    have n_7 : al_ cS 0 = 0 := (eq0_ (by omega)).mp c_7
    refine lv_dconst0 hx hb dX0_mean_10 ?_
    exact W.dret hx hb hr (fun t ht hW => ⟨_, rfl, (mn_0 n_7).symm, ht⟩) (fun q hq => absurd hq List.not_mem_nil) dX0_mean_11
set_option maxHeartbeats 4000000 in
set_option maxRecDepth 100000 in
theorem c_X1_isSame (l : Launch) (B0 : Nat) (g : va_G) (ct ad : Nat → Nat) (cS : St_) (mS : Pl_) (x : Ax_) (o : Nat) (hJ : SI_ ct mS o cS) : WQ l yX1_isSame wsX1_isSame 6 734 4267 B0 g ct ad cS mS x [.ref o, .ref (ad 0)] (nI 1) cS (fun m1 => Ex_ mS m1) := by
  refine Met.ofW (cc := cX1_isSame) (maxL := 10) (ret := (some .boolean)) (by decide) rfl ?_
  intro p e s m args below meth c s₁ B hml hv
  obtain ⟨rfl, hC⟩ := hv
  have hx := B.exec
  have hb := B.bytes
  have hr := B.returns
  have hts := atoms_spec (ws := wsX1_isSame) B.pre
  have hown : s.vm.findClass RX1 = some m.cls := findClass_of_methodNamed B.named
  have hlocks := B.notSynchronized
  have hin : ∀ w ∈ wsX00, w ∈ wsX1_isSame := fun _ h => List.mem_cons_of_mem _ (List.mem_append_left _ (List.mem_append_right _ h))
  have hin1 : ∀ w ∈ wsX10, w ∈ wsX1_isSame := fun _ h => List.mem_cons_of_mem _ (List.mem_append_left _ (List.mem_append_left _ (List.mem_append_right _ h)))
  have hS : va_S (AA B0) s.heap s.heap [] := va_S.rf
  have hB : B0 ≤ s.heap.size := hC.1.2.2.1
  have hI := hC.1.2.2.2
  obtain ⟨lo, mo, la, wa, ba, hJ0⟩ := hJ
  have hE := Ex_r mS
  have h12 := hI.2.1
  have h10 := hI.2.2.1
  have hal := al_b hI
  have ho9 := hI.1
  have hl := lv_entry ([.ref o, .ref (ad 0)]) (n := 10) (Nat.le_of_ble_eq_true rfl)
  rw [lg_entry_eq]
  generalize (lg_sl ([.ref o, .ref (ad 0)]) ++ List.replicate (10 - (lg_sl ([.ref o, .ref (ad 0)])).length) Slot.unset).toArray = ls at hl ⊢
  have hl : lv_has ls 10 [(0, .ref o), (1, .ref (ad 0))] := hl
  refine lv_bipush (v := nI 7) hx hb dX1_isSame_0 (by decide) ?_
  refine n_i hC hB hS hx hb (hts (.arrayClass .int) (by decide +kernel)) (j := 7) (by omega) (by show _ ≤ 734; omega) (by show _ ≤ 4267; omega) dX1_isSame_2 (fun q_2 m_2 H fq_2 xq_2 A_2 hC hS => ?_)
  have fb_2 : q_2 ∉ mS.1 := hE.nin fq_2
  have hE := Ex_t hE xq_2
  refine lv_dup hx hb dX1_isSame_4 rfl ?_
  refine lv_iconst (v := nI 0) hx hb dX1_isSame_5 (by decide) ?_
  refine lv_aload_n hx hb dX1_isSame_6 rfl (lv_at hl 0 rfl) ?_
  refine q_f hC hx hb hts hin1 hown (hJ0.1.ex hE) 1 (by decide) (hts (.fieldLink RX1 9 "AbjadPoemsLaw$Sim" "lines" "[[I") (by decide +kernel)) (v := .ref lo) rfl dX1_isSame_7 ?_
  refine q_ol hC hx hb (hJ0.2.1.ex hE) (ty := .array .int) rfl dX1_isSame_10 ?_
  refine u_i hC hB hS hx hb A_2 dX1_isSame_11 (j := 0) (v := nI (sn cS)) (by omega) (by omega) (fun m_11 H locs pu_11 A_11 hC hS => ?_)
  have hE := hE.pu fb_2 pu_11
  refine lv_dup hx hb dX1_isSame_12 rfl ?_
  refine lv_iconst (v := nI 1) hx hb dX1_isSame_13 (by decide) ?_
  refine lv_iconst (v := nI 0) hx hb dX1_isSame_14 (by decide) ?_
  refine u_i hC hB hS hx hb A_11 dX1_isSame_15 (j := 1) (v := nI 0) (by omega) (by omega) (fun m_15 H locs pu_15 A_15 hC hS => ?_)
  have hE := hE.pu fb_2 pu_15
  refine lv_dup hx hb dX1_isSame_16 rfl ?_
  refine lv_iconst (v := nI 2) hx hb dX1_isSame_17 (by decide) ?_
  refine lv_iconst (v := nI 0) hx hb dX1_isSame_18 (by decide) ?_
  refine u_i hC hB hS hx hb A_15 dX1_isSame_19 (j := 2) (v := nI 0) (by omega) (by omega) (fun m_19 H locs pu_19 A_19 hC hS => ?_)
  have hE := hE.pu fb_2 pu_19
  refine lv_dup hx hb dX1_isSame_20 rfl ?_
  refine lv_iconst (v := nI 3) hx hb dX1_isSame_21 (by decide) ?_
  refine lv_iconst (v := nI 0) hx hb dX1_isSame_22 (by decide) ?_
  refine u_i hC hB hS hx hb A_19 dX1_isSame_23 (j := 3) (v := nI 0) (by omega) (by omega) (fun m_23 H locs pu_23 A_23 hC hS => ?_)
  have hE := hE.pu fb_2 pu_23
  refine lv_dup hx hb dX1_isSame_24 rfl ?_
  refine lv_iconst (v := nI 4) hx hb dX1_isSame_25 (by decide) ?_
  refine lv_iconst (v := nI 0) hx hb dX1_isSame_26 (by decide) ?_
  refine u_i hC hB hS hx hb A_23 dX1_isSame_27 (j := 4) (v := nI 0) (by omega) (by omega) (fun m_27 H locs pu_27 A_27 hC hS => ?_)
  have hE := hE.pu fb_2 pu_27
  refine lv_dup hx hb dX1_isSame_28 rfl ?_
  refine lv_iconst (v := nI 5) hx hb dX1_isSame_29 (by decide) ?_
  refine lv_iconst (v := nI 0) hx hb dX1_isSame_30 (by decide) ?_
  refine u_i hC hB hS hx hb A_27 dX1_isSame_31 (j := 5) (v := nI 0) (by omega) (by omega) (fun m_31 H locs pu_31 A_31 hC hS => ?_)
  have hE := hE.pu fb_2 pu_31
  refine lv_dup hx hb dX1_isSame_32 rfl ?_
  refine lv_bipush (v := nI 6) hx hb dX1_isSame_33 (by decide) ?_
  refine lv_iconst (v := nI 0) hx hb dX1_isSame_35 (by decide) ?_
  refine u_i hC hB hS hx hb A_31 dX1_isSame_36 (j := 6) (v := nI 0) (by omega) (by omega) (fun m_36 H locs pu_36 A_36 hC hS => ?_)
  have hE := hE.pu fb_2 pu_36
  have A_36 : AI_ ct m_36 q_2 7 (t7_ cS 0 1 0) := A_36.to (fun j hj => by rcases (show j = 0 ∨ j = 1 ∨ j = 2 ∨ j = 3 ∨ j = 4 ∨ j = 5 ∨ j = 6 by omega) with rfl | rfl | rfl | rfl | rfl | rfl | rfl <;> rfl)
  refine lv_astore_n (lv' := [(2, .ref q_2), (0, .ref o), (1, .ref (ad 0))]) hx hb dX1_isSame_37 rfl hl (by decide) rfl (fun ls hl => ?_)
  refine lv_bipush (v := nI 120) hx hb dX1_isSame_38 (by decide) ?_
  refine n_i hC hB hS hx hb (hts (.arrayClass .int) (by decide +kernel)) (j := 120) (by omega) (by show _ ≤ 734; omega) (by show _ ≤ 4267; omega) dX1_isSame_40 (fun q_40 m_40 H fq_40 xq_40 A_40 hC hS => ?_)
  have d_40_2 : q_2 ≠ q_40 := fun e9 => fq_40 (e9 ▸ A_36.1)
  have A_36 := A_36.ex xq_40
  have fb_40 : q_40 ∉ mS.1 := hE.nin fq_40
  have hE := Ex_t hE xq_40
  refine lv_astore_n (lv' := [(3, .ref q_40), (2, .ref q_2), (0, .ref o), (1, .ref (ad 0))]) hx hb dX1_isSame_42 rfl hl (by decide) rfl (fun ls hl => ?_)
  refine lv_iconst (v := nI 0) hx hb dX1_isSame_43 (by decide) ?_
  refine lv_istore (lv' := [(4, .int (nI 0)), (3, .ref q_40), (2, .ref q_2), (0, .ref o), (1, .ref (ad 0))]) hx hb dX1_isSame_44 hl (by decide) rfl (fun ls hl => ?_)
  refine lv_iconst (v := nI 0) hx hb dX1_isSame_46 (by decide) ?_
  refine lv_istore (lv' := [(5, .int (nI 0)), (4, .int (nI 0)), (3, .ref q_40), (2, .ref q_2), (0, .ref o), (1, .ref (ad 0))]) hx hb dX1_isSame_47 hl (by decide) rfl (fun ls hl => ?_)
  have LP_49 : ∀ (n_ : Nat) (k : Nat) (sN : Nat) (gN : Nat) (Vf : Nat → Int32) (mL : Pl_) (xL : Ax_), sn cS - k < n_ → (gN = qs_ (pF_ cS) (10 * k)) → (∀ v : Int32, qs_ (fun j => if Vf j = v then 1 else 0) sN = qs_ (pV_ cS v) (10 * k)) → (sN ≤ 10 * k) → (k ≤ sn cS) → Ex_ mS mL → AI_ ct mL q_2 7 (t7_ cS k 1 gN) → AI_ ct mL q_40 120 (Vf) → ∀ (H : Heap) (locs : List Loc), CX B0 g ct ad cS mL xL s H → va_S (AA B0) s.heap H locs → ∀ ls : Array Slot, lv_has ls 10 [(5, .int (nI k)), (4, .int (nI sN)), (3, .ref q_40), (2, .ref q_2), (0, .ref o), (1, .ref (ad 0))] → W p l e (headSpec wsX1_isSame (rm_ 6 734 4267)).room s m ([.ref o, .ref (ad 0)] : List Value).toArray below meth c H locs (2 + 61 * k) (127 + 345 * k) (MQ below (va_Qi (fun r (u : Qu_) => r = nI 1 ∧ (fun m1 => Ex_ mS m1) u.1) (fun u t => CW B0 g ct ad cS u.1 u.2 t.heap) (AA B0)) ([.ref o, .ref (ad 0)] : List Value).toArray s 734 4267 (AA B0)) (F0 m 49 ls []) := by
    intro n_
    induction n_ with
    | zero => intro k sN gN Vf mL xL hm; exact absurd hm (Nat.not_lt_zero _)
    | succ n_ ih_49 =>
      intro k sN gN Vf mL xL hm hg hw hN hk hE A_36 A_40 H locs hC hS ls hl
      have hz := h10 k
      refine lv_iload hx hb dX1_isSame_49 (lv_at hl 0 rfl) ?_
      refine lv_aload_n hx hb dX1_isSame_51 rfl (lv_at hl 4 rfl) ?_
      refine q_f hC hx hb hts hin1 hown (hJ0.1.ex hE) 1 (by decide) (hts (.fieldLink RX1 9 "AbjadPoemsLaw$Sim" "lines" "[[I") (by decide +kernel)) (v := .ref lo) rfl dX1_isSame_52 ?_
      refine q_ol hC hx hb (hJ0.2.1.ex hE) (ty := .array .int) rfl dX1_isSame_55 ?_
      refine lv_icmp_ge (tgt := 237) hx hb dX1_isSame_56 (by decide) (fun c_56 => ?_) (fun c_56 => ?_)
      · skip
        have n_56 : sn cS ≤ k := (nI_leI (a := sn cS) (b := k) (by omega) (by omega)).mp c_56
        have hk9 : k = sn cS := by omega
        have A_36 : AI_ ct mL q_2 7 (fun q => nI (to_ cS q)) := A_36.to (fun j hj => t7_z hj hk9 hg)
        refine lv_iconst (v := nI 0) hx hb dX1_isSame_237 (by decide) ?_
        refine lv_istore (lv' := [(5, .int (nI 0)), (4, .int (nI sN)), (3, .ref q_40), (2, .ref q_2), (0, .ref o), (1, .ref (ad 0))]) hx hb dX1_isSame_238 hl (by decide) rfl (fun ls hl => ?_)
        have LP_240 : ∀ (n_ : Nat) (p_ : Nat) (mL : Pl_) (xL : Ax_), 7 - p_ < n_ → (p_ ≤ 7) → Ex_ mS mL → AI_ ct mL q_2 7 (fun q => nI (to_ cS q)) → AI_ ct mL q_40 120 (Vf) → ∀ (H : Heap) (locs : List Loc), CX B0 g ct ad cS mL xL s H → va_S (AA B0) s.heap H locs → ∀ ls : Array Slot, lv_has ls 10 [(5, .int (nI p_)), (3, .ref q_40), (2, .ref q_2), (0, .ref o), (1, .ref (ad 0))] → W p l e (headSpec wsX1_isSame (rm_ 6 734 4267)).room s m ([.ref o, .ref (ad 0)] : List Value).toArray below meth c H locs 734 4267 (MQ below (va_Qi (fun r (u : Qu_) => r = nI 1 ∧ (fun m1 => Ex_ mS m1) u.1) (fun u t => CW B0 g ct ad cS u.1 u.2 t.heap) (AA B0)) ([.ref o, .ref (ad 0)] : List Value).toArray s 734 4267 (AA B0)) (F0 m 240 ls []) := by
          intro n_
          induction n_ with
          | zero => intro p_ mL xL hm; exact absurd hm (Nat.not_lt_zero _)
          | succ n_ ih_240 =>
            intro p_ mL xL hm hp7 hE A_36 A_40 H locs hC hS ls hl
            refine lv_iload hx hb dX1_isSame_240 (lv_at hl 0 rfl) ?_
            refine lv_bipush (v := nI 7) hx hb dX1_isSame_242 (by decide) ?_
            refine lv_icmp_ge (tgt := 268) hx hb dX1_isSame_244 (by decide) (fun c_244 => ?_) (fun c_244 => ?_)
            · skip
              have n_244 : 7 ≤ p_ := (nI_leI (a := 7) (b := p_) (by omega) (by omega)).mp c_244
              refine lv_aload_n hx hb dX1_isSame_268 rfl (lv_at hl 4 rfl) ?_
              refine k_dV (As := []) (rest := []) (c_X0_mean l B0 g ct ad cS mL xL) hC ⟨hx, hb, hml, hown, hts⟩ (cwV 0 hts gX1_isSame_X0_mean rfl rfl rfl (by decide +kernel) ⟨Nat.le_of_ble_eq_true rfl, Nat.le_of_ble_eq_true rfl⟩) (rc0 hC) rfl hl.1 rfl (Nat.le_of_ble_eq_true rfl) dX1_isSame_269 ⟨(by show _ ≤ 734; omega), (by show _ ≤ 4267; omega)⟩ ?_
              refine lv_aload_n hx hb dX1_isSame_272 rfl (lv_at hl 2 rfl) ?_
              refine lv_iconst (v := nI 1) hx hb dX1_isSame_273 (by decide) ?_
              refine q_i hC hx hb A_36 dX1_isSame_274 (j := 1) (by omega) (by omega) ?_
              refine lv_tn (w := nI (al_ cS 0)) rfl ?_
              refine lv_if_ne (tgt := 282) hx hb dX1_isSame_275 (by decide) (fun c_275 => ?_) (fun c_275 => ?_)
              · skip
                have n_275 : ¬ al_ cS 0 = 0 := fun q__ => c_275 ((eq0_ (by omega)).mpr q__)
                refine lv_aload_n hx hb dX1_isSame_282 rfl (lv_at hl 2 rfl) ?_
                refine lv_iconst (v := nI 3) hx hb dX1_isSame_283 (by decide) ?_
                refine q_i hC hx hb A_36 dX1_isSame_284 (j := 3) (by omega) (by omega) ?_
                refine lv_tn (w := nI (al_ cS 2)) rfl ?_
                refine lv_i2d hx hb dX1_isSame_285 ?_
                refine lv_aload_n hx hb dX1_isSame_286 rfl (lv_at hl 2 rfl) ?_
                refine lv_iconst (v := nI 1) hx hb dX1_isSame_287 (by decide) ?_
                refine q_i hC hx hb A_36 dX1_isSame_288 (j := 1) (by omega) (by omega) ?_
                refine lv_tn (w := nI (al_ cS 0)) rfl ?_
                refine lv_i2d hx hb dX1_isSame_289 ?_
                refine lv_ddiv hx hb dX1_isSame_290 (nn_ (by omega) (by omega)) ?_
                refine lv_dcmp hx hb dX1_isSame_291 ?_
                refine lv_tn (w := nI 0) (dc_ (by omega) (mn_1 n_275).symm) ?_
                refine lv_if_ne (tgt := 299) hx hb dX1_isSame_292 (by decide) (fun c_292 => ?_) (fun c_292 => ?_)
                · skip
                  have n_292 : ¬ 0 = 0 := fun q__ => c_292 ((eq0_ (by omega)).mpr q__)
                  exact absurd rfl n_292
                · skip
                  have n_292 : 0 = 0 := (eq0_ (by omega)).mp c_292
                  refine lv_iconst (v := nI 1) hx hb dX1_isSame_295 (by decide) ?_
                  refine lv_goto (tgt := 300) hx hb dX1_isSame_296 (by decide) ?_
                  refine W.widen (k := 734) (n := 4267) (by omega) (by omega) ?_
                  exact W.zret hx hb hr rfl (fun t ht hW => ⟨⟨_, (mL, xL), rfl, ⟨rfl, hE⟩, (by show CW B0 g ct ad cS mL xL t.heap; rw [ht]; exact hC.1)⟩, hS.F ht⟩) hS.2.2 dX1_isSame_300
              · skip
                have n_275 : al_ cS 0 = 0 := (eq0_ (by omega)).mp c_275
                refine lv_dconst0 hx hb dX1_isSame_278 ?_
                refine lv_goto (tgt := 291) hx hb dX1_isSame_279 (by decide) ?_
                refine lv_dcmp hx hb dX1_isSame_291 ?_
                refine lv_tn (w := nI 0) (dc_ (by omega) (mn_0 n_275).symm) ?_
                refine lv_if_ne (tgt := 299) hx hb dX1_isSame_292 (by decide) (fun c_292 => ?_) (fun c_292 => ?_)
                · skip
                  have n_292 : ¬ 0 = 0 := fun q__ => c_292 ((eq0_ (by omega)).mpr q__)
                  exact absurd rfl n_292
                · skip
                  have n_292 : 0 = 0 := (eq0_ (by omega)).mp c_292
                  refine lv_iconst (v := nI 1) hx hb dX1_isSame_295 (by decide) ?_
                  refine lv_goto (tgt := 300) hx hb dX1_isSame_296 (by decide) ?_
                  refine W.widen (k := 734) (n := 4267) (by omega) (by omega) ?_
                  exact W.zret hx hb hr rfl (fun t ht hW => ⟨⟨_, (mL, xL), rfl, ⟨rfl, hE⟩, (by show CW B0 g ct ad cS mL xL t.heap; rw [ht]; exact hC.1)⟩, hS.F ht⟩) hS.2.2 dX1_isSame_300
            · skip
              have n_244 : ¬ 7 ≤ p_ := fun q__ => c_244 ((nI_leI (a := 7) (b := p_) (by omega) (by omega)).mpr q__)
              refine lv_aload_n hx hb dX1_isSame_247 rfl (lv_at hl 4 rfl) ?_
              refine lv_iload hx hb dX1_isSame_248 (lv_at hl 0 rfl) ?_
              refine k_wV (As := [.int (nI p_)]) (rest := []) (c_X0_told l B0 g ct ad cS mL xL p_ (by omega)) hC hB hS ⟨hx, hb, hml, hown, hts⟩ (cwV 1 hts gX1_isSame_X0_told rfl rfl rfl (by decide +kernel) ⟨Nat.le_of_ble_eq_true rfl, Nat.le_of_ble_eq_true rfl⟩) (rc0 hC) rfl hl.1 rfl (Nat.le_of_ble_eq_true rfl) dX1_isSame_250 ⟨(by show _ ≤ 734; omega), (by show _ ≤ 4267; omega)⟩ (fun u_250 H locs hu_250 hC hS => ?_)
              refine lv_aload_n hx hb dX1_isSame_253 rfl (lv_at hl 2 rfl) ?_
              refine lv_iload hx hb dX1_isSame_254 (lv_at hl 0 rfl) ?_
              refine q_i hC hx hb A_36 dX1_isSame_256 (j := p_) (by omega) (by omega) ?_
              refine lv_tn (w := nI (to_ cS p_)) rfl ?_
              refine lv_icmp_eq (tgt := 262) hx hb dX1_isSame_257 (by decide) (fun c_257 => ?_) (fun c_257 => ?_)
              · skip
                refine lv_iinc (v := nI (p_ + 1)) (lv' := [(5, .int (nI (p_ + 1))), (3, .ref q_40), (2, .ref q_2), (0, .ref o), (1, .ref (ad 0))]) hx hb dX1_isSame_262 hl (k := 0) rfl (nI_1 _) (by decide) rfl (fun ls hl => ?_)
                refine lv_goto (tgt := 240) hx hb dX1_isSame_265 (by decide) ?_
                refine W.widen (k := 734) (n := 4267) (by omega) (by omega) ?_
                exact ih_240 (p_ + 1) mL u_250 (by omega) (by omega) hE A_36 A_40 H locs hC hS ls (lv_sub hl [0, 1, 2, 3, 4] rfl)
              · skip
                exact absurd rfl c_257
        refine W.widen (k := 734) (n := 4267) (by omega) (by omega) ?_
        exact LP_240 _ 0 mL xL (Nat.lt_succ_self _) (Nat.zero_le _) hE A_36 A_40 H locs hC hS ls (lv_sub hl [0, 2, 3, 4, 5] rfl)
      · skip
        have n_56 : ¬ sn cS ≤ k := fun q__ => c_56 ((nI_leI (a := sn cS) (b := k) (by omega) (by omega)).mpr q__)
        refine lv_aload_n hx hb dX1_isSame_59 rfl (lv_at hl 4 rfl) ?_
        refine lv_iload hx hb dX1_isSame_60 (lv_at hl 0 rfl) ?_
        refine k_RV (As := [.int (nI k)]) (rest := []) (c_X1_line l B0 g ct ad cS mL xL o cS hI ⟨lo, mo, la, wa, ba, hJ0.ex hE⟩ k (by omega)) hC hS ⟨hx, hb, hml, hown, hts⟩ (cwV 1 hts gX1_isSame_X1_line rfl rfl rfl (by decide +kernel) ⟨Nat.le_of_ble_eq_true rfl, Nat.le_of_ble_eq_true rfl⟩) (rc1 hC (hJ0.1.ex hE)) rfl hl.1 rfl (Nat.le_of_ble_eq_true rfl) dX1_isSame_62 ⟨(by show _ ≤ 734; omega), (by show _ ≤ 4267; omega)⟩ (fun m_62 x_62 q_62 H locs hr_62 hC hS => ?_)
        obtain ⟨xq_62, fq_62, A_62⟩ := hr_62
        have d_62_2 : q_2 ≠ q_62 := fun e9 => fq_62 (e9 ▸ A_36.1)
        have A_36 := A_36.ex xq_62
        have d_62_40 : q_40 ≠ q_62 := fun e9 => fq_62 (e9 ▸ A_40.1)
        have A_40 := A_40.ex xq_62
        have fb_62 : q_62 ∉ mS.1 := hE.nin fq_62
        have hE := Ex_t hE xq_62
        refine lv_astore (lv' := [(6, .ref q_62), (5, .int (nI k)), (4, .int (nI sN)), (3, .ref q_40), (2, .ref q_2), (0, .ref o), (1, .ref (ad 0))]) hx hb dX1_isSame_65 hl (by decide) rfl (fun ls hl => ?_)
        refine lv_iconst (v := nI 0) hx hb dX1_isSame_67 (by decide) ?_
        refine lv_istore (lv' := [(7, .int (nI 0)), (6, .ref q_62), (5, .int (nI k)), (4, .int (nI sN)), (3, .ref q_40), (2, .ref q_2), (0, .ref o), (1, .ref (ad 0))]) hx hb dX1_isSame_68 hl (by decide) rfl (fun ls hl => ?_)
        have LP_70 : ∀ (n_ : Nat) (p_ : Nat) (mL : Pl_) (xL : Ax_), 5 - p_ < n_ → (p_ ≤ 5) → Ex_ mS mL → AI_ ct mL q_2 7 (t7_ cS k (p_ + 1) gN) → AI_ ct mL q_40 120 (Vf) → AI_ ct mL q_62 5 (fun q => nI (lt_ cS k q)) → ∀ (H : Heap) (locs : List Loc), CX B0 g ct ad cS mL xL s H → va_S (AA B0) s.heap H locs → ∀ ls : Array Slot, lv_has ls 10 [(7, .int (nI p_)), (6, .ref q_62), (5, .int (nI k)), (4, .int (nI sN)), (3, .ref q_40), (2, .ref q_2), (0, .ref o), (1, .ref (ad 0))] → W p l e (headSpec wsX1_isSame (rm_ 6 734 4267)).room s m ([.ref o, .ref (ad 0)] : List Value).toArray below meth c H locs (2 + 61 * k + 31) (127 + 345 * k + 175) (MQ below (va_Qi (fun r (u : Qu_) => r = nI 1 ∧ (fun m1 => Ex_ mS m1) u.1) (fun u t => CW B0 g ct ad cS u.1 u.2 t.heap) (AA B0)) ([.ref o, .ref (ad 0)] : List Value).toArray s 734 4267 (AA B0)) (F0 m 70 ls []) := by
          intro n_
          induction n_ with
          | zero => intro p_ mL xL hm; exact absurd hm (Nat.not_lt_zero _)
          | succ n_ ih_70 =>
            intro p_ mL xL hm hp hE A_36 A_40 A_62 H locs hC hS ls hl
            refine lv_iload hx hb dX1_isSame_70 (lv_at hl 0 rfl) ?_
            refine lv_iconst (v := nI 5) hx hb dX1_isSame_72 (by decide) ?_
            refine lv_icmp_ge (tgt := 114) hx hb dX1_isSame_73 (by decide) (fun c_73 => ?_) (fun c_73 => ?_)
            · skip
              have n_73 : 5 ≤ p_ := (nI_leI (a := 5) (b := p_) (by omega) (by omega)).mp c_73
              have hp5 : p_ = 5 := by omega
              refine lv_iconst (v := nI 0) hx hb dX1_isSame_114 (by decide) ?_
              refine lv_istore (lv' := [(7, .int (nI 0)), (6, .ref q_62), (5, .int (nI k)), (4, .int (nI sN)), (3, .ref q_40), (2, .ref q_2), (0, .ref o), (1, .ref (ad 0))]) hx hb dX1_isSame_115 hl (by decide) rfl (fun ls hl => ?_)
              have LP_117 : ∀ (n_ : Nat) (w : Nat) (sM : Nat) (g1 : Nat) (Vg : Nat → Int32) (mL : Pl_) (xL : Ax_), ss cS k - w < n_ → (g1 = qs_ (pF_ cS) (10 * k + w)) → (∀ v : Int32, qs_ (fun j => if Vg j = v then 1 else 0) sM = qs_ (pV_ cS v) (10 * k + w)) → (sM ≤ 10 * k + w) → (w ≤ ss cS k) → Ex_ mS mL → AI_ ct mL q_2 7 (t7_ cS k 6 g1) → AI_ ct mL q_40 120 (Vg) → AI_ ct mL q_62 5 (fun q => nI (lt_ cS k q)) → ∀ (H : Heap) (locs : List Loc), CX B0 g ct ad cS mL xL s H → va_S (AA B0) s.heap H locs → ∀ ls : Array Slot, lv_has ls 10 [(7, .int (nI w)), (6, .ref q_62), (5, .int (nI k)), (4, .int (nI sM)), (3, .ref q_40), (2, .ref q_2), (0, .ref o), (1, .ref (ad 0))] → W p l e (headSpec wsX1_isSame (rm_ 6 734 4267)).room s m ([.ref o, .ref (ad 0)] : List Value).toArray below meth c H locs (2 + 61 * k + 31 + 3 * w) (127 + 345 * k + 175 + 17 * w) (MQ below (va_Qi (fun r (u : Qu_) => r = nI 1 ∧ (fun m1 => Ex_ mS m1) u.1) (fun u t => CW B0 g ct ad cS u.1 u.2 t.heap) (AA B0)) ([.ref o, .ref (ad 0)] : List Value).toArray s 734 4267 (AA B0)) (F0 m 117 ls []) := by
                intro n_
                induction n_ with
                | zero => intro w sM g1 Vg mL xL hm; exact absurd hm (Nat.not_lt_zero _)
                | succ n_ ih_117 =>
                  intro w sM g1 Vg mL xL hm hu hq hM hj hE A_36 A_40 A_62 H locs hC hS ls hl
                  refine lv_iload hx hb dX1_isSame_117 (lv_at hl 0 rfl) ?_
                  refine lv_aload_n hx hb dX1_isSame_119 rfl (lv_at hl 6 rfl) ?_
                  refine q_f hC hx hb hts hin1 hown (hJ0.1.ex hE) 1 (by decide) (hts (.fieldLink RX1 9 "AbjadPoemsLaw$Sim" "lines" "[[I") (by decide +kernel)) (v := .ref lo) rfl dX1_isSame_120 ?_
                  refine lv_iload hx hb dX1_isSame_123 (lv_at hl 2 rfl) ?_
                  refine q_o hC hx hb (hJ0.2.1.ex hE) (ty := .array .int) rfl rfl dX1_isSame_125 (j := k) (by omega) (by omega) (v := la k) rfl ?_
                  refine q_il hC hx hb ((hJ0.2.2.2.1 k (by omega)).ex hE) dX1_isSame_126 ?_
                  refine lv_icmp_ge (tgt := 231) hx hb dX1_isSame_127 (by decide) (fun c_127 => ?_) (fun c_127 => ?_)
                  · skip
                    have n_127 : ss cS k ≤ w := (nI_leI (a := ss cS k) (b := w) (by omega) (by omega)).mp c_127
                    have hw9 : w = ss cS k := by omega
                    refine lv_iinc (v := nI (k + 1)) (lv' := [(5, .int (nI (k + 1))), (7, .int (nI w)), (6, .ref q_62), (4, .int (nI sM)), (3, .ref q_40), (2, .ref q_2), (0, .ref o), (1, .ref (ad 0))]) hx hb dX1_isSame_231 hl (k := 2) rfl (nI_1 _) (by decide) rfl (fun ls hl => ?_)
                    refine lv_goto (tgt := 49) hx hb dX1_isSame_234 (by decide) ?_
                    refine W.widen (k := 2 + 61 * (k + 1)) (n := 127 + 345 * (k + 1)) (by omega) (by omega) ?_
                    exact ih_49 (k + 1) sM g1 Vg mL xL (by omega) (by rw [hu, pF_e hz, show w = ss cS k by omega]) (fun v => by rw [pV_e hz, hq v, show w = ss cS k by omega]) (by omega) (by omega) hE (A_36.to (fun j hj => t7_n hj)) (A_40.to (fun j hj => rfl)) H locs hC hS ls (lv_sub hl [0, 3, 4, 5, 6, 7] rfl)
                  · skip
                    have n_127 : ¬ ss cS k ≤ w := fun q__ => c_127 ((nI_leI (a := ss cS k) (b := w) (by omega) (by omega)).mpr q__)
                    have hon : on_ cS (10 * k + w) = true := on_t (by omega) (by omega) (by omega)
                    have hww := hI.2.2.2.1 (10 * k + w)
                    refine lv_aload_n hx hb dX1_isSame_130 rfl (lv_at hl 6 rfl) ?_
                    refine lv_iload hx hb dX1_isSame_131 (lv_at hl 2 rfl) ?_
                    refine lv_iload hx hb dX1_isSame_133 (lv_at hl 0 rfl) ?_
                    refine k_RV (As := [.int (nI k), .int (nI w)]) (rest := []) (c_X1_word l B0 g ct ad cS mL xL o cS hI ⟨lo, mo, la, wa, ba, hJ0.ex hE⟩ k w (by omega) (by omega)) hC hS ⟨hx, hb, hml, hown, hts⟩ (cwV 2 hts gX1_isSame_X1_word rfl rfl rfl (by decide +kernel) ⟨Nat.le_of_ble_eq_true rfl, Nat.le_of_ble_eq_true rfl⟩) (rc1 hC (hJ0.1.ex hE)) rfl hl.1 rfl (Nat.le_of_ble_eq_true rfl) dX1_isSame_135 ⟨(by show _ ≤ 734; omega), (by show _ ≤ 4267; omega)⟩ (fun m_135 x_135 q_135 H locs hr_135 hC hS => ?_)
                    obtain ⟨xq_135, fq_135, A_135⟩ := hr_135
                    have d_135_2 : q_2 ≠ q_135 := fun e9 => fq_135 (e9 ▸ A_36.1)
                    have A_36 := A_36.ex xq_135
                    have d_135_40 : q_40 ≠ q_135 := fun e9 => fq_135 (e9 ▸ A_40.1)
                    have A_40 := A_40.ex xq_135
                    have d_135_62 : q_62 ≠ q_135 := fun e9 => fq_135 (e9 ▸ A_62.1)
                    have A_62 := A_62.ex xq_135
                    have fb_135 : q_135 ∉ mS.1 := hE.nin fq_135
                    have hE := Ex_t hE xq_135
                    refine lv_astore (lv' := [(8, .ref q_135), (7, .int (nI w)), (6, .ref q_62), (5, .int (nI k)), (4, .int (nI sM)), (3, .ref q_40), (2, .ref q_2), (0, .ref o), (1, .ref (ad 0))]) hx hb dX1_isSame_138 hl (by decide) rfl (fun ls hl => ?_)
                    refine lv_iconst (v := nI 0) hx hb dX1_isSame_140 (by decide) ?_
                    refine lv_istore (lv' := [(9, .int (nI 0)), (8, .ref q_135), (7, .int (nI w)), (6, .ref q_62), (5, .int (nI k)), (4, .int (nI sM)), (3, .ref q_40), (2, .ref q_2), (0, .ref o), (1, .ref (ad 0))]) hx hb dX1_isSame_141 hl (by decide) rfl (fun ls hl => ?_)
                    have LP_143 : ∀ (n_ : Nat) (p_ : Nat), 5 - p_ < n_ → (p_ ≤ 5) → ∀ ls : Array Slot, lv_has ls 10 [(9, .int (nI p_)), (8, .ref q_135), (7, .int (nI w)), (6, .ref q_62), (5, .int (nI k)), (4, .int (nI sM)), (3, .ref q_40), (2, .ref q_2), (0, .ref o), (1, .ref (ad 0))] → W p l e (headSpec wsX1_isSame (rm_ 6 734 4267)).room s m ([.ref o, .ref (ad 0)] : List Value).toArray below meth c H locs (2 + 61 * k + 31 + 3 * w + 3) (127 + 345 * k + 175 + 17 * w + 17) (MQ below (va_Qi (fun r (u : Qu_) => r = nI 1 ∧ (fun m1 => Ex_ mS m1) u.1) (fun u t => CW B0 g ct ad cS u.1 u.2 t.heap) (AA B0)) ([.ref o, .ref (ad 0)] : List Value).toArray s 734 4267 (AA B0)) (F0 m 143 ls []) := by
                      intro n_
                      induction n_ with
                      | zero => intro p_ hm; exact absurd hm (Nat.not_lt_zero _)
                      | succ n_ ih_143 =>
                        intro p_ hm hp2 ls hl
                        refine lv_iload hx hb dX1_isSame_143 (lv_at hl 0 rfl) ?_
                        refine lv_iconst (v := nI 5) hx hb dX1_isSame_145 (by decide) ?_
                        refine lv_icmp_ge (tgt := 175) hx hb dX1_isSame_146 (by decide) (fun c_146 => ?_) (fun c_146 => ?_)
                        · skip
                          have n_146 : 5 ≤ p_ := (nI_leI (a := 5) (b := p_) (by omega) (by omega)).mp c_146
                          refine lv_iconst (v := nI 0) hx hb dX1_isSame_175 (by decide) ?_
                          refine lv_istore (lv' := [(9, .int (nI 0)), (8, .ref q_135), (7, .int (nI w)), (6, .ref q_62), (5, .int (nI k)), (4, .int (nI sM)), (3, .ref q_40), (2, .ref q_2), (0, .ref o), (1, .ref (ad 0))]) hx hb dX1_isSame_176 hl (by decide) rfl (fun ls hl => ?_)
                          have LP_178 : ∀ (n_ : Nat) (z_ : Nat) (g2 : Nat) (mL : Pl_) (xL : Ax_), sM - z_ < n_ → (g2 = g1 + qs_ (fun j => if Vg j = nI (ws0 (so cS) (sw cS (10 * k + w))) then 1 else 0) z_) → (z_ ≤ sM) → Ex_ mS mL → AI_ ct mL q_2 7 (t7_ cS k 6 g2) → AI_ ct mL q_40 120 (Vg) → AI_ ct mL q_62 5 (fun q => nI (lt_ cS k q)) → AI_ ct mL q_135 5 (fun q => nI (wt_ cS k w q)) → ∀ (H : Heap) (locs : List Loc), CX B0 g ct ad cS mL xL s H → va_S (AA B0) s.heap H locs → ∀ ls : Array Slot, lv_has ls 10 [(9, .int (nI z_)), (8, .ref q_135), (7, .int (nI w)), (6, .ref q_62), (5, .int (nI k)), (4, .int (nI sM)), (3, .ref q_40), (2, .ref q_2), (0, .ref o), (1, .ref (ad 0))] → W p l e (headSpec wsX1_isSame (rm_ 6 734 4267)).room s m ([.ref o, .ref (ad 0)] : List Value).toArray below meth c H locs (2 + 61 * k + 31 + 3 * w + 3) (127 + 345 * k + 175 + 17 * w + 17) (MQ below (va_Qi (fun r (u : Qu_) => r = nI 1 ∧ (fun m1 => Ex_ mS m1) u.1) (fun u t => CW B0 g ct ad cS u.1 u.2 t.heap) (AA B0)) ([.ref o, .ref (ad 0)] : List Value).toArray s 734 4267 (AA B0)) (F0 m 178 ls []) := by
                            intro n_
                            induction n_ with
                            | zero => intro z_ g2 mL xL hm; exact absurd hm (Nat.not_lt_zero _)
                            | succ n_ ih_178 =>
                              intro z_ g2 mL xL hm hf2 hz3 hE A_36 A_40 A_62 A_135 H locs hC hS ls hl
                              refine lv_iload hx hb dX1_isSame_178 (lv_at hl 0 rfl) ?_
                              refine lv_iload hx hb dX1_isSame_180 (lv_at hl 5 rfl) ?_
                              refine lv_icmp_ge (tgt := 214) hx hb dX1_isSame_182 (by decide) (fun c_182 => ?_) (fun c_182 => ?_)
                              · skip
                                have n_182 : sM ≤ z_ := (nI_leI (a := sM) (b := z_) (by omega) (by omega)).mp c_182
                                refine lv_aload_n hx hb dX1_isSame_214 rfl (lv_at hl 6 rfl) ?_
                                refine lv_iload hx hb dX1_isSame_215 (lv_at hl 5 rfl) ?_
                                refine lv_aload hx hb dX1_isSame_217 (lv_at hl 1 rfl) ?_
                                refine lv_iconst (v := nI 2) hx hb dX1_isSame_219 (by decide) ?_
                                refine q_i hC hx hb A_135 dX1_isSame_220 (j := 2) (by omega) (by omega) ?_
                                refine lv_tn (w := nI (ws0 (so cS) (sw cS (10 * k + w)))) rfl ?_
                                refine u_i hC hB hS hx hb A_40 dX1_isSame_221 (j := sM) (v := nI (ws0 (so cS) (sw cS (10 * k + w)))) (by omega) (by omega) (fun m_221 H locs pu_221 A_221 hC hS => ?_)
                                have A_36 := A_36.pu pu_221 d_40_2
                                have A_62 := A_62.pu pu_221 d_62_40.symm
                                have A_135 := A_135.pu pu_221 d_135_40.symm
                                have hE := hE.pu fb_40 pu_221
                                refine lv_iinc (v := nI (sM + 1)) (lv' := [(4, .int (nI (sM + 1))), (9, .int (nI z_)), (8, .ref q_135), (7, .int (nI w)), (6, .ref q_62), (5, .int (nI k)), (3, .ref q_40), (2, .ref q_2), (0, .ref o), (1, .ref (ad 0))]) hx hb dX1_isSame_222 hl (k := 5) rfl (nI_1 _) (by decide) rfl (fun ls hl => ?_)
                                refine lv_iinc (v := nI (w + 1)) (lv' := [(7, .int (nI (w + 1))), (4, .int (nI (sM + 1))), (9, .int (nI z_)), (8, .ref q_135), (6, .ref q_62), (5, .int (nI k)), (3, .ref q_40), (2, .ref q_2), (0, .ref o), (1, .ref (ad 0))]) hx hb dX1_isSame_225 hl (k := 3) rfl (nI_1 _) (by decide) rfl (fun ls hl => ?_)
                                refine lv_goto (tgt := 117) hx hb dX1_isSame_228 (by decide) ?_
                                refine W.widen (k := 2 + 61 * k + 31 + 3 * (w + 1)) (n := 127 + 345 * k + 175 + 17 * (w + 1)) (by omega) (by omega) ?_
                                exact ih_117 (w + 1) (sM + 1) g2 (upd Vg sM (nI (ws0 (so cS) (sw cS (10 * k + w))))) m_221 xL (by omega) (by rw [show 10 * k + (w + 1) = 10 * k + w + 1 by omega, pF_t hon, hf2, show z_ = sM by omega, hu, hq, pV_a hI]) (fun v => pw_n hon hq v) (by omega) (by omega) hE (A_36.to (fun j hj => rfl)) (A_221.to (fun j hj => rfl)) A_62 H locs hC hS ls (lv_sub hl [0, 4, 5, 1, 6, 7, 8, 9] rfl)
                              · skip
                                have n_182 : ¬ sM ≤ z_ := fun q__ => c_182 ((nI_leI (a := sM) (b := z_) (by omega) (by omega)).mpr q__)
                                refine lv_aload_n hx hb dX1_isSame_185 rfl (lv_at hl 7 rfl) ?_
                                refine lv_bipush (v := nI 6) hx hb dX1_isSame_186 (by decide) ?_
                                refine lv_dup2_11 hx hb dX1_isSame_188 rfl rfl ?_
                                refine q_i hC hx hb A_36 dX1_isSame_189 (j := 6) (by omega) (by omega) ?_
                                refine lv_tn (w := nI g2) t7_6 ?_
                                refine lv_aload_n hx hb dX1_isSame_190 rfl (lv_at hl 6 rfl) ?_
                                refine lv_iload hx hb dX1_isSame_191 (lv_at hl 0 rfl) ?_
                                refine q_i hC hx hb A_40 dX1_isSame_193 (j := z_) (by omega) (by omega) ?_
                                refine lv_tn (w := (Vg) z_) rfl ?_
                                refine lv_aload hx hb dX1_isSame_194 (lv_at hl 1 rfl) ?_
                                refine lv_iconst (v := nI 2) hx hb dX1_isSame_196 (by decide) ?_
                                refine q_i hC hx hb A_135 dX1_isSame_197 (j := 2) (by omega) (by omega) ?_
                                refine lv_tn (w := nI (ws0 (so cS) (sw cS (10 * k + w)))) rfl ?_
                                refine lv_icmp_ne (tgt := 205) hx hb dX1_isSame_198 (by decide) (fun c_198 => ?_) (fun c_198 => ?_)
                                · skip
                                  refine lv_iconst (v := nI 0) hx hb dX1_isSame_205 (by decide) ?_
                                  refine lv_iadd hx hb dX1_isSame_206 ?_
                                  refine lv_tn (nI_add _ _) ?_
                                  refine u_i hC hB hS hx hb A_36 dX1_isSame_207 (j := 6) (v := nI (g2 + 0)) (by omega) (by omega) (fun m_207 H locs pu_207 A_207 hC hS => ?_)
                                  have A_40 := A_40.pu pu_207 d_40_2.symm
                                  have A_62 := A_62.pu pu_207 d_62_2.symm
                                  have A_135 := A_135.pu pu_207 d_135_2.symm
                                  have hE := hE.pu fb_2 pu_207
                                  have A_207 : AI_ ct m_207 q_2 7 (t7_ cS k 6 (g2 + 0)) := A_207.to (fun j hj => t7_g hj)
                                  refine lv_iinc (v := nI (z_ + 1)) (lv' := [(9, .int (nI (z_ + 1))), (8, .ref q_135), (7, .int (nI w)), (6, .ref q_62), (5, .int (nI k)), (4, .int (nI sM)), (3, .ref q_40), (2, .ref q_2), (0, .ref o), (1, .ref (ad 0))]) hx hb dX1_isSame_208 hl (k := 0) rfl (nI_1 _) (by decide) rfl (fun ls hl => ?_)
                                  refine lv_goto (tgt := 178) hx hb dX1_isSame_211 (by decide) ?_
                                  refine W.widen (k := 2 + 61 * k + 31 + 3 * w + 3) (n := 127 + 345 * k + 175 + 17 * w + 17) (by omega) (by omega) ?_
                                  exact ih_178 (z_ + 1) ((g2 + 0)) m_207 xL (by omega) (by first | (rw [qs_1 (f := fun j => if Vg j = nI (ws0 (so cS) (sw cS (10 * k + w))) then 1 else 0) (v := 0) (if_neg c_198)]; omega) | (rw [qs_1 (f := fun j => if Vg j = nI (ws0 (so cS) (sw cS (10 * k + w))) then 1 else 0) (v := 1) (if_pos c_198)]; omega)) (by omega) hE (A_207.to (fun j hj => rfl)) A_40 A_62 A_135 H locs hC hS ls (lv_sub hl [0, 1, 2, 3, 4, 5, 6, 7, 8, 9] rfl)
                                · skip
                                  refine lv_iconst (v := nI 1) hx hb dX1_isSame_201 (by decide) ?_
                                  refine lv_goto (tgt := 206) hx hb dX1_isSame_202 (by decide) ?_
                                  refine lv_iadd hx hb dX1_isSame_206 ?_
                                  refine lv_tn (nI_add _ _) ?_
                                  refine u_i hC hB hS hx hb A_36 dX1_isSame_207 (j := 6) (v := nI (g2 + 1)) (by omega) (by omega) (fun m_207 H locs pu_207 A_207 hC hS => ?_)
                                  have A_40 := A_40.pu pu_207 d_40_2.symm
                                  have A_62 := A_62.pu pu_207 d_62_2.symm
                                  have A_135 := A_135.pu pu_207 d_135_2.symm
                                  have hE := hE.pu fb_2 pu_207
                                  have A_207 : AI_ ct m_207 q_2 7 (t7_ cS k 6 (g2 + 1)) := A_207.to (fun j hj => t7_g hj)
                                  refine lv_iinc (v := nI (z_ + 1)) (lv' := [(9, .int (nI (z_ + 1))), (8, .ref q_135), (7, .int (nI w)), (6, .ref q_62), (5, .int (nI k)), (4, .int (nI sM)), (3, .ref q_40), (2, .ref q_2), (0, .ref o), (1, .ref (ad 0))]) hx hb dX1_isSame_208 hl (k := 0) rfl (nI_1 _) (by decide) rfl (fun ls hl => ?_)
                                  refine lv_goto (tgt := 178) hx hb dX1_isSame_211 (by decide) ?_
                                  refine W.widen (k := 2 + 61 * k + 31 + 3 * w + 3) (n := 127 + 345 * k + 175 + 17 * w + 17) (by omega) (by omega) ?_
                                  exact ih_178 (z_ + 1) ((g2 + 1)) m_207 xL (by omega) (by first | (rw [qs_1 (f := fun j => if Vg j = nI (ws0 (so cS) (sw cS (10 * k + w))) then 1 else 0) (v := 0) (if_neg c_198)]; omega) | (rw [qs_1 (f := fun j => if Vg j = nI (ws0 (so cS) (sw cS (10 * k + w))) then 1 else 0) (v := 1) (if_pos c_198)]; omega)) (by omega) hE (A_207.to (fun j hj => rfl)) A_40 A_62 A_135 H locs hC hS ls (lv_sub hl [0, 1, 2, 3, 4, 5, 6, 7, 8, 9] rfl)
                          refine W.widen (k := 2 + 61 * k + 31 + 3 * w + 3) (n := 127 + 345 * k + 175 + 17 * w + 17) (by omega) (by omega) ?_
                          exact LP_178 _ 0 g1 m_135 x_135 (Nat.lt_succ_self _) rfl (Nat.zero_le _) hE (A_36.to (fun j hj => rfl)) A_40 A_62 A_135 H locs hC hS ls (lv_sub hl [0, 1, 2, 3, 4, 5, 6, 7, 8, 9] rfl)
                        · skip
                          have n_146 : ¬ 5 ≤ p_ := fun q__ => c_146 ((nI_leI (a := 5) (b := p_) (by omega) (by omega)).mpr q__)
                          refine lv_aload_n hx hb dX1_isSame_149 rfl (lv_at hl 9 rfl) ?_
                          refine lv_iload hx hb dX1_isSame_150 (lv_at hl 4 rfl) ?_
                          refine lv_iload hx hb dX1_isSame_152 (lv_at hl 2 rfl) ?_
                          refine lv_iload hx hb dX1_isSame_154 (lv_at hl 0 rfl) ?_
                          refine k_rV (As := [.int (nI k), .int (nI w), .int (nI p_)]) (rest := []) (c_X0_word l B0 g ct ad cS m_135 x_135 k w p_ (by omega) (by omega) (by omega)) hC ⟨hx, hb, hml, hown, hts⟩ (cwV 3 hts gX1_isSame_X0_word rfl rfl rfl (by decide +kernel) ⟨Nat.le_of_ble_eq_true rfl, Nat.le_of_ble_eq_true rfl⟩) (rc0 hC) rfl hl.1 rfl (Nat.le_of_ble_eq_true rfl) dX1_isSame_156 ⟨(by show _ ≤ 734; omega), (by show _ ≤ 4267; omega)⟩ ?_
                          refine lv_aload hx hb dX1_isSame_159 (lv_at hl 1 rfl) ?_
                          refine lv_iload hx hb dX1_isSame_161 (lv_at hl 0 rfl) ?_
                          refine q_i hC hx hb A_135 dX1_isSame_163 (j := p_) (by omega) (by omega) ?_
                          refine lv_tn (w := nI (wt_ cS k w p_)) rfl ?_
                          refine lv_icmp_eq (tgt := 169) hx hb dX1_isSame_164 (by decide) (fun c_164 => ?_) (fun c_164 => ?_)
                          · skip
                            refine lv_iinc (v := nI (p_ + 1)) (lv' := [(9, .int (nI (p_ + 1))), (8, .ref q_135), (7, .int (nI w)), (6, .ref q_62), (5, .int (nI k)), (4, .int (nI sM)), (3, .ref q_40), (2, .ref q_2), (0, .ref o), (1, .ref (ad 0))]) hx hb dX1_isSame_169 hl (k := 0) rfl (nI_1 _) (by decide) rfl (fun ls hl => ?_)
                            refine lv_goto (tgt := 143) hx hb dX1_isSame_172 (by decide) ?_
                            refine W.widen (k := 2 + 61 * k + 31 + 3 * w + 3) (n := 127 + 345 * k + 175 + 17 * w + 17) (by omega) (by omega) ?_
                            exact ih_143 (p_ + 1) (by omega) (by omega) ls (lv_sub hl [0, 1, 2, 3, 4, 5, 6, 7, 8, 9] rfl)
                          · skip
                            exact absurd rfl c_164
                    refine W.widen (k := 2 + 61 * k + 31 + 3 * w + 3) (n := 127 + 345 * k + 175 + 17 * w + 17) (by omega) (by omega) ?_
                    exact LP_143 _ 0 (Nat.lt_succ_self _) (Nat.zero_le _) ls (lv_sub hl [0, 1, 2, 3, 4, 5, 6, 7, 8, 9] rfl)
              refine W.widen (k := 2 + 61 * k + 31 + 3 * 0) (n := 127 + 345 * k + 175 + 17 * 0) (by omega) (by omega) ?_
              exact LP_117 _ 0 sN gN Vf mL xL (Nat.lt_succ_self _) hg hw hN (Nat.zero_le _) hE (A_36.to (fun j hj => by rw [show p_ + 1 = 6 by omega])) (A_40.to (fun j hj => rfl)) A_62 H locs hC hS ls (lv_sub hl [0, 1, 2, 3, 4, 5, 6, 7] rfl)
            · skip
              have n_73 : ¬ 5 ≤ p_ := fun q__ => c_73 ((nI_leI (a := 5) (b := p_) (by omega) (by omega)).mpr q__)
              refine lv_aload_n hx hb dX1_isSame_76 rfl (lv_at hl 5 rfl) ?_
              refine lv_iconst (v := nI 1) hx hb dX1_isSame_77 (by decide) ?_
              refine lv_iload hx hb dX1_isSame_78 (lv_at hl 0 rfl) ?_
              refine lv_iadd hx hb dX1_isSame_80 ?_
              refine lv_tn (nI_add _ _) ?_
              refine lv_dup2_11 hx hb dX1_isSame_81 rfl rfl ?_
              refine q_i hC hx hb A_36 dX1_isSame_82 (j := 1 + p_) (by omega) (by omega) ?_
              refine lv_tn (w := nI (qs_ (fun l => lt_ cS l p_) k)) (t7_r (by omega)) ?_
              refine lv_aload hx hb dX1_isSame_83 (lv_at hl 1 rfl) ?_
              refine lv_iload hx hb dX1_isSame_85 (lv_at hl 0 rfl) ?_
              refine q_i hC hx hb A_62 dX1_isSame_87 (j := p_) (by omega) (by omega) ?_
              refine lv_tn (w := nI (lt_ cS k p_)) rfl ?_
              refine lv_iadd hx hb dX1_isSame_88 ?_
              refine lv_tn (nI_add _ _) ?_
              refine u_i hC hB hS hx hb A_36 dX1_isSame_89 (j := 1 + p_) (v := nI ((qs_ (fun l => lt_ cS l p_) k) + (lt_ cS k p_))) (by omega) (by omega) (fun m_89 H locs pu_89 A_89 hC hS => ?_)
              have A_40 := A_40.pu pu_89 d_40_2.symm
              have A_62 := A_62.pu pu_89 d_62_2.symm
              have hE := hE.pu fb_2 pu_89
              have A_89 : AI_ ct m_89 q_2 7 (t7_ cS k (p_ + 1 + 1) gN) := A_89.to (fun j hj => t7_s (by omega) hj)
              refine lv_aload_n hx hb dX1_isSame_90 rfl (lv_at hl 7 rfl) ?_
              refine lv_iload hx hb dX1_isSame_91 (lv_at hl 2 rfl) ?_
              refine lv_iload hx hb dX1_isSame_93 (lv_at hl 0 rfl) ?_
              refine k_rV (As := [.int (nI k), .int (nI p_)]) (rest := []) (c_X0_line l B0 g ct ad cS m_89 xL k p_ (by omega) (by omega)) hC ⟨hx, hb, hml, hown, hts⟩ (cwV 2 hts gX1_isSame_X0_line rfl rfl rfl (by decide +kernel) ⟨Nat.le_of_ble_eq_true rfl, Nat.le_of_ble_eq_true rfl⟩) (rc0 hC) rfl hl.1 rfl (Nat.le_of_ble_eq_true rfl) dX1_isSame_95 ⟨(by show _ ≤ 734; omega), (by show _ ≤ 4267; omega)⟩ ?_
              refine lv_aload hx hb dX1_isSame_98 (lv_at hl 1 rfl) ?_
              refine lv_iload hx hb dX1_isSame_100 (lv_at hl 0 rfl) ?_
              refine q_i hC hx hb A_62 dX1_isSame_102 (j := p_) (by omega) (by omega) ?_
              refine lv_tn (w := nI (lt_ cS k p_)) rfl ?_
              refine lv_icmp_eq (tgt := 108) hx hb dX1_isSame_103 (by decide) (fun c_103 => ?_) (fun c_103 => ?_)
              · skip
                refine lv_iinc (v := nI (p_ + 1)) (lv' := [(7, .int (nI (p_ + 1))), (6, .ref q_62), (5, .int (nI k)), (4, .int (nI sN)), (3, .ref q_40), (2, .ref q_2), (0, .ref o), (1, .ref (ad 0))]) hx hb dX1_isSame_108 hl (k := 0) rfl (nI_1 _) (by decide) rfl (fun ls hl => ?_)
                refine lv_goto (tgt := 70) hx hb dX1_isSame_111 (by decide) ?_
                refine W.widen (k := 2 + 61 * k + 31) (n := 127 + 345 * k + 175) (by omega) (by omega) ?_
                exact ih_70 (p_ + 1) m_89 xL (by omega) (by omega) hE (A_89.to (fun j hj => rfl)) A_40 A_62 H locs hC hS ls (lv_sub hl [0, 1, 2, 3, 4, 5, 6, 7] rfl)
              · skip
                exact absurd rfl c_103
        refine W.widen (k := 2 + 61 * k + 31) (n := 127 + 345 * k + 175) (by omega) (by omega) ?_
        exact LP_70 _ 0 m_62 x_62 (Nat.lt_succ_self _) (Nat.zero_le _) hE (A_36.to (fun j hj => rfl)) A_40 A_62 H locs hC hS ls (lv_sub hl [0, 1, 2, 3, 4, 5, 6, 7] rfl)
  refine W.widen (k := 2 + 61 * 0) (n := 127 + 345 * 0) (by omega) (by omega) ?_
  exact LP_49 _ 0 0 0 (fun _ => 0) m_40 x (Nat.lt_succ_self _) rfl (fun v => rfl) (Nat.zero_le _) (Nat.zero_le _) hE (A_36.to (fun j hj => rfl)) (A_40.to (fun j hj => rfl)) H locs hC hS ls (lv_sub hl [0, 1, 2, 3, 4, 5] rfl)
