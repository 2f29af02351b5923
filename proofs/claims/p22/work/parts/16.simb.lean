set_option maxHeartbeats 4000000 in
set_option maxRecDepth 100000 in
theorem c_X1_write (l : Launch) (B0 : Nat) (g : va_G) (ct ad : Nat → Nat) (cS : St_) (mS : Pl_) (x : Ax_) (o : Nat) (cJ : St_) (hI : Iv_ cJ) (hJ : SI_ ct mS o cJ) (hz : ss cJ (sn cJ) = 0) : WN l yX1_write wsX1_write 0 4 26 B0 g ct ad cS mS x [.ref o] cS (fun m1 => SI_ ct m1 o (st_write cJ)) := by
  refine Met.ofW (cc := cX1_write) (maxL := 5) (ret := none) (by decide) rfl ?_
  intro p e s m args below meth c s₁ B hml hv
  obtain ⟨rfl, hC⟩ := hv
  have hx := B.exec
  have hb := B.bytes
  have hr := B.returns
  have hts := atoms_spec (ws := wsX1_write) B.pre
  have hown : s.vm.findClass RX1 = some m.cls := findClass_of_methodNamed B.named
  have hlocks := B.notSynchronized
  have hin1 : ∀ w ∈ wsX10, w ∈ wsX1_write := fun _ h => List.mem_cons_of_mem _ (List.mem_append_right _ h)
  have hS : va_S (AA B0) s.heap s.heap [] := va_S.rf
  have hB : B0 ≤ s.heap.size := hC.1.2.2.1
  obtain ⟨lo, mo, la, wa, ba, hJ0⟩ := hJ
  have hE := Ex_r mS
  have h12 := hI.2.1
  have h10 := hI.2.2.1
  have hl := lv_entry ([.ref o]) (n := 5) (Nat.le_of_ble_eq_true rfl)
  rw [lg_entry_eq]
  generalize (lg_sl ([.ref o]) ++ List.replicate (5 - (lg_sl ([.ref o])).length) Slot.unset).toArray = ls at hl ⊢
  have hl : lv_has ls 5 [(0, .ref o)] := hl
  refine lv_aload_n hx hb dX1_write_0 rfl (lv_at hl 0 rfl) ?_
  refine q_f hC hx hb hts hin1 hown (hJ0.1.ex hE) 1 (by decide) (hts (.fieldLink RX1 9 "AbjadPoemsLaw$Sim" "lines" "[[I") (by decide +kernel)) (v := .ref lo) rfl dX1_write_1 ?_
  refine q_ol hC hx hb (hJ0.2.1.ex hE) (ty := .array .int) rfl dX1_write_4 ?_
  refine lv_istore_n (lv' := [(1, .int (nI (sn cJ))), (0, .ref o)]) hx hb dX1_write_5 rfl hl (by decide) rfl (fun ls hl => ?_)
  refine lv_iload_n hx hb dX1_write_6 rfl (lv_at hl 0 rfl) ?_
  refine lv_iconst (v := nI 1) hx hb dX1_write_7 (by decide) ?_
  refine lv_iadd hx hb dX1_write_8 ?_
  refine lv_tn (nI_add _ _) ?_
  refine n_o hC hB hS hx hb (ty := .int) (t := 1) hown (hts (.classLink RX1 7 "[I") (by decide +kernel)) (by decide +kernel) rfl hC.2.2.1 (j := (sn cJ) + 1) (by omega) (by show _ ≤ 4; omega) (by show _ ≤ 26; omega) dX1_write_9 (fun q_9 m_9 H fq_9 xq_9 A_9 hC hS => ?_)
  have fb_9 : q_9 ∉ mS.1 := hE.nin fq_9
  have hE := Ex_t hE xq_9
  refine lv_astore_n (lv' := [(2, .ref q_9), (1, .int (nI (sn cJ))), (0, .ref o)]) hx hb dX1_write_12 rfl hl (by decide) rfl (fun ls hl => ?_)
  refine lv_iload_n hx hb dX1_write_13 rfl (lv_at hl 1 rfl) ?_
  refine lv_iconst (v := nI 1) hx hb dX1_write_14 (by decide) ?_
  refine lv_iadd hx hb dX1_write_15 ?_
  refine lv_tn (nI_add _ _) ?_
  refine n_o hC hB hS hx hb (ty := .array .boolean) (t := 4) hown (va_Nw.use rfl hC.2.2.2.2.2.2.2.2) (by decide +kernel) rfl hC.2.2.2.2.1 (j := (sn cJ) + 1) (by omega) (by show _ ≤ 4; omega) (by show _ ≤ 26; omega) dX1_write_16 (fun q_16 m_16 H fq_16 xq_16 A_16 hC hS => ?_)
  have d_16_9 : q_9 ≠ q_16 := fun e9 => fq_16 (e9 ▸ A_9.1)
  have A_9 := A_9.ex xq_16
  have fb_16 : q_16 ∉ mS.1 := hE.nin fq_16
  have hE := Ex_t hE xq_16
  refine lv_astore_n (lv' := [(3, .ref q_16), (2, .ref q_9), (1, .int (nI (sn cJ))), (0, .ref o)]) hx hb dX1_write_19 rfl hl (by decide) rfl (fun ls hl => ?_)
  refine lv_iconst (v := nI 0) hx hb dX1_write_20 (by decide) ?_
  refine lv_istore (lv' := [(4, .int (nI 0)), (3, .ref q_16), (2, .ref q_9), (1, .int (nI (sn cJ))), (0, .ref o)]) hx hb dX1_write_21 hl (by decide) rfl (fun ls hl => ?_)
  have LP_23 : ∀ (n_ : Nat) (k : Nat) (mL : Pl_) (xL : Ax_), sn cJ - k < n_ → (k ≤ sn cJ) → Ex_ mS mL → AO_ ct 1 mL q_9 ((sn cJ) + 1) (fun j => if j < k then some (la j) else none) → AO_ ct 4 mL q_16 ((sn cJ) + 1) (fun j => if j < k then some (wa j) else none) → ∀ (H : Heap) (locs : List Loc), CX B0 g ct ad cS mL xL s H → va_S (AA B0) s.heap H locs → ∀ ls : Array Slot, lv_has ls 5 [(4, .int (nI k)), (3, .ref q_16), (2, .ref q_9), (1, .int (nI (sn cJ))), (0, .ref o)] → W p l e (headSpec wsX1_write (rm_ 0 4 26)).room s m ([.ref o] : List Value).toArray below meth c H locs (0 + 1 + 1) (0 + (sn cJ + 1) + (sn cJ + 1)) (MQ below (va_Qv (fun (u : Qu_) => (fun m1 => SI_ ct m1 o (st_write cJ)) u.1) (fun u t => CW B0 g ct ad cS u.1 u.2 t.heap) (AA B0)) ([.ref o] : List Value).toArray s 4 26 (AA B0)) (F0 m 23 ls []) := by
    intro n_
    induction n_ with
    | zero => intro k mL xL hm; exact absurd hm (Nat.not_lt_zero _)
    | succ n_ ih_23 =>
      intro k mL xL hm hk hE A_9 A_16 H locs hC hS ls hl
      refine lv_iload hx hb dX1_write_23 (lv_at hl 0 rfl) ?_
      refine lv_iload_n hx hb dX1_write_25 rfl (lv_at hl 3 rfl) ?_
      refine lv_icmp_ge (tgt := 57) hx hb dX1_write_26 (by decide) (fun c_26 => ?_) (fun c_26 => ?_)
      · skip
        have n_26 : sn cJ ≤ k := (nI_leI (a := sn cJ) (b := k) (by omega) (by omega)).mp c_26
        have hk2 : k = sn cJ := by omega
        refine lv_aload_n hx hb dX1_write_57 rfl (lv_at hl 2 rfl) ?_
        refine lv_iload_n hx hb dX1_write_58 rfl (lv_at hl 3 rfl) ?_
        refine lv_iconst (v := nI 0) hx hb dX1_write_59 (by decide) ?_
        refine n_i hC hB hS hx hb (hts (.arrayClass .int) (by decide +kernel)) (j := 0) (by omega) (by show _ ≤ 4; omega) (by show _ ≤ 26; omega) dX1_write_60 (fun q_60 m_60 H fq_60 xq_60 A_60 hC hS => ?_)
        have d_60_9 : q_9 ≠ q_60 := fun e9 => fq_60 (e9 ▸ A_9.1)
        have A_9 := A_9.ex xq_60
        have d_60_16 : q_16 ≠ q_60 := fun e9 => fq_60 (e9 ▸ A_16.1)
        have A_16 := A_16.ex xq_60
        have fb_60 : q_60 ∉ mS.1 := hE.nin fq_60
        have hE := Ex_t hE xq_60
        obtain ⟨w1_62, wf_62, w2_62, -⟩ := id A_60
        refine u_o hC hB hS hx hb A_9 (ty := .int) (i := 0) rfl rfl (fun C9 h9 => by cases h9) hC.2.2.1 dX1_write_62 (j := sn cJ) (by omega) (by omega) w1_62 w2_62 (fun m_62 H locs pu_62 A_62 hC hS => ?_)
        have A_16 := A_16.pu pu_62 d_16_9.symm
        have A_60 := A_60.pu pu_62 d_60_9.symm
        have hE := hE.pu fb_9 pu_62
        have A_62 : AO_ ct 1 m_62 q_9 ((sn cJ) + 1) (fun j => if j < sn cJ then some (la j) else some q_60) := A_62.to (fun j hj => up_e hk2 (by omega))
        refine lv_aload_n hx hb dX1_write_63 rfl (lv_at hl 1 rfl) ?_
        refine lv_iload_n hx hb dX1_write_64 rfl (lv_at hl 3 rfl) ?_
        refine lv_iconst (v := nI 0) hx hb dX1_write_65 (by decide) ?_
        refine n_o hC hB hS hx hb (ty := .boolean) (t := 3) hown (hts (.classLink RX1 35 "[Z") (by decide +kernel)) (by decide +kernel) rfl hC.2.2.2.1 (j := 0) (by omega) (by show _ ≤ 4; omega) (by show _ ≤ 26; omega) dX1_write_66 (fun q_66 m_66 H fq_66 xq_66 A_66 hC hS => ?_)
        have d_66_9 : q_9 ≠ q_66 := fun e9 => fq_66 (e9 ▸ A_62.1)
        have A_62 := A_62.ex xq_66
        have d_66_16 : q_16 ≠ q_66 := fun e9 => fq_66 (e9 ▸ A_16.1)
        have A_16 := A_16.ex xq_66
        have d_66_60 : q_60 ≠ q_66 := fun e9 => fq_66 (e9 ▸ A_60.1)
        have A_60 := A_60.ex xq_66
        have fb_66 : q_66 ∉ mS.1 := hE.nin fq_66
        have hE := Ex_t hE xq_66
        obtain ⟨w1_69, wf_69, w2_69, -⟩ := id A_66
        refine u_o hC hB hS hx hb A_16 (ty := .array .boolean) (i := 3) rfl rfl (fun C9 h9 => by cases h9) hC.2.2.2.2.1 dX1_write_69 (j := sn cJ) (by omega) (by omega) w1_69 w2_69 (fun m_69 H locs pu_69 A_69 hC hS => ?_)
        have A_62 := A_62.pu pu_69 d_16_9
        have A_60 := A_60.pu pu_69 d_60_16.symm
        have A_66 := A_66.pu pu_69 d_66_16.symm
        have hE := hE.pu fb_16 pu_69
        have A_69 : AO_ ct 4 m_69 q_16 ((sn cJ) + 1) (fun j => if j < sn cJ then some (wa j) else some q_66) := A_69.to (fun j hj => up_e hk2 (by omega))
        refine lv_aload_n hx hb dX1_write_70 rfl (lv_at hl 4 rfl) ?_
        refine lv_aload_n hx hb dX1_write_71 rfl (lv_at hl 2 rfl) ?_
        refine u_f hC hB hS hx hb hts hin1 hown (hJ0.1.ex hE) (o' := nI (so cJ)) (lo' := some q_9) (mo' := some mo) 1 (by decide) (hts (.fieldLink RX1 9 "AbjadPoemsLaw$Sim" "lines" "[[I") (by decide +kernel)) (v := .ref q_9) (ty := .array (.array .int)) (by decide +kernel) rfl rfl rfl dX1_write_72 (fun m_72 H locs pu_72 O_72 hC hS => ?_)
        refine lv_aload_n hx hb dX1_write_75 rfl (lv_at hl 4 rfl) ?_
        refine lv_aload_n hx hb dX1_write_76 rfl (lv_at hl 1 rfl) ?_
        refine u_f hC hB hS hx hb hts hin1 hown O_72 (o' := nI (so cJ)) (lo' := some q_9) (mo' := some q_16) 2 (by decide) (hts (.fieldLink RX1 17 "AbjadPoemsLaw$Sim" "marks" "[[[Z") (by decide +kernel)) (v := .ref q_16) (ty := .array (.array (.array .boolean))) (by decide +kernel) rfl rfl rfl dX1_write_77 (fun m_77 H locs pu_77 O_77 hC hS => ?_)
        refine W.widen (k := 4) (n := 26) (by omega) (by omega) ?_
        exact W.vret hx hb hr (fun t ht hW => ⟨⟨(m_77, xL), rfl, (hJ0.write hE hz A_62 A_69 A_60 A_66 pu_72 pu_77 O_77), (by show CW B0 g ct ad cS m_77 xL t.heap; rw [ht]; exact hC.1)⟩, hS.F ht⟩) hS.2.2 dX1_write_80
      · skip
        have n_26 : ¬ sn cJ ≤ k := fun q__ => c_26 ((nI_leI (a := sn cJ) (b := k) (by omega) (by omega)).mpr q__)
        refine lv_aload_n hx hb dX1_write_29 rfl (lv_at hl 2 rfl) ?_
        refine lv_iload hx hb dX1_write_30 (lv_at hl 0 rfl) ?_
        refine lv_aload_n hx hb dX1_write_32 rfl (lv_at hl 4 rfl) ?_
        refine q_f hC hx hb hts hin1 hown (hJ0.1.ex hE) 1 (by decide) (hts (.fieldLink RX1 9 "AbjadPoemsLaw$Sim" "lines" "[[I") (by decide +kernel)) (v := .ref lo) rfl dX1_write_33 ?_
        refine lv_iload hx hb dX1_write_36 (lv_at hl 0 rfl) ?_
        refine q_o hC hx hb (hJ0.2.1.ex hE) (ty := .array .int) rfl rfl dX1_write_38 (j := k) (by omega) (by omega) (v := la k) rfl ?_
        obtain ⟨w1_39, wf_39, w2_39, -⟩ := id ((hJ0.2.2.2.1 k (by omega)).ex hE)
        refine u_o hC hB hS hx hb A_9 (ty := .int) (i := 0) rfl rfl (fun C9 h9 => by cases h9) hC.2.2.1 dX1_write_39 (j := k) (by omega) (by omega) w1_39 w2_39 (fun m_39 H locs pu_39 A_39 hC hS => ?_)
        have A_16 := A_16.pu pu_39 d_16_9.symm
        have hE := hE.pu fb_9 pu_39
        refine lv_aload_n hx hb dX1_write_40 rfl (lv_at hl 1 rfl) ?_
        refine lv_iload hx hb dX1_write_41 (lv_at hl 0 rfl) ?_
        refine lv_aload_n hx hb dX1_write_43 rfl (lv_at hl 4 rfl) ?_
        refine q_f hC hx hb hts hin1 hown (hJ0.1.ex hE) 2 (by decide) (hts (.fieldLink RX1 17 "AbjadPoemsLaw$Sim" "marks" "[[[Z") (by decide +kernel)) (v := .ref mo) rfl dX1_write_44 ?_
        refine lv_iload hx hb dX1_write_47 (lv_at hl 0 rfl) ?_
        refine q_o hC hx hb (hJ0.2.2.1.ex hE) (ty := .array (.array .boolean)) rfl rfl dX1_write_49 (j := k) (by omega) (by omega) (v := wa k) rfl ?_
        obtain ⟨w1_50, wf_50, w2_50, -⟩ := id ((hJ0.2.2.2.2.1 k (by omega)).ex hE)
        refine u_o hC hB hS hx hb A_16 (ty := .array .boolean) (i := 3) rfl rfl (fun C9 h9 => by cases h9) hC.2.2.2.2.1 dX1_write_50 (j := k) (by omega) (by omega) w1_50 w2_50 (fun m_50 H locs pu_50 A_50 hC hS => ?_)
        have A_39 := A_39.pu pu_50 d_16_9
        have hE := hE.pu fb_16 pu_50
        refine lv_iinc (v := nI (k + 1)) (lv' := [(4, .int (nI (k + 1))), (3, .ref q_16), (2, .ref q_9), (1, .int (nI (sn cJ))), (0, .ref o)]) hx hb dX1_write_51 hl (k := 0) rfl (nI_1 _) (by decide) rfl (fun ls hl => ?_)
        refine lv_goto (tgt := 23) hx hb dX1_write_54 (by decide) ?_
        refine W.widen (k := 0 + 1 + 1) (n := 0 + (sn cJ + 1) + (sn cJ + 1)) (by omega) (by omega) ?_
        exact ih_23 (k + 1) m_50 xL (by omega) (by omega) hE (A_39.to (fun j _ => up_o)) (A_50.to (fun j _ => up_o)) H locs hC hS ls (lv_sub hl [0, 1, 2, 3, 4] rfl)
  refine W.widen (k := 0 + 1 + 1) (n := 0 + (sn cJ + 1) + (sn cJ + 1)) (by omega) (by omega) ?_
  exact LP_23 _ 0 m_16 x (Nat.lt_succ_self _) (Nat.zero_le _) hE (A_9.to (fun j _ => (if_neg (Nat.not_lt_zero j)).symm)) (A_16.to (fun j _ => (if_neg (Nat.not_lt_zero j)).symm)) H [] hC hS ls (lv_sub hl [0, 1, 2, 3, 4] rfl)
set_option maxHeartbeats 4000000 in
set_option maxRecDepth 100000 in
theorem c_X1_add (l : Launch) (B0 : Nat) (g : va_G) (ct ad : Nat → Nat) (cS : St_) (mS : Pl_) (x : Ax_) (o : Nat) (cJ : St_) (hI : Iv_ cJ) (hJ : SI_ ct mS o cJ) (li v : Nat) (hln : li < sn cJ) (hs : ss cJ li < 10) (hv : v < 387420489) : WN l yX1_add wsX1_add 1 4 32 B0 g ct ad cS mS x [.ref o, .int (nI li), .int (nI v)] cS (fun m1 => SI_ ct m1 o (st_add cJ li v)) := by
  refine Met.ofW (cc := cX1_add) (maxL := 7) (ret := none) (by decide) rfl ?_
  intro p e s m args below meth c s₁ B hml hv
  obtain ⟨rfl, hC⟩ := hv
  have hx := B.exec
  have hb := B.bytes
  have hr := B.returns
  have hts := atoms_spec (ws := wsX1_add) B.pre
  have hown : s.vm.findClass RX1 = some m.cls := findClass_of_methodNamed B.named
  have hlocks := B.notSynchronized
  have hin1 : ∀ w ∈ wsX10, w ∈ wsX1_add := fun _ h => List.mem_cons_of_mem _ (List.mem_append_right _ h)
  have hS : va_S (AA B0) s.heap s.heap [] := va_S.rf
  have hB : B0 ≤ s.heap.size := hC.1.2.2.1
  obtain ⟨lo, mo, la, wa, ba, hJ0⟩ := hJ
  have hE := Ex_r mS
  have h12 := hI.2.1
  have h10 := hI.2.2.1
  have hCA := CA_of hC.2.1
  have hls := h10 li
  have h6 := ln_le hv
  have hl := lv_entry ([.ref o, .int (nI li), .int (nI v)]) (n := 7) (Nat.le_of_ble_eq_true rfl)
  rw [lg_entry_eq]
  generalize (lg_sl ([.ref o, .int (nI li), .int (nI v)]) ++ List.replicate (7 - (lg_sl ([.ref o, .int (nI li), .int (nI v)])).length) Slot.unset).toArray = ls at hl ⊢
  have hl : lv_has ls 7 [(0, .ref o), (1, .int (nI li)), (2, .int (nI v))] := hl
  refine lv_aload_n hx hb dX1_add_0 rfl (lv_at hl 0 rfl) ?_
  refine q_f hC hx hb hts hin1 hown (hJ0.1.ex hE) 1 (by decide) (hts (.fieldLink RX1 9 "AbjadPoemsLaw$Sim" "lines" "[[I") (by decide +kernel)) (v := .ref lo) rfl dX1_add_1 ?_
  refine lv_iload_n hx hb dX1_add_4 rfl (lv_at hl 1 rfl) ?_
  refine q_o hC hx hb (hJ0.2.1.ex hE) (ty := .array .int) rfl rfl dX1_add_5 (j := li) (by omega) (by omega) (v := la li) rfl ?_
  refine q_il hC hx hb ((hJ0.2.2.2.1 li (by omega)).ex hE) dX1_add_6 ?_
  refine lv_istore_n (lv' := [(3, .int (nI (ss cJ li))), (0, .ref o), (1, .int (nI li)), (2, .int (nI v))]) hx hb dX1_add_7 rfl hl (by decide) rfl (fun ls hl => ?_)
  refine lv_iload_n hx hb dX1_add_8 rfl (lv_at hl 0 rfl) ?_
  refine lv_iconst (v := nI 1) hx hb dX1_add_9 (by decide) ?_
  refine lv_iadd hx hb dX1_add_10 ?_
  refine lv_tn (nI_add _ _) ?_
  refine n_i hC hB hS hx hb (hts (.arrayClass .int) (by decide +kernel)) (j := (ss cJ li) + 1) (by omega) (by show _ ≤ 4; omega) (by show _ ≤ 32; omega) dX1_add_11 (fun q_11 m_11 H fq_11 xq_11 A_11 hC hS => ?_)
  have fb_11 : q_11 ∉ mS.1 := hE.nin fq_11
  have hE := Ex_t hE xq_11
  refine lv_astore (lv' := [(4, .ref q_11), (3, .int (nI (ss cJ li))), (0, .ref o), (1, .int (nI li)), (2, .int (nI v))]) hx hb dX1_add_13 hl (by decide) rfl (fun ls hl => ?_)
  refine lv_iload_n hx hb dX1_add_15 rfl (lv_at hl 1 rfl) ?_
  refine lv_iconst (v := nI 1) hx hb dX1_add_16 (by decide) ?_
  refine lv_iadd hx hb dX1_add_17 ?_
  refine lv_tn (nI_add _ _) ?_
  refine n_o hC hB hS hx hb (ty := .boolean) (t := 3) hown (hts (.classLink RX1 35 "[Z") (by decide +kernel)) (by decide +kernel) rfl hC.2.2.2.1 (j := (ss cJ li) + 1) (by omega) (by show _ ≤ 4; omega) (by show _ ≤ 32; omega) dX1_add_18 (fun q_18 m_18 H fq_18 xq_18 A_18 hC hS => ?_)
  have d_18_11 : q_11 ≠ q_18 := fun e9 => fq_18 (e9 ▸ A_11.1)
  have A_11 := A_11.ex xq_18
  have fb_18 : q_18 ∉ mS.1 := hE.nin fq_18
  have hE := Ex_t hE xq_18
  refine lv_astore (lv' := [(5, .ref q_18), (4, .ref q_11), (3, .int (nI (ss cJ li))), (0, .ref o), (1, .int (nI li)), (2, .int (nI v))]) hx hb dX1_add_21 hl (by decide) rfl (fun ls hl => ?_)
  refine lv_iconst (v := nI 0) hx hb dX1_add_23 (by decide) ?_
  refine lv_istore (lv' := [(6, .int (nI 0)), (5, .ref q_18), (4, .ref q_11), (3, .int (nI (ss cJ li))), (0, .ref o), (1, .int (nI li)), (2, .int (nI v))]) hx hb dX1_add_24 hl (by decide) rfl (fun ls hl => ?_)
  have LP_26 : ∀ (n_ : Nat) (k : Nat) (mL : Pl_) (xL : Ax_), ss cJ li - k < n_ → (k ≤ ss cJ li) → Ex_ mS mL → AI_ ct mL q_11 ((ss cJ li) + 1) (fun j => if j < k then nI (sw cJ (10 * li + j)) else 0) → AO_ ct 3 mL q_18 ((ss cJ li) + 1) (fun j => if j < k then some (ba li j) else none) → ∀ (H : Heap) (locs : List Loc), CX B0 g ct ad cS mL xL s H → va_S (AA B0) s.heap H locs → ∀ ls : Array Slot, lv_has ls 7 [(6, .int (nI k)), (5, .ref q_18), (4, .ref q_11), (3, .int (nI (ss cJ li))), (0, .ref o), (1, .int (nI li)), (2, .int (nI v))] → W p l e (headSpec wsX1_add (rm_ 1 4 32)).room s m ([.ref o, .int (nI li), .int (nI v)] : List Value).toArray below meth c H locs (0 + 1 + 1) (0 + (ss cJ li + 1) + (ss cJ li + 1)) (MQ below (va_Qv (fun (u : Qu_) => (fun m1 => SI_ ct m1 o (st_add cJ li v)) u.1) (fun u t => CW B0 g ct ad cS u.1 u.2 t.heap) (AA B0)) ([.ref o, .int (nI li), .int (nI v)] : List Value).toArray s 4 32 (AA B0)) (F0 m 26 ls []) := by
    intro n_
    induction n_ with
    | zero => intro k mL xL hm; exact absurd hm (Nat.not_lt_zero _)
    | succ n_ ih_26 =>
      intro k mL xL hm hk hE A_11 A_18 H locs hC hS ls hl
      refine lv_iload hx hb dX1_add_26 (lv_at hl 0 rfl) ?_
      refine lv_iload_n hx hb dX1_add_28 rfl (lv_at hl 3 rfl) ?_
      refine lv_icmp_ge (tgt := 66) hx hb dX1_add_29 (by decide) (fun c_29 => ?_) (fun c_29 => ?_)
      · skip
        have n_29 : ss cJ li ≤ k := (nI_leI (a := ss cJ li) (b := k) (by omega) (by omega)).mp c_29
        have hk2 : k = ss cJ li := by omega
        refine lv_aload hx hb dX1_add_66 (lv_at hl 2 rfl) ?_
        refine lv_iload_n hx hb dX1_add_68 rfl (lv_at hl 3 rfl) ?_
        refine lv_iload_n hx hb dX1_add_69 rfl (lv_at hl 6 rfl) ?_
        refine u_i hC hB hS hx hb A_11 dX1_add_70 (j := ss cJ li) (v := nI v) (by omega) (by omega) (fun m_70 H locs pu_70 A_70 hC hS => ?_)
        have A_18 := A_18.pu pu_70 d_18_11.symm
        have hE := hE.pu fb_11 pu_70
        have A_70 : AI_ ct m_70 q_11 ((ss cJ li) + 1) (fun j => if j < ss cJ li then nI (sw cJ (10 * li + j)) else nI v) := A_70.to (fun j hj => up_f (f := fun j => nI (sw cJ (10 * li + j))) hk2 (by omega))
        refine lv_aload hx hb dX1_add_71 (lv_at hl 1 rfl) ?_
        refine lv_iload_n hx hb dX1_add_73 rfl (lv_at hl 3 rfl) ?_
        refine lv_iload_n hx hb dX1_add_74 rfl (lv_at hl 6 rfl) ?_
        refine k_RN (As := [.int (nI v)]) (rest := [.int (nI (ss cJ li)), .ref q_18]) (c_L_letters l B0 g ct ad cS m_70 xL v (by omega)) hC hS ⟨hx, hb, hml, hown, hts⟩ ⟨va_cnB 1 hts gX1_add_L_letters_n21 rfl rfl rfl hC.2.2.2.2.2.1 (hts (.initialized RL) (by decide +kernel)) (by decide +kernel) ⟨Nat.le_of_ble_eq_true rfl, Nat.le_of_ble_eq_true rfl⟩, hts (.static yL_letters) (by decide +kernel), trivial⟩ rfl hl.1 rfl (Nat.le_of_ble_eq_true rfl) dX1_add_75 ⟨(by show _ ≤ 4; omega), (by show _ ≤ 32; omega)⟩ (fun m_75 x_75 q_75 H locs hr_75 hC hS => ?_)
        obtain ⟨xq_75, fq_75, A_75⟩ := hr_75
        have d_75_11 : q_11 ≠ q_75 := fun e9 => fq_75 (e9 ▸ A_70.1)
        have A_70 := A_70.ex xq_75
        have d_75_18 : q_18 ≠ q_75 := fun e9 => fq_75 (e9 ▸ A_18.1)
        have A_18 := A_18.ex xq_75
        have fb_75 : q_75 ∉ mS.1 := hE.nin fq_75
        have hE := Ex_t hE xq_75
        refine q_il hC hx hb A_75 dX1_add_78 ?_
        refine n_z hC hB hS hx hb (hts (.arrayClass .boolean) (by decide +kernel)) (j := ln_ v) (by omega) (by show _ ≤ 4; omega) (by show _ ≤ 32; omega) dX1_add_79 (fun q_79 m_79 H fq_79 xq_79 A_79 hC hS => ?_)
        have d_79_11 : q_11 ≠ q_79 := fun e9 => fq_79 (e9 ▸ A_70.1)
        have A_70 := A_70.ex xq_79
        have d_79_18 : q_18 ≠ q_79 := fun e9 => fq_79 (e9 ▸ A_18.1)
        have A_18 := A_18.ex xq_79
        have d_79_75 : q_75 ≠ q_79 := fun e9 => fq_79 (e9 ▸ A_75.1)
        have A_75 := A_75.ex xq_79
        have fb_79 : q_79 ∉ mS.1 := hE.nin fq_79
        have hE := Ex_t hE xq_79
        obtain ⟨w1_81, wf_81, w2_81, -⟩ := id A_79
        refine u_o hC hB hS hx hb A_18 (ty := .boolean) (i := 2) rfl rfl (fun C9 h9 => by cases h9) hC.2.2.2.1 dX1_add_81 (j := ss cJ li) (by omega) (by omega) w1_81 w2_81 (fun m_81 H locs pu_81 A_81 hC hS => ?_)
        have A_70 := A_70.pu pu_81 d_18_11
        have A_75 := A_75.pu pu_81 d_75_18.symm
        have A_79 := A_79.pu pu_81 d_79_18.symm
        have hE := hE.pu fb_18 pu_81
        have A_81 : AO_ ct 3 m_81 q_18 ((ss cJ li) + 1) (fun j => if j < ss cJ li then some (ba li j) else some q_79) := A_81.to (fun j hj => up_e (f := ba li) hk2 (by omega))
        refine lv_aload_n hx hb dX1_add_82 rfl (lv_at hl 4 rfl) ?_
        refine q_f hC hx hb hts hin1 hown (hJ0.1.ex hE) 1 (by decide) (hts (.fieldLink RX1 9 "AbjadPoemsLaw$Sim" "lines" "[[I") (by decide +kernel)) (v := .ref lo) rfl dX1_add_83 ?_
        refine lv_iload_n hx hb dX1_add_86 rfl (lv_at hl 5 rfl) ?_
        refine lv_aload hx hb dX1_add_87 (lv_at hl 2 rfl) ?_
        obtain ⟨w1_89, wf_89, w2_89, -⟩ := id A_70
        refine u_o hC hB hS hx hb (hJ0.2.1.ex hE) (ty := .int) (i := 0) rfl rfl (fun C9 h9 => by cases h9) hC.2.2.1 dX1_add_89 (j := li) (by omega) (by omega) w1_89 w2_89 (fun m_89 H locs pu_89 B_89 hC hS => ?_)
        refine lv_aload_n hx hb dX1_add_90 rfl (lv_at hl 4 rfl) ?_
        refine q_f hC hx hb hts hin1 hown ((hJ0.1.ex hE).pu pu_89 (ne_OB (hJ0.2.1.ex hE) (hJ0.1.ex hE)).symm) 2 (by decide) (hts (.fieldLink RX1 17 "AbjadPoemsLaw$Sim" "marks" "[[[Z") (by decide +kernel)) (v := .ref mo) rfl dX1_add_91 ?_
        refine lv_iload_n hx hb dX1_add_94 rfl (lv_at hl 5 rfl) ?_
        refine lv_aload hx hb dX1_add_95 (lv_at hl 1 rfl) ?_
        obtain ⟨w1_97, wf_97, w2_97, -⟩ := id (A_81.pu pu_89 (ne_OO A_81 (hJ0.2.1.ex hE) hCA.2.2.2.2.2.1.symm))
        refine u_o hC hB hS hx hb ((hJ0.2.2.1.ex hE).pu pu_89 (ne_OO (hJ0.2.2.1.ex hE) (hJ0.2.1.ex hE) hCA.2.2.2.2.2.2.1.symm)) (ty := .array .boolean) (i := 3) rfl rfl (fun C9 h9 => by cases h9) hC.2.2.2.2.1 dX1_add_97 (j := li) (by omega) (by omega) w1_97 w2_97 (fun m_97 H locs pu_97 B_97 hC hS => ?_)
        refine W.widen (k := 4) (n := 32) (by omega) (by omega) ?_
        exact W.vret hx hb hr (fun t ht hW => ⟨⟨(m_97, x_75), rfl, (hJ0.add hCA hE hln hs h10 A_70 A_81 A_79 fb_79 pu_89 B_89 pu_97 B_97), (by show CW B0 g ct ad cS m_97 x_75 t.heap; rw [ht]; exact hC.1)⟩, hS.F ht⟩) hS.2.2 dX1_add_98
      · skip
        have n_29 : ¬ ss cJ li ≤ k := fun q__ => c_29 ((nI_leI (a := ss cJ li) (b := k) (by omega) (by omega)).mpr q__)
        refine lv_aload hx hb dX1_add_32 (lv_at hl 2 rfl) ?_
        refine lv_iload hx hb dX1_add_34 (lv_at hl 0 rfl) ?_
        refine lv_aload_n hx hb dX1_add_36 rfl (lv_at hl 4 rfl) ?_
        refine q_f hC hx hb hts hin1 hown (hJ0.1.ex hE) 1 (by decide) (hts (.fieldLink RX1 9 "AbjadPoemsLaw$Sim" "lines" "[[I") (by decide +kernel)) (v := .ref lo) rfl dX1_add_37 ?_
        refine lv_iload_n hx hb dX1_add_40 rfl (lv_at hl 5 rfl) ?_
        refine q_o hC hx hb (hJ0.2.1.ex hE) (ty := .array .int) rfl rfl dX1_add_41 (j := li) (by omega) (by omega) (v := la li) rfl ?_
        refine lv_iload hx hb dX1_add_42 (lv_at hl 0 rfl) ?_
        refine q_i hC hx hb ((hJ0.2.2.2.1 li (by omega)).ex hE) dX1_add_44 (j := k) (by omega) (by omega) ?_
        refine lv_tn (w := nI (sw cJ (10 * li + k))) rfl ?_
        refine u_i hC hB hS hx hb A_11 dX1_add_45 (j := k) (v := nI (sw cJ (10 * li + k))) (by omega) (by omega) (fun m_45 H locs pu_45 A_45 hC hS => ?_)
        have A_18 := A_18.pu pu_45 d_18_11.symm
        have hE := hE.pu fb_11 pu_45
        refine lv_aload hx hb dX1_add_46 (lv_at hl 1 rfl) ?_
        refine lv_iload hx hb dX1_add_48 (lv_at hl 0 rfl) ?_
        refine lv_aload_n hx hb dX1_add_50 rfl (lv_at hl 4 rfl) ?_
        refine q_f hC hx hb hts hin1 hown (hJ0.1.ex hE) 2 (by decide) (hts (.fieldLink RX1 17 "AbjadPoemsLaw$Sim" "marks" "[[[Z") (by decide +kernel)) (v := .ref mo) rfl dX1_add_51 ?_
        refine lv_iload_n hx hb dX1_add_54 rfl (lv_at hl 5 rfl) ?_
        refine q_o hC hx hb (hJ0.2.2.1.ex hE) (ty := .array (.array .boolean)) rfl rfl dX1_add_55 (j := li) (by omega) (by omega) (v := wa li) rfl ?_
        refine lv_iload hx hb dX1_add_56 (lv_at hl 0 rfl) ?_
        refine q_o hC hx hb ((hJ0.2.2.2.2.1 li (by omega)).ex hE) (ty := .array .boolean) rfl rfl dX1_add_58 (j := k) (by omega) (by omega) (v := ba li k) rfl ?_
        obtain ⟨w1_59, wf_59, w2_59, -⟩ := id ((hJ0.2.2.2.2.2.1 li k (by omega) (by omega)).ex hE)
        refine u_o hC hB hS hx hb A_18 (ty := .boolean) (i := 2) rfl rfl (fun C9 h9 => by cases h9) hC.2.2.2.1 dX1_add_59 (j := k) (by omega) (by omega) w1_59 w2_59 (fun m_59 H locs pu_59 A_59 hC hS => ?_)
        have A_45 := A_45.pu pu_59 d_18_11
        have hE := hE.pu fb_18 pu_59
        refine lv_iinc (v := nI (k + 1)) (lv' := [(6, .int (nI (k + 1))), (5, .ref q_18), (4, .ref q_11), (3, .int (nI (ss cJ li))), (0, .ref o), (1, .int (nI li)), (2, .int (nI v))]) hx hb dX1_add_60 hl (k := 0) rfl (nI_1 _) (by decide) rfl (fun ls hl => ?_)
        refine lv_goto (tgt := 26) hx hb dX1_add_63 (by decide) ?_
        refine W.widen (k := 0 + 1 + 1) (n := 0 + (ss cJ li + 1) + (ss cJ li + 1)) (by omega) (by omega) ?_
        exact ih_26 (k + 1) m_59 xL (by omega) (by omega) hE (A_45.to (fun j _ => up_i (f := fun j => nI (sw cJ (10 * li + j))))) (A_59.to (fun j _ => up_o (f := ba li))) H locs hC hS ls (lv_sub hl [0, 1, 2, 3, 4, 5, 6] rfl)
  refine W.widen (k := 0 + 1 + 1) (n := 0 + (ss cJ li + 1) + (ss cJ li + 1)) (by omega) (by omega) ?_
  exact LP_26 _ 0 m_18 x (Nat.lt_succ_self _) (Nat.zero_le _) hE (A_11.to (fun j _ => (if_neg (Nat.not_lt_zero j)).symm)) (A_18.to (fun j _ => (if_neg (Nat.not_lt_zero j)).symm)) H [] hC hS ls (lv_sub hl [0, 1, 2, 3, 4, 5, 6] rfl)
set_option maxHeartbeats 4000000 in
set_option maxRecDepth 100000 in
theorem c_X1_cut (l : Launch) (B0 : Nat) (g : va_G) (ct ad : Nat → Nat) (cS : St_) (mS : Pl_) (x : Ax_) (o : Nat) (cJ : St_) (hI : Iv_ cJ) (hJ : SI_ ct mS o cJ) (li : Nat) (hln : li < sn cJ) (hs : 0 < ss cJ li) : WQ l yX1_cut wsX1_cut 0 2 20 B0 g ct ad cS mS x [.ref o, .int (nI li)] (nI (sw cJ (10 * li + (ss cJ li - 1)))) cS (fun m1 => SI_ ct m1 o (st_cut cJ li)) := by
  refine Met.ofW (cc := cX1_cut) (maxL := 7) (ret := (some .int)) (by decide) rfl ?_
  intro p e s m args below meth c s₁ B hml hv
  obtain ⟨rfl, hC⟩ := hv
  have hx := B.exec
  have hb := B.bytes
  have hr := B.returns
  have hts := atoms_spec (ws := wsX1_cut) B.pre
  have hown : s.vm.findClass RX1 = some m.cls := findClass_of_methodNamed B.named
  have hlocks := B.notSynchronized
  have hin1 : ∀ w ∈ wsX10, w ∈ wsX1_cut := fun _ h => List.mem_cons_of_mem _ (List.mem_append_right _ h)
  have hS : va_S (AA B0) s.heap s.heap [] := va_S.rf
  have hB : B0 ≤ s.heap.size := hC.1.2.2.1
  obtain ⟨lo, mo, la, wa, ba, hJ0⟩ := hJ
  have hE := Ex_r mS
  have h12 := hI.2.1
  have h10 := hI.2.2.1
  have hCA := CA_of hC.2.1
  have hls := h10 li
  have hl := lv_entry ([.ref o, .int (nI li)]) (n := 7) (Nat.le_of_ble_eq_true rfl)
  rw [lg_entry_eq]
  generalize (lg_sl ([.ref o, .int (nI li)]) ++ List.replicate (7 - (lg_sl ([.ref o, .int (nI li)])).length) Slot.unset).toArray = ls at hl ⊢
  have hl : lv_has ls 7 [(0, .ref o), (1, .int (nI li))] := hl
  refine lv_aload_n hx hb dX1_cut_0 rfl (lv_at hl 0 rfl) ?_
  refine q_f hC hx hb hts hin1 hown (hJ0.1.ex hE) 1 (by decide) (hts (.fieldLink RX1 9 "AbjadPoemsLaw$Sim" "lines" "[[I") (by decide +kernel)) (v := .ref lo) rfl dX1_cut_1 ?_
  refine lv_iload_n hx hb dX1_cut_4 rfl (lv_at hl 1 rfl) ?_
  refine q_o hC hx hb (hJ0.2.1.ex hE) (ty := .array .int) rfl rfl dX1_cut_5 (j := li) (by omega) (by omega) (v := la li) rfl ?_
  refine q_il hC hx hb ((hJ0.2.2.2.1 li (by omega)).ex hE) dX1_cut_6 ?_
  refine lv_iconst (v := nI 1) hx hb dX1_cut_7 (by decide) ?_
  refine lv_isub hx hb dX1_cut_8 ?_
  refine lv_tn (pk_sub (by omega)) ?_
  refine lv_istore_n (lv' := [(2, .int (nI ((ss cJ li) - 1))), (0, .ref o), (1, .int (nI li))]) hx hb dX1_cut_9 rfl hl (by decide) rfl (fun ls hl => ?_)
  refine lv_aload_n hx hb dX1_cut_10 rfl (lv_at hl 1 rfl) ?_
  refine q_f hC hx hb hts hin1 hown (hJ0.1.ex hE) 1 (by decide) (hts (.fieldLink RX1 9 "AbjadPoemsLaw$Sim" "lines" "[[I") (by decide +kernel)) (v := .ref lo) rfl dX1_cut_11 ?_
  refine lv_iload_n hx hb dX1_cut_14 rfl (lv_at hl 2 rfl) ?_
  refine q_o hC hx hb (hJ0.2.1.ex hE) (ty := .array .int) rfl rfl dX1_cut_15 (j := li) (by omega) (by omega) (v := la li) rfl ?_
  refine lv_iload_n hx hb dX1_cut_16 rfl (lv_at hl 0 rfl) ?_
  refine q_i hC hx hb ((hJ0.2.2.2.1 li (by omega)).ex hE) dX1_cut_17 (j := (ss cJ li) - 1) (by omega) (by omega) ?_
  refine lv_tn (w := nI (sw cJ (10 * li + ((ss cJ li) - 1)))) rfl ?_
  refine lv_istore_n (lv' := [(3, .int (nI (sw cJ (10 * li + ((ss cJ li) - 1))))), (2, .int (nI ((ss cJ li) - 1))), (0, .ref o), (1, .int (nI li))]) hx hb dX1_cut_18 rfl hl (by decide) rfl (fun ls hl => ?_)
  refine lv_iload_n hx hb dX1_cut_19 rfl (lv_at hl 1 rfl) ?_
  refine n_i hC hB hS hx hb (hts (.arrayClass .int) (by decide +kernel)) (j := (ss cJ li) - 1) (by omega) (by show _ ≤ 2; omega) (by show _ ≤ 20; omega) dX1_cut_20 (fun q_20 m_20 H fq_20 xq_20 A_20 hC hS => ?_)
  have fb_20 : q_20 ∉ mS.1 := hE.nin fq_20
  have hE := Ex_t hE xq_20
  refine lv_astore (lv' := [(4, .ref q_20), (3, .int (nI (sw cJ (10 * li + ((ss cJ li) - 1))))), (2, .int (nI ((ss cJ li) - 1))), (0, .ref o), (1, .int (nI li))]) hx hb dX1_cut_22 hl (by decide) rfl (fun ls hl => ?_)
  refine lv_iload_n hx hb dX1_cut_24 rfl (lv_at hl 2 rfl) ?_
  refine n_o hC hB hS hx hb (ty := .boolean) (t := 3) hown (hts (.classLink RX1 35 "[Z") (by decide +kernel)) (by decide +kernel) rfl hC.2.2.2.1 (j := (ss cJ li) - 1) (by omega) (by show _ ≤ 2; omega) (by show _ ≤ 20; omega) dX1_cut_25 (fun q_25 m_25 H fq_25 xq_25 A_25 hC hS => ?_)
  have d_25_20 : q_20 ≠ q_25 := fun e9 => fq_25 (e9 ▸ A_20.1)
  have A_20 := A_20.ex xq_25
  have fb_25 : q_25 ∉ mS.1 := hE.nin fq_25
  have hE := Ex_t hE xq_25
  refine lv_astore (lv' := [(5, .ref q_25), (4, .ref q_20), (3, .int (nI (sw cJ (10 * li + ((ss cJ li) - 1))))), (2, .int (nI ((ss cJ li) - 1))), (0, .ref o), (1, .int (nI li))]) hx hb dX1_cut_28 hl (by decide) rfl (fun ls hl => ?_)
  refine lv_iconst (v := nI 0) hx hb dX1_cut_30 (by decide) ?_
  refine lv_istore (lv' := [(6, .int (nI 0)), (5, .ref q_25), (4, .ref q_20), (3, .int (nI (sw cJ (10 * li + ((ss cJ li) - 1))))), (2, .int (nI ((ss cJ li) - 1))), (0, .ref o), (1, .int (nI li))]) hx hb dX1_cut_31 hl (by decide) rfl (fun ls hl => ?_)
  have LP_33 : ∀ (n_ : Nat) (k : Nat) (mL : Pl_) (xL : Ax_), ss cJ li - 1 - k < n_ → (k ≤ ss cJ li - 1) → Ex_ mS mL → AI_ ct mL q_20 ((ss cJ li) - 1) (fun j => if j < k then nI (sw cJ (10 * li + j)) else 0) → AO_ ct 3 mL q_25 ((ss cJ li) - 1) (fun j => if j < k then some (ba li j) else none) → ∀ (H : Heap) (locs : List Loc), CX B0 g ct ad cS mL xL s H → va_S (AA B0) s.heap H locs → ∀ ls : Array Slot, lv_has ls 7 [(6, .int (nI k)), (5, .ref q_25), (4, .ref q_20), (3, .int (nI (sw cJ (10 * li + ((ss cJ li) - 1))))), (2, .int (nI ((ss cJ li) - 1))), (0, .ref o), (1, .int (nI li))] → W p l e (headSpec wsX1_cut (rm_ 0 2 20)).room s m ([.ref o, .int (nI li)] : List Value).toArray below meth c H locs (0 + 1 + 1) (0 + (ss cJ li - 1) + (ss cJ li - 1)) (MQ below (va_Qi (fun r (u : Qu_) => r = nI (sw cJ (10 * li + (ss cJ li - 1))) ∧ (fun m1 => SI_ ct m1 o (st_cut cJ li)) u.1) (fun u t => CW B0 g ct ad cS u.1 u.2 t.heap) (AA B0)) ([.ref o, .int (nI li)] : List Value).toArray s 2 20 (AA B0)) (F0 m 33 ls []) := by
    intro n_
    induction n_ with
    | zero => intro k mL xL hm; exact absurd hm (Nat.not_lt_zero _)
    | succ n_ ih_33 =>
      intro k mL xL hm hk hE A_20 A_25 H locs hC hS ls hl
      refine lv_iload hx hb dX1_cut_33 (lv_at hl 0 rfl) ?_
      refine lv_iload_n hx hb dX1_cut_35 rfl (lv_at hl 4 rfl) ?_
      refine lv_icmp_ge (tgt := 73) hx hb dX1_cut_36 (by decide) (fun c_36 => ?_) (fun c_36 => ?_)
      · skip
        have n_36 : (ss cJ li) - 1 ≤ k := (nI_leI (a := (ss cJ li) - 1) (b := k) (by omega) (by omega)).mp c_36
        have hk2 : k = ss cJ li - 1 := by omega
        have A_x : AI_ ct mL q_20 (ss cJ li - 1) (fun j => nI (sw cJ (10 * li + j))) := A_20.to (fun j hj => if_pos (by omega))
        have A_y : AO_ ct 3 mL q_25 (ss cJ li - 1) (fun j => some (ba li j)) := A_25.to (fun j hj => if_pos (by omega))
        refine lv_aload_n hx hb dX1_cut_73 rfl (lv_at hl 5 rfl) ?_
        refine q_f hC hx hb hts hin1 hown (hJ0.1.ex hE) 1 (by decide) (hts (.fieldLink RX1 9 "AbjadPoemsLaw$Sim" "lines" "[[I") (by decide +kernel)) (v := .ref lo) rfl dX1_cut_74 ?_
        refine lv_iload_n hx hb dX1_cut_77 rfl (lv_at hl 6 rfl) ?_
        refine lv_aload hx hb dX1_cut_78 (lv_at hl 2 rfl) ?_
        obtain ⟨w1_80, wf_80, w2_80, -⟩ := id A_x
        refine u_o hC hB hS hx hb (hJ0.2.1.ex hE) (ty := .int) (i := 0) rfl rfl (fun C9 h9 => by cases h9) hC.2.2.1 dX1_cut_80 (j := li) (by omega) (by omega) w1_80 w2_80 (fun m_80 H locs pu_80 B_80 hC hS => ?_)
        refine lv_aload_n hx hb dX1_cut_81 rfl (lv_at hl 5 rfl) ?_
        refine q_f hC hx hb hts hin1 hown ((hJ0.1.ex hE).pu pu_80 (ne_OB (hJ0.2.1.ex hE) (hJ0.1.ex hE)).symm) 2 (by decide) (hts (.fieldLink RX1 17 "AbjadPoemsLaw$Sim" "marks" "[[[Z") (by decide +kernel)) (v := .ref mo) rfl dX1_cut_82 ?_
        refine lv_iload_n hx hb dX1_cut_85 rfl (lv_at hl 6 rfl) ?_
        refine lv_aload hx hb dX1_cut_86 (lv_at hl 1 rfl) ?_
        obtain ⟨w1_88, wf_88, w2_88, -⟩ := id (A_y.pu pu_80 (ne_OO A_y (hJ0.2.1.ex hE) hCA.2.2.2.2.2.1.symm))
        refine u_o hC hB hS hx hb ((hJ0.2.2.1.ex hE).pu pu_80 (ne_OO (hJ0.2.2.1.ex hE) (hJ0.2.1.ex hE) hCA.2.2.2.2.2.2.1.symm)) (ty := .array .boolean) (i := 3) rfl rfl (fun C9 h9 => by cases h9) hC.2.2.2.2.1 dX1_cut_88 (j := li) (by omega) (by omega) w1_88 w2_88 (fun m_88 H locs pu_88 B_88 hC hS => ?_)
        refine lv_iload_n hx hb dX1_cut_89 rfl (lv_at hl 3 rfl) ?_
        refine W.widen (k := 2) (n := 20) (by omega) (by omega) ?_
        exact W.iret hx hb hr (fun t ht hW => ⟨⟨_, (m_88, xL), rfl, ⟨rfl, (hJ0.cut hCA hE hln A_x A_y pu_80 B_80 pu_88 B_88)⟩, (by show CW B0 g ct ad cS m_88 xL t.heap; rw [ht]; exact hC.1)⟩, hS.F ht⟩) hS.2.2 dX1_cut_90
      · skip
        have n_36 : ¬ (ss cJ li) - 1 ≤ k := fun q__ => c_36 ((nI_leI (a := (ss cJ li) - 1) (b := k) (by omega) (by omega)).mpr q__)
        refine lv_aload hx hb dX1_cut_39 (lv_at hl 2 rfl) ?_
        refine lv_iload hx hb dX1_cut_41 (lv_at hl 0 rfl) ?_
        refine lv_aload_n hx hb dX1_cut_43 rfl (lv_at hl 5 rfl) ?_
        refine q_f hC hx hb hts hin1 hown (hJ0.1.ex hE) 1 (by decide) (hts (.fieldLink RX1 9 "AbjadPoemsLaw$Sim" "lines" "[[I") (by decide +kernel)) (v := .ref lo) rfl dX1_cut_44 ?_
        refine lv_iload_n hx hb dX1_cut_47 rfl (lv_at hl 6 rfl) ?_
        refine q_o hC hx hb (hJ0.2.1.ex hE) (ty := .array .int) rfl rfl dX1_cut_48 (j := li) (by omega) (by omega) (v := la li) rfl ?_
        refine lv_iload hx hb dX1_cut_49 (lv_at hl 0 rfl) ?_
        refine q_i hC hx hb ((hJ0.2.2.2.1 li (by omega)).ex hE) dX1_cut_51 (j := k) (by omega) (by omega) ?_
        refine lv_tn (w := nI (sw cJ (10 * li + k))) rfl ?_
        refine u_i hC hB hS hx hb A_20 dX1_cut_52 (j := k) (v := nI (sw cJ (10 * li + k))) (by omega) (by omega) (fun m_52 H locs pu_52 A_52 hC hS => ?_)
        have A_25 := A_25.pu pu_52 d_25_20.symm
        have hE := hE.pu fb_20 pu_52
        refine lv_aload hx hb dX1_cut_53 (lv_at hl 1 rfl) ?_
        refine lv_iload hx hb dX1_cut_55 (lv_at hl 0 rfl) ?_
        refine lv_aload_n hx hb dX1_cut_57 rfl (lv_at hl 5 rfl) ?_
        refine q_f hC hx hb hts hin1 hown (hJ0.1.ex hE) 2 (by decide) (hts (.fieldLink RX1 17 "AbjadPoemsLaw$Sim" "marks" "[[[Z") (by decide +kernel)) (v := .ref mo) rfl dX1_cut_58 ?_
        refine lv_iload_n hx hb dX1_cut_61 rfl (lv_at hl 6 rfl) ?_
        refine q_o hC hx hb (hJ0.2.2.1.ex hE) (ty := .array (.array .boolean)) rfl rfl dX1_cut_62 (j := li) (by omega) (by omega) (v := wa li) rfl ?_
        refine lv_iload hx hb dX1_cut_63 (lv_at hl 0 rfl) ?_
        refine q_o hC hx hb ((hJ0.2.2.2.2.1 li (by omega)).ex hE) (ty := .array .boolean) rfl rfl dX1_cut_65 (j := k) (by omega) (by omega) (v := ba li k) rfl ?_
        obtain ⟨w1_66, wf_66, w2_66, -⟩ := id ((hJ0.2.2.2.2.2.1 li k (by omega) (by omega)).ex hE)
        refine u_o hC hB hS hx hb A_25 (ty := .boolean) (i := 2) rfl rfl (fun C9 h9 => by cases h9) hC.2.2.2.1 dX1_cut_66 (j := k) (by omega) (by omega) w1_66 w2_66 (fun m_66 H locs pu_66 A_66 hC hS => ?_)
        have A_52 := A_52.pu pu_66 d_25_20
        have hE := hE.pu fb_25 pu_66
        refine lv_iinc (v := nI (k + 1)) (lv' := [(6, .int (nI (k + 1))), (5, .ref q_25), (4, .ref q_20), (3, .int (nI (sw cJ (10 * li + ((ss cJ li) - 1))))), (2, .int (nI ((ss cJ li) - 1))), (0, .ref o), (1, .int (nI li))]) hx hb dX1_cut_67 hl (k := 0) rfl (nI_1 _) (by decide) rfl (fun ls hl => ?_)
        refine lv_goto (tgt := 33) hx hb dX1_cut_70 (by decide) ?_
        refine W.widen (k := 0 + 1 + 1) (n := 0 + (ss cJ li - 1) + (ss cJ li - 1)) (by omega) (by omega) ?_
        exact ih_33 (k + 1) m_66 xL (by omega) (by omega) hE (A_52.to (fun j _ => up_i (f := fun j => nI (sw cJ (10 * li + j))))) (A_66.to (fun j _ => up_o (f := ba li))) H locs hC hS ls (lv_sub hl [0, 1, 2, 3, 4, 5, 6] rfl)
  refine W.widen (k := 0 + 1 + 1) (n := 0 + (ss cJ li - 1) + (ss cJ li - 1)) (by omega) (by omega) ?_
  exact LP_33 _ 0 m_25 x (Nat.lt_succ_self _) (Nat.zero_le _) hE (A_20.to (fun j _ => (if_neg (Nat.not_lt_zero j)).symm)) (A_25.to (fun j _ => (if_neg (Nat.not_lt_zero j)).symm)) H [] hC hS ls (lv_sub hl [0, 1, 2, 3, 4, 5, 6] rfl)
set_option maxHeartbeats 4000000 in
set_option maxRecDepth 100000 in
theorem c_L_word (l : Launch) (v : Int32) : RI l yL_word wsL_word 1 (va_Pc [.int v] (fun _ => True)) (nI (gw_ v)) := by
  refine Met.ofW (cc := cL_word) (maxL := 4) (ret := (some .int)) (by decide) rfl ?_
  intro p e s m args below meth c s₁ B hml hv
  obtain ⟨rfl, -⟩ := hv
  have hx := B.exec
  have hb := B.bytes
  have hr := B.returns
  have hts := atoms_spec (ws := wsL_word) B.pre
  have hown : s.vm.findClass RL = some m.cls := findClass_of_methodNamed B.named
  have hlocks := B.notSynchronized
  have hg := gn_b v
  have hb2 := gb_b v
  have hb9 : bl_ (v >>> (nI 6 &&& 31)) 2 < 2 := bl_lt _ (by omega)
  have hb8 : bl_ (v >>> (nI 7 &&& 31)) 2 < 2 := bl_lt _ (by omega)
  have hb6 : bl_ (v >>> (nI 8 &&& 31)) 6 < 6 := bl_lt _ (by omega)
  have hb7 : bl_ (v >>> (nI 8 &&& 31)) 2 < 2 := bl_lt _ (by omega)
  have hl := lv_entry ([.int v]) (n := 4) (Nat.le_of_ble_eq_true rfl)
  rw [lg_entry_eq]
  generalize (lg_sl ([.int v]) ++ List.replicate (4 - (lg_sl ([.int v])).length) Slot.unset).toArray = ls at hl ⊢
  have hl : lv_has ls 4 [(0, .int v)] := hl
  refine lv_iconst (v := nI 0) hx hb dL_word_0 (by decide) ?_
  refine lv_istore_n (lv' := [(1, .int (nI 0)), (0, .int v)]) hx hb dL_word_1 rfl hl (by decide) rfl (fun ls hl => ?_)
  refine lv_iconst (v := nI 1) hx hb dL_word_2 (by decide) ?_
  refine lv_iload_n hx hb dL_word_3 rfl (lv_at hl 1 rfl) ?_
  refine lv_bipush (v := nI 8) hx hb dL_word_4 (by decide) ?_
  refine lv_ishr hx hb dL_word_6 ?_
  refine lv_iload_n hx hb dL_word_7 rfl (lv_at hl 1 rfl) ?_
  refine lv_bipush (v := nI 6) hx hb dL_word_8 (by decide) ?_
  refine lv_ishr hx hb dL_word_10 ?_
  refine lv_iconst (v := nI 2) hx hb dL_word_11 (by decide) ?_
  refine k_pS (As := [.int (v >>> (nI 6 &&& 31)), .int (nI 2)]) (rest := [.int (v >>> (nI 8 &&& 31)), .int (nI 1)]) (c_L_below l (v >>> (nI 6 &&& 31)) 2 (by omega) (by omega)) ⟨hx, hb, hml, hown, hts⟩ (va_cwS 2 hts gL_word_L_below rfl rfl rfl (by decide +kernel) ⟨Nat.le_of_ble_eq_true rfl, Nat.le_of_ble_eq_true rfl⟩) rfl hl.1 rfl (Nat.le_of_ble_eq_true rfl) dL_word_12 ⟨Nat.le_of_ble_eq_true rfl, Nat.le_of_ble_eq_true rfl⟩ ?_
  refine lv_if_ne (tgt := 23) hx hb dL_word_15 (by decide) (fun c_15 => ?_) (fun c_15 => ?_)
  · skip
    have n_15 : ¬ bl_ (v >>> (nI 6 &&& 31)) 2 = 0 := fun q__ => c_15 ((eq0_ (by omega)).mpr q__)
    have hn : 1 + bl_ (v >>> (nI 8 &&& 31)) 2 = gn_ v := by unfold gn_; rw [if_neg n_15]
    refine lv_iconst (v := nI 2) hx hb dL_word_23 (by decide) ?_
    refine k_pS (As := [.int (v >>> (nI 8 &&& 31)), .int (nI 2)]) (rest := [.int (nI 1)]) (c_L_below l (v >>> (nI 8 &&& 31)) 2 (by omega) (by omega)) ⟨hx, hb, hml, hown, hts⟩ (va_cwS 2 hts gL_word_L_below rfl rfl rfl (by decide +kernel) ⟨Nat.le_of_ble_eq_true rfl, Nat.le_of_ble_eq_true rfl⟩) rfl hl.1 rfl (Nat.le_of_ble_eq_true rfl) dL_word_24 ⟨Nat.le_of_ble_eq_true rfl, Nat.le_of_ble_eq_true rfl⟩ ?_
    refine lv_iadd hx hb dL_word_27 ?_
    refine lv_tn (nI_add _ _) ?_
    refine lv_tn (w := nI (gn_ v)) (congrArg nI hn) ?_
    refine lv_istore_n (lv' := [(2, .int (nI (gn_ v))), (1, .int (nI 0)), (0, .int v)]) hx hb dL_word_28 rfl hl (by decide) rfl (fun ls hl => ?_)
    refine lv_iconst (v := nI 0) hx hb dL_word_29 (by decide) ?_
    refine lv_istore_n (lv' := [(3, .int (nI 0)), (2, .int (nI (gn_ v))), (1, .int (nI 0)), (0, .int v)]) hx hb dL_word_30 rfl hl (by decide) rfl (fun ls hl => ?_)
    have LP_31 : ∀ (n_ : Nat) (t : Nat) (k : Nat), gn_ v - k < n_ → (t = gv_ v k) → (k ≤ gn_ v) → ∀ ls : Array Slot, lv_has ls 4 [(3, .int (nI k)), (2, .int (nI (gn_ v))), (1, .int (nI t)), (0, .int v)] → W p l e (headSpec wsL_word (rm_ 1 0 0)).room s m ([.int v] : List Value).toArray below meth c s.heap [] 0 0 (MQ below (vp_Si (fun r => r = nI (gw_ v))) ([.int v] : List Value).toArray s 0 0 (fun _ => False)) (F0 m 31 ls []) := by
      intro n_
      induction n_ with
      | zero => intro t k hm; exact absurd hm (Nat.not_lt_zero _)
      | succ n_ ih_31 =>
        intro t k hm h1 h2 ls hl
        refine lv_iload_n hx hb dL_word_31 rfl (lv_at hl 0 rfl) ?_
        refine lv_iload_n hx hb dL_word_32 rfl (lv_at hl 1 rfl) ?_
        refine lv_icmp_ge (tgt := 80) hx hb dL_word_33 (by decide) (fun c_33 => ?_) (fun c_33 => ?_)
        · skip
          have n_33 : gn_ v ≤ k := (nI_leI (a := gn_ v) (b := k) (by omega) (by omega)).mp c_33
          have hE : t = gw_ v := by rw [h1, show k = gn_ v by omega]; rfl
          refine lv_iload_n hx hb dL_word_80 rfl (lv_at hl 2 rfl) ?_
          exact W.iret hx hb hr (fun t ht hW => ⟨_, rfl, (congrArg nI hE), ht⟩) (fun q hq => absurd hq List.not_mem_nil) dL_word_81
        · skip
          have n_33 : ¬ gn_ v ≤ k := fun q__ => c_33 ((nI_leI (a := gn_ v) (b := k) (by omega) (by omega)).mpr q__)
          refine lv_bipush (v := nI 27) hx hb dL_word_36 (by decide) ?_
          refine lv_iload_n hx hb dL_word_38 rfl (lv_at hl 2 rfl) ?_
          refine lv_imul hx hb dL_word_39 ?_
          refine lv_tn (pk_mul _ _) ?_
          refine lv_iconst (v := nI 1) hx hb dL_word_40 (by decide) ?_
          refine lv_iadd hx hb dL_word_41 ?_
          refine lv_tn (nI_add _ _) ?_
          refine lv_iload_n hx hb dL_word_42 rfl (lv_at hl 3 rfl) ?_
          refine lv_iconst (v := nI 3) hx hb dL_word_43 (by decide) ?_
          refine lv_iload_n hx hb dL_word_44 rfl (lv_at hl 0 rfl) ?_
          refine lv_imul hx hb dL_word_45 ?_
          refine lv_tn (pk_mul _ _) ?_
          refine lv_ishr hx hb dL_word_46 ?_
          refine lv_iconst (v := nI 5) hx hb dL_word_47 (by decide) ?_
          refine lv_iload_n hx hb dL_word_48 rfl (lv_at hl 0 rfl) ?_
          refine lv_imul hx hb dL_word_49 ?_
          refine lv_tn (pk_mul _ _) ?_
          refine lv_iadd hx hb dL_word_50 ?_
          refine lv_iload_n hx hb dL_word_51 rfl (lv_at hl 3 rfl) ?_
          refine lv_bipush (v := nI 7) hx hb dL_word_52 (by decide) ?_
          refine lv_ishr hx hb dL_word_54 ?_
          refine lv_iconst (v := nI 2) hx hb dL_word_55 (by decide) ?_
          refine k_pS (As := [.int (v >>> (nI 7 &&& 31)), .int (nI 2)]) (rest := [.int ((v >>> (nI (3 * k) &&& 31)) + (nI (5 * k))), .int (nI ((27 * t) + 1))]) (c_L_below l (v >>> (nI 7 &&& 31)) 2 (by omega) (by omega)) ⟨hx, hb, hml, hown, hts⟩ (va_cwS 2 hts gL_word_L_below rfl rfl rfl (by decide +kernel) ⟨Nat.le_of_ble_eq_true rfl, Nat.le_of_ble_eq_true rfl⟩) rfl hl.1 rfl (Nat.le_of_ble_eq_true rfl) dL_word_56 ⟨Nat.le_of_ble_eq_true rfl, Nat.le_of_ble_eq_true rfl⟩ ?_
          refine lv_if_ne (tgt := 67) hx hb dL_word_59 (by decide) (fun c_59 => ?_) (fun c_59 => ?_)
          · skip
            have n_59 : ¬ bl_ (v >>> (nI 7 &&& 31)) 2 = 0 := fun q__ => c_59 ((eq0_ (by omega)).mpr q__)
            have hx1 : bl_ ((v >>> (nI (3 * k) &&& 31)) + nI (5 * k)) 9 = gd2_ v k := by unfold gd2_ gb_; rw [if_neg n_59]
            refine lv_bipush (v := nI 9) hx hb dL_word_67 (by decide) ?_
            refine k_pS (As := [.int ((v >>> (nI (3 * k) &&& 31)) + (nI (5 * k))), .int (nI 9)]) (rest := [.int (nI ((27 * t) + 1))]) (c_L_below l ((v >>> (nI (3 * k) &&& 31)) + (nI (5 * k))) 9 (by omega) (by omega)) ⟨hx, hb, hml, hown, hts⟩ (va_cwS 2 hts gL_word_L_below rfl rfl rfl (by decide +kernel) ⟨Nat.le_of_ble_eq_true rfl, Nat.le_of_ble_eq_true rfl⟩) rfl hl.1 rfl (Nat.le_of_ble_eq_true rfl) dL_word_69 ⟨Nat.le_of_ble_eq_true rfl, Nat.le_of_ble_eq_true rfl⟩ ?_
            refine lv_iadd hx hb dL_word_72 ?_
            refine lv_tn (nI_add _ _) ?_
            refine lv_istore_n (lv' := [(1, .int (nI (((27 * t) + 1) + (bl_ ((v >>> (nI (3 * k) &&& 31)) + (nI (5 * k))) 9)))), (3, .int (nI k)), (2, .int (nI (gn_ v))), (0, .int v)]) hx hb dL_word_73 rfl hl (by decide) rfl (fun ls hl => ?_)
            refine lv_iinc (v := nI (k + 1)) (lv' := [(3, .int (nI (k + 1))), (1, .int (nI (((27 * t) + 1) + (bl_ ((v >>> (nI (3 * k) &&& 31)) + (nI (5 * k))) 9)))), (2, .int (nI (gn_ v))), (0, .int v)]) hx hb dL_word_74 hl (k := 1) rfl (nI_1 _) (by decide) rfl (fun ls hl => ?_)
            refine lv_goto (tgt := 31) hx hb dL_word_77 (by decide) ?_
            exact ih_31 (((27 * t) + 1) + (bl_ ((v >>> (nI (3 * k) &&& 31)) + (nI (5 * k))) 9)) (k + 1) (by omega) (by rw [h1, hx1]; rfl) (by omega) ls (lv_sub hl [0, 2, 1, 3] rfl)
          · skip
            have n_59 : bl_ (v >>> (nI 7 &&& 31)) 2 = 0 := (eq0_ (by omega)).mp c_59
            have hx1 : bl_ ((v >>> (nI (3 * k) &&& 31)) + nI (5 * k)) 26 = gd2_ v k := by unfold gd2_ gb_; rw [if_pos n_59]
            refine lv_bipush (v := nI 26) hx hb dL_word_62 (by decide) ?_
            refine lv_goto (tgt := 69) hx hb dL_word_64 (by decide) ?_
            refine k_pS (As := [.int ((v >>> (nI (3 * k) &&& 31)) + (nI (5 * k))), .int (nI 26)]) (rest := [.int (nI ((27 * t) + 1))]) (c_L_below l ((v >>> (nI (3 * k) &&& 31)) + (nI (5 * k))) 26 (by omega) (by omega)) ⟨hx, hb, hml, hown, hts⟩ (va_cwS 2 hts gL_word_L_below rfl rfl rfl (by decide +kernel) ⟨Nat.le_of_ble_eq_true rfl, Nat.le_of_ble_eq_true rfl⟩) rfl hl.1 rfl (Nat.le_of_ble_eq_true rfl) dL_word_69 ⟨Nat.le_of_ble_eq_true rfl, Nat.le_of_ble_eq_true rfl⟩ ?_
            refine lv_iadd hx hb dL_word_72 ?_
            refine lv_tn (nI_add _ _) ?_
            refine lv_istore_n (lv' := [(1, .int (nI (((27 * t) + 1) + (bl_ ((v >>> (nI (3 * k) &&& 31)) + (nI (5 * k))) 26)))), (3, .int (nI k)), (2, .int (nI (gn_ v))), (0, .int v)]) hx hb dL_word_73 rfl hl (by decide) rfl (fun ls hl => ?_)
            refine lv_iinc (v := nI (k + 1)) (lv' := [(3, .int (nI (k + 1))), (1, .int (nI (((27 * t) + 1) + (bl_ ((v >>> (nI (3 * k) &&& 31)) + (nI (5 * k))) 26)))), (2, .int (nI (gn_ v))), (0, .int v)]) hx hb dL_word_74 hl (k := 1) rfl (nI_1 _) (by decide) rfl (fun ls hl => ?_)
            refine lv_goto (tgt := 31) hx hb dL_word_77 (by decide) ?_
            exact ih_31 (((27 * t) + 1) + (bl_ ((v >>> (nI (3 * k) &&& 31)) + (nI (5 * k))) 26)) (k + 1) (by omega) (by rw [h1, hx1]; rfl) (by omega) ls (lv_sub hl [0, 2, 1, 3] rfl)
    exact LP_31 _ 0 0 (Nat.lt_succ_self _) rfl (Nat.zero_le _) ls (lv_sub hl [0, 1, 2, 3] rfl)
  · skip
    have n_15 : bl_ (v >>> (nI 6 &&& 31)) 2 = 0 := (eq0_ (by omega)).mp c_15
    have hn : 1 + bl_ (v >>> (nI 8 &&& 31)) 6 = gn_ v := by unfold gn_; rw [if_pos n_15]
    refine lv_bipush (v := nI 6) hx hb dL_word_18 (by decide) ?_
    refine lv_goto (tgt := 24) hx hb dL_word_20 (by decide) ?_
    refine k_pS (As := [.int (v >>> (nI 8 &&& 31)), .int (nI 6)]) (rest := [.int (nI 1)]) (c_L_below l (v >>> (nI 8 &&& 31)) 6 (by omega) (by omega)) ⟨hx, hb, hml, hown, hts⟩ (va_cwS 2 hts gL_word_L_below rfl rfl rfl (by decide +kernel) ⟨Nat.le_of_ble_eq_true rfl, Nat.le_of_ble_eq_true rfl⟩) rfl hl.1 rfl (Nat.le_of_ble_eq_true rfl) dL_word_24 ⟨Nat.le_of_ble_eq_true rfl, Nat.le_of_ble_eq_true rfl⟩ ?_
    refine lv_iadd hx hb dL_word_27 ?_
    refine lv_tn (nI_add _ _) ?_
    refine lv_tn (w := nI (gn_ v)) (congrArg nI hn) ?_
    refine lv_istore_n (lv' := [(2, .int (nI (gn_ v))), (1, .int (nI 0)), (0, .int v)]) hx hb dL_word_28 rfl hl (by decide) rfl (fun ls hl => ?_)
    refine lv_iconst (v := nI 0) hx hb dL_word_29 (by decide) ?_
    refine lv_istore_n (lv' := [(3, .int (nI 0)), (2, .int (nI (gn_ v))), (1, .int (nI 0)), (0, .int v)]) hx hb dL_word_30 rfl hl (by decide) rfl (fun ls hl => ?_)
    have LP_31 : ∀ (n_ : Nat) (t : Nat) (k : Nat), gn_ v - k < n_ → (t = gv_ v k) → (k ≤ gn_ v) → ∀ ls : Array Slot, lv_has ls 4 [(3, .int (nI k)), (2, .int (nI (gn_ v))), (1, .int (nI t)), (0, .int v)] → W p l e (headSpec wsL_word (rm_ 1 0 0)).room s m ([.int v] : List Value).toArray below meth c s.heap [] 0 0 (MQ below (vp_Si (fun r => r = nI (gw_ v))) ([.int v] : List Value).toArray s 0 0 (fun _ => False)) (F0 m 31 ls []) := by
      intro n_
      induction n_ with
      | zero => intro t k hm; exact absurd hm (Nat.not_lt_zero _)
      | succ n_ ih_31 =>
        intro t k hm h1 h2 ls hl
        refine lv_iload_n hx hb dL_word_31 rfl (lv_at hl 0 rfl) ?_
        refine lv_iload_n hx hb dL_word_32 rfl (lv_at hl 1 rfl) ?_
        refine lv_icmp_ge (tgt := 80) hx hb dL_word_33 (by decide) (fun c_33 => ?_) (fun c_33 => ?_)
        · skip
          have n_33 : gn_ v ≤ k := (nI_leI (a := gn_ v) (b := k) (by omega) (by omega)).mp c_33
          have hE : t = gw_ v := by rw [h1, show k = gn_ v by omega]; rfl
          refine lv_iload_n hx hb dL_word_80 rfl (lv_at hl 2 rfl) ?_
          exact W.iret hx hb hr (fun t ht hW => ⟨_, rfl, (congrArg nI hE), ht⟩) (fun q hq => absurd hq List.not_mem_nil) dL_word_81
        · skip
          have n_33 : ¬ gn_ v ≤ k := fun q__ => c_33 ((nI_leI (a := gn_ v) (b := k) (by omega) (by omega)).mpr q__)
          refine lv_bipush (v := nI 27) hx hb dL_word_36 (by decide) ?_
          refine lv_iload_n hx hb dL_word_38 rfl (lv_at hl 2 rfl) ?_
          refine lv_imul hx hb dL_word_39 ?_
          refine lv_tn (pk_mul _ _) ?_
          refine lv_iconst (v := nI 1) hx hb dL_word_40 (by decide) ?_
          refine lv_iadd hx hb dL_word_41 ?_
          refine lv_tn (nI_add _ _) ?_
          refine lv_iload_n hx hb dL_word_42 rfl (lv_at hl 3 rfl) ?_
          refine lv_iconst (v := nI 3) hx hb dL_word_43 (by decide) ?_
          refine lv_iload_n hx hb dL_word_44 rfl (lv_at hl 0 rfl) ?_
          refine lv_imul hx hb dL_word_45 ?_
          refine lv_tn (pk_mul _ _) ?_
          refine lv_ishr hx hb dL_word_46 ?_
          refine lv_iconst (v := nI 5) hx hb dL_word_47 (by decide) ?_
          refine lv_iload_n hx hb dL_word_48 rfl (lv_at hl 0 rfl) ?_
          refine lv_imul hx hb dL_word_49 ?_
          refine lv_tn (pk_mul _ _) ?_
          refine lv_iadd hx hb dL_word_50 ?_
          refine lv_iload_n hx hb dL_word_51 rfl (lv_at hl 3 rfl) ?_
          refine lv_bipush (v := nI 7) hx hb dL_word_52 (by decide) ?_
          refine lv_ishr hx hb dL_word_54 ?_
          refine lv_iconst (v := nI 2) hx hb dL_word_55 (by decide) ?_
          refine k_pS (As := [.int (v >>> (nI 7 &&& 31)), .int (nI 2)]) (rest := [.int ((v >>> (nI (3 * k) &&& 31)) + (nI (5 * k))), .int (nI ((27 * t) + 1))]) (c_L_below l (v >>> (nI 7 &&& 31)) 2 (by omega) (by omega)) ⟨hx, hb, hml, hown, hts⟩ (va_cwS 2 hts gL_word_L_below rfl rfl rfl (by decide +kernel) ⟨Nat.le_of_ble_eq_true rfl, Nat.le_of_ble_eq_true rfl⟩) rfl hl.1 rfl (Nat.le_of_ble_eq_true rfl) dL_word_56 ⟨Nat.le_of_ble_eq_true rfl, Nat.le_of_ble_eq_true rfl⟩ ?_
          refine lv_if_ne (tgt := 67) hx hb dL_word_59 (by decide) (fun c_59 => ?_) (fun c_59 => ?_)
          · skip
            have n_59 : ¬ bl_ (v >>> (nI 7 &&& 31)) 2 = 0 := fun q__ => c_59 ((eq0_ (by omega)).mpr q__)
            have hx1 : bl_ ((v >>> (nI (3 * k) &&& 31)) + nI (5 * k)) 9 = gd2_ v k := by unfold gd2_ gb_; rw [if_neg n_59]
            refine lv_bipush (v := nI 9) hx hb dL_word_67 (by decide) ?_
            refine k_pS (As := [.int ((v >>> (nI (3 * k) &&& 31)) + (nI (5 * k))), .int (nI 9)]) (rest := [.int (nI ((27 * t) + 1))]) (c_L_below l ((v >>> (nI (3 * k) &&& 31)) + (nI (5 * k))) 9 (by omega) (by omega)) ⟨hx, hb, hml, hown, hts⟩ (va_cwS 2 hts gL_word_L_below rfl rfl rfl (by decide +kernel) ⟨Nat.le_of_ble_eq_true rfl, Nat.le_of_ble_eq_true rfl⟩) rfl hl.1 rfl (Nat.le_of_ble_eq_true rfl) dL_word_69 ⟨Nat.le_of_ble_eq_true rfl, Nat.le_of_ble_eq_true rfl⟩ ?_
            refine lv_iadd hx hb dL_word_72 ?_
            refine lv_tn (nI_add _ _) ?_
            refine lv_istore_n (lv' := [(1, .int (nI (((27 * t) + 1) + (bl_ ((v >>> (nI (3 * k) &&& 31)) + (nI (5 * k))) 9)))), (3, .int (nI k)), (2, .int (nI (gn_ v))), (0, .int v)]) hx hb dL_word_73 rfl hl (by decide) rfl (fun ls hl => ?_)
            refine lv_iinc (v := nI (k + 1)) (lv' := [(3, .int (nI (k + 1))), (1, .int (nI (((27 * t) + 1) + (bl_ ((v >>> (nI (3 * k) &&& 31)) + (nI (5 * k))) 9)))), (2, .int (nI (gn_ v))), (0, .int v)]) hx hb dL_word_74 hl (k := 1) rfl (nI_1 _) (by decide) rfl (fun ls hl => ?_)
            refine lv_goto (tgt := 31) hx hb dL_word_77 (by decide) ?_
            exact ih_31 (((27 * t) + 1) + (bl_ ((v >>> (nI (3 * k) &&& 31)) + (nI (5 * k))) 9)) (k + 1) (by omega) (by rw [h1, hx1]; rfl) (by omega) ls (lv_sub hl [0, 2, 1, 3] rfl)
          · skip
            have n_59 : bl_ (v >>> (nI 7 &&& 31)) 2 = 0 := (eq0_ (by omega)).mp c_59
            have hx1 : bl_ ((v >>> (nI (3 * k) &&& 31)) + nI (5 * k)) 26 = gd2_ v k := by unfold gd2_ gb_; rw [if_pos n_59]
            refine lv_bipush (v := nI 26) hx hb dL_word_62 (by decide) ?_
            refine lv_goto (tgt := 69) hx hb dL_word_64 (by decide) ?_
            refine k_pS (As := [.int ((v >>> (nI (3 * k) &&& 31)) + (nI (5 * k))), .int (nI 26)]) (rest := [.int (nI ((27 * t) + 1))]) (c_L_below l ((v >>> (nI (3 * k) &&& 31)) + (nI (5 * k))) 26 (by omega) (by omega)) ⟨hx, hb, hml, hown, hts⟩ (va_cwS 2 hts gL_word_L_below rfl rfl rfl (by decide +kernel) ⟨Nat.le_of_ble_eq_true rfl, Nat.le_of_ble_eq_true rfl⟩) rfl hl.1 rfl (Nat.le_of_ble_eq_true rfl) dL_word_69 ⟨Nat.le_of_ble_eq_true rfl, Nat.le_of_ble_eq_true rfl⟩ ?_
            refine lv_iadd hx hb dL_word_72 ?_
            refine lv_tn (nI_add _ _) ?_
            refine lv_istore_n (lv' := [(1, .int (nI (((27 * t) + 1) + (bl_ ((v >>> (nI (3 * k) &&& 31)) + (nI (5 * k))) 26)))), (3, .int (nI k)), (2, .int (nI (gn_ v))), (0, .int v)]) hx hb dL_word_73 rfl hl (by decide) rfl (fun ls hl => ?_)
            refine lv_iinc (v := nI (k + 1)) (lv' := [(3, .int (nI (k + 1))), (1, .int (nI (((27 * t) + 1) + (bl_ ((v >>> (nI (3 * k) &&& 31)) + (nI (5 * k))) 26)))), (2, .int (nI (gn_ v))), (0, .int v)]) hx hb dL_word_74 hl (k := 1) rfl (nI_1 _) (by decide) rfl (fun ls hl => ?_)
            refine lv_goto (tgt := 31) hx hb dL_word_77 (by decide) ?_
            exact ih_31 (((27 * t) + 1) + (bl_ ((v >>> (nI (3 * k) &&& 31)) + (nI (5 * k))) 26)) (k + 1) (by omega) (by rw [h1, hx1]; rfl) (by omega) ls (lv_sub hl [0, 2, 1, 3] rfl)
    exact LP_31 _ 0 0 (Nat.lt_succ_self _) rfl (Nat.zero_le _) ls (lv_sub hl [0, 1, 2, 3] rfl)
