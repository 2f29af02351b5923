set_option maxHeartbeats 4000000 in
set_option maxRecDepth 100000 in
theorem c_X1_word (l : Launch) (B0 : Nat) (g : va_G) (ct ad : Nat → Nat) (cS : St_) (mS : Pl_) (x : Ax_) (o : Nat) (cJ : St_) (hI : Iv_ cJ) (hJ : SI_ ct mS o cJ) (li wi : Nat) (hln : li < sn cJ) (hwn : wi < ss cJ li) : WR l yX1_word wsX1_word 2 3 17 B0 g ct ad cS mS x [.ref o, .int (nI li), .int (nI wi)] cS (fun r m1 => Ex_ mS m1 ∧ r ∉ mS.1 ∧ AI_ ct m1 r 5 (fun q => nI (wt_ cJ li wi q))) := by
  refine Met.ofW (cc := cX1_word) (maxL := 6) (ret := (some (.array .int))) (by decide) rfl ?_
  intro p e s m args below meth c s₁ B hml hv
  obtain ⟨rfl, hC⟩ := hv
  have hx := B.exec
  have hb := B.bytes
  have hr := B.returns
  have hts := atoms_spec (ws := wsX1_word) B.pre
  have hown : s.vm.findClass RX1 = some m.cls := findClass_of_methodNamed B.named
  have hlocks := B.notSynchronized
  have hin1 : ∀ w ∈ wsX10, w ∈ wsX1_word := fun _ h => List.mem_cons_of_mem _ (List.mem_append_right _ h)
  have hS : va_S (AA B0) s.heap s.heap [] := va_S.rf
  have hB : B0 ≤ s.heap.size := hC.1.2.2.1
  obtain ⟨lo, mo, la, wa, ba, hJ0⟩ := hJ
  have hE := Ex_r mS
  have h12 := hI.2.1
  have h10 := hI.2.2.1
  have hls := h10 li
  have hw6 := hI.2.2.2.1 (10 * li + wi)
  have h6 := ln_le hw6
  have hl := lv_entry ([.ref o, .int (nI li), .int (nI wi)]) (n := 6) (Nat.le_of_ble_eq_true rfl)
  rw [lg_entry_eq]
  generalize (lg_sl ([.ref o, .int (nI li), .int (nI wi)]) ++ List.replicate (6 - (lg_sl ([.ref o, .int (nI li), .int (nI wi)])).length) Slot.unset).toArray = ls at hl ⊢
  have hl : lv_has ls 6 [(0, .ref o), (1, .int (nI li)), (2, .int (nI wi))] := hl
  refine lv_aload_n hx hb dX1_word_0 rfl (lv_at hl 0 rfl) ?_
  refine q_f hC hx hb hts hin1 hown (hJ0.1.ex hE) 1 (by decide) (hts (.fieldLink RX1 9 "AbjadPoemsLaw$Sim" "lines" "[[I") (by decide +kernel)) (v := .ref lo) rfl dX1_word_1 ?_
  refine lv_iload_n hx hb dX1_word_4 rfl (lv_at hl 1 rfl) ?_
  refine q_o hC hx hb (hJ0.2.1.ex hE) (ty := .array .int) rfl rfl dX1_word_5 (j := li) (by omega) (by omega) (v := la li) rfl ?_
  refine lv_iload_n hx hb dX1_word_6 rfl (lv_at hl 2 rfl) ?_
  refine q_i hC hx hb ((hJ0.2.2.2.1 li (by omega)).ex hE) dX1_word_7 (j := wi) (by omega) (by omega) ?_
  refine lv_tn (w := nI (sw cJ (10 * li + wi))) rfl ?_
  refine k_RN (As := [.int (nI (sw cJ (10 * li + wi)))]) (rest := []) (c_L_letters l B0 g ct ad cS mS x (sw cJ (10 * li + wi)) (by omega)) hC hS ⟨hx, hb, hml, hown, hts⟩ ⟨va_cnB 1 hts gX1_word_L_letters_n21 rfl rfl rfl hC.2.2.2.2.2.1 (hts (.initialized RL) (by decide +kernel)) (by decide +kernel) ⟨Nat.le_of_ble_eq_true rfl, Nat.le_of_ble_eq_true rfl⟩, hts (.static yL_letters) (by decide +kernel), trivial⟩ rfl hl.1 rfl (Nat.le_of_ble_eq_true rfl) dX1_word_8 ⟨(by show _ ≤ 3; omega), (by show _ ≤ 17; omega)⟩ (fun m_8 x_8 q_8 H locs hr_8 hC hS => ?_)
  obtain ⟨xq_8, fq_8, A_8⟩ := hr_8
  have fb_8 : q_8 ∉ mS.1 := hE.nin fq_8
  have hE := Ex_t hE xq_8
  refine lv_astore_n (lv' := [(3, .ref q_8), (0, .ref o), (1, .int (nI li)), (2, .int (nI wi))]) hx hb dX1_word_11 rfl hl (by decide) rfl (fun ls hl => ?_)
  refine lv_iconst (v := nI 5) hx hb dX1_word_12 (by decide) ?_
  refine n_i hC hB hS hx hb (hts (.arrayClass .int) (by decide +kernel)) (j := 5) (by omega) (by show _ ≤ 3; omega) (by show _ ≤ 17; omega) dX1_word_13 (fun q_13 m_13 H fq_13 xq_13 A_13 hC hS => ?_)
  have d_13_8 : q_8 ≠ q_13 := fun e9 => fq_13 (e9 ▸ A_8.1)
  have A_8 := A_8.ex xq_13
  have fb_13 : q_13 ∉ mS.1 := hE.nin fq_13
  have hE := Ex_t hE xq_13
  refine lv_dup hx hb dX1_word_15 rfl ?_
  refine lv_iconst (v := nI 0) hx hb dX1_word_16 (by decide) ?_
  refine lv_aload_n hx hb dX1_word_17 rfl (lv_at hl 1 rfl) ?_
  refine q_f hC hx hb hts hin1 hown (hJ0.1.ex hE) 1 (by decide) (hts (.fieldLink RX1 9 "AbjadPoemsLaw$Sim" "lines" "[[I") (by decide +kernel)) (v := .ref lo) rfl dX1_word_18 ?_
  refine lv_iload_n hx hb dX1_word_21 rfl (lv_at hl 2 rfl) ?_
  refine q_o hC hx hb (hJ0.2.1.ex hE) (ty := .array .int) rfl rfl dX1_word_22 (j := li) (by omega) (by omega) (v := la li) rfl ?_
  refine lv_iload_n hx hb dX1_word_23 rfl (lv_at hl 3 rfl) ?_
  refine q_i hC hx hb ((hJ0.2.2.2.1 li (by omega)).ex hE) dX1_word_24 (j := wi) (by omega) (by omega) ?_
  refine lv_tn (w := nI (sw cJ (10 * li + wi))) rfl ?_
  refine u_i hC hB hS hx hb A_13 dX1_word_25 (j := 0) (v := nI (sw cJ (10 * li + wi))) (by omega) (by omega) (fun m_25 H locs pu_25 A_25 hC hS => ?_)
  have A_8 := A_8.pu pu_25 d_13_8
  have hE := hE.pu fb_13 pu_25
  refine lv_dup hx hb dX1_word_26 rfl ?_
  refine lv_iconst (v := nI 1) hx hb dX1_word_27 (by decide) ?_
  refine lv_aload_n hx hb dX1_word_28 rfl (lv_at hl 0 rfl) ?_
  refine q_il hC hx hb A_8 dX1_word_29 ?_
  refine u_i hC hB hS hx hb A_25 dX1_word_30 (j := 1) (v := nI (ln_ (sw cJ (10 * li + wi)))) (by omega) (by omega) (fun m_30 H locs pu_30 A_30 hC hS => ?_)
  have A_8 := A_8.pu pu_30 d_13_8
  have hE := hE.pu fb_13 pu_30
  refine lv_dup hx hb dX1_word_31 rfl ?_
  refine lv_iconst (v := nI 2) hx hb dX1_word_32 (by decide) ?_
  refine lv_aload_n hx hb dX1_word_33 rfl (lv_at hl 1 rfl) ?_
  refine lv_aload_n hx hb dX1_word_34 rfl (lv_at hl 1 rfl) ?_
  refine q_f hC hx hb hts hin1 hown (hJ0.1.ex hE) 1 (by decide) (hts (.fieldLink RX1 9 "AbjadPoemsLaw$Sim" "lines" "[[I") (by decide +kernel)) (v := .ref lo) rfl dX1_word_35 ?_
  refine lv_iload_n hx hb dX1_word_38 rfl (lv_at hl 2 rfl) ?_
  refine q_o hC hx hb (hJ0.2.1.ex hE) (ty := .array .int) rfl rfl dX1_word_39 (j := li) (by omega) (by omega) (v := la li) rfl ?_
  refine lv_iload_n hx hb dX1_word_40 rfl (lv_at hl 3 rfl) ?_
  refine q_i hC hx hb ((hJ0.2.2.2.1 li (by omega)).ex hE) dX1_word_41 (j := wi) (by omega) (by omega) ?_
  refine lv_tn (w := nI (sw cJ (10 * li + wi))) rfl ?_
  refine k_qV (As := [.int (nI (sw cJ (10 * li + wi)))]) (rest := [.int (nI 2), .ref q_13, .ref q_13]) (c_X1_value l B0 g ct ad cS m_30 x_8 o cJ hI ⟨lo, mo, la, wa, ba, hJ0.ex hE⟩ (sw cJ (10 * li + wi)) (by omega)) hC hS ⟨hx, hb, hml, hown, hts⟩ (cwV 1 hts gX1_word_X1_value rfl rfl rfl (by decide +kernel) ⟨Nat.le_of_ble_eq_true rfl, Nat.le_of_ble_eq_true rfl⟩) (rc1 hC (hJ0.1.ex hE)) rfl hl.1 rfl (Nat.le_of_ble_eq_true rfl) dX1_word_42 ⟨(by show _ ≤ 3; omega), (by show _ ≤ 17; omega)⟩ (fun m_42 x_42 H locs hr_42 hC hS => ?_)
  have A_8 := A_8.ex hr_42
  have A_30 := A_30.ex hr_42
  have hE := Ex_t hE hr_42
  refine u_i hC hB hS hx hb A_30 dX1_word_45 (j := 2) (v := nI (ws0 (so cJ) (sw cJ (10 * li + wi)))) (by omega) (by omega) (fun m_45 H locs pu_45 A_45 hC hS => ?_)
  have A_8 := A_8.pu pu_45 d_13_8
  have hE := hE.pu fb_13 pu_45
  refine lv_dup hx hb dX1_word_46 rfl ?_
  refine lv_iconst (v := nI 3) hx hb dX1_word_47 (by decide) ?_
  refine lv_iconst (v := nI 0) hx hb dX1_word_48 (by decide) ?_
  refine u_i hC hB hS hx hb A_45 dX1_word_49 (j := 3) (v := nI 0) (by omega) (by omega) (fun m_49 H locs pu_49 A_49 hC hS => ?_)
  have A_8 := A_8.pu pu_49 d_13_8
  have hE := hE.pu fb_13 pu_49
  refine lv_dup hx hb dX1_word_50 rfl ?_
  refine lv_iconst (v := nI 4) hx hb dX1_word_51 (by decide) ?_
  refine lv_iconst (v := nI 0) hx hb dX1_word_52 (by decide) ?_
  refine u_i hC hB hS hx hb A_49 dX1_word_53 (j := 4) (v := nI 0) (by omega) (by omega) (fun m_53 H locs pu_53 A_53 hC hS => ?_)
  have A_8 := A_8.pu pu_53 d_13_8
  have hE := hE.pu fb_13 pu_53
  have A_53 : AI_ ct m_53 q_13 5 (t5_ (sw cJ (10 * li + wi)) (ln_ (sw cJ (10 * li + wi))) (ws0 (so cJ) (sw cJ (10 * li + wi))) (0) (0)) := A_53.to (fun j hj => by rcases (show j = 0 ∨ j = 1 ∨ j = 2 ∨ j = 3 ∨ j = 4 by omega) with rfl | rfl | rfl | rfl | rfl <;> rfl)
  refine lv_astore (lv' := [(4, .ref q_13), (3, .ref q_8), (0, .ref o), (1, .int (nI li)), (2, .int (nI wi))]) hx hb dX1_word_54 hl (by decide) rfl (fun ls hl => ?_)
  refine lv_iconst (v := nI 0) hx hb dX1_word_56 (by decide) ?_
  refine lv_istore (lv' := [(5, .int (nI 0)), (4, .ref q_13), (3, .ref q_8), (0, .ref o), (1, .int (nI li)), (2, .int (nI wi))]) hx hb dX1_word_57 hl (by decide) rfl (fun ls hl => ?_)
  have LP_59 : ∀ (n_ : Nat) (k : Nat) (d_ : Nat) (e_ : Nat) (mL : Pl_) (xL : Ax_), ln_ (sw cJ (10 * li + wi)) - k < n_ → (d_ = qs_ (wb_ (sk cJ (10 * li + wi))) k) → (e_ = wq_ (so cJ) (sw cJ (10 * li + wi)) (sk cJ (10 * li + wi)) k) → (k ≤ ln_ (sw cJ (10 * li + wi))) → Ex_ mS mL → AI_ ct mL q_8 (ln_ (sw cJ (10 * li + wi))) (fun k => nI (at_ (sw cJ (10 * li + wi)) k)) → AI_ ct mL q_13 5 (t5_ (sw cJ (10 * li + wi)) (ln_ (sw cJ (10 * li + wi))) (ws0 (so cJ) (sw cJ (10 * li + wi))) (d_) (e_)) → ∀ (H : Heap) (locs : List Loc), CX B0 g ct ad cS mL xL s H → va_S (AA B0) s.heap H locs → ∀ ls : Array Slot, lv_has ls 6 [(5, .int (nI k)), (4, .ref q_13), (3, .ref q_8), (0, .ref o), (1, .int (nI li)), (2, .int (nI wi))] → W p l e (headSpec wsX1_word (rm_ 2 3 17)).room s m ([.ref o, .int (nI li), .int (nI wi)] : List Value).toArray below meth c H locs (0 + 1 + 1 + 1) (0 + 6 + 5 + 6) (MQ below (va_Qr (fun (_ : Qu_) => True) (fun u r t => (fun r m1 => Ex_ mS m1 ∧ r ∉ mS.1 ∧ AI_ ct m1 r 5 (fun q => nI (wt_ cJ li wi q))) r u.1 ∧ CW B0 g ct ad cS u.1 u.2 t.heap) (AA B0)) ([.ref o, .int (nI li), .int (nI wi)] : List Value).toArray s 3 17 (AA B0)) (F0 m 59 ls []) := by
    intro n_
    induction n_ with
    | zero => intro k d_ e_ mL xL hm; exact absurd hm (Nat.not_lt_zero _)
    | succ n_ ih_59 =>
      intro k d_ e_ mL xL hm h1 h2 h3 hE A_8 A_53 H locs hC hS ls hl
      refine lv_iload hx hb dX1_word_59 (lv_at hl 0 rfl) ?_
      refine lv_aload_n hx hb dX1_word_61 rfl (lv_at hl 2 rfl) ?_
      refine q_il hC hx hb A_8 dX1_word_62 ?_
      refine lv_icmp_ge (tgt := 115) hx hb dX1_word_63 (by decide) (fun c_63 => ?_) (fun c_63 => ?_)
      · skip
        have n_63 : ln_ (sw cJ (10 * li + wi)) ≤ k := (nI_leI (a := ln_ (sw cJ (10 * li + wi))) (b := k) (by omega) (by omega)).mp c_63
        have hk9 : k = ln_ (sw cJ (10 * li + wi)) := by omega
        have A_end : AI_ ct mL q_13 5 (fun q => nI (wt_ cJ li wi q)) := A_53.to (fun j hj => t5_w hj (by rw [h1, hk9]; rfl) (by rw [h2, hk9]; rfl))
        refine lv_aload hx hb dX1_word_115 (lv_at hl 1 rfl) ?_
        refine W.widen (k := 3) (n := 17) (by omega) (by omega) ?_
        exact W.aret hx hb hr (Or.inr ⟨_, rfl⟩) (Or.inr ⟨_, rfl⟩) (fun t ht hW => ⟨⟨(mL, xL), _, rfl, trivial, ⟨hE, fb_13, A_end⟩, (by show CW B0 g ct ad cS mL xL t.heap; rw [ht]; exact hC.1)⟩, hS.F ht⟩) hS.2.2 dX1_word_117
      · skip
        have n_63 : ¬ ln_ (sw cJ (10 * li + wi)) ≤ k := fun q__ => c_63 ((nI_leI (a := ln_ (sw cJ (10 * li + wi))) (b := k) (by omega) (by omega)).mpr q__)
        refine lv_aload_n hx hb dX1_word_66 rfl (lv_at hl 3 rfl) ?_
        refine q_f hC hx hb hts hin1 hown (hJ0.1.ex hE) 2 (by decide) (hts (.fieldLink RX1 17 "AbjadPoemsLaw$Sim" "marks" "[[[Z") (by decide +kernel)) (v := .ref mo) rfl dX1_word_67 ?_
        refine lv_iload_n hx hb dX1_word_70 rfl (lv_at hl 4 rfl) ?_
        refine q_o hC hx hb (hJ0.2.2.1.ex hE) (ty := .array (.array .boolean)) rfl rfl dX1_word_71 (j := li) (by omega) (by omega) (v := wa li) rfl ?_
        refine lv_iload_n hx hb dX1_word_72 rfl (lv_at hl 5 rfl) ?_
        refine q_o hC hx hb ((hJ0.2.2.2.2.1 li (by omega)).ex hE) (ty := .array .boolean) rfl rfl dX1_word_73 (j := wi) (by omega) (by omega) (v := ba li wi) rfl ?_
        refine lv_iload hx hb dX1_word_74 (lv_at hl 0 rfl) ?_
        refine q_z hC hx hb ((hJ0.2.2.2.2.2.1 li wi (by omega) (by omega)).ex hE) dX1_word_76 (j := k) (by omega) (by omega) ?_
        refine lv_tn (w := b2_ ((sk cJ (10 * li + wi)).testBit k)) rfl ?_
        refine lv_if_ne (tgt := 83) hx hb dX1_word_77 (by decide) (fun c_77 => ?_) (fun c_77 => ?_)
        · skip
          have hbt : (sk cJ (10 * li + wi)).testBit k = true := b2_ne c_77
          refine lv_aload hx hb dX1_word_83 (lv_at hl 1 rfl) ?_
          refine lv_iconst (v := nI 3) hx hb dX1_word_85 (by decide) ?_
          refine lv_dup2_11 hx hb dX1_word_86 rfl rfl ?_
          refine q_i hC hx hb A_53 dX1_word_87 (j := 3) (by omega) (by omega) ?_
          refine lv_tn (w := nI d_) rfl ?_
          refine lv_iconst (v := nI 1) hx hb dX1_word_88 (by decide) ?_
          refine lv_iadd hx hb dX1_word_89 ?_
          refine lv_tn (nI_add _ _) ?_
          refine u_i hC hB hS hx hb A_53 dX1_word_90 (j := 3) (v := nI (d_ + 1)) (by omega) (by omega) (fun m_90 H locs pu_90 A_90 hC hS => ?_)
          have A_8 := A_8.pu pu_90 d_13_8
          have hE := hE.pu fb_13 pu_90
          have A_90 : AI_ ct m_90 q_13 5 (t5_ (sw cJ (10 * li + wi)) (ln_ (sw cJ (10 * li + wi))) (ws0 (so cJ) (sw cJ (10 * li + wi))) (d_ + 1) (e_)) := A_90.to (fun j hj => by rcases (show j = 0 ∨ j = 1 ∨ j = 2 ∨ j = 3 ∨ j = 4 by omega) with rfl | rfl | rfl | rfl | rfl <;> rfl)
          refine lv_aload hx hb dX1_word_91 (lv_at hl 1 rfl) ?_
          refine lv_iconst (v := nI 4) hx hb dX1_word_93 (by decide) ?_
          refine lv_dup2_11 hx hb dX1_word_94 rfl rfl ?_
          refine q_i hC hx hb A_90 dX1_word_95 (j := 4) (by omega) (by omega) ?_
          refine lv_tn (w := nI e_) rfl ?_
          refine lv_aload_n hx hb dX1_word_96 rfl (lv_at hl 3 rfl) ?_
          refine q_f hC hx hb hts hin1 hown (hJ0.1.ex hE) 0 (by decide) (hts (.fieldLink RX1 27 "AbjadPoemsLaw$Sim" "order" "I") (by decide +kernel)) (v := .int (nI (so cJ))) rfl dX1_word_97 ?_
          refine lv_aload_n hx hb dX1_word_100 rfl (lv_at hl 2 rfl) ?_
          refine lv_iload hx hb dX1_word_101 (lv_at hl 0 rfl) ?_
          refine q_i hC hx hb A_8 dX1_word_103 (j := k) (by omega) (by omega) ?_
          refine lv_tn (w := nI (at_ (sw cJ (10 * li + wi)) k)) rfl ?_
          refine k_fN (As := [.int (nI (so cJ)), .int (nI (at_ (sw cJ (10 * li + wi)) k))]) (rest := [.int (nI e_), .int (nI 4), .ref q_13]) (c_L_value l (so cJ) (at_ (sw cJ (10 * li + wi)) k) hI.1 (at_lt _ _)) hC hS ⟨hx, hb, hml, hown, hts⟩ ⟨va_cnB 2 hts gX1_word_L_value_n31 rfl rfl rfl hC.2.2.2.2.2.2.1 (hts (.initialized RL) (by decide +kernel)) (by decide +kernel) ⟨Nat.le_of_ble_eq_true rfl, Nat.le_of_ble_eq_true rfl⟩, hts (.static yL_value) (by decide +kernel), trivial⟩ rfl hl.1 rfl (Nat.le_of_ble_eq_true rfl) dX1_word_104 ⟨(by show _ ≤ 3; omega), (by show _ ≤ 17; omega)⟩ (fun H locs hC hS => ?_)
          refine lv_iadd hx hb dX1_word_107 ?_
          refine lv_tn (nI_add _ _) ?_
          refine u_i hC hB hS hx hb A_90 dX1_word_108 (j := 4) (v := nI (e_ + (vl_ (so cJ) (at_ (sw cJ (10 * li + wi)) k)))) (by omega) (by omega) (fun m_108 H locs pu_108 A_108 hC hS => ?_)
          have A_8 := A_8.pu pu_108 d_13_8
          have hE := hE.pu fb_13 pu_108
          have A_108 : AI_ ct m_108 q_13 5 (t5_ (sw cJ (10 * li + wi)) (ln_ (sw cJ (10 * li + wi))) (ws0 (so cJ) (sw cJ (10 * li + wi))) (d_ + 1) (e_ + vl_ (so cJ) (at_ (sw cJ (10 * li + wi)) k))) := A_108.to (fun j hj => by rcases (show j = 0 ∨ j = 1 ∨ j = 2 ∨ j = 3 ∨ j = 4 by omega) with rfl | rfl | rfl | rfl | rfl <;> rfl)
          refine lv_iinc (v := nI (k + 1)) (lv' := [(5, .int (nI (k + 1))), (4, .ref q_13), (3, .ref q_8), (0, .ref o), (1, .int (nI li)), (2, .int (nI wi))]) hx hb dX1_word_109 hl (k := 0) rfl (nI_1 _) (by decide) rfl (fun ls hl => ?_)
          refine lv_goto (tgt := 59) hx hb dX1_word_112 (by decide) ?_
          refine W.widen (k := 0 + 1 + 1 + 1) (n := 0 + 6 + 5 + 6) (by omega) (by omega) ?_
          exact ih_59 (k + 1) (d_ + 1) (e_ + vl_ (so cJ) (at_ (sw cJ (10 * li + wi)) k)) m_108 xL (by omega) (by first | (rw [wb_1 hbt, h1]) | (rw [wb_2 hbt]; exact h1)) (by first | (rw [wq_1 hbt, h2]) | (rw [wq_2 hbt]; exact h2)) (by omega) hE A_8 (A_108.to (fun j hj => rfl)) H locs hC hS ls (lv_sub hl [0, 1, 2, 3, 4, 5] rfl)
        · skip
          have hbt : (sk cJ (10 * li + wi)).testBit k = false := b2_0.mp c_77
          refine lv_goto (tgt := 109) hx hb dX1_word_80 (by decide) ?_
          refine lv_iinc (v := nI (k + 1)) (lv' := [(5, .int (nI (k + 1))), (4, .ref q_13), (3, .ref q_8), (0, .ref o), (1, .int (nI li)), (2, .int (nI wi))]) hx hb dX1_word_109 hl (k := 0) rfl (nI_1 _) (by decide) rfl (fun ls hl => ?_)
          refine lv_goto (tgt := 59) hx hb dX1_word_112 (by decide) ?_
          refine W.widen (k := 0 + 1 + 1 + 1) (n := 0 + 6 + 5 + 6) (by omega) (by omega) ?_
          exact ih_59 (k + 1) d_ e_ mL xL (by omega) (by first | (rw [wb_1 hbt, h1]) | (rw [wb_2 hbt]; exact h1)) (by first | (rw [wq_1 hbt, h2]) | (rw [wq_2 hbt]; exact h2)) (by omega) hE A_8 (A_53.to (fun j hj => rfl)) H locs hC hS ls (lv_sub hl [0, 1, 2, 3, 4, 5] rfl)
  refine W.widen (k := 0 + 1 + 1 + 1) (n := 0 + 6 + 5 + 6) (by omega) (by omega) ?_
  exact LP_59 _ 0 0 0 m_53 x_42 (Nat.lt_succ_self _) rfl rfl (Nat.zero_le _) hE A_8 (A_53.to (fun j hj => rfl)) H locs hC hS ls (lv_sub hl [0, 1, 2, 3, 4, 5] rfl)
set_option maxHeartbeats 4000000 in
set_option maxRecDepth 100000 in
theorem c_X1_line (l : Launch) (B0 : Nat) (g : va_G) (ct ad : Nat → Nat) (cS : St_) (mS : Pl_) (x : Ax_) (o : Nat) (cJ : St_) (hI : Iv_ cJ) (hJ : SI_ ct mS o cJ) (li : Nat) (hln : li < sn cJ) : WR l yX1_line wsX1_line 3 31 175 B0 g ct ad cS mS x [.ref o, .int (nI li)] cS (fun r m1 => Ex_ mS m1 ∧ r ∉ mS.1 ∧ AI_ ct m1 r 5 (fun q => nI (lt_ cJ li q))) := by
  refine Met.ofW (cc := cX1_line) (maxL := 6) (ret := (some (.array .int))) (by decide) rfl ?_
  intro p e s m args below meth c s₁ B hml hv
  obtain ⟨rfl, hC⟩ := hv
  have hx := B.exec
  have hb := B.bytes
  have hr := B.returns
  have hts := atoms_spec (ws := wsX1_line) B.pre
  have hown : s.vm.findClass RX1 = some m.cls := findClass_of_methodNamed B.named
  have hlocks := B.notSynchronized
  have hin1 : ∀ w ∈ wsX10, w ∈ wsX1_line := fun _ h => List.mem_cons_of_mem _ (List.mem_append_right _ h)
  have hS : va_S (AA B0) s.heap s.heap [] := va_S.rf
  have hB : B0 ≤ s.heap.size := hC.1.2.2.1
  obtain ⟨lo, mo, la, wa, ba, hJ0⟩ := hJ
  have hE := Ex_r mS
  have h12 := hI.2.1
  have h10 := hI.2.2.1
  have hls := h10 li
  have hl := lv_entry ([.ref o, .int (nI li)]) (n := 6) (Nat.le_of_ble_eq_true rfl)
  rw [lg_entry_eq]
  generalize (lg_sl ([.ref o, .int (nI li)]) ++ List.replicate (6 - (lg_sl ([.ref o, .int (nI li)])).length) Slot.unset).toArray = ls at hl ⊢
  have hl : lv_has ls 6 [(0, .ref o), (1, .int (nI li))] := hl
  refine lv_iconst (v := nI 5) hx hb dX1_line_0 (by decide) ?_
  refine n_i hC hB hS hx hb (hts (.arrayClass .int) (by decide +kernel)) (j := 5) (by omega) (by show _ ≤ 31; omega) (by show _ ≤ 175; omega) dX1_line_1 (fun q_1 m_1 H fq_1 xq_1 A_1 hC hS => ?_)
  have fb_1 : q_1 ∉ mS.1 := hE.nin fq_1
  have hE := Ex_t hE xq_1
  refine lv_dup hx hb dX1_line_3 rfl ?_
  refine lv_iconst (v := nI 0) hx hb dX1_line_4 (by decide) ?_
  refine lv_aload_n hx hb dX1_line_5 rfl (lv_at hl 0 rfl) ?_
  refine q_f hC hx hb hts hin1 hown (hJ0.1.ex hE) 1 (by decide) (hts (.fieldLink RX1 9 "AbjadPoemsLaw$Sim" "lines" "[[I") (by decide +kernel)) (v := .ref lo) rfl dX1_line_6 ?_
  refine lv_iload_n hx hb dX1_line_9 rfl (lv_at hl 1 rfl) ?_
  refine q_o hC hx hb (hJ0.2.1.ex hE) (ty := .array .int) rfl rfl dX1_line_10 (j := li) (by omega) (by omega) (v := la li) rfl ?_
  refine q_il hC hx hb ((hJ0.2.2.2.1 li (by omega)).ex hE) dX1_line_11 ?_
  refine u_i hC hB hS hx hb A_1 dX1_line_12 (j := 0) (v := nI (ss cJ li)) (by omega) (by omega) (fun m_12 H locs pu_12 A_12 hC hS => ?_)
  have hE := hE.pu fb_1 pu_12
  refine lv_dup hx hb dX1_line_13 rfl ?_
  refine lv_iconst (v := nI 1) hx hb dX1_line_14 (by decide) ?_
  refine lv_iconst (v := nI 0) hx hb dX1_line_15 (by decide) ?_
  refine u_i hC hB hS hx hb A_12 dX1_line_16 (j := 1) (v := nI 0) (by omega) (by omega) (fun m_16 H locs pu_16 A_16 hC hS => ?_)
  have hE := hE.pu fb_1 pu_16
  refine lv_dup hx hb dX1_line_17 rfl ?_
  refine lv_iconst (v := nI 2) hx hb dX1_line_18 (by decide) ?_
  refine lv_iconst (v := nI 0) hx hb dX1_line_19 (by decide) ?_
  refine u_i hC hB hS hx hb A_16 dX1_line_20 (j := 2) (v := nI 0) (by omega) (by omega) (fun m_20 H locs pu_20 A_20 hC hS => ?_)
  have hE := hE.pu fb_1 pu_20
  refine lv_dup hx hb dX1_line_21 rfl ?_
  refine lv_iconst (v := nI 3) hx hb dX1_line_22 (by decide) ?_
  refine lv_iconst (v := nI 0) hx hb dX1_line_23 (by decide) ?_
  refine u_i hC hB hS hx hb A_20 dX1_line_24 (j := 3) (v := nI 0) (by omega) (by omega) (fun m_24 H locs pu_24 A_24 hC hS => ?_)
  have hE := hE.pu fb_1 pu_24
  refine lv_dup hx hb dX1_line_25 rfl ?_
  refine lv_iconst (v := nI 4) hx hb dX1_line_26 (by decide) ?_
  refine lv_iconst (v := nI 0) hx hb dX1_line_27 (by decide) ?_
  refine u_i hC hB hS hx hb A_24 dX1_line_28 (j := 4) (v := nI 0) (by omega) (by omega) (fun m_28 H locs pu_28 A_28 hC hS => ?_)
  have hE := hE.pu fb_1 pu_28
  have A_28 : AI_ ct m_28 q_1 5 (fun j => if j = 0 then nI (ss cJ li) else nI (qs_ (fun w => wt_ cJ li w j) 0)) := A_28.to (fun j hj => by rcases (show j = 0 ∨ j = 1 ∨ j = 2 ∨ j = 3 ∨ j = 4 by omega) with rfl | rfl | rfl | rfl | rfl <;> rfl)
  refine lv_astore_n (lv' := [(2, .ref q_1), (0, .ref o), (1, .int (nI li))]) hx hb dX1_line_29 rfl hl (by decide) rfl (fun ls hl => ?_)
  refine lv_iconst (v := nI 0) hx hb dX1_line_30 (by decide) ?_
  refine lv_istore_n (lv' := [(3, .int (nI 0)), (2, .ref q_1), (0, .ref o), (1, .int (nI li))]) hx hb dX1_line_31 rfl hl (by decide) rfl (fun ls hl => ?_)
  have LP_32 : ∀ (n_ : Nat) (k : Nat) (mL : Pl_) (xL : Ax_), ss cJ li - k < n_ → (k ≤ ss cJ li) → Ex_ mS mL → AI_ ct mL q_1 5 (fun j => if j = 0 then nI (ss cJ li) else nI (qs_ (fun w => wt_ cJ li w j) k)) → ∀ (H : Heap) (locs : List Loc), CX B0 g ct ad cS mL xL s H → va_S (AA B0) s.heap H locs → ∀ ls : Array Slot, lv_has ls 6 [(3, .int (nI k)), (2, .ref q_1), (0, .ref o), (1, .int (nI li))] → W p l e (headSpec wsX1_line (rm_ 3 31 175)).room s m ([.ref o, .int (nI li)] : List Value).toArray below meth c H locs (1 + 3 * k) (5 + 17 * k) (MQ below (va_Qr (fun (_ : Qu_) => True) (fun u r t => (fun r m1 => Ex_ mS m1 ∧ r ∉ mS.1 ∧ AI_ ct m1 r 5 (fun q => nI (lt_ cJ li q))) r u.1 ∧ CW B0 g ct ad cS u.1 u.2 t.heap) (AA B0)) ([.ref o, .int (nI li)] : List Value).toArray s 31 175 (AA B0)) (F0 m 32 ls []) := by
    intro n_
    induction n_ with
    | zero => intro k mL xL hm; exact absurd hm (Nat.not_lt_zero _)
    | succ n_ ih_32 =>
      intro k mL xL hm hk hE A_28 H locs hC hS ls hl
      refine lv_iload_n hx hb dX1_line_32 rfl (lv_at hl 0 rfl) ?_
      refine lv_aload_n hx hb dX1_line_33 rfl (lv_at hl 2 rfl) ?_
      refine q_f hC hx hb hts hin1 hown (hJ0.1.ex hE) 1 (by decide) (hts (.fieldLink RX1 9 "AbjadPoemsLaw$Sim" "lines" "[[I") (by decide +kernel)) (v := .ref lo) rfl dX1_line_34 ?_
      refine lv_iload_n hx hb dX1_line_37 rfl (lv_at hl 3 rfl) ?_
      refine q_o hC hx hb (hJ0.2.1.ex hE) (ty := .array .int) rfl rfl dX1_line_38 (j := li) (by omega) (by omega) (v := la li) rfl ?_
      refine q_il hC hx hb ((hJ0.2.2.2.1 li (by omega)).ex hE) dX1_line_39 ?_
      refine lv_icmp_ge (tgt := 84) hx hb dX1_line_40 (by decide) (fun c_40 => ?_) (fun c_40 => ?_)
      · skip
        have n_40 : ss cJ li ≤ k := (nI_leI (a := ss cJ li) (b := k) (by omega) (by omega)).mp c_40
        have hk9 : k = ss cJ li := by omega
        have A_end : AI_ ct mL q_1 5 (fun q => nI (lt_ cJ li q)) := A_28.to (fun j hj => l5_z hk9)
        refine lv_aload_n hx hb dX1_line_84 rfl (lv_at hl 1 rfl) ?_
        refine W.widen (k := 31) (n := 175) (by omega) (by omega) ?_
        exact W.aret hx hb hr (Or.inr ⟨_, rfl⟩) (Or.inr ⟨_, rfl⟩) (fun t ht hW => ⟨⟨(mL, xL), _, rfl, trivial, ⟨hE, fb_1, A_end⟩, (by show CW B0 g ct ad cS mL xL t.heap; rw [ht]; exact hC.1)⟩, hS.F ht⟩) hS.2.2 dX1_line_85
      · skip
        have n_40 : ¬ ss cJ li ≤ k := fun q__ => c_40 ((nI_leI (a := ss cJ li) (b := k) (by omega) (by omega)).mpr q__)
        refine lv_aload_n hx hb dX1_line_43 rfl (lv_at hl 2 rfl) ?_
        refine lv_iload_n hx hb dX1_line_44 rfl (lv_at hl 3 rfl) ?_
        refine lv_iload_n hx hb dX1_line_45 rfl (lv_at hl 0 rfl) ?_
        refine k_RV (As := [.int (nI li), .int (nI k)]) (rest := []) (c_X1_word l B0 g ct ad cS mL xL o cJ hI ⟨lo, mo, la, wa, ba, hJ0.ex hE⟩ li k (by omega) (by omega)) hC hS ⟨hx, hb, hml, hown, hts⟩ (cwV 2 hts gX1_line_X1_word rfl rfl rfl (by decide +kernel) ⟨Nat.le_of_ble_eq_true rfl, Nat.le_of_ble_eq_true rfl⟩) (rc1 hC (hJ0.1.ex hE)) rfl hl.1 rfl (Nat.le_of_ble_eq_true rfl) dX1_line_46 ⟨(by show _ ≤ 31; omega), (by show _ ≤ 175; omega)⟩ (fun m_46 x_46 q_46 H locs hr_46 hC hS => ?_)
        obtain ⟨xq_46, fq_46, A_46⟩ := hr_46
        have d_46_1 : q_1 ≠ q_46 := fun e9 => fq_46 (e9 ▸ A_28.1)
        have A_28 := A_28.ex xq_46
        have fb_46 : q_46 ∉ mS.1 := hE.nin fq_46
        have hE := Ex_t hE xq_46
        refine lv_astore (lv' := [(4, .ref q_46), (3, .int (nI k)), (2, .ref q_1), (0, .ref o), (1, .int (nI li))]) hx hb dX1_line_49 hl (by decide) rfl (fun ls hl => ?_)
        refine lv_iconst (v := nI 1) hx hb dX1_line_51 (by decide) ?_
        refine lv_istore (lv' := [(5, .int (nI 1)), (4, .ref q_46), (3, .int (nI k)), (2, .ref q_1), (0, .ref o), (1, .int (nI li))]) hx hb dX1_line_52 hl (by decide) rfl (fun ls hl => ?_)
        have LP_54 : ∀ (n_ : Nat) (p_ : Nat) (mL : Pl_) (xL : Ax_), 5 - p_ < n_ → (1 ≤ p_ ∧ p_ ≤ 5) → Ex_ mS mL → AI_ ct mL q_1 5 (fun j => if j = 0 then nI (ss cJ li) else if j < p_ then nI (qs_ (fun w => wt_ cJ li w j) (k + 1)) else nI (qs_ (fun w => wt_ cJ li w j) k)) → AI_ ct mL q_46 5 (fun q => nI (wt_ cJ li k q)) → ∀ (H : Heap) (locs : List Loc), CX B0 g ct ad cS mL xL s H → va_S (AA B0) s.heap H locs → ∀ ls : Array Slot, lv_has ls 6 [(5, .int (nI p_)), (4, .ref q_46), (3, .int (nI k)), (2, .ref q_1), (0, .ref o), (1, .int (nI li))] → W p l e (headSpec wsX1_line (rm_ 3 31 175)).room s m ([.ref o, .int (nI li)] : List Value).toArray below meth c H locs (1 + 3 * k + 3) (5 + 17 * k + 17) (MQ below (va_Qr (fun (_ : Qu_) => True) (fun u r t => (fun r m1 => Ex_ mS m1 ∧ r ∉ mS.1 ∧ AI_ ct m1 r 5 (fun q => nI (lt_ cJ li q))) r u.1 ∧ CW B0 g ct ad cS u.1 u.2 t.heap) (AA B0)) ([.ref o, .int (nI li)] : List Value).toArray s 31 175 (AA B0)) (F0 m 54 ls []) := by
          intro n_
          induction n_ with
          | zero => intro p_ mL xL hm; exact absurd hm (Nat.not_lt_zero _)
          | succ n_ ih_54 =>
            intro p_ mL xL hm hp hE A_28 A_46 H locs hC hS ls hl
            refine lv_iload hx hb dX1_line_54 (lv_at hl 0 rfl) ?_
            refine lv_iconst (v := nI 5) hx hb dX1_line_56 (by decide) ?_
            refine lv_icmp_ge (tgt := 78) hx hb dX1_line_57 (by decide) (fun c_57 => ?_) (fun c_57 => ?_)
            · skip
              have n_57 : 5 ≤ p_ := (nI_leI (a := 5) (b := p_) (by omega) (by omega)).mp c_57
              have hp5 : p_ = 5 := by omega
              refine lv_iinc (v := nI (k + 1)) (lv' := [(3, .int (nI (k + 1))), (5, .int (nI p_)), (4, .ref q_46), (2, .ref q_1), (0, .ref o), (1, .int (nI li))]) hx hb dX1_line_78 hl (k := 2) rfl (nI_1 _) (by decide) rfl (fun ls hl => ?_)
              refine lv_goto (tgt := 32) hx hb dX1_line_81 (by decide) ?_
              refine W.widen (k := 1 + 3 * (k + 1)) (n := 5 + 17 * (k + 1)) (by omega) (by omega) ?_
              exact ih_32 (k + 1) mL xL (by omega) (by omega) hE (A_28.to (fun j hj => l5_e hj (by omega))) H locs hC hS ls (lv_sub hl [0, 3, 4, 5] rfl)
            · skip
              have n_57 : ¬ 5 ≤ p_ := fun q__ => c_57 ((nI_leI (a := 5) (b := p_) (by omega) (by omega)).mpr q__)
              refine lv_aload_n hx hb dX1_line_60 rfl (lv_at hl 3 rfl) ?_
              refine lv_iload hx hb dX1_line_61 (lv_at hl 0 rfl) ?_
              refine lv_dup2_11 hx hb dX1_line_63 rfl rfl ?_
              refine q_i hC hx hb A_28 dX1_line_64 (j := p_) (by omega) (by omega) ?_
              refine lv_tn (w := nI (qs_ (fun w => wt_ cJ li w p_) k)) (l5_r (by omega)) ?_
              refine lv_aload hx hb dX1_line_65 (lv_at hl 1 rfl) ?_
              refine lv_iload hx hb dX1_line_67 (lv_at hl 0 rfl) ?_
              refine q_i hC hx hb A_46 dX1_line_69 (j := p_) (by omega) (by omega) ?_
              refine lv_tn (w := nI (wt_ cJ li k p_)) rfl ?_
              refine lv_iadd hx hb dX1_line_70 ?_
              refine lv_tn (nI_add _ _) ?_
              refine u_i hC hB hS hx hb A_28 dX1_line_71 (j := p_) (v := nI ((qs_ (fun w => wt_ cJ li w p_) k) + (wt_ cJ li k p_))) (by omega) (by omega) (fun m_71 H locs pu_71 A_71 hC hS => ?_)
              have A_46 := A_46.pu pu_71 d_46_1.symm
              have hE := hE.pu fb_1 pu_71
              have A_71 : AI_ ct m_71 q_1 5 (fun j => if j = 0 then nI (ss cJ li) else if j < (p_ + 1) then nI (qs_ (fun w => wt_ cJ li w j) (k + 1)) else nI (qs_ (fun w => wt_ cJ li w j) k)) := A_71.to (fun j hj => l5_s (by omega))
              refine lv_iinc (v := nI (p_ + 1)) (lv' := [(5, .int (nI (p_ + 1))), (4, .ref q_46), (3, .int (nI k)), (2, .ref q_1), (0, .ref o), (1, .int (nI li))]) hx hb dX1_line_72 hl (k := 0) rfl (nI_1 _) (by decide) rfl (fun ls hl => ?_)
              refine lv_goto (tgt := 54) hx hb dX1_line_75 (by decide) ?_
              refine W.widen (k := 1 + 3 * k + 3) (n := 5 + 17 * k + 17) (by omega) (by omega) ?_
              exact ih_54 (p_ + 1) m_71 xL (by omega) (by omega) hE (A_71.to (fun j hj => rfl)) A_46 H locs hC hS ls (lv_sub hl [0, 1, 2, 3, 4, 5] rfl)
        refine W.widen (k := 1 + 3 * k + 3) (n := 5 + 17 * k + 17) (by omega) (by omega) ?_
        exact LP_54 _ 1 m_46 x_46 (Nat.lt_succ_self _) (by omega) hE (A_28.to (fun j hj => l5_a)) A_46 H locs hC hS ls (lv_sub hl [0, 1, 2, 3, 4, 5] rfl)
  refine W.widen (k := 1 + 3 * 0) (n := 5 + 17 * 0) (by omega) (by omega) ?_
  exact LP_32 _ 0 m_28 x (Nat.lt_succ_self _) (Nat.zero_le _) hE (A_28.to (fun j hj => rfl)) H locs hC hS ls (lv_sub hl [0, 1, 2, 3] rfl)
