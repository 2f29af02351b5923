set_option maxHeartbeats 4000000 in
set_option maxRecDepth 100000 in
theorem c_X1_init (l : Launch) (B0 : Nat) (g : va_G) (ct ad : Nat → Nat) (cS : St_) (mS : Pl_) (x : Ax_) (o : Nat) (hO : OB_ mS o 0 none none) : WN l yX1_init wsX1_init 1 2 0 B0 g ct ad cS mS x [.ref o] cS (fun m1 => SI_ ct m1 o z0_) := by
  refine Met.ofW (cc := cX1_init) (maxL := 1) (ret := none) (by decide) rfl ?_
  intro p e s m args below meth c s₁ B hml hv
  obtain ⟨rfl, hC⟩ := hv
  have hx := B.exec
  have hb := B.bytes
  have hr := B.returns
  have hts := atoms_spec (ws := wsX1_init) B.pre
  have hown : s.vm.findClass RX1 = some m.cls := findClass_of_methodNamed B.named
  have hlocks := B.notSynchronized
  have hin1 : ∀ w ∈ wsX10, w ∈ wsX1_init := fun _ h => List.mem_cons_of_mem _ (List.mem_append_right _ h)
  have hS : va_S (AA B0) s.heap s.heap [] := va_S.rf
  have hB : B0 ≤ s.heap.size := hC.1.2.2.1
  have hE := Ex_r mS
  have hl := lv_entry ([.ref o]) (n := 1) (Nat.le_of_ble_eq_true rfl)
  rw [lg_entry_eq]
  generalize (lg_sl ([.ref o]) ++ List.replicate (1 - (lg_sl ([.ref o])).length) Slot.unset).toArray = ls at hl ⊢
  have hl : lv_has ls 1 [(0, .ref o)] := hl
  refine lv_aload_n hx hb dX1_init_0 rfl (lv_at hl 0 rfl) ?_
  refine W.objInit hx hb hown (hts (.methodLink RX1 1 objectInit) (by decide +kernel)) (hts (.instanceMethod objectInit) (by decide +kernel)) (hts (.code objectInit ⟨#[0xb1]⟩ 1 none) (by decide +kernel)) rfl (by rw [hml]; exact hl.1) rfl dX1_init_1 (Nat.le_of_ble_eq_true rfl) (Nat.le_of_ble_eq_true rfl) ?_
  refine W.eq (g2 := F0 m 4 ls []) rfl ?_
  refine lv_aload_n hx hb dX1_init_4 rfl (lv_at hl 0 rfl) ?_
  refine lv_iconst (v := nI 0) hx hb dX1_init_5 (by decide) ?_
  refine n_o hC hB hS hx hb (ty := .int) (t := 1) hown (hts (.classLink RX1 7 "[I") (by decide +kernel)) (by decide +kernel) rfl hC.2.2.1 (j := 0) (by omega) (by show _ ≤ 2; omega) (by show _ ≤ 0; omega) dX1_init_6 (fun q_6 m_6 H fq_6 xq_6 A_6 hC hS => ?_)
  have fb_6 : q_6 ∉ mS.1 := hE.nin fq_6
  have hE := Ex_t hE xq_6
  refine u_f hC hB hS hx hb hts hin1 hown (hO.ex hE) (o' := 0) (lo' := some q_6) (mo' := none) 1 (by decide) (hts (.fieldLink RX1 9 "AbjadPoemsLaw$Sim" "lines" "[[I") (by decide +kernel)) (v := .ref q_6) (ty := .array (.array .int)) (by decide +kernel) rfl rfl rfl dX1_init_9 (fun m_9 H locs pu_9 O_9 hC hS => ?_)
  have A_6 := A_6.pu pu_9 (ne_OB A_6 (hO.ex hE))
  refine lv_aload_n hx hb dX1_init_12 rfl (lv_at hl 0 rfl) ?_
  refine lv_iconst (v := nI 0) hx hb dX1_init_13 (by decide) ?_
  refine n_o hC hB hS hx hb (ty := .array .boolean) (t := 4) hown (va_Nw.use rfl hC.2.2.2.2.2.2.2.2) (by decide +kernel) rfl hC.2.2.2.2.1 (j := 0) (by omega) (by show _ ≤ 2; omega) (by show _ ≤ 0; omega) dX1_init_14 (fun q_14 m_14 H fq_14 xq_14 A_14 hC hS => ?_)
  have d_14_6 : q_6 ≠ q_14 := fun e9 => fq_14 (e9 ▸ A_6.1)
  have A_6 := A_6.ex xq_14
  refine u_f hC hB hS hx hb hts hin1 hown (O_9.ex xq_14) (o' := 0) (lo' := some q_6) (mo' := some q_14) 2 (by decide) (hts (.fieldLink RX1 17 "AbjadPoemsLaw$Sim" "marks" "[[[Z") (by decide +kernel)) (v := .ref q_14) (ty := .array (.array (.array .boolean))) (by decide +kernel) rfl rfl rfl dX1_init_17 (fun m_17 H locs pu_17 O_17 hC hS => ?_)
  have A_6 := A_6.pu pu_17 (ne_OB A_6 (O_9.ex xq_14))
  have A_14 := A_14.pu pu_17 (ne_OB A_14 (O_9.ex xq_14))
  refine W.widen (k := 2) (n := 0) (by omega) (by omega) ?_
  exact W.vret hx hb hr (fun t ht hW => ⟨⟨(m_17, x), rfl, (SI_zero O_17 A_6 A_14), (by show CW B0 g ct ad cS m_17 x t.heap; rw [ht]; exact hC.1)⟩, hS.F ht⟩) hS.2.2 dX1_init_20
set_option maxHeartbeats 4000000 in
set_option maxRecDepth 100000 in
theorem c_L_cell (l : Launch) (b L : Nat) (xs : Nat → Int32) (k : Nat) (hk : k < 1000) (hL : L ≤ 260) : Met l yL_cell wsL_cell (rm_ 0 0 0) (va_Pc [.ref b, .int (nI k)] (fun U => va_X b L xs U U.heap)) (vp_Si (fun _ => True)) 0 0 (fun _ => False) := by
  refine Met.ofW (cc := cL_cell) (maxL := 2) (ret := (some .int)) (by decide) rfl ?_
  intro p e s m args below meth c s₁ B hml hv
  obtain ⟨rfl, hX⟩ := hv
  have hx := B.exec
  have hb := B.bytes
  have hr := B.returns
  have hts := atoms_spec (ws := wsL_cell) B.pre
  have hown : s.vm.findClass RL = some m.cls := findClass_of_methodNamed B.named
  have hbl : b < s.heap.size := by
    obtain ⟨scr, h1, -⟩ := hX
    exact (Array.getElem?_eq_some_iff.mp h1).1
  have hS : va_S (fun _ => False) s.heap s.heap [] := va_S.rf
  have hl := lv_entry ([.ref b, .int (nI k)]) (n := 2) (Nat.le_of_ble_eq_true rfl)
  rw [lg_entry_eq]
  generalize (lg_sl ([.ref b, .int (nI k)]) ++ List.replicate (2 - (lg_sl ([.ref b, .int (nI k)])).length) Slot.unset).toArray = ls at hl ⊢
  have hl : lv_has ls 2 [(0, .ref b), (1, .int (nI k))] := hl
  refine lv_iload_n hx hb dL_cell_0 rfl (lv_at hl 1 rfl) ?_
  refine lv_aload_n hx hb dL_cell_1 rfl (lv_at hl 0 rfl) ?_
  refine va_slen hx hb hX hbl (fun z => z) hS dL_cell_2 ?_
  refine lv_icmp_ge (tgt := 12) hx hb dL_cell_3 (by decide) (fun hg => ?_) (fun hg => ?_)
  · refine lv_ldc hx hb hown (hts (.constant RL 8 (790386105)) (by decide +kernel)) dL_cell_12 ?_
    refine lv_iload_n hx hb dL_cell_14 rfl (lv_at hl 1 rfl) ?_
    refine lv_iconst (v := nI 3) hx hb dL_cell_15 (by decide) ?_
    refine lv_iadd hx hb dL_cell_16 ?_
    refine lv_imul hx hb dL_cell_17 ?_
    exact W.iret hx hb hr (fun t ht hW => ⟨_, rfl, trivial, ht⟩) (fun q hq => absurd hq List.not_mem_nil) dL_cell_18
  · have hk2 : k < L := by
      have : ¬ nI L ≤ nI k := hg
      rw [nI_leI (by omega) (by omega)] at this
      omega
    refine lv_aload_n hx hb dL_cell_6 rfl (lv_at hl 0 rfl) ?_
    refine lv_iload_n hx hb dL_cell_7 rfl (lv_at hl 1 rfl) ?_
    refine va_sld hx hb hX hbl (fun z => z) hS (i := nI k) (vp_in_nI hk2 (by omega)) dL_cell_8 ?_
    refine lv_goto (tgt := 18) hx hb dL_cell_9 (by decide) ?_
    exact W.iret hx hb hr (fun t ht hW => ⟨_, rfl, trivial, ht⟩) (fun q hq => absurd hq List.not_mem_nil) dL_cell_18
/-- an act of the law: done to both, told alike -/
abbrev WA (l : Launch) (B0 : Nat) (g : va_G) (ct ad : Nat → Nat) (cS : St_) (mS : Pl_) (x : Ax_) (o : Nat) (v : Int32) : Prop := Met l yL_act wsL_act (rm_ 3 4 32) (PX B0 g ct ad cS mS x [.ref (ad 0), .ref o, .int v]) (va_Qi (fun r (u : St_ × Pl_ × Ax_) => r = 1 ∧ SI_ ct u.2.1 o u.1 ∧ IZ_ u.1) (fun u t => CW B0 g ct ad u.1 u.2.1 u.2.2 t.heap) (AA B0)) 4 32 (AA B0)
set_option maxHeartbeats 4000000 in
set_option maxRecDepth 100000 in
theorem c_L_act (l : Launch) (B0 : Nat) (g : va_G) (ct ad : Nat → Nat) (cS : St_) (mS : Pl_) (x : Ax_) (o : Nat) (hJ : SI_ ct mS o cS) (hZ : IZ_ cS) (v : Int32) : WA l B0 g ct ad cS mS x o v := by
  refine Met.ofW (cc := cL_act) (maxL := 10) (ret := (some .boolean)) (by decide) rfl ?_
  intro p e s m args below meth c s₁ B hml hv
  obtain ⟨rfl, hC⟩ := hv
  have hx := B.exec
  have hb := B.bytes
  have hr := B.returns
  have hts := atoms_spec (ws := wsL_act) B.pre
  have hown : s.vm.findClass RL = some m.cls := findClass_of_methodNamed B.named
  have hlocks := B.notSynchronized
  have hin : ∀ w ∈ wsX00, w ∈ wsL_act := fun _ h => List.mem_cons_of_mem _ (List.mem_append_left _ (List.mem_append_left _ (List.mem_append_left _ (List.mem_append_right _ h))))
  have hin1 : ∀ w ∈ wsX10, w ∈ wsL_act := fun _ h => List.mem_cons_of_mem _ (List.mem_append_left _ (List.mem_append_left _ (List.mem_append_left _ (List.mem_append_left _ (List.mem_append_right _ h)))))
  have hS : va_S (AA B0) s.heap s.heap [] := va_S.rf
  have hB : B0 ≤ s.heap.size := hC.1.2.2.1
  have hI := hC.1.2.2.2
  have hCA := CA_of hC.2.1
  obtain ⟨lo, mo, la, wa, ba, hJ0⟩ := id hJ
  have hE := Ex_r mS
  have h12 := hI.2.1
  have h10 := hI.2.2.1
  have ho9 := hI.1
  have hb3 : bl_ (v >>> (nI 3 &&& 31)) 2 < 2 := bl_lt _ (by omega)
  have hl := lv_entry ([.ref (ad 0), .ref o, .int v]) (n := 10) (Nat.le_of_ble_eq_true rfl)
  rw [lg_entry_eq]
  generalize (lg_sl ([.ref (ad 0), .ref o, .int v]) ++ List.replicate (10 - (lg_sl ([.ref (ad 0), .ref o, .int v])).length) Slot.unset).toArray = ls at hl ⊢
  have hl : lv_has ls 10 [(0, .ref (ad 0)), (1, .ref o), (2, .int v)] := hl
  refine lv_aload_n hx hb dL_act_0 rfl (lv_at hl 1 rfl) ?_
  refine q_f hC hx hb hts hin1 hown (hJ0.1.ex hE) 1 (by decide) (hts (.fieldLink RL 15 "AbjadPoemsLaw$Sim" "lines" "[[I") (by decide +kernel)) (v := .ref lo) rfl dL_act_1 ?_
  refine q_ol hC hx hb (hJ0.2.1.ex hE) (ty := .array .int) rfl dL_act_4 ?_
  refine lv_istore_n (lv' := [(3, .int (nI (sn cS))), (0, .ref (ad 0)), (1, .ref o), (2, .int v)]) hx hb dL_act_5 rfl hl (by decide) rfl (fun ls hl => ?_)
  refine lv_iload_n hx hb dL_act_6 rfl (lv_at hl 0 rfl) ?_
  refine lv_if_ne (tgt := 14) hx hb dL_act_7 (by decide) (fun c_7 => ?_) (fun c_7 => ?_)
  · skip
    have n_7 : ¬ sn cS = 0 := fun q__ => c_7 ((eq0_ (by omega)).mpr q__)
    refine lv_iload_n hx hb dL_act_14 rfl (lv_at hl 3 rfl) ?_
    refine lv_iload_n hx hb dL_act_15 rfl (lv_at hl 0 rfl) ?_
    refine k_pS (As := [.int v, .int (nI (sn cS))]) (rest := []) (c_L_below l v (sn cS) (by omega) (by omega)) ⟨hx, hb, hml, hown, hts⟩ (va_cwS 2 hts gL_act_L_below rfl rfl rfl (by decide +kernel) ⟨Nat.le_of_ble_eq_true rfl, Nat.le_of_ble_eq_true rfl⟩) rfl hl.1 rfl (Nat.le_of_ble_eq_true rfl) dL_act_16 ⟨(by show _ ≤ 4; omega), (by show _ ≤ 32; omega)⟩ ?_
    obtain ⟨li, h_li⟩ : ∃ li, li = bl_ v (sn cS) := ⟨_, rfl⟩
    have b_li : li < sn cS := by rw [h_li]; exact bl_lt _ (by omega)
    have hzl := h10 li
    have hwc := hI.2.2.2.1 (10 * li + (ss cS li - 1))
    refine lv_tn (w := nI li) (congrArg nI h_li.symm) ?_
    refine lv_istore (lv' := [(4, .int (nI li)), (3, .int (nI (sn cS))), (0, .ref (ad 0)), (1, .ref o), (2, .int v)]) hx hb dL_act_19 hl (by decide) rfl (fun ls hl => ?_)
    refine lv_iload_n hx hb dL_act_21 rfl (lv_at hl 1 rfl) ?_
    refine lv_if_ne (tgt := 29) hx hb dL_act_22 (by decide) (fun c_22 => ?_) (fun c_22 => ?_)
    · skip
      have n_22 : ¬ sn cS = 0 := fun q__ => c_22 ((eq0_ (by omega)).mpr q__)
      refine lv_aload_n hx hb dL_act_29 rfl (lv_at hl 3 rfl) ?_
      refine q_f hC hx hb hts hin1 hown (hJ0.1.ex hE) 1 (by decide) (hts (.fieldLink RL 15 "AbjadPoemsLaw$Sim" "lines" "[[I") (by decide +kernel)) (v := .ref lo) rfl dL_act_30 ?_
      refine lv_iload hx hb dL_act_33 (lv_at hl 0 rfl) ?_
      refine q_o hC hx hb (hJ0.2.1.ex hE) (ty := .array .int) rfl rfl dL_act_35 (j := li) (by omega) (by omega) (v := la li) rfl ?_
      refine q_il hC hx hb ((hJ0.2.2.2.1 li (by omega)).ex hE) dL_act_36 ?_
      refine lv_istore (lv' := [(5, .int (nI (ss cS li))), (4, .int (nI li)), (3, .int (nI (sn cS))), (0, .ref (ad 0)), (1, .ref o), (2, .int v)]) hx hb dL_act_37 hl (by decide) rfl (fun ls hl => ?_)
      refine lv_iload_n hx hb dL_act_39 rfl (lv_at hl 2 rfl) ?_
      refine lv_if_ne (tgt := 47) hx hb dL_act_40 (by decide) (fun c_40 => ?_) (fun c_40 => ?_)
      · skip
        have n_40 : ¬ sn cS = 0 := fun q__ => c_40 ((eq0_ (by omega)).mpr q__)
        refine lv_iload_n hx hb dL_act_47 rfl (lv_at hl 5 rfl) ?_
        refine lv_bipush (v := nI 9) hx hb dL_act_48 (by decide) ?_
        refine lv_ishr hx hb dL_act_50 ?_
        refine lv_bipush (v := nI 14) hx hb dL_act_51 (by decide) ?_
        refine k_pS (As := [.int (v >>> (nI 9 &&& 31)), .int (nI 14)]) (rest := []) (c_L_below l (v >>> (nI 9 &&& 31)) 14 (by omega) (by omega)) ⟨hx, hb, hml, hown, hts⟩ (va_cwS 2 hts gL_act_L_below rfl rfl rfl (by decide +kernel) ⟨Nat.le_of_ble_eq_true rfl, Nat.le_of_ble_eq_true rfl⟩) rfl hl.1 rfl (Nat.le_of_ble_eq_true rfl) dL_act_53 ⟨(by show _ ≤ 4; omega), (by show _ ≤ 32; omega)⟩ ?_
        have hsw := bl_lt (v >>> (nI 9 &&& 31)) (show 0 < 14 by omega)
        obtain ⟨jw, hjw⟩ : ∃ jw, jw = bl_ (v >>> (nI 9 &&& 31)) 14 := ⟨_, rfl⟩
        rw [← hjw]
        rw [← hjw] at hsw
        rcases (show jw = 0 ∨ jw = 1 ∨ jw = 2 ∨ jw = 3 ∨ jw = 4 ∨ jw = 5 ∨ jw = 6 ∨ 7 ≤ jw by omega) with rfl | rfl | rfl | rfl | rfl | rfl | rfl | h7
        · skip
          refine lv_tableIn (x := nI 0) (off := 44) (tgt := 100) hx hb dL_act_56 (by decide) (by decide) rfl (by decide) ?_
          refine lv_iload_n hx hb dL_act_100 rfl (lv_at hl 2 rfl) ?_
          refine lv_bipush (v := nI 12) hx hb dL_act_101 (by decide) ?_
          refine lv_icmp_ne (tgt := 108) hx hb dL_act_103 (by decide) (fun c_103 => ?_) (fun c_103 => ?_)
          · skip
            have n_103 : ¬ sn cS = 12 := fun q__ => c_103 ((nI_eq (a := sn cS) (b := 12) (by omega) (by omega)).mpr q__)
            refine lv_aload_n hx hb dL_act_108 rfl (lv_at hl 4 rfl) ?_
            refine k_nV (As := []) (rest := []) (c_X1_write l B0 g ct ad cS mS x o cS hI ⟨lo, mo, la, wa, ba, hJ0.ex hE⟩ (hZ.1 _ (Nat.le_refl _))) hC hS ⟨hx, hb, hml, hown, hts⟩ (cwV 0 hts gL_act_X1_write rfl rfl rfl (by decide +kernel) ⟨Nat.le_of_ble_eq_true rfl, Nat.le_of_ble_eq_true rfl⟩) (rc1 hC (hJ0.1.ex hE)) rfl hl.1 rfl (Nat.le_of_ble_eq_true rfl) dL_act_109 ⟨(by show _ ≤ 4; omega), (by show _ ≤ 32; omega)⟩ (fun m_109 x_109 H locs hr_109 hC hS => ?_)
            refine lv_aload_n hx hb dL_act_112 rfl (lv_at hl 3 rfl) ?_
            refine k_wV (As := []) (rest := []) (c_X0_write l B0 g ct ad cS m_109 x_109 (by omega)) hC hB hS ⟨hx, hb, hml, hown, hts⟩ (cwV 0 hts gL_act_X0_write rfl rfl rfl (by decide +kernel) ⟨Nat.le_of_ble_eq_true rfl, Nat.le_of_ble_eq_true rfl⟩) (rc0 hC) rfl hl.1 rfl (Nat.le_of_ble_eq_true rfl) dL_act_113 ⟨(by show _ ≤ 4; omega), (by show _ ≤ 32; omega)⟩ (fun u_113 H locs hu_113 hC hS => ?_)
            refine lv_iload_n hx hb dL_act_116 rfl (lv_at hl 2 rfl) ?_
            refine lv_icmp_ne (tgt := 124) hx hb dL_act_117 (by decide) (fun c_117 => ?_) (fun c_117 => ?_)
            · skip
              have n_117 : ¬ sn cS = sn cS := fun q__ => c_117 ((nI_eq (a := sn cS) (b := sn cS) (by omega) (by omega)).mpr q__)
              exact absurd rfl n_117
            · skip
              have n_117 : sn cS = sn cS := (nI_eq (a := sn cS) (b := sn cS) (by omega) (by omega)).mp c_117
              refine lv_iconst (v := nI 1) hx hb dL_act_120 (by decide) ?_
              refine lv_goto (tgt := 125) hx hb dL_act_121 (by decide) ?_
              refine W.widen (k := 4) (n := 32) (by omega) (by omega) ?_
              exact W.zret hx hb hr rfl (fun t ht hW => ⟨⟨_, ((st_write cS), m_109, u_113), rfl, ⟨rfl, ⟨hr_109, hZ.write⟩⟩, (by show CW B0 g ct ad (st_write cS) m_109 u_113 t.heap; rw [ht]; exact hC.1)⟩, hS.F ht⟩) hS.2.2 dL_act_125
          · skip
            have n_103 : sn cS = 12 := (nI_eq (a := sn cS) (b := 12) (by omega) (by omega)).mp c_103
            refine lv_iconst (v := nI 1) hx hb dL_act_106 (by decide) ?_
            refine W.widen (k := 4) (n := 32) (by omega) (by omega) ?_
            exact W.zret hx hb hr rfl (fun t ht hW => ⟨⟨_, (cS, mS, x), rfl, ⟨rfl, ⟨hJ, hZ⟩⟩, (by show CW B0 g ct ad cS mS x t.heap; rw [ht]; exact hC.1)⟩, hS.F ht⟩) hS.2.2 dL_act_107
        · skip
          refine lv_tableIn (x := nI 1) (off := 70) (tgt := 126) hx hb dL_act_56 (by decide) (by decide) rfl (by decide) ?_
          refine lv_aload_n hx hb dL_act_126 rfl (lv_at hl 4 rfl) ?_
          refine q_f hC hx hb hts hin1 hown (hJ0.1.ex hE) 0 (by decide) (hts (.fieldLink RL 29 "AbjadPoemsLaw$Sim" "order" "I") (by decide +kernel)) (v := .int (nI (so cS))) rfl dL_act_127 ?_
          refine lv_istore (lv' := [(6, .int (nI (so cS))), (5, .int (nI (ss cS li))), (4, .int (nI li)), (3, .int (nI (sn cS))), (0, .ref (ad 0)), (1, .ref o), (2, .int v)]) hx hb dL_act_130 hl (by decide) rfl (fun ls hl => ?_)
          refine lv_aload_n hx hb dL_act_132 rfl (lv_at hl 5 rfl) ?_
          refine lv_iload_n hx hb dL_act_133 rfl (lv_at hl 6 rfl) ?_
          refine lv_iconst (v := nI 2) hx hb dL_act_134 (by decide) ?_
          refine lv_ishr hx hb dL_act_135 ?_
          refine lv_iconst (v := nI 3) hx hb dL_act_136 (by decide) ?_
          refine k_pS (As := [.int (v >>> (nI 2 &&& 31)), .int (nI 3)]) (rest := [.ref o]) (c_L_below l (v >>> (nI 2 &&& 31)) 3 (by omega) (by omega)) ⟨hx, hb, hml, hown, hts⟩ (va_cwS 2 hts gL_act_L_below rfl rfl rfl (by decide +kernel) ⟨Nat.le_of_ble_eq_true rfl, Nat.le_of_ble_eq_true rfl⟩) rfl hl.1 rfl (Nat.le_of_ble_eq_true rfl) dL_act_137 ⟨(by show _ ≤ 4; omega), (by show _ ≤ 32; omega)⟩ ?_
          obtain ⟨kv, h_kv⟩ : ∃ kv, kv = bl_ (v >>> (nI 2 &&& 31)) 3 := ⟨_, rfl⟩
          have b_kv : kv < 3 := by rw [h_kv]; exact bl_lt _ (by omega)
          refine lv_tn (w := nI kv) (congrArg nI h_kv.symm) ?_
          refine u_f hC hB hS hx hb hts hin1 hown (hJ0.1.ex hE) (o' := nI kv) (lo' := some lo) (mo' := some mo) 0 (by decide) (hts (.fieldLink RL 29 "AbjadPoemsLaw$Sim" "order" "I") (by decide +kernel)) (v := .int (nI kv)) (ty := .int) (by decide +kernel) rfl rfl rfl dL_act_140 (fun m_140 H locs pu_140 O_140 hC hS => ?_)
          refine lv_aload_n hx hb dL_act_143 rfl (lv_at hl 4 rfl) ?_
          refine lv_aload_n hx hb dL_act_144 rfl (lv_at hl 5 rfl) ?_
          refine q_f hC hx hb hts hin1 hown O_140 0 (by decide) (hts (.fieldLink RL 29 "AbjadPoemsLaw$Sim" "order" "I") (by decide +kernel)) (v := .int (nI kv)) rfl dL_act_145 ?_
          refine k_wV (As := [.int (nI kv)]) (rest := []) (c_X0_count l B0 g ct ad cS m_140 x kv (by omega)) hC hB hS ⟨hx, hb, hml, hown, hts⟩ (cwV 1 hts gL_act_X0_count rfl rfl rfl (by decide +kernel) ⟨Nat.le_of_ble_eq_true rfl, Nat.le_of_ble_eq_true rfl⟩) (rc0 hC) rfl hl.1 rfl (Nat.le_of_ble_eq_true rfl) dL_act_148 ⟨(by show _ ≤ 4; omega), (by show _ ≤ 32; omega)⟩ (fun u_148 H locs hu_148 hC hS => ?_)
          refine lv_iload hx hb dL_act_151 (lv_at hl 0 rfl) ?_
          refine lv_icmp_ne (tgt := 160) hx hb dL_act_153 (by decide) (fun c_153 => ?_) (fun c_153 => ?_)
          · skip
            have n_153 : ¬ so cS = so cS := fun q__ => c_153 ((nI_eq (a := so cS) (b := so cS) (by omega) (by omega)).mpr q__)
            exact absurd rfl n_153
          · skip
            have n_153 : so cS = so cS := (nI_eq (a := so cS) (b := so cS) (by omega) (by omega)).mp c_153
            refine lv_iconst (v := nI 1) hx hb dL_act_156 (by decide) ?_
            refine lv_goto (tgt := 161) hx hb dL_act_157 (by decide) ?_
            refine W.widen (k := 4) (n := 32) (by omega) (by omega) ?_
            exact W.zret hx hb hr rfl (fun t ht hW => ⟨⟨_, ((st_count cS kv), m_140, u_148), rfl, ⟨rfl, ⟨hJ0.count pu_140 O_140, hZ.count kv⟩⟩, (by show CW B0 g ct ad (st_count cS kv) m_140 u_148 t.heap; rw [ht]; exact hC.1)⟩, hS.F ht⟩) hS.2.2 dL_act_161
        · skip
          refine lv_tableIn (x := nI 2) (off := 106) (tgt := 162) hx hb dL_act_56 (by decide) (by decide) rfl (by decide) ?_
          refine lv_iload hx hb dL_act_162 (lv_at hl 0 rfl) ?_
          refine lv_if_eq (tgt := 192) hx hb dL_act_164 (by decide) (fun c_164 => ?_) (fun c_164 => ?_)
          · skip
            have n_164 : ss cS li = 0 := (eq0_ (by omega)).mp c_164
            refine lv_iconst (v := nI 1) hx hb dL_act_192 (by decide) ?_
            refine lv_goto (tgt := 197) hx hb dL_act_193 (by decide) ?_
            refine W.widen (k := 4) (n := 32) (by omega) (by omega) ?_
            exact W.zret hx hb hr rfl (fun t ht hW => ⟨⟨_, (cS, mS, x), rfl, ⟨rfl, ⟨hJ, hZ⟩⟩, (by show CW B0 g ct ad cS mS x t.heap; rw [ht]; exact hC.1)⟩, hS.F ht⟩) hS.2.2 dL_act_197
          · skip
            have n_164 : ¬ ss cS li = 0 := fun q__ => c_164 ((eq0_ (by omega)).mpr q__)
            refine lv_iload_n hx hb dL_act_167 rfl (lv_at hl 5 rfl) ?_
            refine lv_iconst (v := nI 3) hx hb dL_act_168 (by decide) ?_
            refine lv_ishr hx hb dL_act_169 ?_
            refine lv_iconst (v := nI 2) hx hb dL_act_170 (by decide) ?_
            refine k_pS (As := [.int (v >>> (nI 3 &&& 31)), .int (nI 2)]) (rest := []) (c_L_below l (v >>> (nI 3 &&& 31)) 2 (by omega) (by omega)) ⟨hx, hb, hml, hown, hts⟩ (va_cwS 2 hts gL_act_L_below rfl rfl rfl (by decide +kernel) ⟨Nat.le_of_ble_eq_true rfl, Nat.le_of_ble_eq_true rfl⟩) rfl hl.1 rfl (Nat.le_of_ble_eq_true rfl) dL_act_171 ⟨(by show _ ≤ 4; omega), (by show _ ≤ 32; omega)⟩ ?_
            refine lv_if_eq (tgt := 192) hx hb dL_act_174 (by decide) (fun c_174 => ?_) (fun c_174 => ?_)
            · skip
              have n_174 : bl_ (v >>> (nI 3 &&& 31)) 2 = 0 := (eq0_ (by omega)).mp c_174
              refine lv_iconst (v := nI 1) hx hb dL_act_192 (by decide) ?_
              refine lv_goto (tgt := 197) hx hb dL_act_193 (by decide) ?_
              refine W.widen (k := 4) (n := 32) (by omega) (by omega) ?_
              exact W.zret hx hb hr rfl (fun t ht hW => ⟨⟨_, (cS, mS, x), rfl, ⟨rfl, ⟨hJ, hZ⟩⟩, (by show CW B0 g ct ad cS mS x t.heap; rw [ht]; exact hC.1)⟩, hS.F ht⟩) hS.2.2 dL_act_197
            · skip
              have n_174 : ¬ bl_ (v >>> (nI 3 &&& 31)) 2 = 0 := fun q__ => c_174 ((eq0_ (by omega)).mpr q__)
              refine lv_aload_n hx hb dL_act_177 rfl (lv_at hl 3 rfl) ?_
              refine lv_iload hx hb dL_act_178 (lv_at hl 1 rfl) ?_
              refine k_wV (As := [.int (nI li)]) (rest := []) (c_X0_cut l B0 g ct ad cS mS x li (by omega) (by omega)) hC hB hS ⟨hx, hb, hml, hown, hts⟩ (cwV 1 hts gL_act_X0_cut rfl rfl rfl (by decide +kernel) ⟨Nat.le_of_ble_eq_true rfl, Nat.le_of_ble_eq_true rfl⟩) (rc0 hC) rfl hl.1 rfl (Nat.le_of_ble_eq_true rfl) dL_act_180 ⟨(by show _ ≤ 4; omega), (by show _ ≤ 32; omega)⟩ (fun u_180 H locs hu_180 hC hS => ?_)
              have hK9 : CA_ ct := hCA
              refine lv_aload_n hx hb dL_act_183 rfl (lv_at hl 4 rfl) ?_
              refine lv_iload hx hb dL_act_184 (lv_at hl 1 rfl) ?_
              refine k_qV (As := [.int (nI li)]) (rest := [.int (nI (sw cS (10 * li + (ss cS li - 1))))]) (c_X1_cut l B0 g ct ad (st_cut cS li) mS u_180 o cS hI ⟨lo, mo, la, wa, ba, hJ0.ex hE⟩ li (by omega) (by omega)) hC hS ⟨hx, hb, hml, hown, hts⟩ (cwV 1 hts gL_act_X1_cut rfl rfl rfl (by decide +kernel) ⟨Nat.le_of_ble_eq_true rfl, Nat.le_of_ble_eq_true rfl⟩) (rc1 hC (hJ0.1.ex hE)) rfl hl.1 rfl (Nat.le_of_ble_eq_true rfl) dL_act_186 ⟨(by show _ ≤ 4; omega), (by show _ ≤ 32; omega)⟩ (fun m_186 x_186 H locs hr_186 hC hS => ?_)
              refine lv_icmp_ne (tgt := 196) hx hb dL_act_189 (by decide) (fun c_189 => ?_) (fun c_189 => ?_)
              · skip
                have n_189 : ¬ sw cS (10 * li + (ss cS li - 1)) = sw cS (10 * li + (ss cS li - 1)) := fun q__ => c_189 ((nI_eq (a := sw cS (10 * li + (ss cS li - 1))) (b := sw cS (10 * li + (ss cS li - 1))) (by omega) (by omega)).mpr q__)
                exact absurd rfl n_189
              · skip
                have n_189 : sw cS (10 * li + (ss cS li - 1)) = sw cS (10 * li + (ss cS li - 1)) := (nI_eq (a := sw cS (10 * li + (ss cS li - 1))) (b := sw cS (10 * li + (ss cS li - 1))) (by omega) (by omega)).mp c_189
                have hpmc := hr_186
                refine lv_iconst (v := nI 1) hx hb dL_act_192 (by decide) ?_
                refine lv_goto (tgt := 197) hx hb dL_act_193 (by decide) ?_
                refine W.widen (k := 4) (n := 32) (by omega) (by omega) ?_
                exact W.zret hx hb hr rfl (fun t ht hW => ⟨⟨_, ((st_cut cS li), m_186, x_186), rfl, ⟨rfl, ⟨hpmc, hZ.cut li⟩⟩, (by show CW B0 g ct ad (st_cut cS li) m_186 x_186 t.heap; rw [ht]; exact hC.1)⟩, hS.F ht⟩) hS.2.2 dL_act_197
        · skip
          refine lv_tableIn (x := nI 3) (off := 142) (tgt := 198) hx hb dL_act_56 (by decide) (by decide) rfl (by decide) ?_
          refine lv_iload hx hb dL_act_198 (lv_at hl 0 rfl) ?_
          refine lv_if_ne (tgt := 205) hx hb dL_act_200 (by decide) (fun c_200 => ?_) (fun c_200 => ?_)
          · skip
            have n_200 : ¬ ss cS li = 0 := fun q__ => c_200 ((eq0_ (by omega)).mpr q__)
            refine lv_iload_n hx hb dL_act_205 rfl (lv_at hl 5 rfl) ?_
            refine lv_iconst (v := nI 2) hx hb dL_act_206 (by decide) ?_
            refine lv_ishr hx hb dL_act_207 ?_
            refine lv_iload hx hb dL_act_208 (lv_at hl 0 rfl) ?_
            refine k_pS (As := [.int (v >>> (nI 2 &&& 31)), .int (nI (ss cS li))]) (rest := []) (c_L_below l (v >>> (nI 2 &&& 31)) (ss cS li) (by omega) (by omega)) ⟨hx, hb, hml, hown, hts⟩ (va_cwS 2 hts gL_act_L_below rfl rfl rfl (by decide +kernel) ⟨Nat.le_of_ble_eq_true rfl, Nat.le_of_ble_eq_true rfl⟩) rfl hl.1 rfl (Nat.le_of_ble_eq_true rfl) dL_act_210 ⟨(by show _ ≤ 4; omega), (by show _ ≤ 32; omega)⟩ ?_
            obtain ⟨wi, h_wi⟩ : ∃ wi, wi = bl_ (v >>> (nI 2 &&& 31)) (ss cS li) := ⟨_, rfl⟩
            have b_wi : wi < ss cS li := by rw [h_wi]; exact bl_lt _ (by omega)
            have hw6 := hI.2.2.2.1 (10 * li + wi)
            have hl6 := ln_le hw6
            have hl1 : 0 < ln_ (sw cS (10 * li + wi)) := by
              have hiw := hZ.2 li wi (by omega) (by omega)
              simp only [iw_, Bool.and_eq_true, decide_eq_true_eq] at hiw
              rw [ln_s hiw.1.1 hw6]; omega
            have hk6 := hI.2.2.2.2.1 (10 * li + wi)
            refine lv_tn (w := nI wi) (congrArg nI h_wi.symm) ?_
            refine lv_istore (lv' := [(7, .int (nI wi)), (5, .int (nI (ss cS li))), (4, .int (nI li)), (3, .int (nI (sn cS))), (0, .ref (ad 0)), (1, .ref o), (2, .int v)]) hx hb dL_act_213 hl (by decide) rfl (fun ls hl => ?_)
            refine lv_aload_n hx hb dL_act_215 rfl (lv_at hl 5 rfl) ?_
            refine q_f hC hx hb hts hin1 hown (hJ0.1.ex hE) 2 (by decide) (hts (.fieldLink RL 41 "AbjadPoemsLaw$Sim" "marks" "[[[Z") (by decide +kernel)) (v := .ref mo) rfl dL_act_216 ?_
            refine lv_iload hx hb dL_act_219 (lv_at hl 2 rfl) ?_
            refine q_o hC hx hb (hJ0.2.2.1.ex hE) (ty := .array (.array .boolean)) rfl rfl dL_act_221 (j := li) (by omega) (by omega) (v := wa li) rfl ?_
            refine lv_iload hx hb dL_act_222 (lv_at hl 0 rfl) ?_
            refine q_o hC hx hb ((hJ0.2.2.2.2.1 li (by omega)).ex hE) (ty := .array .boolean) rfl rfl dL_act_224 (j := wi) (by omega) (by omega) (v := ba li wi) rfl ?_
            refine lv_astore (lv' := [(8, .ref (ba li wi)), (7, .int (nI wi)), (5, .int (nI (ss cS li))), (4, .int (nI li)), (3, .int (nI (sn cS))), (0, .ref (ad 0)), (1, .ref o), (2, .int v)]) hx hb dL_act_225 hl (by decide) rfl (fun ls hl => ?_)
            refine lv_iload_n hx hb dL_act_227 rfl (lv_at hl 7 rfl) ?_
            refine lv_iconst (v := nI 4) hx hb dL_act_228 (by decide) ?_
            refine lv_ishr hx hb dL_act_229 ?_
            refine lv_aload hx hb dL_act_230 (lv_at hl 0 rfl) ?_
            refine q_zl hC hx hb ((hJ0.2.2.2.2.2.1 li wi (by omega) (by omega)).ex hE) dL_act_232 ?_
            refine k_pS (As := [.int (v >>> (nI 4 &&& 31)), .int (nI (ln_ (sw cS (10 * li + wi))))]) (rest := []) (c_L_below l (v >>> (nI 4 &&& 31)) (ln_ (sw cS (10 * li + wi))) (by omega) (by omega)) ⟨hx, hb, hml, hown, hts⟩ (va_cwS 2 hts gL_act_L_below rfl rfl rfl (by decide +kernel) ⟨Nat.le_of_ble_eq_true rfl, Nat.le_of_ble_eq_true rfl⟩) rfl hl.1 rfl (Nat.le_of_ble_eq_true rfl) dL_act_233 ⟨(by show _ ≤ 4; omega), (by show _ ≤ 32; omega)⟩ ?_
            obtain ⟨kp, h_kp⟩ : ∃ kp, kp = bl_ (v >>> (nI 4 &&& 31)) (ln_ (sw cS (10 * li + wi))) := ⟨_, rfl⟩
            have b_kp : kp < ln_ (sw cS (10 * li + wi)) := by rw [h_kp]; exact bl_lt _ (by omega)
            refine lv_tn (w := nI kp) (congrArg nI h_kp.symm) ?_
            refine lv_istore (lv' := [(9, .int (nI kp)), (8, .ref (ba li wi)), (7, .int (nI wi)), (5, .int (nI (ss cS li))), (4, .int (nI li)), (3, .int (nI (sn cS))), (0, .ref (ad 0)), (1, .ref o), (2, .int v)]) hx hb dL_act_236 hl (by decide) rfl (fun ls hl => ?_)
            refine lv_aload hx hb dL_act_238 (lv_at hl 1 rfl) ?_
            refine lv_iload hx hb dL_act_240 (lv_at hl 0 rfl) ?_
            refine lv_aload hx hb dL_act_242 (lv_at hl 1 rfl) ?_
            refine lv_iload hx hb dL_act_244 (lv_at hl 0 rfl) ?_
            refine q_z hC hx hb ((hJ0.2.2.2.2.2.1 li wi (by omega) (by omega)).ex hE) dL_act_246 (j := kp) (by omega) (by omega) ?_
            refine lv_tn (w := b2_ ((sk cS (10 * li + wi)).testBit kp)) rfl ?_
            refine lv_if_ne (tgt := 254) hx hb dL_act_247 (by decide) (fun c_247 => ?_) (fun c_247 => ?_)
            · skip
              have hbt : (sk cS (10 * li + wi)).testBit kp = true := b2_ne c_247
              have hv9 : nI 0 = b2_ (!(sk cS (10 * li + wi)).testBit kp) := by rw [hbt]; rfl
              refine lv_iconst (v := nI 0) hx hb dL_act_254 (by decide) ?_
              refine u_z hC hB hS hx hb ((hJ0.2.2.2.2.2.1 li wi (by omega) (by omega)).ex hE) dL_act_255 (j := kp) (v := nI 0) (by omega) (by omega) rfl (fun m_255 H locs pu_255 B_255 hC hS => ?_)
              refine lv_aload_n hx hb dL_act_256 rfl (lv_at hl 6 rfl) ?_
              refine lv_iload hx hb dL_act_257 (lv_at hl 4 rfl) ?_
              refine lv_iload hx hb dL_act_259 (lv_at hl 2 rfl) ?_
              refine lv_iload hx hb dL_act_261 (lv_at hl 0 rfl) ?_
              refine k_wV (As := [.int (nI li), .int (nI wi), .int (nI kp)]) (rest := []) (c_X0_mark l B0 g ct ad cS m_255 x li wi kp (by omega) (by omega) (by omega)) hC hB hS ⟨hx, hb, hml, hown, hts⟩ (cwV 3 hts gL_act_X0_mark rfl rfl rfl (by decide +kernel) ⟨Nat.le_of_ble_eq_true rfl, Nat.le_of_ble_eq_true rfl⟩) (rc0 hC) rfl hl.1 rfl (Nat.le_of_ble_eq_true rfl) dL_act_263 ⟨(by show _ ≤ 4; omega), (by show _ ≤ 32; omega)⟩ (fun u_263 H locs hu_263 hC hS => ?_)
              refine lv_aload hx hb dL_act_266 (lv_at hl 1 rfl) ?_
              refine lv_iload hx hb dL_act_268 (lv_at hl 0 rfl) ?_
              refine q_z hC hx hb B_255 dL_act_270 (j := kp) (by omega) (by omega) ?_
              refine lv_tn (w := nI 0) pk_us ?_
              refine lv_icmp_ne (tgt := 278) hx hb dL_act_271 (by decide) (fun c_271 => ?_) (fun c_271 => ?_)
              · skip
                refine absurd ?_ c_271
                rw [xb_ _ hk6 kp (by omega) kp (by omega), if_pos rfl]
                exact hv9.symm
              · skip
                refine lv_iconst (v := nI 1) hx hb dL_act_274 (by decide) ?_
                refine lv_goto (tgt := 279) hx hb dL_act_275 (by decide) ?_
                refine W.widen (k := 4) (n := 32) (by omega) (by omega) ?_
                exact W.zret hx hb hr rfl (fun t ht hW => ⟨⟨_, ((st_mark cS (10 * li + wi) kp), m_255, u_263), rfl, ⟨rfl, ⟨hJ0.mark hCA (by omega) (by omega) h10 hw6 hk6 (by omega) pu_255 hv9 B_255, hZ.mark _ _⟩⟩, (by show CW B0 g ct ad (st_mark cS (10 * li + wi) kp) m_255 u_263 t.heap; rw [ht]; exact hC.1)⟩, hS.F ht⟩) hS.2.2 dL_act_279
            · skip
              have hbt : (sk cS (10 * li + wi)).testBit kp = false := b2_0.mp c_247
              have hv9 : nI 1 = b2_ (!(sk cS (10 * li + wi)).testBit kp) := by rw [hbt]; rfl
              refine lv_iconst (v := nI 1) hx hb dL_act_250 (by decide) ?_
              refine lv_goto (tgt := 255) hx hb dL_act_251 (by decide) ?_
              refine u_z hC hB hS hx hb ((hJ0.2.2.2.2.2.1 li wi (by omega) (by omega)).ex hE) dL_act_255 (j := kp) (v := nI 1) (by omega) (by omega) rfl (fun m_255 H locs pu_255 B_255 hC hS => ?_)
              refine lv_aload_n hx hb dL_act_256 rfl (lv_at hl 6 rfl) ?_
              refine lv_iload hx hb dL_act_257 (lv_at hl 4 rfl) ?_
              refine lv_iload hx hb dL_act_259 (lv_at hl 2 rfl) ?_
              refine lv_iload hx hb dL_act_261 (lv_at hl 0 rfl) ?_
              refine k_wV (As := [.int (nI li), .int (nI wi), .int (nI kp)]) (rest := []) (c_X0_mark l B0 g ct ad cS m_255 x li wi kp (by omega) (by omega) (by omega)) hC hB hS ⟨hx, hb, hml, hown, hts⟩ (cwV 3 hts gL_act_X0_mark rfl rfl rfl (by decide +kernel) ⟨Nat.le_of_ble_eq_true rfl, Nat.le_of_ble_eq_true rfl⟩) (rc0 hC) rfl hl.1 rfl (Nat.le_of_ble_eq_true rfl) dL_act_263 ⟨(by show _ ≤ 4; omega), (by show _ ≤ 32; omega)⟩ (fun u_263 H locs hu_263 hC hS => ?_)
              refine lv_aload hx hb dL_act_266 (lv_at hl 1 rfl) ?_
              refine lv_iload hx hb dL_act_268 (lv_at hl 0 rfl) ?_
              refine q_z hC hx hb B_255 dL_act_270 (j := kp) (by omega) (by omega) ?_
              refine lv_tn (w := nI 1) pk_us ?_
              refine lv_icmp_ne (tgt := 278) hx hb dL_act_271 (by decide) (fun c_271 => ?_) (fun c_271 => ?_)
              · skip
                refine absurd ?_ c_271
                rw [xb_ _ hk6 kp (by omega) kp (by omega), if_pos rfl]
                exact hv9.symm
              · skip
                refine lv_iconst (v := nI 1) hx hb dL_act_274 (by decide) ?_
                refine lv_goto (tgt := 279) hx hb dL_act_275 (by decide) ?_
                refine W.widen (k := 4) (n := 32) (by omega) (by omega) ?_
                exact W.zret hx hb hr rfl (fun t ht hW => ⟨⟨_, ((st_mark cS (10 * li + wi) kp), m_255, u_263), rfl, ⟨rfl, ⟨hJ0.mark hCA (by omega) (by omega) h10 hw6 hk6 (by omega) pu_255 hv9 B_255, hZ.mark _ _⟩⟩, (by show CW B0 g ct ad (st_mark cS (10 * li + wi) kp) m_255 u_263 t.heap; rw [ht]; exact hC.1)⟩, hS.F ht⟩) hS.2.2 dL_act_279
          · skip
            have n_200 : ss cS li = 0 := (eq0_ (by omega)).mp c_200
            refine lv_iconst (v := nI 1) hx hb dL_act_203 (by decide) ?_
            refine W.widen (k := 4) (n := 32) (by omega) (by omega) ?_
            exact W.zret hx hb hr rfl (fun t ht hW => ⟨⟨_, (cS, mS, x), rfl, ⟨rfl, ⟨hJ, hZ⟩⟩, (by show CW B0 g ct ad cS mS x t.heap; rw [ht]; exact hC.1)⟩, hS.F ht⟩) hS.2.2 dL_act_204
        · skip
          refine lv_tableIn (x := nI 4) (off := 142) (tgt := 198) hx hb dL_act_56 (by decide) (by decide) rfl (by decide) ?_
          refine lv_iload hx hb dL_act_198 (lv_at hl 0 rfl) ?_
          refine lv_if_ne (tgt := 205) hx hb dL_act_200 (by decide) (fun c_200 => ?_) (fun c_200 => ?_)
          · skip
            have n_200 : ¬ ss cS li = 0 := fun q__ => c_200 ((eq0_ (by omega)).mpr q__)
            refine lv_iload_n hx hb dL_act_205 rfl (lv_at hl 5 rfl) ?_
            refine lv_iconst (v := nI 2) hx hb dL_act_206 (by decide) ?_
            refine lv_ishr hx hb dL_act_207 ?_
            refine lv_iload hx hb dL_act_208 (lv_at hl 0 rfl) ?_
            refine k_pS (As := [.int (v >>> (nI 2 &&& 31)), .int (nI (ss cS li))]) (rest := []) (c_L_below l (v >>> (nI 2 &&& 31)) (ss cS li) (by omega) (by omega)) ⟨hx, hb, hml, hown, hts⟩ (va_cwS 2 hts gL_act_L_below rfl rfl rfl (by decide +kernel) ⟨Nat.le_of_ble_eq_true rfl, Nat.le_of_ble_eq_true rfl⟩) rfl hl.1 rfl (Nat.le_of_ble_eq_true rfl) dL_act_210 ⟨(by show _ ≤ 4; omega), (by show _ ≤ 32; omega)⟩ ?_
            obtain ⟨wi, h_wi⟩ : ∃ wi, wi = bl_ (v >>> (nI 2 &&& 31)) (ss cS li) := ⟨_, rfl⟩
            have b_wi : wi < ss cS li := by rw [h_wi]; exact bl_lt _ (by omega)
            have hw6 := hI.2.2.2.1 (10 * li + wi)
            have hl6 := ln_le hw6
            have hl1 : 0 < ln_ (sw cS (10 * li + wi)) := by
              have hiw := hZ.2 li wi (by omega) (by omega)
              simp only [iw_, Bool.and_eq_true, decide_eq_true_eq] at hiw
              rw [ln_s hiw.1.1 hw6]; omega
            have hk6 := hI.2.2.2.2.1 (10 * li + wi)
            refine lv_tn (w := nI wi) (congrArg nI h_wi.symm) ?_
            refine lv_istore (lv' := [(7, .int (nI wi)), (5, .int (nI (ss cS li))), (4, .int (nI li)), (3, .int (nI (sn cS))), (0, .ref (ad 0)), (1, .ref o), (2, .int v)]) hx hb dL_act_213 hl (by decide) rfl (fun ls hl => ?_)
            refine lv_aload_n hx hb dL_act_215 rfl (lv_at hl 5 rfl) ?_
            refine q_f hC hx hb hts hin1 hown (hJ0.1.ex hE) 2 (by decide) (hts (.fieldLink RL 41 "AbjadPoemsLaw$Sim" "marks" "[[[Z") (by decide +kernel)) (v := .ref mo) rfl dL_act_216 ?_
            refine lv_iload hx hb dL_act_219 (lv_at hl 2 rfl) ?_
            refine q_o hC hx hb (hJ0.2.2.1.ex hE) (ty := .array (.array .boolean)) rfl rfl dL_act_221 (j := li) (by omega) (by omega) (v := wa li) rfl ?_
            refine lv_iload hx hb dL_act_222 (lv_at hl 0 rfl) ?_
            refine q_o hC hx hb ((hJ0.2.2.2.2.1 li (by omega)).ex hE) (ty := .array .boolean) rfl rfl dL_act_224 (j := wi) (by omega) (by omega) (v := ba li wi) rfl ?_
            refine lv_astore (lv' := [(8, .ref (ba li wi)), (7, .int (nI wi)), (5, .int (nI (ss cS li))), (4, .int (nI li)), (3, .int (nI (sn cS))), (0, .ref (ad 0)), (1, .ref o), (2, .int v)]) hx hb dL_act_225 hl (by decide) rfl (fun ls hl => ?_)
            refine lv_iload_n hx hb dL_act_227 rfl (lv_at hl 7 rfl) ?_
            refine lv_iconst (v := nI 4) hx hb dL_act_228 (by decide) ?_
            refine lv_ishr hx hb dL_act_229 ?_
            refine lv_aload hx hb dL_act_230 (lv_at hl 0 rfl) ?_
            refine q_zl hC hx hb ((hJ0.2.2.2.2.2.1 li wi (by omega) (by omega)).ex hE) dL_act_232 ?_
            refine k_pS (As := [.int (v >>> (nI 4 &&& 31)), .int (nI (ln_ (sw cS (10 * li + wi))))]) (rest := []) (c_L_below l (v >>> (nI 4 &&& 31)) (ln_ (sw cS (10 * li + wi))) (by omega) (by omega)) ⟨hx, hb, hml, hown, hts⟩ (va_cwS 2 hts gL_act_L_below rfl rfl rfl (by decide +kernel) ⟨Nat.le_of_ble_eq_true rfl, Nat.le_of_ble_eq_true rfl⟩) rfl hl.1 rfl (Nat.le_of_ble_eq_true rfl) dL_act_233 ⟨(by show _ ≤ 4; omega), (by show _ ≤ 32; omega)⟩ ?_
            obtain ⟨kp, h_kp⟩ : ∃ kp, kp = bl_ (v >>> (nI 4 &&& 31)) (ln_ (sw cS (10 * li + wi))) := ⟨_, rfl⟩
            have b_kp : kp < ln_ (sw cS (10 * li + wi)) := by rw [h_kp]; exact bl_lt _ (by omega)
            refine lv_tn (w := nI kp) (congrArg nI h_kp.symm) ?_
            refine lv_istore (lv' := [(9, .int (nI kp)), (8, .ref (ba li wi)), (7, .int (nI wi)), (5, .int (nI (ss cS li))), (4, .int (nI li)), (3, .int (nI (sn cS))), (0, .ref (ad 0)), (1, .ref o), (2, .int v)]) hx hb dL_act_236 hl (by decide) rfl (fun ls hl => ?_)
            refine lv_aload hx hb dL_act_238 (lv_at hl 1 rfl) ?_
            refine lv_iload hx hb dL_act_240 (lv_at hl 0 rfl) ?_
            refine lv_aload hx hb dL_act_242 (lv_at hl 1 rfl) ?_
            refine lv_iload hx hb dL_act_244 (lv_at hl 0 rfl) ?_
            refine q_z hC hx hb ((hJ0.2.2.2.2.2.1 li wi (by omega) (by omega)).ex hE) dL_act_246 (j := kp) (by omega) (by omega) ?_
            refine lv_tn (w := b2_ ((sk cS (10 * li + wi)).testBit kp)) rfl ?_
            refine lv_if_ne (tgt := 254) hx hb dL_act_247 (by decide) (fun c_247 => ?_) (fun c_247 => ?_)
            · skip
              have hbt : (sk cS (10 * li + wi)).testBit kp = true := b2_ne c_247
              have hv9 : nI 0 = b2_ (!(sk cS (10 * li + wi)).testBit kp) := by rw [hbt]; rfl
              refine lv_iconst (v := nI 0) hx hb dL_act_254 (by decide) ?_
              refine u_z hC hB hS hx hb ((hJ0.2.2.2.2.2.1 li wi (by omega) (by omega)).ex hE) dL_act_255 (j := kp) (v := nI 0) (by omega) (by omega) rfl (fun m_255 H locs pu_255 B_255 hC hS => ?_)
              refine lv_aload_n hx hb dL_act_256 rfl (lv_at hl 6 rfl) ?_
              refine lv_iload hx hb dL_act_257 (lv_at hl 4 rfl) ?_
              refine lv_iload hx hb dL_act_259 (lv_at hl 2 rfl) ?_
              refine lv_iload hx hb dL_act_261 (lv_at hl 0 rfl) ?_
              refine k_wV (As := [.int (nI li), .int (nI wi), .int (nI kp)]) (rest := []) (c_X0_mark l B0 g ct ad cS m_255 x li wi kp (by omega) (by omega) (by omega)) hC hB hS ⟨hx, hb, hml, hown, hts⟩ (cwV 3 hts gL_act_X0_mark rfl rfl rfl (by decide +kernel) ⟨Nat.le_of_ble_eq_true rfl, Nat.le_of_ble_eq_true rfl⟩) (rc0 hC) rfl hl.1 rfl (Nat.le_of_ble_eq_true rfl) dL_act_263 ⟨(by show _ ≤ 4; omega), (by show _ ≤ 32; omega)⟩ (fun u_263 H locs hu_263 hC hS => ?_)
              refine lv_aload hx hb dL_act_266 (lv_at hl 1 rfl) ?_
              refine lv_iload hx hb dL_act_268 (lv_at hl 0 rfl) ?_
              refine q_z hC hx hb B_255 dL_act_270 (j := kp) (by omega) (by omega) ?_
              refine lv_tn (w := nI 0) pk_us ?_
              refine lv_icmp_ne (tgt := 278) hx hb dL_act_271 (by decide) (fun c_271 => ?_) (fun c_271 => ?_)
              · skip
                refine absurd ?_ c_271
                rw [xb_ _ hk6 kp (by omega) kp (by omega), if_pos rfl]
                exact hv9.symm
              · skip
                refine lv_iconst (v := nI 1) hx hb dL_act_274 (by decide) ?_
                refine lv_goto (tgt := 279) hx hb dL_act_275 (by decide) ?_
                refine W.widen (k := 4) (n := 32) (by omega) (by omega) ?_
                exact W.zret hx hb hr rfl (fun t ht hW => ⟨⟨_, ((st_mark cS (10 * li + wi) kp), m_255, u_263), rfl, ⟨rfl, ⟨hJ0.mark hCA (by omega) (by omega) h10 hw6 hk6 (by omega) pu_255 hv9 B_255, hZ.mark _ _⟩⟩, (by show CW B0 g ct ad (st_mark cS (10 * li + wi) kp) m_255 u_263 t.heap; rw [ht]; exact hC.1)⟩, hS.F ht⟩) hS.2.2 dL_act_279
            · skip
              have hbt : (sk cS (10 * li + wi)).testBit kp = false := b2_0.mp c_247
              have hv9 : nI 1 = b2_ (!(sk cS (10 * li + wi)).testBit kp) := by rw [hbt]; rfl
              refine lv_iconst (v := nI 1) hx hb dL_act_250 (by decide) ?_
              refine lv_goto (tgt := 255) hx hb dL_act_251 (by decide) ?_
              refine u_z hC hB hS hx hb ((hJ0.2.2.2.2.2.1 li wi (by omega) (by omega)).ex hE) dL_act_255 (j := kp) (v := nI 1) (by omega) (by omega) rfl (fun m_255 H locs pu_255 B_255 hC hS => ?_)
              refine lv_aload_n hx hb dL_act_256 rfl (lv_at hl 6 rfl) ?_
              refine lv_iload hx hb dL_act_257 (lv_at hl 4 rfl) ?_
              refine lv_iload hx hb dL_act_259 (lv_at hl 2 rfl) ?_
              refine lv_iload hx hb dL_act_261 (lv_at hl 0 rfl) ?_
              refine k_wV (As := [.int (nI li), .int (nI wi), .int (nI kp)]) (rest := []) (c_X0_mark l B0 g ct ad cS m_255 x li wi kp (by omega) (by omega) (by omega)) hC hB hS ⟨hx, hb, hml, hown, hts⟩ (cwV 3 hts gL_act_X0_mark rfl rfl rfl (by decide +kernel) ⟨Nat.le_of_ble_eq_true rfl, Nat.le_of_ble_eq_true rfl⟩) (rc0 hC) rfl hl.1 rfl (Nat.le_of_ble_eq_true rfl) dL_act_263 ⟨(by show _ ≤ 4; omega), (by show _ ≤ 32; omega)⟩ (fun u_263 H locs hu_263 hC hS => ?_)
              refine lv_aload hx hb dL_act_266 (lv_at hl 1 rfl) ?_
              refine lv_iload hx hb dL_act_268 (lv_at hl 0 rfl) ?_
              refine q_z hC hx hb B_255 dL_act_270 (j := kp) (by omega) (by omega) ?_
              refine lv_tn (w := nI 1) pk_us ?_
              refine lv_icmp_ne (tgt := 278) hx hb dL_act_271 (by decide) (fun c_271 => ?_) (fun c_271 => ?_)
              · skip
                refine absurd ?_ c_271
                rw [xb_ _ hk6 kp (by omega) kp (by omega), if_pos rfl]
                exact hv9.symm
              · skip
                refine lv_iconst (v := nI 1) hx hb dL_act_274 (by decide) ?_
                refine lv_goto (tgt := 279) hx hb dL_act_275 (by decide) ?_
                refine W.widen (k := 4) (n := 32) (by omega) (by omega) ?_
                exact W.zret hx hb hr rfl (fun t ht hW => ⟨⟨_, ((st_mark cS (10 * li + wi) kp), m_255, u_263), rfl, ⟨rfl, ⟨hJ0.mark hCA (by omega) (by omega) h10 hw6 hk6 (by omega) pu_255 hv9 B_255, hZ.mark _ _⟩⟩, (by show CW B0 g ct ad (st_mark cS (10 * li + wi) kp) m_255 u_263 t.heap; rw [ht]; exact hC.1)⟩, hS.F ht⟩) hS.2.2 dL_act_279
          · skip
            have n_200 : ss cS li = 0 := (eq0_ (by omega)).mp c_200
            refine lv_iconst (v := nI 1) hx hb dL_act_203 (by decide) ?_
            refine W.widen (k := 4) (n := 32) (by omega) (by omega) ?_
            exact W.zret hx hb hr rfl (fun t ht hW => ⟨⟨_, (cS, mS, x), rfl, ⟨rfl, ⟨hJ, hZ⟩⟩, (by show CW B0 g ct ad cS mS x t.heap; rw [ht]; exact hC.1)⟩, hS.F ht⟩) hS.2.2 dL_act_204
        · skip
          refine lv_tableIn (x := nI 5) (off := 142) (tgt := 198) hx hb dL_act_56 (by decide) (by decide) rfl (by decide) ?_
          refine lv_iload hx hb dL_act_198 (lv_at hl 0 rfl) ?_
          refine lv_if_ne (tgt := 205) hx hb dL_act_200 (by decide) (fun c_200 => ?_) (fun c_200 => ?_)
          · skip
            have n_200 : ¬ ss cS li = 0 := fun q__ => c_200 ((eq0_ (by omega)).mpr q__)
            refine lv_iload_n hx hb dL_act_205 rfl (lv_at hl 5 rfl) ?_
            refine lv_iconst (v := nI 2) hx hb dL_act_206 (by decide) ?_
            refine lv_ishr hx hb dL_act_207 ?_
            refine lv_iload hx hb dL_act_208 (lv_at hl 0 rfl) ?_
            refine k_pS (As := [.int (v >>> (nI 2 &&& 31)), .int (nI (ss cS li))]) (rest := []) (c_L_below l (v >>> (nI 2 &&& 31)) (ss cS li) (by omega) (by omega)) ⟨hx, hb, hml, hown, hts⟩ (va_cwS 2 hts gL_act_L_below rfl rfl rfl (by decide +kernel) ⟨Nat.le_of_ble_eq_true rfl, Nat.le_of_ble_eq_true rfl⟩) rfl hl.1 rfl (Nat.le_of_ble_eq_true rfl) dL_act_210 ⟨(by show _ ≤ 4; omega), (by show _ ≤ 32; omega)⟩ ?_
            obtain ⟨wi, h_wi⟩ : ∃ wi, wi = bl_ (v >>> (nI 2 &&& 31)) (ss cS li) := ⟨_, rfl⟩
            have b_wi : wi < ss cS li := by rw [h_wi]; exact bl_lt _ (by omega)
            have hw6 := hI.2.2.2.1 (10 * li + wi)
            have hl6 := ln_le hw6
            have hl1 : 0 < ln_ (sw cS (10 * li + wi)) := by
              have hiw := hZ.2 li wi (by omega) (by omega)
              simp only [iw_, Bool.and_eq_true, decide_eq_true_eq] at hiw
              rw [ln_s hiw.1.1 hw6]; omega
            have hk6 := hI.2.2.2.2.1 (10 * li + wi)
            refine lv_tn (w := nI wi) (congrArg nI h_wi.symm) ?_
            refine lv_istore (lv' := [(7, .int (nI wi)), (5, .int (nI (ss cS li))), (4, .int (nI li)), (3, .int (nI (sn cS))), (0, .ref (ad 0)), (1, .ref o), (2, .int v)]) hx hb dL_act_213 hl (by decide) rfl (fun ls hl => ?_)
            refine lv_aload_n hx hb dL_act_215 rfl (lv_at hl 5 rfl) ?_
            refine q_f hC hx hb hts hin1 hown (hJ0.1.ex hE) 2 (by decide) (hts (.fieldLink RL 41 "AbjadPoemsLaw$Sim" "marks" "[[[Z") (by decide +kernel)) (v := .ref mo) rfl dL_act_216 ?_
            refine lv_iload hx hb dL_act_219 (lv_at hl 2 rfl) ?_
            refine q_o hC hx hb (hJ0.2.2.1.ex hE) (ty := .array (.array .boolean)) rfl rfl dL_act_221 (j := li) (by omega) (by omega) (v := wa li) rfl ?_
            refine lv_iload hx hb dL_act_222 (lv_at hl 0 rfl) ?_
            refine q_o hC hx hb ((hJ0.2.2.2.2.1 li (by omega)).ex hE) (ty := .array .boolean) rfl rfl dL_act_224 (j := wi) (by omega) (by omega) (v := ba li wi) rfl ?_
            refine lv_astore (lv' := [(8, .ref (ba li wi)), (7, .int (nI wi)), (5, .int (nI (ss cS li))), (4, .int (nI li)), (3, .int (nI (sn cS))), (0, .ref (ad 0)), (1, .ref o), (2, .int v)]) hx hb dL_act_225 hl (by decide) rfl (fun ls hl => ?_)
            refine lv_iload_n hx hb dL_act_227 rfl (lv_at hl 7 rfl) ?_
            refine lv_iconst (v := nI 4) hx hb dL_act_228 (by decide) ?_
            refine lv_ishr hx hb dL_act_229 ?_
            refine lv_aload hx hb dL_act_230 (lv_at hl 0 rfl) ?_
            refine q_zl hC hx hb ((hJ0.2.2.2.2.2.1 li wi (by omega) (by omega)).ex hE) dL_act_232 ?_
            refine k_pS (As := [.int (v >>> (nI 4 &&& 31)), .int (nI (ln_ (sw cS (10 * li + wi))))]) (rest := []) (c_L_below l (v >>> (nI 4 &&& 31)) (ln_ (sw cS (10 * li + wi))) (by omega) (by omega)) ⟨hx, hb, hml, hown, hts⟩ (va_cwS 2 hts gL_act_L_below rfl rfl rfl (by decide +kernel) ⟨Nat.le_of_ble_eq_true rfl, Nat.le_of_ble_eq_true rfl⟩) rfl hl.1 rfl (Nat.le_of_ble_eq_true rfl) dL_act_233 ⟨(by show _ ≤ 4; omega), (by show _ ≤ 32; omega)⟩ ?_
            obtain ⟨kp, h_kp⟩ : ∃ kp, kp = bl_ (v >>> (nI 4 &&& 31)) (ln_ (sw cS (10 * li + wi))) := ⟨_, rfl⟩
            have b_kp : kp < ln_ (sw cS (10 * li + wi)) := by rw [h_kp]; exact bl_lt _ (by omega)
            refine lv_tn (w := nI kp) (congrArg nI h_kp.symm) ?_
            refine lv_istore (lv' := [(9, .int (nI kp)), (8, .ref (ba li wi)), (7, .int (nI wi)), (5, .int (nI (ss cS li))), (4, .int (nI li)), (3, .int (nI (sn cS))), (0, .ref (ad 0)), (1, .ref o), (2, .int v)]) hx hb dL_act_236 hl (by decide) rfl (fun ls hl => ?_)
            refine lv_aload hx hb dL_act_238 (lv_at hl 1 rfl) ?_
            refine lv_iload hx hb dL_act_240 (lv_at hl 0 rfl) ?_
            refine lv_aload hx hb dL_act_242 (lv_at hl 1 rfl) ?_
            refine lv_iload hx hb dL_act_244 (lv_at hl 0 rfl) ?_
            refine q_z hC hx hb ((hJ0.2.2.2.2.2.1 li wi (by omega) (by omega)).ex hE) dL_act_246 (j := kp) (by omega) (by omega) ?_
            refine lv_tn (w := b2_ ((sk cS (10 * li + wi)).testBit kp)) rfl ?_
            refine lv_if_ne (tgt := 254) hx hb dL_act_247 (by decide) (fun c_247 => ?_) (fun c_247 => ?_)
            · skip
              have hbt : (sk cS (10 * li + wi)).testBit kp = true := b2_ne c_247
              have hv9 : nI 0 = b2_ (!(sk cS (10 * li + wi)).testBit kp) := by rw [hbt]; rfl
              refine lv_iconst (v := nI 0) hx hb dL_act_254 (by decide) ?_
              refine u_z hC hB hS hx hb ((hJ0.2.2.2.2.2.1 li wi (by omega) (by omega)).ex hE) dL_act_255 (j := kp) (v := nI 0) (by omega) (by omega) rfl (fun m_255 H locs pu_255 B_255 hC hS => ?_)
              refine lv_aload_n hx hb dL_act_256 rfl (lv_at hl 6 rfl) ?_
              refine lv_iload hx hb dL_act_257 (lv_at hl 4 rfl) ?_
              refine lv_iload hx hb dL_act_259 (lv_at hl 2 rfl) ?_
              refine lv_iload hx hb dL_act_261 (lv_at hl 0 rfl) ?_
              refine k_wV (As := [.int (nI li), .int (nI wi), .int (nI kp)]) (rest := []) (c_X0_mark l B0 g ct ad cS m_255 x li wi kp (by omega) (by omega) (by omega)) hC hB hS ⟨hx, hb, hml, hown, hts⟩ (cwV 3 hts gL_act_X0_mark rfl rfl rfl (by decide +kernel) ⟨Nat.le_of_ble_eq_true rfl, Nat.le_of_ble_eq_true rfl⟩) (rc0 hC) rfl hl.1 rfl (Nat.le_of_ble_eq_true rfl) dL_act_263 ⟨(by show _ ≤ 4; omega), (by show _ ≤ 32; omega)⟩ (fun u_263 H locs hu_263 hC hS => ?_)
              refine lv_aload hx hb dL_act_266 (lv_at hl 1 rfl) ?_
              refine lv_iload hx hb dL_act_268 (lv_at hl 0 rfl) ?_
              refine q_z hC hx hb B_255 dL_act_270 (j := kp) (by omega) (by omega) ?_
              refine lv_tn (w := nI 0) pk_us ?_
              refine lv_icmp_ne (tgt := 278) hx hb dL_act_271 (by decide) (fun c_271 => ?_) (fun c_271 => ?_)
              · skip
                refine absurd ?_ c_271
                rw [xb_ _ hk6 kp (by omega) kp (by omega), if_pos rfl]
                exact hv9.symm
              · skip
                refine lv_iconst (v := nI 1) hx hb dL_act_274 (by decide) ?_
                refine lv_goto (tgt := 279) hx hb dL_act_275 (by decide) ?_
                refine W.widen (k := 4) (n := 32) (by omega) (by omega) ?_
                exact W.zret hx hb hr rfl (fun t ht hW => ⟨⟨_, ((st_mark cS (10 * li + wi) kp), m_255, u_263), rfl, ⟨rfl, ⟨hJ0.mark hCA (by omega) (by omega) h10 hw6 hk6 (by omega) pu_255 hv9 B_255, hZ.mark _ _⟩⟩, (by show CW B0 g ct ad (st_mark cS (10 * li + wi) kp) m_255 u_263 t.heap; rw [ht]; exact hC.1)⟩, hS.F ht⟩) hS.2.2 dL_act_279
            · skip
              have hbt : (sk cS (10 * li + wi)).testBit kp = false := b2_0.mp c_247
              have hv9 : nI 1 = b2_ (!(sk cS (10 * li + wi)).testBit kp) := by rw [hbt]; rfl
              refine lv_iconst (v := nI 1) hx hb dL_act_250 (by decide) ?_
              refine lv_goto (tgt := 255) hx hb dL_act_251 (by decide) ?_
              refine u_z hC hB hS hx hb ((hJ0.2.2.2.2.2.1 li wi (by omega) (by omega)).ex hE) dL_act_255 (j := kp) (v := nI 1) (by omega) (by omega) rfl (fun m_255 H locs pu_255 B_255 hC hS => ?_)
              refine lv_aload_n hx hb dL_act_256 rfl (lv_at hl 6 rfl) ?_
              refine lv_iload hx hb dL_act_257 (lv_at hl 4 rfl) ?_
              refine lv_iload hx hb dL_act_259 (lv_at hl 2 rfl) ?_
              refine lv_iload hx hb dL_act_261 (lv_at hl 0 rfl) ?_
              refine k_wV (As := [.int (nI li), .int (nI wi), .int (nI kp)]) (rest := []) (c_X0_mark l B0 g ct ad cS m_255 x li wi kp (by omega) (by omega) (by omega)) hC hB hS ⟨hx, hb, hml, hown, hts⟩ (cwV 3 hts gL_act_X0_mark rfl rfl rfl (by decide +kernel) ⟨Nat.le_of_ble_eq_true rfl, Nat.le_of_ble_eq_true rfl⟩) (rc0 hC) rfl hl.1 rfl (Nat.le_of_ble_eq_true rfl) dL_act_263 ⟨(by show _ ≤ 4; omega), (by show _ ≤ 32; omega)⟩ (fun u_263 H locs hu_263 hC hS => ?_)
              refine lv_aload hx hb dL_act_266 (lv_at hl 1 rfl) ?_
              refine lv_iload hx hb dL_act_268 (lv_at hl 0 rfl) ?_
              refine q_z hC hx hb B_255 dL_act_270 (j := kp) (by omega) (by omega) ?_
              refine lv_tn (w := nI 1) pk_us ?_
              refine lv_icmp_ne (tgt := 278) hx hb dL_act_271 (by decide) (fun c_271 => ?_) (fun c_271 => ?_)
              · skip
                refine absurd ?_ c_271
                rw [xb_ _ hk6 kp (by omega) kp (by omega), if_pos rfl]
                exact hv9.symm
              · skip
                refine lv_iconst (v := nI 1) hx hb dL_act_274 (by decide) ?_
                refine lv_goto (tgt := 279) hx hb dL_act_275 (by decide) ?_
                refine W.widen (k := 4) (n := 32) (by omega) (by omega) ?_
                exact W.zret hx hb hr rfl (fun t ht hW => ⟨⟨_, ((st_mark cS (10 * li + wi) kp), m_255, u_263), rfl, ⟨rfl, ⟨hJ0.mark hCA (by omega) (by omega) h10 hw6 hk6 (by omega) pu_255 hv9 B_255, hZ.mark _ _⟩⟩, (by show CW B0 g ct ad (st_mark cS (10 * li + wi) kp) m_255 u_263 t.heap; rw [ht]; exact hC.1)⟩, hS.F ht⟩) hS.2.2 dL_act_279
          · skip
            have n_200 : ss cS li = 0 := (eq0_ (by omega)).mp c_200
            refine lv_iconst (v := nI 1) hx hb dL_act_203 (by decide) ?_
            refine W.widen (k := 4) (n := 32) (by omega) (by omega) ?_
            exact W.zret hx hb hr rfl (fun t ht hW => ⟨⟨_, (cS, mS, x), rfl, ⟨rfl, ⟨hJ, hZ⟩⟩, (by show CW B0 g ct ad cS mS x t.heap; rw [ht]; exact hC.1)⟩, hS.F ht⟩) hS.2.2 dL_act_204
        · skip
          refine lv_tableIn (x := nI 6) (off := 142) (tgt := 198) hx hb dL_act_56 (by decide) (by decide) rfl (by decide) ?_
          refine lv_iload hx hb dL_act_198 (lv_at hl 0 rfl) ?_
          refine lv_if_ne (tgt := 205) hx hb dL_act_200 (by decide) (fun c_200 => ?_) (fun c_200 => ?_)
          · skip
            have n_200 : ¬ ss cS li = 0 := fun q__ => c_200 ((eq0_ (by omega)).mpr q__)
            refine lv_iload_n hx hb dL_act_205 rfl (lv_at hl 5 rfl) ?_
            refine lv_iconst (v := nI 2) hx hb dL_act_206 (by decide) ?_
            refine lv_ishr hx hb dL_act_207 ?_
            refine lv_iload hx hb dL_act_208 (lv_at hl 0 rfl) ?_
            refine k_pS (As := [.int (v >>> (nI 2 &&& 31)), .int (nI (ss cS li))]) (rest := []) (c_L_below l (v >>> (nI 2 &&& 31)) (ss cS li) (by omega) (by omega)) ⟨hx, hb, hml, hown, hts⟩ (va_cwS 2 hts gL_act_L_below rfl rfl rfl (by decide +kernel) ⟨Nat.le_of_ble_eq_true rfl, Nat.le_of_ble_eq_true rfl⟩) rfl hl.1 rfl (Nat.le_of_ble_eq_true rfl) dL_act_210 ⟨(by show _ ≤ 4; omega), (by show _ ≤ 32; omega)⟩ ?_
            obtain ⟨wi, h_wi⟩ : ∃ wi, wi = bl_ (v >>> (nI 2 &&& 31)) (ss cS li) := ⟨_, rfl⟩
            have b_wi : wi < ss cS li := by rw [h_wi]; exact bl_lt _ (by omega)
            have hw6 := hI.2.2.2.1 (10 * li + wi)
            have hl6 := ln_le hw6
            have hl1 : 0 < ln_ (sw cS (10 * li + wi)) := by
              have hiw := hZ.2 li wi (by omega) (by omega)
              simp only [iw_, Bool.and_eq_true, decide_eq_true_eq] at hiw
              rw [ln_s hiw.1.1 hw6]; omega
            have hk6 := hI.2.2.2.2.1 (10 * li + wi)
            refine lv_tn (w := nI wi) (congrArg nI h_wi.symm) ?_
            refine lv_istore (lv' := [(7, .int (nI wi)), (5, .int (nI (ss cS li))), (4, .int (nI li)), (3, .int (nI (sn cS))), (0, .ref (ad 0)), (1, .ref o), (2, .int v)]) hx hb dL_act_213 hl (by decide) rfl (fun ls hl => ?_)
            refine lv_aload_n hx hb dL_act_215 rfl (lv_at hl 5 rfl) ?_
            refine q_f hC hx hb hts hin1 hown (hJ0.1.ex hE) 2 (by decide) (hts (.fieldLink RL 41 "AbjadPoemsLaw$Sim" "marks" "[[[Z") (by decide +kernel)) (v := .ref mo) rfl dL_act_216 ?_
            refine lv_iload hx hb dL_act_219 (lv_at hl 2 rfl) ?_
            refine q_o hC hx hb (hJ0.2.2.1.ex hE) (ty := .array (.array .boolean)) rfl rfl dL_act_221 (j := li) (by omega) (by omega) (v := wa li) rfl ?_
            refine lv_iload hx hb dL_act_222 (lv_at hl 0 rfl) ?_
            refine q_o hC hx hb ((hJ0.2.2.2.2.1 li (by omega)).ex hE) (ty := .array .boolean) rfl rfl dL_act_224 (j := wi) (by omega) (by omega) (v := ba li wi) rfl ?_
            refine lv_astore (lv' := [(8, .ref (ba li wi)), (7, .int (nI wi)), (5, .int (nI (ss cS li))), (4, .int (nI li)), (3, .int (nI (sn cS))), (0, .ref (ad 0)), (1, .ref o), (2, .int v)]) hx hb dL_act_225 hl (by decide) rfl (fun ls hl => ?_)
            refine lv_iload_n hx hb dL_act_227 rfl (lv_at hl 7 rfl) ?_
            refine lv_iconst (v := nI 4) hx hb dL_act_228 (by decide) ?_
            refine lv_ishr hx hb dL_act_229 ?_
            refine lv_aload hx hb dL_act_230 (lv_at hl 0 rfl) ?_
            refine q_zl hC hx hb ((hJ0.2.2.2.2.2.1 li wi (by omega) (by omega)).ex hE) dL_act_232 ?_
            refine k_pS (As := [.int (v >>> (nI 4 &&& 31)), .int (nI (ln_ (sw cS (10 * li + wi))))]) (rest := []) (c_L_below l (v >>> (nI 4 &&& 31)) (ln_ (sw cS (10 * li + wi))) (by omega) (by omega)) ⟨hx, hb, hml, hown, hts⟩ (va_cwS 2 hts gL_act_L_below rfl rfl rfl (by decide +kernel) ⟨Nat.le_of_ble_eq_true rfl, Nat.le_of_ble_eq_true rfl⟩) rfl hl.1 rfl (Nat.le_of_ble_eq_true rfl) dL_act_233 ⟨(by show _ ≤ 4; omega), (by show _ ≤ 32; omega)⟩ ?_
            obtain ⟨kp, h_kp⟩ : ∃ kp, kp = bl_ (v >>> (nI 4 &&& 31)) (ln_ (sw cS (10 * li + wi))) := ⟨_, rfl⟩
            have b_kp : kp < ln_ (sw cS (10 * li + wi)) := by rw [h_kp]; exact bl_lt _ (by omega)
            refine lv_tn (w := nI kp) (congrArg nI h_kp.symm) ?_
            refine lv_istore (lv' := [(9, .int (nI kp)), (8, .ref (ba li wi)), (7, .int (nI wi)), (5, .int (nI (ss cS li))), (4, .int (nI li)), (3, .int (nI (sn cS))), (0, .ref (ad 0)), (1, .ref o), (2, .int v)]) hx hb dL_act_236 hl (by decide) rfl (fun ls hl => ?_)
            refine lv_aload hx hb dL_act_238 (lv_at hl 1 rfl) ?_
            refine lv_iload hx hb dL_act_240 (lv_at hl 0 rfl) ?_
            refine lv_aload hx hb dL_act_242 (lv_at hl 1 rfl) ?_
            refine lv_iload hx hb dL_act_244 (lv_at hl 0 rfl) ?_
            refine q_z hC hx hb ((hJ0.2.2.2.2.2.1 li wi (by omega) (by omega)).ex hE) dL_act_246 (j := kp) (by omega) (by omega) ?_
            refine lv_tn (w := b2_ ((sk cS (10 * li + wi)).testBit kp)) rfl ?_
            refine lv_if_ne (tgt := 254) hx hb dL_act_247 (by decide) (fun c_247 => ?_) (fun c_247 => ?_)
            · skip
              have hbt : (sk cS (10 * li + wi)).testBit kp = true := b2_ne c_247
              have hv9 : nI 0 = b2_ (!(sk cS (10 * li + wi)).testBit kp) := by rw [hbt]; rfl
              refine lv_iconst (v := nI 0) hx hb dL_act_254 (by decide) ?_
              refine u_z hC hB hS hx hb ((hJ0.2.2.2.2.2.1 li wi (by omega) (by omega)).ex hE) dL_act_255 (j := kp) (v := nI 0) (by omega) (by omega) rfl (fun m_255 H locs pu_255 B_255 hC hS => ?_)
              refine lv_aload_n hx hb dL_act_256 rfl (lv_at hl 6 rfl) ?_
              refine lv_iload hx hb dL_act_257 (lv_at hl 4 rfl) ?_
              refine lv_iload hx hb dL_act_259 (lv_at hl 2 rfl) ?_
              refine lv_iload hx hb dL_act_261 (lv_at hl 0 rfl) ?_
              refine k_wV (As := [.int (nI li), .int (nI wi), .int (nI kp)]) (rest := []) (c_X0_mark l B0 g ct ad cS m_255 x li wi kp (by omega) (by omega) (by omega)) hC hB hS ⟨hx, hb, hml, hown, hts⟩ (cwV 3 hts gL_act_X0_mark rfl rfl rfl (by decide +kernel) ⟨Nat.le_of_ble_eq_true rfl, Nat.le_of_ble_eq_true rfl⟩) (rc0 hC) rfl hl.1 rfl (Nat.le_of_ble_eq_true rfl) dL_act_263 ⟨(by show _ ≤ 4; omega), (by show _ ≤ 32; omega)⟩ (fun u_263 H locs hu_263 hC hS => ?_)
              refine lv_aload hx hb dL_act_266 (lv_at hl 1 rfl) ?_
              refine lv_iload hx hb dL_act_268 (lv_at hl 0 rfl) ?_
              refine q_z hC hx hb B_255 dL_act_270 (j := kp) (by omega) (by omega) ?_
              refine lv_tn (w := nI 0) pk_us ?_
              refine lv_icmp_ne (tgt := 278) hx hb dL_act_271 (by decide) (fun c_271 => ?_) (fun c_271 => ?_)
              · skip
                refine absurd ?_ c_271
                rw [xb_ _ hk6 kp (by omega) kp (by omega), if_pos rfl]
                exact hv9.symm
              · skip
                refine lv_iconst (v := nI 1) hx hb dL_act_274 (by decide) ?_
                refine lv_goto (tgt := 279) hx hb dL_act_275 (by decide) ?_
                refine W.widen (k := 4) (n := 32) (by omega) (by omega) ?_
                exact W.zret hx hb hr rfl (fun t ht hW => ⟨⟨_, ((st_mark cS (10 * li + wi) kp), m_255, u_263), rfl, ⟨rfl, ⟨hJ0.mark hCA (by omega) (by omega) h10 hw6 hk6 (by omega) pu_255 hv9 B_255, hZ.mark _ _⟩⟩, (by show CW B0 g ct ad (st_mark cS (10 * li + wi) kp) m_255 u_263 t.heap; rw [ht]; exact hC.1)⟩, hS.F ht⟩) hS.2.2 dL_act_279
            · skip
              have hbt : (sk cS (10 * li + wi)).testBit kp = false := b2_0.mp c_247
              have hv9 : nI 1 = b2_ (!(sk cS (10 * li + wi)).testBit kp) := by rw [hbt]; rfl
              refine lv_iconst (v := nI 1) hx hb dL_act_250 (by decide) ?_
              refine lv_goto (tgt := 255) hx hb dL_act_251 (by decide) ?_
              refine u_z hC hB hS hx hb ((hJ0.2.2.2.2.2.1 li wi (by omega) (by omega)).ex hE) dL_act_255 (j := kp) (v := nI 1) (by omega) (by omega) rfl (fun m_255 H locs pu_255 B_255 hC hS => ?_)
              refine lv_aload_n hx hb dL_act_256 rfl (lv_at hl 6 rfl) ?_
              refine lv_iload hx hb dL_act_257 (lv_at hl 4 rfl) ?_
              refine lv_iload hx hb dL_act_259 (lv_at hl 2 rfl) ?_
              refine lv_iload hx hb dL_act_261 (lv_at hl 0 rfl) ?_
              refine k_wV (As := [.int (nI li), .int (nI wi), .int (nI kp)]) (rest := []) (c_X0_mark l B0 g ct ad cS m_255 x li wi kp (by omega) (by omega) (by omega)) hC hB hS ⟨hx, hb, hml, hown, hts⟩ (cwV 3 hts gL_act_X0_mark rfl rfl rfl (by decide +kernel) ⟨Nat.le_of_ble_eq_true rfl, Nat.le_of_ble_eq_true rfl⟩) (rc0 hC) rfl hl.1 rfl (Nat.le_of_ble_eq_true rfl) dL_act_263 ⟨(by show _ ≤ 4; omega), (by show _ ≤ 32; omega)⟩ (fun u_263 H locs hu_263 hC hS => ?_)
              refine lv_aload hx hb dL_act_266 (lv_at hl 1 rfl) ?_
              refine lv_iload hx hb dL_act_268 (lv_at hl 0 rfl) ?_
              refine q_z hC hx hb B_255 dL_act_270 (j := kp) (by omega) (by omega) ?_
              refine lv_tn (w := nI 1) pk_us ?_
              refine lv_icmp_ne (tgt := 278) hx hb dL_act_271 (by decide) (fun c_271 => ?_) (fun c_271 => ?_)
              · skip
                refine absurd ?_ c_271
                rw [xb_ _ hk6 kp (by omega) kp (by omega), if_pos rfl]
                exact hv9.symm
              · skip
                refine lv_iconst (v := nI 1) hx hb dL_act_274 (by decide) ?_
                refine lv_goto (tgt := 279) hx hb dL_act_275 (by decide) ?_
                refine W.widen (k := 4) (n := 32) (by omega) (by omega) ?_
                exact W.zret hx hb hr rfl (fun t ht hW => ⟨⟨_, ((st_mark cS (10 * li + wi) kp), m_255, u_263), rfl, ⟨rfl, ⟨hJ0.mark hCA (by omega) (by omega) h10 hw6 hk6 (by omega) pu_255 hv9 B_255, hZ.mark _ _⟩⟩, (by show CW B0 g ct ad (st_mark cS (10 * li + wi) kp) m_255 u_263 t.heap; rw [ht]; exact hC.1)⟩, hS.F ht⟩) hS.2.2 dL_act_279
          · skip
            have n_200 : ss cS li = 0 := (eq0_ (by omega)).mp c_200
            refine lv_iconst (v := nI 1) hx hb dL_act_203 (by decide) ?_
            refine W.widen (k := 4) (n := 32) (by omega) (by omega) ?_
            exact W.zret hx hb hr rfl (fun t ht hW => ⟨⟨_, (cS, mS, x), rfl, ⟨rfl, ⟨hJ, hZ⟩⟩, (by show CW B0 g ct ad cS mS x t.heap; rw [ht]; exact hC.1)⟩, hS.F ht⟩) hS.2.2 dL_act_204
        · skip
          refine lv_tableOut (x := nI jw) (tgt := 280) hx hb dL_act_56 (Or.inr (by rw [nI_toInt (by omega)]; omega)) (by decide) ?_
          refine lv_iload hx hb dL_act_280 (lv_at hl 0 rfl) ?_
          refine lv_bipush (v := nI 10) hx hb dL_act_282 (by decide) ?_
          refine lv_icmp_ne (tgt := 289) hx hb dL_act_284 (by decide) (fun c_284 => ?_) (fun c_284 => ?_)
          · skip
            have n_284 : ¬ ss cS li = 10 := fun q__ => c_284 ((nI_eq (a := ss cS li) (b := 10) (by omega) (by omega)).mpr q__)
            refine lv_aload_n hx hb dL_act_289 rfl (lv_at hl 4 rfl) ?_
            refine lv_iload hx hb dL_act_290 (lv_at hl 1 rfl) ?_
            refine lv_iload_n hx hb dL_act_292 rfl (lv_at hl 5 rfl) ?_
            refine k_pS (As := [.int v]) (rest := [.int (nI li), .ref o]) (c_L_word l v) ⟨hx, hb, hml, hown, hts⟩ (va_cwS 1 hts gL_act_L_word rfl rfl rfl (by decide +kernel) ⟨Nat.le_of_ble_eq_true rfl, Nat.le_of_ble_eq_true rfl⟩) rfl hl.1 rfl (Nat.le_of_ble_eq_true rfl) dL_act_293 ⟨(by show _ ≤ 4; omega), (by show _ ≤ 32; omega)⟩ ?_
            refine k_nV (As := [.int (nI li), .int (nI (gw_ v))]) (rest := []) (c_X1_add l B0 g ct ad cS mS x o cS hI ⟨lo, mo, la, wa, ba, hJ0.ex hE⟩ li (gw_ v) (by omega) (by omega) (gw_lt v)) hC hS ⟨hx, hb, hml, hown, hts⟩ (cwV 2 hts gL_act_X1_add rfl rfl rfl (by decide +kernel) ⟨Nat.le_of_ble_eq_true rfl, Nat.le_of_ble_eq_true rfl⟩) (rc1 hC (hJ0.1.ex hE)) rfl hl.1 rfl (Nat.le_of_ble_eq_true rfl) dL_act_296 ⟨(by show _ ≤ 4; omega), (by show _ ≤ 32; omega)⟩ (fun m_296 x_296 H locs hr_296 hC hS => ?_)
            refine lv_aload_n hx hb dL_act_299 rfl (lv_at hl 3 rfl) ?_
            refine lv_iload hx hb dL_act_300 (lv_at hl 1 rfl) ?_
            refine lv_iload_n hx hb dL_act_302 rfl (lv_at hl 5 rfl) ?_
            refine k_pS (As := [.int v]) (rest := [.int (nI li), .ref (ad 0)]) (c_L_word l v) ⟨hx, hb, hml, hown, hts⟩ (va_cwS 1 hts gL_act_L_word rfl rfl rfl (by decide +kernel) ⟨Nat.le_of_ble_eq_true rfl, Nat.le_of_ble_eq_true rfl⟩) rfl hl.1 rfl (Nat.le_of_ble_eq_true rfl) dL_act_303 ⟨(by show _ ≤ 4; omega), (by show _ ≤ 32; omega)⟩ ?_
            refine k_wV (As := [.int (nI li), .int (nI (gw_ v))]) (rest := []) (c_X0_add l B0 g ct ad cS m_296 x_296 li (gw_ v) (by omega) (gw_lt v) (by rw [wd_n (by have := gw_lt v; omega)]; exact gw_iw v) (by omega)) hC hB hS ⟨hx, hb, hml, hown, hts⟩ (cwV 2 hts gL_act_X0_add rfl rfl rfl (by decide +kernel) ⟨Nat.le_of_ble_eq_true rfl, Nat.le_of_ble_eq_true rfl⟩) (rc0 hC) rfl hl.1 rfl (Nat.le_of_ble_eq_true rfl) dL_act_306 ⟨(by show _ ≤ 4; omega), (by show _ ≤ 32; omega)⟩ (fun u_306 H locs hu_306 hC hS => ?_)
            refine lv_iload hx hb dL_act_309 (lv_at hl 0 rfl) ?_
            refine lv_iconst (v := nI 1) hx hb dL_act_311 (by decide) ?_
            refine lv_iadd hx hb dL_act_312 ?_
            refine lv_tn (nI_add _ _) ?_
            refine lv_icmp_ne (tgt := 320) hx hb dL_act_313 (by decide) (fun c_313 => ?_) (fun c_313 => ?_)
            · skip
              have n_313 : ¬ ss cS li + 1 = (ss cS li) + 1 := fun q__ => c_313 ((nI_eq (a := ss cS li + 1) (b := (ss cS li) + 1) (by omega) (by omega)).mpr q__)
              exact absurd rfl n_313
            · skip
              have n_313 : ss cS li + 1 = (ss cS li) + 1 := (nI_eq (a := ss cS li + 1) (b := (ss cS li) + 1) (by omega) (by omega)).mp c_313
              refine lv_iconst (v := nI 1) hx hb dL_act_316 (by decide) ?_
              refine lv_goto (tgt := 321) hx hb dL_act_317 (by decide) ?_
              refine W.widen (k := 4) (n := 32) (by omega) (by omega) ?_
              exact W.zret hx hb hr rfl (fun t ht hW => ⟨⟨_, ((st_add cS li (gw_ v)), m_296, u_306), rfl, ⟨rfl, ⟨hr_296, hZ.add h10 (by omega) (by omega) (gw_iw v)⟩⟩, (by show CW B0 g ct ad (st_add cS li (gw_ v)) m_296 u_306 t.heap; rw [ht]; exact hC.1)⟩, hS.F ht⟩) hS.2.2 dL_act_321
          · skip
            have n_284 : ss cS li = 10 := (nI_eq (a := ss cS li) (b := 10) (by omega) (by omega)).mp c_284
            refine lv_iconst (v := nI 1) hx hb dL_act_287 (by decide) ?_
            refine W.widen (k := 4) (n := 32) (by omega) (by omega) ?_
            exact W.zret hx hb hr rfl (fun t ht hW => ⟨⟨_, (cS, mS, x), rfl, ⟨rfl, ⟨hJ, hZ⟩⟩, (by show CW B0 g ct ad cS mS x t.heap; rw [ht]; exact hC.1)⟩, hS.F ht⟩) hS.2.2 dL_act_288
      · skip
        have n_40 : sn cS = 0 := (eq0_ (by omega)).mp c_40
        exact absurd n_40 n_7
    · skip
      have n_22 : sn cS = 0 := (eq0_ (by omega)).mp c_22
      exact absurd n_22 n_7
  · skip
    have n_7 : sn cS = 0 := (eq0_ (by omega)).mp c_7
    refine lv_iconst (v := nI 0) hx hb dL_act_10 (by decide) ?_
    refine lv_goto (tgt := 19) hx hb dL_act_11 (by decide) ?_
    refine lv_istore (lv' := [(4, .int (nI 0)), (3, .int (nI (sn cS))), (0, .ref (ad 0)), (1, .ref o), (2, .int v)]) hx hb dL_act_19 hl (by decide) rfl (fun ls hl => ?_)
    refine lv_iload_n hx hb dL_act_21 rfl (lv_at hl 1 rfl) ?_
    refine lv_if_ne (tgt := 29) hx hb dL_act_22 (by decide) (fun c_22 => ?_) (fun c_22 => ?_)
    · skip
      have n_22 : ¬ sn cS = 0 := fun q__ => c_22 ((eq0_ (by omega)).mpr q__)
      exact absurd n_7 n_22
    · skip
      have n_22 : sn cS = 0 := (eq0_ (by omega)).mp c_22
      refine lv_iconst (v := nI 0) hx hb dL_act_25 (by decide) ?_
      refine lv_goto (tgt := 37) hx hb dL_act_26 (by decide) ?_
      refine lv_istore (lv' := [(5, .int (nI 0)), (4, .int (nI 0)), (3, .int (nI (sn cS))), (0, .ref (ad 0)), (1, .ref o), (2, .int v)]) hx hb dL_act_37 hl (by decide) rfl (fun ls hl => ?_)
      refine lv_iload_n hx hb dL_act_39 rfl (lv_at hl 2 rfl) ?_
      refine lv_if_ne (tgt := 47) hx hb dL_act_40 (by decide) (fun c_40 => ?_) (fun c_40 => ?_)
      · skip
        have n_40 : ¬ sn cS = 0 := fun q__ => c_40 ((eq0_ (by omega)).mpr q__)
        exact absurd n_7 n_40
      · skip
        have n_40 : sn cS = 0 := (eq0_ (by omega)).mp c_40
        refine lv_iconst (v := nI 0) hx hb dL_act_43 (by decide) ?_
        refine lv_goto (tgt := 56) hx hb dL_act_44 (by decide) ?_
        refine lv_tableIn (x := nI 0) (off := 44) (tgt := 100) hx hb dL_act_56 (by decide) (by decide) rfl (by decide) ?_
        refine lv_iload_n hx hb dL_act_100 rfl (lv_at hl 2 rfl) ?_
        refine lv_bipush (v := nI 12) hx hb dL_act_101 (by decide) ?_
        refine lv_icmp_ne (tgt := 108) hx hb dL_act_103 (by decide) (fun c_103 => ?_) (fun c_103 => ?_)
        · skip
          have n_103 : ¬ sn cS = 12 := fun q__ => c_103 ((nI_eq (a := sn cS) (b := 12) (by omega) (by omega)).mpr q__)
          refine lv_aload_n hx hb dL_act_108 rfl (lv_at hl 4 rfl) ?_
          refine k_nV (As := []) (rest := []) (c_X1_write l B0 g ct ad cS mS x o cS hI ⟨lo, mo, la, wa, ba, hJ0.ex hE⟩ (hZ.1 _ (Nat.le_refl _))) hC hS ⟨hx, hb, hml, hown, hts⟩ (cwV 0 hts gL_act_X1_write rfl rfl rfl (by decide +kernel) ⟨Nat.le_of_ble_eq_true rfl, Nat.le_of_ble_eq_true rfl⟩) (rc1 hC (hJ0.1.ex hE)) rfl hl.1 rfl (Nat.le_of_ble_eq_true rfl) dL_act_109 ⟨(by show _ ≤ 4; omega), (by show _ ≤ 32; omega)⟩ (fun m_109 x_109 H locs hr_109 hC hS => ?_)
          refine lv_aload_n hx hb dL_act_112 rfl (lv_at hl 3 rfl) ?_
          refine k_wV (As := []) (rest := []) (c_X0_write l B0 g ct ad cS m_109 x_109 (by omega)) hC hB hS ⟨hx, hb, hml, hown, hts⟩ (cwV 0 hts gL_act_X0_write rfl rfl rfl (by decide +kernel) ⟨Nat.le_of_ble_eq_true rfl, Nat.le_of_ble_eq_true rfl⟩) (rc0 hC) rfl hl.1 rfl (Nat.le_of_ble_eq_true rfl) dL_act_113 ⟨(by show _ ≤ 4; omega), (by show _ ≤ 32; omega)⟩ (fun u_113 H locs hu_113 hC hS => ?_)
          refine lv_iload_n hx hb dL_act_116 rfl (lv_at hl 2 rfl) ?_
          refine lv_icmp_ne (tgt := 124) hx hb dL_act_117 (by decide) (fun c_117 => ?_) (fun c_117 => ?_)
          · skip
            have n_117 : ¬ sn cS = sn cS := fun q__ => c_117 ((nI_eq (a := sn cS) (b := sn cS) (by omega) (by omega)).mpr q__)
            exact absurd rfl n_117
          · skip
            have n_117 : sn cS = sn cS := (nI_eq (a := sn cS) (b := sn cS) (by omega) (by omega)).mp c_117
            refine lv_iconst (v := nI 1) hx hb dL_act_120 (by decide) ?_
            refine lv_goto (tgt := 125) hx hb dL_act_121 (by decide) ?_
            refine W.widen (k := 4) (n := 32) (by omega) (by omega) ?_
            exact W.zret hx hb hr rfl (fun t ht hW => ⟨⟨_, ((st_write cS), m_109, u_113), rfl, ⟨rfl, ⟨hr_109, hZ.write⟩⟩, (by show CW B0 g ct ad (st_write cS) m_109 u_113 t.heap; rw [ht]; exact hC.1)⟩, hS.F ht⟩) hS.2.2 dL_act_125
        · skip
          have n_103 : sn cS = 12 := (nI_eq (a := sn cS) (b := 12) (by omega) (by omega)).mp c_103
          refine lv_iconst (v := nI 1) hx hb dL_act_106 (by decide) ?_
          refine W.widen (k := 4) (n := 32) (by omega) (by omega) ?_
          exact W.zret hx hb hr rfl (fun t ht hW => ⟨⟨_, (cS, mS, x), rfl, ⟨rfl, ⟨hJ, hZ⟩⟩, (by show CW B0 g ct ad cS mS x t.heap; rw [ht]; exact hC.1)⟩, hS.F ht⟩) hS.2.2 dL_act_107
