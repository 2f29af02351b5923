/-- the poem that cells choose -/
abbrev WB (l : Launch) (B0 : Nat) (g : va_G) (ct ad : Nat → Nat) (mS : Pl_) (x : Ax_) (b L : Nat) (xs : Nat → Int32) : Prop := Met l yL_build wsL_build (rm_ 4 147 1155) (va_Pc [.ref (ad 0), .ref b] (fun U => CX B0 g ct ad z0_ mS x U U.heap ∧ va_X b L xs U U.heap)) (va_Qr (fun (u : St_ × Pl_ × Ax_) => IZ_ u.1) (fun u r t => SI_ ct u.2.1 r u.1 ∧ CW B0 g ct ad u.1 u.2.1 u.2.2 t.heap) (AA B0)) 147 1155 (AA B0)
set_option maxHeartbeats 4000000 in
set_option maxRecDepth 100000 in
theorem c_L_build (l : Launch) (B0 : Nat) (g : va_G) (ct ad : Nat → Nat) (mS : Pl_) (x : Ax_) (b L : Nat) (xs : Nat → Int32) (hL : L ≤ 260) (hbB : b < B0) : WB l B0 g ct ad mS x b L xs := by
  refine Met.ofW (cc := cL_build) (maxL := 4) (ret := (some (.object "AbjadPoemsLaw$Sim"))) (by decide) rfl ?_
  intro p e s m args below meth c s₁ B hml hv
  obtain ⟨rfl, hC, hX⟩ := hv
  have hx := B.exec
  have hb := B.bytes
  have hr := B.returns
  have hts := atoms_spec (ws := wsL_build) B.pre
  have hown : s.vm.findClass RL = some m.cls := findClass_of_methodNamed B.named
  have hlocks := B.notSynchronized
  have hin : ∀ w ∈ wsX00, w ∈ wsL_build := fun _ h => List.mem_cons_of_mem _ (List.mem_append_left _ (List.mem_append_left _ (List.mem_append_left _ (List.mem_append_right _ h))))
  have hin1 : ∀ w ∈ wsX10, w ∈ wsL_build := fun _ h => List.mem_cons_of_mem _ (List.mem_append_left _ (List.mem_append_left _ (List.mem_append_left _ (List.mem_append_left _ (List.mem_append_right _ h)))))
  have hS : va_S (AA B0) s.heap s.heap [] := va_S.rf
  have hB : B0 ≤ s.heap.size := hC.1.2.2.1
  have hbA : ¬ AA B0 b := fun q => absurd hbB (Nat.not_lt.mpr q)
  have hbl : b < s.heap.size := Nat.lt_of_lt_of_le hbB hB
  have hl := lv_entry ([.ref (ad 0), .ref b]) (n := 4) (Nat.le_of_ble_eq_true rfl)
  rw [lg_entry_eq]
  generalize (lg_sl ([.ref (ad 0), .ref b]) ++ List.replicate (4 - (lg_sl ([.ref (ad 0), .ref b])).length) Slot.unset).toArray = ls at hl ⊢
  have hl : lv_has ls 4 [(0, .ref (ad 0)), (1, .ref b)] := hl
  refine n_s hC hB hS hx hb hts hin1 hown (hts (.classLink RL 16 RX1) (by decide +kernel)) (hts (.instantiable RX1 3) (by decide +kernel)) (hts (.initialized RX1) (by decide +kernel)) (by show _ ≤ 147; omega) (by show _ ≤ 1155; omega) dL_build_0 (fun q_0 m_0 H fq_0 xq_0 O_0 hC hS => ?_)
  refine lv_dup hx hb dL_build_3 rfl ?_
  refine k_nI (As := []) (rest := [.ref q_0]) (c_X1_init l B0 g ct ad z0_ m_0 x q_0 O_0) hC hS ⟨hx, hb, hml, hown, hts⟩ ⟨va_cnB 0 hts gL_build_X1_init_n58 rfl rfl rfl hC.2.2.2.2.2.2.2.1 (hts (.initialized RX1) (by decide +kernel)) (by decide +kernel) ⟨Nat.le_of_ble_eq_true rfl, Nat.le_of_ble_eq_true rfl⟩, rfl, hts (.instanceMethod yX1_init) (by decide +kernel)⟩ rfl hl.1 rfl (Nat.le_of_ble_eq_true rfl) dL_build_4 ⟨(by show _ ≤ 147; omega), (by show _ ≤ 1155; omega)⟩ (fun m_4 x_4 H locs hr_4 hC hS => ?_)
  refine lv_astore_n (lv' := [(2, .ref q_0), (0, .ref (ad 0)), (1, .ref b)]) hx hb dL_build_7 rfl hl (by decide) rfl (fun ls hl => ?_)
  refine lv_iconst (v := nI 0) hx hb dL_build_8 (by decide) ?_
  refine lv_istore_n (lv' := [(3, .int (nI 0)), (2, .ref q_0), (0, .ref (ad 0)), (1, .ref b)]) hx hb dL_build_9 rfl hl (by decide) rfl (fun ls hl => ?_)
  have LP_10 : ∀ (n_ : Nat) (k : Nat) (cL : St_) (mL : Pl_) (xL : Ax_), 36 - k < n_ → (k ≤ 36) → (SI_ ct mL q_0 cL) → (IZ_ cL) → ∀ (H : Heap) (locs : List Loc), CX B0 g ct ad cL mL xL s H → va_S (AA B0) s.heap H locs → ∀ ls : Array Slot, lv_has ls 4 [(3, .int (nI k)), (2, .ref q_0), (0, .ref (ad 0)), (1, .ref b)] → W p l e (headSpec wsL_build (rm_ 4 147 1155)).room s m ([.ref (ad 0), .ref b] : List Value).toArray below meth c H locs (3 + 4 * k) (3 + 32 * k) (MQ below (va_Qr (fun (u : St_ × Pl_ × Ax_) => IZ_ u.1) (fun u r t => SI_ ct u.2.1 r u.1 ∧ CW B0 g ct ad u.1 u.2.1 u.2.2 t.heap) (AA B0)) ([.ref (ad 0), .ref b] : List Value).toArray s 147 1155 (AA B0)) (F0 m 10 ls []) := by
    intro n_
    induction n_ with
    | zero => intro k cL mL xL hm; exact absurd hm (Nat.not_lt_zero _)
    | succ n_ ih_10 =>
      intro k cL mL xL hm hk hJL hZL H locs hC hS ls hl
      refine lv_iload_n hx hb dL_build_10 rfl (lv_at hl 0 rfl) ?_
      refine lv_bipush (v := nI 36) hx hb dL_build_11 (by decide) ?_
      refine lv_icmp_ge (tgt := 53) hx hb dL_build_13 (by decide) (fun c_13 => ?_) (fun c_13 => ?_)
      · skip
        have n_13 : 36 ≤ k := (nI_leI (a := 36) (b := k) (by omega) (by omega)).mp c_13
        refine lv_aload_n hx hb dL_build_53 rfl (lv_at hl 1 rfl) ?_
        refine W.widen (k := 147) (n := 1155) (by omega) (by omega) ?_
        exact W.aret hx hb hr (Or.inl ⟨_, rfl⟩) (Or.inr ⟨_, rfl⟩) (fun t ht hW => ⟨⟨(cL, mL, xL), _, rfl, hZL, hJL, (by show CW B0 g ct ad cL mL xL t.heap; rw [ht]; exact hC.1)⟩, hS.F ht⟩) hS.2.2 dL_build_54
      · skip
        have n_13 : ¬ 36 ≤ k := fun q__ => c_13 ((nI_leI (a := 36) (b := k) (by omega) (by omega)).mpr q__)
        refine lv_aload_n hx hb dL_build_16 rfl (lv_at hl 2 rfl) ?_
        refine lv_aload_n hx hb dL_build_17 rfl (lv_at hl 1 rfl) ?_
        refine lv_aload_n hx hb dL_build_18 rfl (lv_at hl 3 rfl) ?_
        refine lv_iload_n hx hb dL_build_19 rfl (lv_at hl 0 rfl) ?_
        refine lv_bipush (v := nI 16) hx hb dL_build_20 (by decide) ?_
        refine lv_irem hx hb dL_build_22 (by decide) ?_
        refine lv_tn (pk_rem (by omega) (by decide) (by decide)) ?_
        refine k_cell (As := [.ref b, .int (nI (k % 16))]) (rest := [.ref q_0, .ref (ad 0)]) (c_L_cell l b L xs (k % 16) (by omega) hL) hX hbl hbA hS ⟨hx, hb, hml, hown, hts⟩ (va_cwS 2 hts gL_build_L_cell rfl rfl rfl (by decide +kernel) ⟨Nat.le_of_ble_eq_true rfl, Nat.le_of_ble_eq_true rfl⟩) rfl hl.1 rfl (Nat.le_of_ble_eq_true rfl) dL_build_23 ⟨(by show _ ≤ 147; omega), (by show _ ≤ 1155; omega)⟩ (fun v_23 => ?_)
        refine lv_iload_n hx hb dL_build_26 rfl (lv_at hl 0 rfl) ?_
        refine lv_bipush (v := nI 16) hx hb dL_build_27 (by decide) ?_
        refine lv_idiv hx hb dL_build_29 (by decide) ?_
        refine lv_tn (pk_div (by omega) (by decide) (by decide)) ?_
        refine lv_iconst (v := nI 3) hx hb dL_build_30 (by decide) ?_
        refine lv_imul hx hb dL_build_31 ?_
        refine lv_tn (pk_mul _ _) ?_
        refine lv_ishr hx hb dL_build_32 ?_
        refine lv_sipush (v := nI 239) hx hb dL_build_33 (by decide) ?_
        refine lv_iload_n hx hb dL_build_36 rfl (lv_at hl 0 rfl) ?_
        refine lv_imul hx hb dL_build_37 ?_
        refine lv_tn (pk_mul _ _) ?_
        refine lv_iadd hx hb dL_build_38 ?_
        refine k_act (rest := []) (c_L_act l B0 g ct ad cL mL xL q_0 hJL hZL ((v_23 >>> (nI ((k / 16) * 3) &&& 31)) + (nI (239 * k)))) hC hS ⟨hx, hb, hml, hown, hts⟩ (va_cwS 3 hts gL_build_L_act rfl rfl rfl (by decide +kernel) ⟨Nat.le_of_ble_eq_true rfl, Nat.le_of_ble_eq_true rfl⟩) hl.1 rfl (Nat.le_of_ble_eq_true rfl) dL_build_39 ⟨(by show _ ≤ 147; omega), (by show _ ≤ 1155; omega)⟩ (fun c_a39 m_a39 x_a39 H locs hJ_39 hZ_39 hC hS => ?_)
        refine lv_if_ne (tgt := 47) hx hb dL_build_42 (by decide) (fun c_42 => ?_) (fun c_42 => ?_)
        · skip
          have n_42 : ¬ 1 = 0 := fun q__ => c_42 ((eq0_ (by omega)).mpr q__)
          refine lv_iinc (v := nI (k + 1)) (lv' := [(3, .int (nI (k + 1))), (2, .ref q_0), (0, .ref (ad 0)), (1, .ref b)]) hx hb dL_build_47 hl (k := 0) rfl (nI_1 _) (by decide) rfl (fun ls hl => ?_)
          refine lv_goto (tgt := 10) hx hb dL_build_50 (by decide) ?_
          refine W.widen (k := 3 + 4 * (k + 1)) (n := 3 + 32 * (k + 1)) (by omega) (by omega) ?_
          exact ih_10 (k + 1) c_a39 m_a39 x_a39 (by omega) (by omega) hJ_39 hZ_39 H locs hC hS ls (lv_sub hl [0, 1, 2, 3] rfl)
        · skip
          have n_42 : 1 = 0 := (eq0_ (by omega)).mp c_42
          exact absurd n_42 (by decide)
  refine W.widen (k := 3 + 4 * 0) (n := 3 + 32 * 0) (by omega) (by omega) ?_
  exact LP_10 _ 0 z0_ m_4 x_4 (Nat.lt_succ_self _) (by omega) hr_4 IZ_z H locs hC hS ls (lv_sub hl [0, 1, 2, 3] rfl)
