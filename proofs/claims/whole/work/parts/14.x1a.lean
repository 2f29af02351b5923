set_option maxHeartbeats 4000000 in
set_option maxRecDepth 100000 in
theorem c_X1_isIn (l : Launch) (v lo hi : Int32) : RI l yX1_isIn wsX1_isIn 0 (va_Pc [.int v, .int lo, .int hi] (fun _ => True)) (b2_ (ii_ v lo hi)) := by
  refine Met.ofW (cc := cX1_isIn) (maxL := 3) (ret := (some .boolean)) (by decide) rfl ?_
  intro p e s m args below meth c s₁ B hml hv
  obtain ⟨rfl, -⟩ := hv
  have hx := B.exec
  have hb := B.bytes
  have hr := B.returns
  have hts := atoms_spec (ws := wsX1_isIn) B.pre
  have hown : s.vm.findClass RX1 = some m.cls := findClass_of_methodNamed B.named
  have hlocks := B.notSynchronized
  have hl := lv_entry ([.int v, .int lo, .int hi]) (n := 3) (Nat.le_of_ble_eq_true rfl)
  rw [lg_entry_eq]
  generalize (lg_sl ([.int v, .int lo, .int hi]) ++ List.replicate (3 - (lg_sl ([.int v, .int lo, .int hi])).length) Slot.unset).toArray = ls at hl ⊢
  have hl : lv_has ls 3 [(0, .int v), (1, .int lo), (2, .int hi)] := hl
  refine lv_iload_n hx hb dX1_isIn_0 rfl (lv_at hl 0 rfl) ?_
  refine lv_iload_n hx hb dX1_isIn_1 rfl (lv_at hl 1 rfl) ?_
  refine lv_icmp_lt (tgt := 14) hx hb dX1_isIn_2 (by decide) (fun c_2 => ?_) (fun c_2 => ?_)
  · skip
    have hE := ii_1 (hi := hi) c_2
    refine lv_iconst (v := nI 0) hx hb dX1_isIn_14 (by decide) ?_
    exact W.zret hx hb hr rfl (fun t ht hW => ⟨_, rfl, (by show nI 0 = b2_ (ii_ v lo hi); rw [hE]; rfl), ht⟩) (fun q hq => absurd hq List.not_mem_nil) dX1_isIn_15
  · skip
    refine lv_iload_n hx hb dX1_isIn_5 rfl (lv_at hl 0 rfl) ?_
    refine lv_iload_n hx hb dX1_isIn_6 rfl (lv_at hl 2 rfl) ?_
    refine lv_icmp_gt (tgt := 14) hx hb dX1_isIn_7 (by decide) (fun c_7 => ?_) (fun c_7 => ?_)
    · skip
      have hE := ii_2 (lo := lo) c_7
      refine lv_iconst (v := nI 0) hx hb dX1_isIn_14 (by decide) ?_
      exact W.zret hx hb hr rfl (fun t ht hW => ⟨_, rfl, (by show nI 0 = b2_ (ii_ v lo hi); rw [hE]; rfl), ht⟩) (fun q hq => absurd hq List.not_mem_nil) dX1_isIn_15
    · skip
      have hE := ii_3 c_2 c_7
      refine lv_iconst (v := nI 1) hx hb dX1_isIn_10 (by decide) ?_
      refine lv_goto (tgt := 15) hx hb dX1_isIn_11 (by decide) ?_
      exact W.zret hx hb hr rfl (fun t ht hW => ⟨_, rfl, (by show nI 1 = b2_ (ii_ v lo hi); rw [hE]; rfl), ht⟩) (fun q hq => absurd hq List.not_mem_nil) dX1_isIn_15
set_option maxHeartbeats 4000000 in
set_option maxRecDepth 100000 in
theorem c_X1_thrown (l : Launch) (B0 : Nat) (g : va_G) (ct ad : Nat → Nat) (cS mS : St_) (x : Ax_)  : RI l yX1_thrown wsX1_thrown 0 (PX B0 g ct ad cS mS x [.ref (ad 7)]) (xh x) := by
  refine Met.ofW (cc := cX1_thrown) (maxL := 1) (ret := (some .int)) (by decide) rfl ?_
  intro p e s m args below meth c s₁ B hml hv
  obtain ⟨rfl, hC⟩ := hv
  have hx := B.exec
  have hb := B.bytes
  have hr := B.returns
  have hts := atoms_spec (ws := wsX1_thrown) B.pre
  have hown : s.vm.findClass RX1 = some m.cls := findClass_of_methodNamed B.named
  have hlocks := B.notSynchronized
  have hin : ∀ w ∈ wsX10, w ∈ wsX1_thrown := fun _ h => List.mem_cons_of_mem _ (List.mem_append_right _ h)
  have hl := lv_entry ([.ref (ad 7)]) (n := 1) (Nat.le_of_ble_eq_true rfl)
  rw [lg_entry_eq]
  generalize (lg_sl ([.ref (ad 7)]) ++ List.replicate (1 - (lg_sl ([.ref (ad 7)])).length) Slot.unset).toArray = ls at hl ⊢
  have hl : lv_has ls 1 [(0, .ref (ad 7))] := hl
  refine lv_aload_n hx hb dX1_thrown_0 rfl (lv_at hl 0 rfl) ?_
  refine r_g1 hC hx hb hts hin hown 0 (by decide) (hts (.fieldLink RX1 20 "AbjadPoemsModel" "thrown" "I") (by decide +kernel)) rfl dX1_thrown_1 ?_
  exact W.iret hx hb hr (fun t ht hW => ⟨_, rfl, rfl, ht⟩) (fun q hq => absurd hq List.not_mem_nil) dX1_thrown_4
set_option maxHeartbeats 4000000 in
set_option maxRecDepth 100000 in
theorem c_X1_isLine (l : Launch) (B0 : Nat) (g : va_G) (ct ad : Nat → Nat) (cS mS : St_) (x : Ax_) (li : Int32) : RI l yX1_isLine wsX1_isLine 1 (PX B0 g ct ad cS mS x [.ref (ad 7), .int li]) (b2_ (li_ (sn mS) li)) := by
  refine Met.ofW (cc := cX1_isLine) (maxL := 2) (ret := (some .boolean)) (by decide) rfl ?_
  intro p e s m args below meth c s₁ B hml hv
  obtain ⟨rfl, hC⟩ := hv
  have hx := B.exec
  have hb := B.bytes
  have hr := B.returns
  have hts := atoms_spec (ws := wsX1_isLine) B.pre
  have hown : s.vm.findClass RX1 = some m.cls := findClass_of_methodNamed B.named
  have hlocks := B.notSynchronized
  have hin : ∀ w ∈ wsX10, w ∈ wsX1_isLine := fun _ h => List.mem_cons_of_mem _ (List.mem_append_right _ h)
  have hl := lv_entry ([.ref (ad 7), .int li]) (n := 2) (Nat.le_of_ble_eq_true rfl)
  rw [lg_entry_eq]
  generalize (lg_sl ([.ref (ad 7), .int li]) ++ List.replicate (2 - (lg_sl ([.ref (ad 7), .int li])).length) Slot.unset).toArray = ls at hl ⊢
  have hl : lv_has ls 2 [(0, .ref (ad 7)), (1, .int li)] := hl
  refine lv_iload_n hx hb dX1_isLine_0 rfl (lv_at hl 1 rfl) ?_
  refine lv_iconst (v := nI 0) hx hb dX1_isLine_1 (by decide) ?_
  refine lv_aload_n hx hb dX1_isLine_2 rfl (lv_at hl 0 rfl) ?_
  refine r_g1 hC hx hb hts hin hown 2 (by decide) (hts (.fieldLink RX1 24 "AbjadPoemsModel" "lines" "I") (by decide +kernel)) rfl dX1_isLine_3 ?_
  refine lv_iconst (v := nI 1) hx hb dX1_isLine_6 (by decide) ?_
  refine lv_isub hx hb dX1_isLine_7 ?_
  refine k_pS (As := [.int li, .int (nI 0), .int ((nI (sn mS)) - (nI 1))]) (rest := []) (c_X1_isIn l li (nI 0) ((nI (sn mS)) - (nI 1))) ⟨hx, hb, hml, hown, hts⟩ (va_cwS 3 hts gX1_isLine_X1_isIn rfl rfl rfl (by decide +kernel) ⟨Nat.le_of_ble_eq_true rfl, Nat.le_of_ble_eq_true rfl⟩) rfl hl.1 rfl (Nat.le_of_ble_eq_true rfl) dX1_isLine_8 ⟨Nat.le_of_ble_eq_true rfl, Nat.le_of_ble_eq_true rfl⟩ ?_
  exact W.zret hx hb hr b2_n (fun t ht hW => ⟨_, rfl, rfl, ht⟩) (fun q hq => absurd hq List.not_mem_nil) dX1_isLine_11
set_option maxHeartbeats 4000000 in
set_option maxRecDepth 100000 in
theorem c_X1_valueOf (l : Launch) (B0 : Nat) (g : va_G) (ct ad : Nat → Nat) (cS mS : St_) (x : Ax_) (k : Nat) (hk : k < 27) : RI l yX1_valueOf wsX1_valueOf 0 (PX B0 g ct ad cS mS x [.ref (ad 7), .int (nI k)]) (nI (vl_ (so mS) k)) := by
  refine Met.ofW (cc := cX1_valueOf) (maxL := 2) (ret := (some .int)) (by decide) rfl ?_
  intro p e s m args below meth c s₁ B hml hv
  obtain ⟨rfl, hC⟩ := hv
  have hx := B.exec
  have hb := B.bytes
  have hr := B.returns
  have hts := atoms_spec (ws := wsX1_valueOf) B.pre
  have hown : s.vm.findClass RX1 = some m.cls := findClass_of_methodNamed B.named
  have hlocks := B.notSynchronized
  have hin : ∀ w ∈ wsX10, w ∈ wsX1_valueOf := fun _ h => List.mem_cons_of_mem _ (List.mem_append_right _ h)
  have ho : so mS < 3 := hC.1.2.2.2.2.1.1
  have hkk : k * k ≤ 26 * 26 := Nat.mul_le_mul (by omega) (by omega)
  have hl := lv_entry ([.ref (ad 7), .int (nI k)]) (n := 2) (Nat.le_of_ble_eq_true rfl)
  rw [lg_entry_eq]
  generalize (lg_sl ([.ref (ad 7), .int (nI k)]) ++ List.replicate (2 - (lg_sl ([.ref (ad 7), .int (nI k)])).length) Slot.unset).toArray = ls at hl ⊢
  have hl : lv_has ls 2 [(0, .ref (ad 7)), (1, .int (nI k))] := hl
  refine lv_aload_n hx hb dX1_valueOf_0 rfl (lv_at hl 0 rfl) ?_
  refine r_g1 hC hx hb hts hin hown 1 (by decide) (hts (.fieldLink RX1 35 "AbjadPoemsModel" "order" "I") (by decide +kernel)) rfl dX1_valueOf_1 ?_
  refine lv_iconst (v := nI 1) hx hb dX1_valueOf_4 (by decide) ?_
  refine lv_icmp_ne (tgt := 10) hx hb dX1_valueOf_5 (by decide) (fun c_5 => ?_) (fun c_5 => ?_)
  · skip
    have n_5 : ¬ so mS = 1 := fun q__ => c_5 ((nI_eq (a := so mS) (b := 1) (by omega) (by omega)).mpr q__)
    refine lv_aload_n hx hb dX1_valueOf_10 rfl (lv_at hl 0 rfl) ?_
    refine r_g1 hC hx hb hts hin hown 1 (by decide) (hts (.fieldLink RX1 35 "AbjadPoemsModel" "order" "I") (by decide +kernel)) rfl dX1_valueOf_11 ?_
    refine lv_iconst (v := nI 2) hx hb dX1_valueOf_14 (by decide) ?_
    refine lv_icmp_ne (tgt := 30) hx hb dX1_valueOf_15 (by decide) (fun c_15 => ?_) (fun c_15 => ?_)
    · skip
      have n_15 : ¬ so mS = 2 := fun q__ => c_15 ((nI_eq (a := so mS) (b := 2) (by omega) (by omega)).mpr q__)
      refine lv_iload_n hx hb dX1_valueOf_30 rfl (lv_at hl 1 rfl) ?_
      refine lv_bipush (v := nI 10) hx hb dX1_valueOf_31 (by decide) ?_
      refine lv_icmp_ge (tgt := 40) hx hb dX1_valueOf_33 (by decide) (fun c_33 => ?_) (fun c_33 => ?_)
      · skip
        have n_33 : 10 ≤ k := (nI_leI (a := 10) (b := k) (by omega) (by omega)).mp c_33
        refine lv_iload_n hx hb dX1_valueOf_40 rfl (lv_at hl 1 rfl) ?_
        refine lv_bipush (v := nI 19) hx hb dX1_valueOf_41 (by decide) ?_
        refine lv_icmp_ge (tgt := 56) hx hb dX1_valueOf_43 (by decide) (fun c_43 => ?_) (fun c_43 => ?_)
        · skip
          have n_43 : 19 ≤ k := (nI_leI (a := 19) (b := k) (by omega) (by omega)).mp c_43
          have hE : 100 * (k - 18) = vl_ (so mS) k := by rw [Nat.mul_comm]; exact vA5 _ ho k hk n_15 n_5 (by omega) (by omega)
          refine lv_bipush (v := nI 100) hx hb dX1_valueOf_56 (by decide) ?_
          refine lv_iload_n hx hb dX1_valueOf_58 rfl (lv_at hl 1 rfl) ?_
          refine lv_bipush (v := nI 18) hx hb dX1_valueOf_59 (by decide) ?_
          refine lv_isub hx hb dX1_valueOf_61 ?_
          refine lv_tn (pk_sub (by omega)) ?_
          refine lv_imul hx hb dX1_valueOf_62 ?_
          refine lv_tn (pk_mul _ _) ?_
          exact W.iret hx hb hr (fun t ht hW => ⟨_, rfl, (congrArg nI hE), ht⟩) (fun q hq => absurd hq List.not_mem_nil) dX1_valueOf_63
        · skip
          have n_43 : ¬ 19 ≤ k := fun q__ => c_43 ((nI_leI (a := 19) (b := k) (by omega) (by omega)).mpr q__)
          have hE : 10 * (k - 9) = vl_ (so mS) k := by rw [Nat.mul_comm]; exact vA4 _ ho k hk n_15 n_5 (by omega) (by omega)
          refine lv_bipush (v := nI 10) hx hb dX1_valueOf_46 (by decide) ?_
          refine lv_iload_n hx hb dX1_valueOf_48 rfl (lv_at hl 1 rfl) ?_
          refine lv_bipush (v := nI 9) hx hb dX1_valueOf_49 (by decide) ?_
          refine lv_isub hx hb dX1_valueOf_51 ?_
          refine lv_tn (pk_sub (by omega)) ?_
          refine lv_imul hx hb dX1_valueOf_52 ?_
          refine lv_tn (pk_mul _ _) ?_
          refine lv_goto (tgt := 63) hx hb dX1_valueOf_53 (by decide) ?_
          exact W.iret hx hb hr (fun t ht hW => ⟨_, rfl, (congrArg nI hE), ht⟩) (fun q hq => absurd hq List.not_mem_nil) dX1_valueOf_63
      · skip
        have n_33 : ¬ 10 ≤ k := fun q__ => c_33 ((nI_leI (a := 10) (b := k) (by omega) (by omega)).mpr q__)
        have hE := vA3 _ ho k hk n_15 n_5 (by omega)
        refine lv_iload_n hx hb dX1_valueOf_36 rfl (lv_at hl 1 rfl) ?_
        refine lv_goto (tgt := 63) hx hb dX1_valueOf_37 (by decide) ?_
        exact W.iret hx hb hr (fun t ht hW => ⟨_, rfl, (congrArg nI hE), ht⟩) (fun q hq => absurd hq List.not_mem_nil) dX1_valueOf_63
    · skip
      have n_15 : so mS = 2 := (nI_eq (a := so mS) (b := 2) (by omega) (by omega)).mp c_15
      have hE := vA1 _ ho k hk n_15
      refine lv_iload_n hx hb dX1_valueOf_18 rfl (lv_at hl 1 rfl) ?_
      refine lv_iload_n hx hb dX1_valueOf_19 rfl (lv_at hl 1 rfl) ?_
      refine lv_imul hx hb dX1_valueOf_20 ?_
      refine lv_tn (pk_mul _ _) ?_
      refine lv_bipush (v := nI 7) hx hb dX1_valueOf_21 (by decide) ?_
      refine lv_imul hx hb dX1_valueOf_23 ?_
      refine lv_tn (pk_mul _ _) ?_
      refine lv_bipush (v := nI 101) hx hb dX1_valueOf_24 (by decide) ?_
      refine lv_irem hx hb dX1_valueOf_26 (by decide) ?_
      refine lv_tn (pk_rem (by omega) (by decide) (by decide)) ?_
      refine lv_iconst (v := nI 1) hx hb dX1_valueOf_27 (by decide) ?_
      refine lv_iadd hx hb dX1_valueOf_28 ?_
      refine lv_tn (nI_add _ _) ?_
      exact W.iret hx hb hr (fun t ht hW => ⟨_, rfl, (by show nI ((((k * k) * 7) % 101) + 1) = nI (vl_ (so mS) k); rw [← hE]), ht⟩) (fun q hq => absurd hq List.not_mem_nil) dX1_valueOf_29
  · skip
    have n_5 : so mS = 1 := (nI_eq (a := so mS) (b := 1) (by omega) (by omega)).mp c_5
    have hE := vA2 _ ho k hk (by omega) n_5
    refine lv_iload_n hx hb dX1_valueOf_8 rfl (lv_at hl 1 rfl) ?_
    exact W.iret hx hb hr (fun t ht hW => ⟨_, rfl, (by show nI k = nI (vl_ (so mS) k); rw [← hE]), ht⟩) (fun q hq => absurd hq List.not_mem_nil) dX1_valueOf_9
set_option maxHeartbeats 4000000 in
set_option maxRecDepth 100000 in
theorem c_X1_size (l : Launch) (w : Nat) (hw : w < 2 ^ 31) : RI l yX1_size wsX1_size 0 (va_Pc [.int (nI w)] (fun _ => True)) (nI (ln_ w)) := by
  refine Met.ofW (cc := cX1_size) (maxL := 3) (ret := (some .int)) (by decide) rfl ?_
  intro p e s m args below meth c s₁ B hml hv
  obtain ⟨rfl, -⟩ := hv
  have hx := B.exec
  have hb := B.bytes
  have hr := B.returns
  have hts := atoms_spec (ws := wsX1_size) B.pre
  have hown : s.vm.findClass RX1 = some m.cls := findClass_of_methodNamed B.named
  have hlocks := B.notSynchronized
  have hl := lv_entry ([.int (nI w)]) (n := 3) (Nat.le_of_ble_eq_true rfl)
  rw [lg_entry_eq]
  generalize (lg_sl ([.int (nI w)]) ++ List.replicate (3 - (lg_sl ([.int (nI w)])).length) Slot.unset).toArray = ls at hl ⊢
  have hl : lv_has ls 3 [(0, .int (nI w))] := hl
  refine lv_iconst (v := nI 0) hx hb dX1_size_0 (by decide) ?_
  refine lv_istore_n (lv' := [(1, .int (nI 0)), (0, .int (nI w))]) hx hb dX1_size_1 rfl hl (by decide) rfl (fun ls hl => ?_)
  refine lv_iload_n hx hb dX1_size_2 rfl (lv_at hl 1 rfl) ?_
  refine lv_istore_n (lv' := [(2, .int (nI w)), (1, .int (nI 0)), (0, .int (nI w))]) hx hb dX1_size_3 rfl hl (by decide) rfl (fun ls hl => ?_)
  have LP_4 : ∀ (n_ : Nat) (k : Nat) (r : Nat) (f : Nat), r < n_ → (k + lnf f r = ln_ w) → (r < 27 ^ f) → (r < 2 ^ 31) → ∀ ls : Array Slot, lv_has ls 3 [(2, .int (nI r)), (1, .int (nI k)), (0, .int (nI w))] → W p l e (headSpec wsX1_size (rm_ 0 0 0)).room s m ([.int (nI w)] : List Value).toArray below meth c s.heap [] 0 0 (MQ below (vp_Si (fun r => r = nI (ln_ w))) ([.int (nI w)] : List Value).toArray s 0 0 (fun _ => False)) (F0 m 4 ls []) := by
    intro n_
    induction n_ with
    | zero => intro k r f hm; exact absurd hm (Nat.not_lt_zero _)
    | succ n_ ih_4 =>
      intro k r f hm h1 h2 h3 ls hl
      refine lv_iload_n hx hb dX1_size_4 rfl (lv_at hl 0 rfl) ?_
      refine lv_if_le (tgt := 19) hx hb dX1_size_5 (by decide) (fun c_5 => ?_) (fun c_5 => ?_)
      · skip
        have n_5 : r = 0 := (nle0_ (by omega)).mp c_5
        have hE : k = ln_ w := by rw [n_5, lnf_0] at h1; exact h1
        refine lv_iload_n hx hb dX1_size_19 rfl (lv_at hl 1 rfl) ?_
        exact W.iret hx hb hr (fun t ht hW => ⟨_, rfl, (congrArg nI hE), ht⟩) (fun q hq => absurd hq List.not_mem_nil) dX1_size_20
      · skip
        have n_5 : 0 < r := Nat.pos_of_ne_zero (fun q__ => c_5 ((nle0_ (by omega)).mpr q__))
        refine lv_iinc (v := nI (k + 1)) (lv' := [(1, .int (nI (k + 1))), (2, .int (nI r)), (0, .int (nI w))]) hx hb dX1_size_8 hl (k := 1) rfl (nI_1 _) (by decide) rfl (fun ls hl => ?_)
        refine lv_iload_n hx hb dX1_size_11 rfl (lv_at hl 1 rfl) ?_
        refine lv_bipush (v := nI 27) hx hb dX1_size_12 (by decide) ?_
        refine lv_idiv hx hb dX1_size_14 (by decide) ?_
        refine lv_tn (pk_div (by omega) (by decide) (by decide)) ?_
        refine lv_istore_n (lv' := [(2, .int (nI (r / 27))), (1, .int (nI (k + 1))), (0, .int (nI w))]) hx hb dX1_size_15 rfl hl (by decide) rfl (fun ls hl => ?_)
        refine lv_goto (tgt := 4) hx hb dX1_size_16 (by decide) ?_
        exact ih_4 (k + 1) (r / 27) (f - 1) (by omega) (by have h9 := (lnf_p h2 (by omega)).1; omega) (lnf_p h2 (by omega)).2.1 (by omega) ls (lv_sub hl [0, 1, 2] rfl)
  exact LP_4 _ 0 w 7 (Nat.lt_succ_self _) (Nat.zero_add _) (by omega) hw ls (lv_sub hl [0, 1, 2] rfl)
set_option maxHeartbeats 4000000 in
set_option maxRecDepth 100000 in
theorem c_X1_isWord_a (l : Launch) (w : Int32) (hle : w ≤ 0) : RI l yX1_isWord wsX1_isWord 1 (va_Pc [.int w] (fun _ => True)) (b2_ (wd_ w)) := by
  refine Met.ofW (cc := cX1_isWord) (maxL := 2) (ret := (some .boolean)) (by decide) rfl ?_
  intro p e s m args below meth c s₁ B hml hv
  obtain ⟨rfl, -⟩ := hv
  have hx := B.exec
  have hb := B.bytes
  have hr := B.returns
  have hts := atoms_spec (ws := wsX1_isWord) B.pre
  have hown : s.vm.findClass RX1 = some m.cls := findClass_of_methodNamed B.named
  have hlocks := B.notSynchronized
  have hE := wd_0 hle
  have hl := lv_entry ([.int w]) (n := 2) (Nat.le_of_ble_eq_true rfl)
  rw [lg_entry_eq]
  generalize (lg_sl ([.int w]) ++ List.replicate (2 - (lg_sl ([.int w])).length) Slot.unset).toArray = ls at hl ⊢
  have hl : lv_has ls 2 [(0, .int w)] := hl
  refine lv_iload_n hx hb dX1_isWord_0 rfl (lv_at hl 0 rfl) ?_
  refine lv_istore_n (lv' := [(1, .int w), (0, .int w)]) hx hb dX1_isWord_1 rfl hl (by decide) rfl (fun ls hl => ?_)
  have LP_2 : ∀ (n_ : Nat), 0 < n_ → ∀ ls : Array Slot, lv_has ls 2 [(1, .int w), (0, .int w)] → W p l e (headSpec wsX1_isWord (rm_ 1 0 0)).room s m ([.int w] : List Value).toArray below meth c s.heap [] 0 0 (MQ below (vp_Si (fun r => r = b2_ (wd_ w))) ([.int w] : List Value).toArray s 0 0 (fun _ => False)) (F0 m 2 ls []) := by
    intro n_
    induction n_ with
    | zero => intro  hm; exact absurd hm (Nat.not_lt_zero _)
    | succ n_ ih_2 =>
      intro  hm ls hl
      refine lv_iload_n hx hb dX1_isWord_2 rfl (lv_at hl 0 rfl) ?_
      refine lv_if_le (tgt := 23) hx hb dX1_isWord_3 (by decide) (fun c_3 => ?_) (fun c_3 => ?_)
      · skip
        refine lv_iload_n hx hb dX1_isWord_23 rfl (lv_at hl 1 rfl) ?_
        refine lv_if_le (tgt := 40) hx hb dX1_isWord_24 (by decide) (fun c_24 => ?_) (fun c_24 => ?_)
        · skip
          refine lv_iconst (v := nI 0) hx hb dX1_isWord_40 (by decide) ?_
          exact W.zret hx hb hr rfl (fun t ht hW => ⟨_, rfl, (by show nI 0 = b2_ (wd_ w); rw [hE]; rfl), ht⟩) (fun q hq => absurd hq List.not_mem_nil) dX1_isWord_41
        · skip
          exact absurd hle c_24
      · skip
        exact absurd hle c_3
  exact LP_2 _  (Nat.lt_succ_self _) ls (lv_sub hl [0, 1] rfl)
set_option maxHeartbeats 4000000 in
set_option maxRecDepth 100000 in
theorem c_X1_isWord_b (l : Launch) (n : Nat) (h0 : 0 < n) (hn : n < 2 ^ 31) : RI l yX1_isWord wsX1_isWord 1 (va_Pc [.int (nI n)] (fun _ => True)) (b2_ (iw_ n)) := by
  refine Met.ofW (cc := cX1_isWord) (maxL := 2) (ret := (some .boolean)) (by decide) rfl ?_
  intro p e s m args below meth c s₁ B hml hv
  obtain ⟨rfl, -⟩ := hv
  have hx := B.exec
  have hb := B.bytes
  have hr := B.returns
  have hts := atoms_spec (ws := wsX1_isWord) B.pre
  have hown : s.vm.findClass RX1 = some m.cls := findClass_of_methodNamed B.named
  have hlocks := B.notSynchronized
  have h7 := ln_7 n
  have hl := lv_entry ([.int (nI n)]) (n := 2) (Nat.le_of_ble_eq_true rfl)
  rw [lg_entry_eq]
  generalize (lg_sl ([.int (nI n)]) ++ List.replicate (2 - (lg_sl ([.int (nI n)])).length) Slot.unset).toArray = ls at hl ⊢
  have hl : lv_has ls 2 [(0, .int (nI n))] := hl
  refine lv_iload_n hx hb dX1_isWord_0 rfl (lv_at hl 0 rfl) ?_
  refine lv_istore_n (lv' := [(1, .int (nI n)), (0, .int (nI n))]) hx hb dX1_isWord_1 rfl hl (by decide) rfl (fun ls hl => ?_)
  have LP_2 : ∀ (n_ : Nat) (r : Nat) (f : Nat), r < n_ → (nz_ f r = nz_ 7 n) → (r < 27 ^ f) → (r < 2 ^ 31) → ∀ ls : Array Slot, lv_has ls 2 [(1, .int (nI r)), (0, .int (nI n))] → W p l e (headSpec wsX1_isWord (rm_ 1 0 0)).room s m ([.int (nI n)] : List Value).toArray below meth c s.heap [] 0 0 (MQ below (vp_Si (fun r => r = b2_ (iw_ n))) ([.int (nI n)] : List Value).toArray s 0 0 (fun _ => False)) (F0 m 2 ls []) := by
    intro n_
    induction n_ with
    | zero => intro r f hm; exact absurd hm (Nat.not_lt_zero _)
    | succ n_ ih_2 =>
      intro r f hm h1 h2 h3 ls hl
      refine lv_iload_n hx hb dX1_isWord_2 rfl (lv_at hl 0 rfl) ?_
      refine lv_if_le (tgt := 23) hx hb dX1_isWord_3 (by decide) (fun c_3 => ?_) (fun c_3 => ?_)
      · skip
        have n_3 : r = 0 := (nle0_ (by omega)).mp c_3
        have hz : nz_ 7 n = true := by rw [← h1, n_3, nz_0]
        refine lv_iload_n hx hb dX1_isWord_23 rfl (lv_at hl 1 rfl) ?_
        refine lv_if_le (tgt := 40) hx hb dX1_isWord_24 (by decide) (fun c_24 => ?_) (fun c_24 => ?_)
        · skip
          have n_24 : n = 0 := (nle0_ (by omega)).mp c_24
          exact absurd n_24 (by omega)
        · skip
          have n_24 : 0 < n := Nat.pos_of_ne_zero (fun q__ => c_24 ((nle0_ (by omega)).mpr q__))
          refine lv_iload_n hx hb dX1_isWord_27 rfl (lv_at hl 1 rfl) ?_
          refine k_pS (As := [.int (nI n)]) (rest := []) (c_X1_size l n (by omega)) ⟨hx, hb, hml, hown, hts⟩ (va_cwS 1 hts gX1_isWord_X1_size rfl rfl rfl (by decide +kernel) ⟨Nat.le_of_ble_eq_true rfl, Nat.le_of_ble_eq_true rfl⟩) rfl hl.1 rfl (Nat.le_of_ble_eq_true rfl) dX1_isWord_28 ⟨Nat.le_of_ble_eq_true rfl, Nat.le_of_ble_eq_true rfl⟩ ?_
          refine lv_bipush (v := nI 6) hx hb dX1_isWord_31 (by decide) ?_
          refine lv_icmp_gt (tgt := 40) hx hb dX1_isWord_33 (by decide) (fun c_33 => ?_) (fun c_33 => ?_)
          · skip
            have n_33 : 6 < ln_ n := (nI_ltI (a := 6) (b := ln_ n) (by omega) (by omega)).mp c_33
            have hE : iw_ n = false := iw_b ((ln_i hn).mp n_33)
            refine lv_iconst (v := nI 0) hx hb dX1_isWord_40 (by decide) ?_
            exact W.zret hx hb hr rfl (fun t ht hW => ⟨_, rfl, (by show nI 0 = b2_ (iw_ n); rw [hE]; rfl), ht⟩) (fun q hq => absurd hq List.not_mem_nil) dX1_isWord_41
          · skip
            have n_33 : ¬ 6 < ln_ n := fun q__ => c_33 ((nI_ltI (a := 6) (b := ln_ n) (by omega) (by omega)).mpr q__)
            have hE : iw_ n = true := iw_y h0 (Decidable.of_not_not (fun q => n_33 ((ln_i hn).mpr q))) hz
            refine lv_iconst (v := nI 1) hx hb dX1_isWord_36 (by decide) ?_
            refine lv_goto (tgt := 41) hx hb dX1_isWord_37 (by decide) ?_
            exact W.zret hx hb hr rfl (fun t ht hW => ⟨_, rfl, (by show nI 1 = b2_ (iw_ n); rw [hE]; rfl), ht⟩) (fun q hq => absurd hq List.not_mem_nil) dX1_isWord_41
      · skip
        have n_3 : 0 < r := Nat.pos_of_ne_zero (fun q__ => c_3 ((nle0_ (by omega)).mpr q__))
        refine lv_iload_n hx hb dX1_isWord_6 rfl (lv_at hl 0 rfl) ?_
        refine lv_bipush (v := nI 27) hx hb dX1_isWord_7 (by decide) ?_
        refine lv_irem hx hb dX1_isWord_9 (by decide) ?_
        refine lv_tn (pk_rem (by omega) (by decide) (by decide)) ?_
        refine lv_if_ne (tgt := 15) hx hb dX1_isWord_10 (by decide) (fun c_10 => ?_) (fun c_10 => ?_)
        · skip
          have n_10 : ¬ r % 27 = 0 := fun q__ => c_10 ((eq0_ (by omega)).mpr q__)
          refine lv_iload_n hx hb dX1_isWord_15 rfl (lv_at hl 0 rfl) ?_
          refine lv_bipush (v := nI 27) hx hb dX1_isWord_16 (by decide) ?_
          refine lv_idiv hx hb dX1_isWord_18 (by decide) ?_
          refine lv_tn (pk_div (by omega) (by decide) (by decide)) ?_
          refine lv_istore_n (lv' := [(1, .int (nI (r / 27))), (0, .int (nI n))]) hx hb dX1_isWord_19 rfl hl (by decide) rfl (fun ls hl => ?_)
          refine lv_goto (tgt := 2) hx hb dX1_isWord_20 (by decide) ?_
          exact ih_2 (r / 27) (f - 1) (by omega) (by rw [← h1, nz_p (lnf_p h2 (by omega)).2.2 (by omega) n_10]) (lnf_p h2 (by omega)).2.1 (by omega) ls (lv_sub hl [0, 1] rfl)
        · skip
          have n_10 : r % 27 = 0 := (eq0_ (by omega)).mp c_10
          have hz : nz_ 7 n = false := by rw [← h1, nz_q (lnf_p h2 (by omega)).2.2 (by omega) n_10]
          have hE : iw_ n = false := iw_n hz
          refine lv_iconst (v := nI 0) hx hb dX1_isWord_13 (by decide) ?_
          exact W.zret hx hb hr rfl (fun t ht hW => ⟨_, rfl, (by show nI 0 = b2_ (iw_ n); rw [hE]; rfl), ht⟩) (fun q hq => absurd hq List.not_mem_nil) dX1_isWord_14
  exact LP_2 _ n 7 (Nat.lt_succ_self _) rfl (by omega) hn ls (lv_sub hl [0, 1] rfl)
theorem c_X1_isWord (l : Launch) (w : Int32) : RI l yX1_isWord wsX1_isWord 1 (va_Pc [.int w] (fun _ => True)) (b2_ (wd_ w)) := by
  by_cases h : w ≤ 0
  · exact c_X1_isWord_a l w h
  · obtain ⟨n, hn, rfl⟩ := nI_of (x := w) (fun z => h (Int32.le_of_lt z))
    have h0 : 0 < n := (gt0_ hn).mp (gt_i h)
    rw [wd_n hn]
    exact c_X1_isWord_b l n h0 hn
set_option maxHeartbeats 4000000 in
set_option maxRecDepth 100000 in
theorem c_X1_at (l : Launch) (w p_ : Nat) (hw : w < 387420489) (hp : p_ < ln_ w) : RI l yX1_at wsX1_at 1 (va_Pc [.int (nI w), .int (nI p_)] (fun _ => True)) (nI (at_ w p_)) := by
  refine Met.ofW (cc := cX1_at) (maxL := 4) (ret := (some .int)) (by decide) rfl ?_
  intro p e s m args below meth c s₁ B hml hv
  obtain ⟨rfl, -⟩ := hv
  have hx := B.exec
  have hb := B.bytes
  have hr := B.returns
  have hts := atoms_spec (ws := wsX1_at) B.pre
  have hown : s.vm.findClass RX1 = some m.cls := findClass_of_methodNamed B.named
  have hlocks := B.notSynchronized
  have h6 := ln_le hw
  have hl := lv_entry ([.int (nI w), .int (nI p_)]) (n := 4) (Nat.le_of_ble_eq_true rfl)
  rw [lg_entry_eq]
  generalize (lg_sl ([.int (nI w), .int (nI p_)]) ++ List.replicate (4 - (lg_sl ([.int (nI w), .int (nI p_)])).length) Slot.unset).toArray = ls at hl ⊢
  have hl : lv_has ls 4 [(0, .int (nI w)), (1, .int (nI p_))] := hl
  refine lv_iload_n hx hb dX1_at_0 rfl (lv_at hl 0 rfl) ?_
  refine lv_istore_n (lv' := [(2, .int (nI w)), (0, .int (nI w)), (1, .int (nI p_))]) hx hb dX1_at_1 rfl hl (by decide) rfl (fun ls hl => ?_)
  refine lv_iload_n hx hb dX1_at_2 rfl (lv_at hl 1 rfl) ?_
  refine k_pS (As := [.int (nI w)]) (rest := []) (c_X1_size l w (by omega)) ⟨hx, hb, hml, hown, hts⟩ (va_cwS 1 hts gX1_at_X1_size rfl rfl rfl (by decide +kernel) ⟨Nat.le_of_ble_eq_true rfl, Nat.le_of_ble_eq_true rfl⟩) rfl hl.1 rfl (Nat.le_of_ble_eq_true rfl) dX1_at_3 ⟨Nat.le_of_ble_eq_true rfl, Nat.le_of_ble_eq_true rfl⟩ ?_
  refine lv_iconst (v := nI 1) hx hb dX1_at_6 (by decide) ?_
  refine lv_isub hx hb dX1_at_7 ?_
  refine lv_tn (pk_sub (by omega)) ?_
  refine lv_istore_n (lv' := [(3, .int (nI ((ln_ w) - 1))), (2, .int (nI w)), (0, .int (nI w)), (1, .int (nI p_))]) hx hb dX1_at_8 rfl hl (by decide) rfl (fun ls hl => ?_)
  have LP_9 : ∀ (n_ : Nat) (r : Nat) (k : Nat), k < n_ → (r = w / 27 ^ (ln_ w - 1 - k)) → (p_ ≤ k ∧ k ≤ ln_ w - 1) → ∀ ls : Array Slot, lv_has ls 4 [(3, .int (nI k)), (2, .int (nI r)), (0, .int (nI w)), (1, .int (nI p_))] → W p l e (headSpec wsX1_at (rm_ 1 0 0)).room s m ([.int (nI w), .int (nI p_)] : List Value).toArray below meth c s.heap [] 0 0 (MQ below (vp_Si (fun r => r = nI (at_ w p_))) ([.int (nI w), .int (nI p_)] : List Value).toArray s 0 0 (fun _ => False)) (F0 m 9 ls []) := by
    intro n_
    induction n_ with
    | zero => intro r k hm; exact absurd hm (Nat.not_lt_zero _)
    | succ n_ ih_9 =>
      intro r k hm hr_ hk ls hl
      have hrb : r < 387420489 := by rw [hr_]; exact Nat.lt_of_le_of_lt (Nat.div_le_self _ _) hw
      refine lv_iload_n hx hb dX1_at_9 rfl (lv_at hl 0 rfl) ?_
      refine lv_iload_n hx hb dX1_at_10 rfl (lv_at hl 3 rfl) ?_
      refine lv_icmp_le (tgt := 25) hx hb dX1_at_11 (by decide) (fun c_11 => ?_) (fun c_11 => ?_)
      · skip
        have n_11 : k ≤ p_ := (nI_leI (a := k) (b := p_) (by omega) (by omega)).mp c_11
        have hE : r % 27 = at_ w p_ := by rw [hr_, show k = p_ by omega]; rfl
        refine lv_iload_n hx hb dX1_at_25 rfl (lv_at hl 1 rfl) ?_
        refine lv_bipush (v := nI 27) hx hb dX1_at_26 (by decide) ?_
        refine lv_irem hx hb dX1_at_28 (by decide) ?_
        refine lv_tn (pk_rem (by omega) (by decide) (by decide)) ?_
        exact W.iret hx hb hr (fun t ht hW => ⟨_, rfl, (congrArg nI hE), ht⟩) (fun q hq => absurd hq List.not_mem_nil) dX1_at_29
      · skip
        have n_11 : ¬ k ≤ p_ := fun q__ => c_11 ((nI_leI (a := k) (b := p_) (by omega) (by omega)).mpr q__)
        refine lv_iload_n hx hb dX1_at_14 rfl (lv_at hl 1 rfl) ?_
        refine lv_bipush (v := nI 27) hx hb dX1_at_15 (by decide) ?_
        refine lv_idiv hx hb dX1_at_17 (by decide) ?_
        refine lv_tn (pk_div (by omega) (by decide) (by decide)) ?_
        refine lv_istore_n (lv' := [(2, .int (nI (r / 27))), (3, .int (nI k)), (0, .int (nI w)), (1, .int (nI p_))]) hx hb dX1_at_18 rfl hl (by decide) rfl (fun ls hl => ?_)
        refine lv_iinc (v := nI (k - 1)) (lv' := [(3, .int (nI (k - 1))), (2, .int (nI (r / 27))), (0, .int (nI w)), (1, .int (nI p_))]) hx hb dX1_at_19 hl (k := 1) rfl (im2_ (by omega)) (by decide) rfl (fun ls hl => ?_)
        refine lv_goto (tgt := 9) hx hb dX1_at_22 (by decide) ?_
        exact ih_9 (r / 27) (k - 1) (by omega) (by rw [hr_, dv_, show ln_ w - 1 - k + 1 = ln_ w - 1 - (k - 1) by omega]) (by omega) ls (lv_sub hl [0, 1, 2, 3] rfl)
  exact LP_9 _ w (ln_ w - 1) (Nat.lt_succ_self _) (by rw [Nat.sub_self]; simp) (by omega) ls (lv_sub hl [0, 1, 2, 3] rfl)
set_option maxHeartbeats 4000000 in
set_option maxRecDepth 100000 in
theorem c_X1_sum (l : Launch) (B0 : Nat) (g : va_G) (ct ad : Nat → Nat) (cS mS : St_) (x : Ax_) (w : Nat) (hw : w < 387420489) : RI l yX1_sum wsX1_sum 2 (PX B0 g ct ad cS mS x [.ref (ad 7), .int (nI w)]) (nI (ws0 (so mS) w)) := by
  refine Met.ofW (cc := cX1_sum) (maxL := 4) (ret := (some .int)) (by decide) rfl ?_
  intro p e s m args below meth c s₁ B hml hv
  obtain ⟨rfl, hC⟩ := hv
  have hx := B.exec
  have hb := B.bytes
  have hr := B.returns
  have hts := atoms_spec (ws := wsX1_sum) B.pre
  have hown : s.vm.findClass RX1 = some m.cls := findClass_of_methodNamed B.named
  have hlocks := B.notSynchronized
  have hin : ∀ w ∈ wsX10, w ∈ wsX1_sum := fun _ h => List.mem_cons_of_mem _ (List.mem_append_right _ h)
  have h6 := ln_le hw
  have hl := lv_entry ([.ref (ad 7), .int (nI w)]) (n := 4) (Nat.le_of_ble_eq_true rfl)
  rw [lg_entry_eq]
  generalize (lg_sl ([.ref (ad 7), .int (nI w)]) ++ List.replicate (4 - (lg_sl ([.ref (ad 7), .int (nI w)])).length) Slot.unset).toArray = ls at hl ⊢
  have hl : lv_has ls 4 [(0, .ref (ad 7)), (1, .int (nI w))] := hl
  refine lv_iconst (v := nI 0) hx hb dX1_sum_0 (by decide) ?_
  refine lv_istore_n (lv' := [(2, .int (nI 0)), (0, .ref (ad 7)), (1, .int (nI w))]) hx hb dX1_sum_1 rfl hl (by decide) rfl (fun ls hl => ?_)
  refine lv_iconst (v := nI 0) hx hb dX1_sum_2 (by decide) ?_
  refine lv_istore_n (lv' := [(3, .int (nI 0)), (2, .int (nI 0)), (0, .ref (ad 7)), (1, .int (nI w))]) hx hb dX1_sum_3 rfl hl (by decide) rfl (fun ls hl => ?_)
  have LP_4 : ∀ (n_ : Nat) (t : Nat) (k : Nat), ln_ w - k < n_ → (t = qs_ (fun p => vl_ (so mS) (at_ w p)) k) → (k ≤ ln_ w) → ∀ ls : Array Slot, lv_has ls 4 [(3, .int (nI k)), (2, .int (nI t)), (0, .ref (ad 7)), (1, .int (nI w))] → W p l e (headSpec wsX1_sum (rm_ 2 0 0)).room s m ([.ref (ad 7), .int (nI w)] : List Value).toArray below meth c s.heap [] 0 0 (MQ below (vp_Si (fun r => r = nI (ws0 (so mS) w))) ([.ref (ad 7), .int (nI w)] : List Value).toArray s 0 0 (fun _ => False)) (F0 m 4 ls []) := by
    intro n_
    induction n_ with
    | zero => intro t k hm; exact absurd hm (Nat.not_lt_zero _)
    | succ n_ ih_4 =>
      intro t k hm ht hk ls hl
      refine lv_iload_n hx hb dX1_sum_4 rfl (lv_at hl 0 rfl) ?_
      refine lv_iload_n hx hb dX1_sum_5 rfl (lv_at hl 3 rfl) ?_
      refine k_pS (As := [.int (nI w)]) (rest := [.int (nI k)]) (c_X1_size l w (by omega)) ⟨hx, hb, hml, hown, hts⟩ (va_cwS 1 hts gX1_sum_X1_size rfl rfl rfl (by decide +kernel) ⟨Nat.le_of_ble_eq_true rfl, Nat.le_of_ble_eq_true rfl⟩) rfl hl.1 rfl (Nat.le_of_ble_eq_true rfl) dX1_sum_6 ⟨Nat.le_of_ble_eq_true rfl, Nat.le_of_ble_eq_true rfl⟩ ?_
      refine lv_icmp_ge (tgt := 30) hx hb dX1_sum_9 (by decide) (fun c_9 => ?_) (fun c_9 => ?_)
      · skip
        have n_9 : ln_ w ≤ k := (nI_leI (a := ln_ w) (b := k) (by omega) (by omega)).mp c_9
        have hE : t = ws0 (so mS) w := by rw [ht, show k = ln_ w by omega]; rfl
        refine lv_iload_n hx hb dX1_sum_30 rfl (lv_at hl 1 rfl) ?_
        exact W.iret hx hb hr (fun t ht hW => ⟨_, rfl, (congrArg nI hE), ht⟩) (fun q hq => absurd hq List.not_mem_nil) dX1_sum_31
      · skip
        have n_9 : ¬ ln_ w ≤ k := fun q__ => c_9 ((nI_leI (a := ln_ w) (b := k) (by omega) (by omega)).mpr q__)
        refine lv_iload_n hx hb dX1_sum_12 rfl (lv_at hl 1 rfl) ?_
        refine lv_aload_n hx hb dX1_sum_13 rfl (lv_at hl 2 rfl) ?_
        refine lv_iload_n hx hb dX1_sum_14 rfl (lv_at hl 3 rfl) ?_
        refine lv_iload_n hx hb dX1_sum_15 rfl (lv_at hl 0 rfl) ?_
        refine k_pS (As := [.int (nI w), .int (nI k)]) (rest := [.ref (ad 7), .int (nI t)]) (c_X1_at l w k (by omega) (by omega)) ⟨hx, hb, hml, hown, hts⟩ (va_cwS 2 hts gX1_sum_X1_at rfl rfl rfl (by decide +kernel) ⟨Nat.le_of_ble_eq_true rfl, Nat.le_of_ble_eq_true rfl⟩) rfl hl.1 rfl (Nat.le_of_ble_eq_true rfl) dX1_sum_16 ⟨Nat.le_of_ble_eq_true rfl, Nat.le_of_ble_eq_true rfl⟩ ?_
        refine k_rV (As := [.int (nI (at_ w k))]) (rest := [.int (nI t)]) (c_X1_valueOf l B0 g ct ad cS mS x (at_ w k) (at_lt _ _)) hC ⟨hx, hb, hml, hown, hts⟩ (cwV 1 hts gX1_sum_X1_valueOf rfl rfl rfl (by decide +kernel) ⟨Nat.le_of_ble_eq_true rfl, Nat.le_of_ble_eq_true rfl⟩) (rc1 hC) rfl hl.1 rfl (Nat.le_of_ble_eq_true rfl) dX1_sum_19 ⟨Nat.le_of_ble_eq_true rfl, Nat.le_of_ble_eq_true rfl⟩ ?_
        refine lv_iadd hx hb dX1_sum_22 ?_
        refine lv_tn (nI_add _ _) ?_
        refine lv_istore_n (lv' := [(2, .int (nI (t + (vl_ (so mS) (at_ w k))))), (3, .int (nI k)), (0, .ref (ad 7)), (1, .int (nI w))]) hx hb dX1_sum_23 rfl hl (by decide) rfl (fun ls hl => ?_)
        refine lv_iinc (v := nI (k + 1)) (lv' := [(3, .int (nI (k + 1))), (2, .int (nI (t + (vl_ (so mS) (at_ w k))))), (0, .ref (ad 7)), (1, .int (nI w))]) hx hb dX1_sum_24 hl (k := 1) rfl (nI_1 _) (by decide) rfl (fun ls hl => ?_)
        refine lv_goto (tgt := 4) hx hb dX1_sum_27 (by decide) ?_
        exact ih_4 (t + (vl_ (so mS) (at_ w k))) (k + 1) (by omega) (by rw [ht]; rfl) (by omega) ls (lv_sub hl [0, 1, 2, 3] rfl)
  exact LP_4 _ 0 0 (Nat.lt_succ_self _) rfl (Nat.zero_le _) ls (lv_sub hl [0, 1, 2, 3] rfl)
set_option maxHeartbeats 4000000 in
set_option maxRecDepth 100000 in
theorem c_X1_often (l : Launch) (w xl : Nat) (hw : w < 387420489) (hx0 : 0 < xl) (hx_ : xl < 27) : RI l yX1_often wsX1_often 2 (va_Pc [.int (nI w), .int (nI xl)] (fun _ => True)) (nI (oc_ w xl)) := by
  refine Met.ofW (cc := cX1_often) (maxL := 4) (ret := (some .int)) (by decide) rfl ?_
  intro p e s m args below meth c s₁ B hml hv
  obtain ⟨rfl, -⟩ := hv
  have hx := B.exec
  have hb := B.bytes
  have hr := B.returns
  have hts := atoms_spec (ws := wsX1_often) B.pre
  have hown : s.vm.findClass RX1 = some m.cls := findClass_of_methodNamed B.named
  have hlocks := B.notSynchronized
  have h6 := ln_le hw
  have hl := lv_entry ([.int (nI w), .int (nI xl)]) (n := 4) (Nat.le_of_ble_eq_true rfl)
  rw [lg_entry_eq]
  generalize (lg_sl ([.int (nI w), .int (nI xl)]) ++ List.replicate (4 - (lg_sl ([.int (nI w), .int (nI xl)])).length) Slot.unset).toArray = ls at hl ⊢
  have hl : lv_has ls 4 [(0, .int (nI w)), (1, .int (nI xl))] := hl
  refine lv_iconst (v := nI 0) hx hb dX1_often_0 (by decide) ?_
  refine lv_istore_n (lv' := [(2, .int (nI 0)), (0, .int (nI w)), (1, .int (nI xl))]) hx hb dX1_often_1 rfl hl (by decide) rfl (fun ls hl => ?_)
  refine lv_iconst (v := nI 0) hx hb dX1_often_2 (by decide) ?_
  refine lv_istore_n (lv' := [(3, .int (nI 0)), (2, .int (nI 0)), (0, .int (nI w)), (1, .int (nI xl))]) hx hb dX1_often_3 rfl hl (by decide) rfl (fun ls hl => ?_)
  have LP_4 : ∀ (n_ : Nat) (t : Nat) (k : Nat), ln_ w - k < n_ → (t = qs_ (fun p => if at_ w p = xl then 1 else 0) k) → (k ≤ ln_ w) → ∀ ls : Array Slot, lv_has ls 4 [(3, .int (nI k)), (2, .int (nI t)), (0, .int (nI w)), (1, .int (nI xl))] → W p l e (headSpec wsX1_often (rm_ 2 0 0)).room s m ([.int (nI w), .int (nI xl)] : List Value).toArray below meth c s.heap [] 0 0 (MQ below (vp_Si (fun r => r = nI (oc_ w xl))) ([.int (nI w), .int (nI xl)] : List Value).toArray s 0 0 (fun _ => False)) (F0 m 4 ls []) := by
    intro n_
    induction n_ with
    | zero => intro t k hm; exact absurd hm (Nat.not_lt_zero _)
    | succ n_ ih_4 =>
      intro t k hm ht hk ls hl
      have hat := at_lt w k
      refine lv_iload_n hx hb dX1_often_4 rfl (lv_at hl 0 rfl) ?_
      refine lv_iload_n hx hb dX1_often_5 rfl (lv_at hl 2 rfl) ?_
      refine k_pS (As := [.int (nI w)]) (rest := [.int (nI k)]) (c_X1_size l w (by omega)) ⟨hx, hb, hml, hown, hts⟩ (va_cwS 1 hts gX1_often_X1_size rfl rfl rfl (by decide +kernel) ⟨Nat.le_of_ble_eq_true rfl, Nat.le_of_ble_eq_true rfl⟩) rfl hl.1 rfl (Nat.le_of_ble_eq_true rfl) dX1_often_6 ⟨Nat.le_of_ble_eq_true rfl, Nat.le_of_ble_eq_true rfl⟩ ?_
      refine lv_icmp_ge (tgt := 35) hx hb dX1_often_9 (by decide) (fun c_9 => ?_) (fun c_9 => ?_)
      · skip
        have n_9 : ln_ w ≤ k := (nI_leI (a := ln_ w) (b := k) (by omega) (by omega)).mp c_9
        have hE : t = oc_ w xl := by rw [ht, show k = ln_ w by omega]; exact oc_at hw hx0
        refine lv_iload_n hx hb dX1_often_35 rfl (lv_at hl 1 rfl) ?_
        exact W.iret hx hb hr (fun t ht hW => ⟨_, rfl, (congrArg nI hE), ht⟩) (fun q hq => absurd hq List.not_mem_nil) dX1_often_36
      · skip
        have n_9 : ¬ ln_ w ≤ k := fun q__ => c_9 ((nI_leI (a := ln_ w) (b := k) (by omega) (by omega)).mpr q__)
        refine lv_iload_n hx hb dX1_often_12 rfl (lv_at hl 1 rfl) ?_
        refine lv_iload_n hx hb dX1_often_13 rfl (lv_at hl 2 rfl) ?_
        refine lv_iload_n hx hb dX1_often_14 rfl (lv_at hl 0 rfl) ?_
        refine k_pS (As := [.int (nI w), .int (nI k)]) (rest := [.int (nI t)]) (c_X1_at l w k (by omega) (by omega)) ⟨hx, hb, hml, hown, hts⟩ (va_cwS 2 hts gX1_often_X1_at rfl rfl rfl (by decide +kernel) ⟨Nat.le_of_ble_eq_true rfl, Nat.le_of_ble_eq_true rfl⟩) rfl hl.1 rfl (Nat.le_of_ble_eq_true rfl) dX1_often_15 ⟨Nat.le_of_ble_eq_true rfl, Nat.le_of_ble_eq_true rfl⟩ ?_
        refine lv_iload_n hx hb dX1_often_18 rfl (lv_at hl 3 rfl) ?_
        refine lv_icmp_ne (tgt := 26) hx hb dX1_often_19 (by decide) (fun c_19 => ?_) (fun c_19 => ?_)
        · skip
          have n_19 : ¬ at_ w k = xl := fun q__ => c_19 ((nI_eq (a := at_ w k) (b := xl) (by omega) (by omega)).mpr q__)
          refine lv_iconst (v := nI 0) hx hb dX1_often_26 (by decide) ?_
          refine lv_iadd hx hb dX1_often_27 ?_
          refine lv_tn (nI_add _ _) ?_
          refine lv_istore_n (lv' := [(2, .int (nI (t + 0))), (3, .int (nI k)), (0, .int (nI w)), (1, .int (nI xl))]) hx hb dX1_often_28 rfl hl (by decide) rfl (fun ls hl => ?_)
          refine lv_iinc (v := nI (k + 1)) (lv' := [(3, .int (nI (k + 1))), (2, .int (nI (t + 0))), (0, .int (nI w)), (1, .int (nI xl))]) hx hb dX1_often_29 hl (k := 1) rfl (nI_1 _) (by decide) rfl (fun ls hl => ?_)
          refine lv_goto (tgt := 4) hx hb dX1_often_32 (by decide) ?_
          exact ih_4 (t + 0) (k + 1) (by omega) (by rw [ht]; first | exact (qs_1 (f := (fun p => if at_ w p = xl then 1 else 0)) (v := 1) (if_pos n_19)).symm | exact (qs_1 (f := (fun p => if at_ w p = xl then 1 else 0)) (v := 0) (if_neg n_19)).symm) (by omega) ls (lv_sub hl [0, 1, 2, 3] rfl)
        · skip
          have n_19 : at_ w k = xl := (nI_eq (a := at_ w k) (b := xl) (by omega) (by omega)).mp c_19
          refine lv_iconst (v := nI 1) hx hb dX1_often_22 (by decide) ?_
          refine lv_goto (tgt := 27) hx hb dX1_often_23 (by decide) ?_
          refine lv_iadd hx hb dX1_often_27 ?_
          refine lv_tn (nI_add _ _) ?_
          refine lv_istore_n (lv' := [(2, .int (nI (t + 1))), (3, .int (nI k)), (0, .int (nI w)), (1, .int (nI xl))]) hx hb dX1_often_28 rfl hl (by decide) rfl (fun ls hl => ?_)
          refine lv_iinc (v := nI (k + 1)) (lv' := [(3, .int (nI (k + 1))), (2, .int (nI (t + 1))), (0, .int (nI w)), (1, .int (nI xl))]) hx hb dX1_often_29 hl (k := 1) rfl (nI_1 _) (by decide) rfl (fun ls hl => ?_)
          refine lv_goto (tgt := 4) hx hb dX1_often_32 (by decide) ?_
          exact ih_4 (t + 1) (k + 1) (by omega) (by rw [ht]; first | exact (qs_1 (f := (fun p => if at_ w p = xl then 1 else 0)) (v := 1) (if_pos n_19)).symm | exact (qs_1 (f := (fun p => if at_ w p = xl then 1 else 0)) (v := 0) (if_neg n_19)).symm) (by omega) ls (lv_sub hl [0, 1, 2, 3] rfl)
  exact LP_4 _ 0 0 (Nat.lt_succ_self _) rfl (Nat.zero_le _) ls (lv_sub hl [0, 1, 2, 3] rfl)
set_option maxHeartbeats 4000000 in
set_option maxRecDepth 100000 in
theorem c_X1_wo (l : Launch) (B0 : Nat) (g : va_G) (ct ad : Nat → Nat) (cS mS : St_) (x : Ax_) (i w : Nat) (hi : i < 12) (hw : w < 10) : RI l yX1_wo wsX1_wo 0 (PX B0 g ct ad cS mS x [.ref (ad 7), .int (nI i), .int (nI w)]) (nI (sw mS (10 * i + w))) := by
  refine Met.ofW (cc := cX1_wo) (maxL := 3) (ret := (some .int)) (by decide) rfl ?_
  intro p e s m args below meth c s₁ B hml hv
  obtain ⟨rfl, hC⟩ := hv
  have hx := B.exec
  have hb := B.bytes
  have hr := B.returns
  have hts := atoms_spec (ws := wsX1_wo) B.pre
  have hown : s.vm.findClass RX1 = some m.cls := findClass_of_methodNamed B.named
  have hlocks := B.notSynchronized
  have hin : ∀ w ∈ wsX10, w ∈ wsX1_wo := fun _ h => List.mem_cons_of_mem _ (List.mem_append_right _ h)
  have hl := lv_entry ([.ref (ad 7), .int (nI i), .int (nI w)]) (n := 3) (Nat.le_of_ble_eq_true rfl)
  rw [lg_entry_eq]
  generalize (lg_sl ([.ref (ad 7), .int (nI i), .int (nI w)]) ++ List.replicate (3 - (lg_sl ([.ref (ad 7), .int (nI i), .int (nI w)])).length) Slot.unset).toArray = ls at hl ⊢
  have hl : lv_has ls 3 [(0, .ref (ad 7)), (1, .int (nI i)), (2, .int (nI w))] := hl
  refine lv_aload_n hx hb dX1_wo_0 rfl (lv_at hl 0 rfl) ?_
  refine r_g1 hC hx hb hts hin hown 4 (by decide) (hts (.fieldLink RX1 13 "AbjadPoemsModel" "words" "[I") (by decide +kernel)) rfl dX1_wo_1 ?_
  refine lv_bipush (v := nI 10) hx hb dX1_wo_4 (by decide) ?_
  refine lv_iload_n hx hb dX1_wo_6 rfl (lv_at hl 1 rfl) ?_
  refine lv_imul hx hb dX1_wo_7 ?_
  refine lv_tn (pk_mul _ _) ?_
  refine lv_iload_n hx hb dX1_wo_8 rfl (lv_at hl 2 rfl) ?_
  refine lv_iadd hx hb dX1_wo_9 ?_
  refine lv_tn (nI_add _ _) ?_
  refine r_mw hC hx hb dX1_wo_10 (j := (10 * i) + w) (by omega) ?_
  exact W.iret hx hb hr (fun t ht hW => ⟨_, rfl, rfl, ht⟩) (fun q hq => absurd hq List.not_mem_nil) dX1_wo_11
set_option maxHeartbeats 4000000 in
set_option maxRecDepth 100000 in
theorem c_X1_base (l : Launch) (B0 : Nat) (g : va_G) (ct ad : Nat → Nat) (cS mS : St_) (x : Ax_) (i w : Nat) : RI l yX1_base wsX1_base 0 (PX B0 g ct ad cS mS x [.ref (ad 7), .int (nI i), .int (nI w)]) (nI (6 * (10 * i + w))) := by
  refine Met.ofW (cc := cX1_base) (maxL := 3) (ret := (some .int)) (by decide) rfl ?_
  intro p e s m args below meth c s₁ B hml hv
  obtain ⟨rfl, hC⟩ := hv
  have hx := B.exec
  have hb := B.bytes
  have hr := B.returns
  have hts := atoms_spec (ws := wsX1_base) B.pre
  have hown : s.vm.findClass RX1 = some m.cls := findClass_of_methodNamed B.named
  have hlocks := B.notSynchronized
  have hl := lv_entry ([.ref (ad 7), .int (nI i), .int (nI w)]) (n := 3) (Nat.le_of_ble_eq_true rfl)
  rw [lg_entry_eq]
  generalize (lg_sl ([.ref (ad 7), .int (nI i), .int (nI w)]) ++ List.replicate (3 - (lg_sl ([.ref (ad 7), .int (nI i), .int (nI w)])).length) Slot.unset).toArray = ls at hl ⊢
  have hl : lv_has ls 3 [(0, .ref (ad 7)), (1, .int (nI i)), (2, .int (nI w))] := hl
  refine lv_bipush (v := nI 6) hx hb dX1_base_0 (by decide) ?_
  refine lv_bipush (v := nI 10) hx hb dX1_base_2 (by decide) ?_
  refine lv_iload_n hx hb dX1_base_4 rfl (lv_at hl 1 rfl) ?_
  refine lv_imul hx hb dX1_base_5 ?_
  refine lv_tn (pk_mul _ _) ?_
  refine lv_iload_n hx hb dX1_base_6 rfl (lv_at hl 2 rfl) ?_
  refine lv_iadd hx hb dX1_base_7 ?_
  refine lv_tn (nI_add _ _) ?_
  refine lv_imul hx hb dX1_base_8 ?_
  refine lv_tn (pk_mul _ _) ?_
  exact W.iret hx hb hr (fun t ht hW => ⟨_, rfl, rfl, ht⟩) (fun q hq => absurd hq List.not_mem_nil) dX1_base_9
set_option maxHeartbeats 4000000 in
set_option maxRecDepth 100000 in
theorem c_X1_isOne_1 (l : Launch) (B0 : Nat) (g : va_G) (ct ad : Nat → Nat) (cS mS : St_) (x : Ax_) (li wi : Int32) (h : li < 0 ∨ nI (sn mS) ≤ li) : RI l yX1_isOne wsX1_isOne 2 (PX B0 g ct ad cS mS x [.ref (ad 7), .int li, .int wi]) (b2_ false) := by
  refine Met.ofW (cc := cX1_isOne) (maxL := 3) (ret := (some .boolean)) (by decide) rfl ?_
  intro p e s m args below meth c s₁ B hml hv
  obtain ⟨rfl, hC⟩ := hv
  have hx := B.exec
  have hb := B.bytes
  have hr := B.returns
  have hts := atoms_spec (ws := wsX1_isOne) B.pre
  have hown : s.vm.findClass RX1 = some m.cls := findClass_of_methodNamed B.named
  have hlocks := B.notSynchronized
  have hin : ∀ w ∈ wsX10, w ∈ wsX1_isOne := fun _ h => List.mem_cons_of_mem _ (List.mem_append_right _ h)
  have hI := hC.1.2.2.2.2.1
  have hn := hI.2.1
  have hf := li_f h (by omega)
  have hl := lv_entry ([.ref (ad 7), .int li, .int wi]) (n := 3) (Nat.le_of_ble_eq_true rfl)
  rw [lg_entry_eq]
  generalize (lg_sl ([.ref (ad 7), .int li, .int wi]) ++ List.replicate (3 - (lg_sl ([.ref (ad 7), .int li, .int wi])).length) Slot.unset).toArray = ls at hl ⊢
  have hl : lv_has ls 3 [(0, .ref (ad 7)), (1, .int li), (2, .int wi)] := hl
  refine lv_aload_n hx hb dX1_isOne_0 rfl (lv_at hl 0 rfl) ?_
  refine lv_iload_n hx hb dX1_isOne_1 rfl (lv_at hl 1 rfl) ?_
  refine k_rV (As := [.int li]) (rest := []) (c_X1_isLine l B0 g ct ad cS mS x li) hC ⟨hx, hb, hml, hown, hts⟩ (cwV 1 hts gX1_isOne_X1_isLine rfl rfl rfl (by decide +kernel) ⟨Nat.le_of_ble_eq_true rfl, Nat.le_of_ble_eq_true rfl⟩) (rc1 hC) rfl hl.1 rfl (Nat.le_of_ble_eq_true rfl) dX1_isOne_2 ⟨Nat.le_of_ble_eq_true rfl, Nat.le_of_ble_eq_true rfl⟩ ?_
  refine lv_if_eq (tgt := 28) hx hb dX1_isOne_5 (by decide) (fun c_5 => ?_) (fun c_5 => ?_)
  · skip
    refine lv_iconst (v := nI 0) hx hb dX1_isOne_28 (by decide) ?_
    exact W.zret hx hb hr rfl (fun t ht hW => ⟨_, rfl, rfl, ht⟩) (fun q hq => absurd hq List.not_mem_nil) dX1_isOne_29
  · skip
    rw [hf] at c_5; exact absurd rfl c_5
set_option maxHeartbeats 4000000 in
set_option maxRecDepth 100000 in
theorem c_X1_isOne_2 (l : Launch) (B0 : Nat) (g : va_G) (ct ad : Nat → Nat) (cS mS : St_) (x : Ax_) (i : Nat) (wi : Int32) (hi : i < sn mS) : RI l yX1_isOne wsX1_isOne 2 (PX B0 g ct ad cS mS x [.ref (ad 7), .int (nI i), .int wi]) (b2_ (li_ (ss mS i) wi)) := by
  refine Met.ofW (cc := cX1_isOne) (maxL := 3) (ret := (some .boolean)) (by decide) rfl ?_
  intro p e s m args below meth c s₁ B hml hv
  obtain ⟨rfl, hC⟩ := hv
  have hx := B.exec
  have hb := B.bytes
  have hr := B.returns
  have hts := atoms_spec (ws := wsX1_isOne) B.pre
  have hown : s.vm.findClass RX1 = some m.cls := findClass_of_methodNamed B.named
  have hlocks := B.notSynchronized
  have hin : ∀ w ∈ wsX10, w ∈ wsX1_isOne := fun _ h => List.mem_cons_of_mem _ (List.mem_append_right _ h)
  have hI := hC.1.2.2.2.2.1
  have hn := hI.2.1
  have hz := hI.2.2.1 i
  have hf := li_t hi (by omega)
  have hl := lv_entry ([.ref (ad 7), .int (nI i), .int wi]) (n := 3) (Nat.le_of_ble_eq_true rfl)
  rw [lg_entry_eq]
  generalize (lg_sl ([.ref (ad 7), .int (nI i), .int wi]) ++ List.replicate (3 - (lg_sl ([.ref (ad 7), .int (nI i), .int wi])).length) Slot.unset).toArray = ls at hl ⊢
  have hl : lv_has ls 3 [(0, .ref (ad 7)), (1, .int (nI i)), (2, .int wi)] := hl
  refine lv_aload_n hx hb dX1_isOne_0 rfl (lv_at hl 0 rfl) ?_
  refine lv_iload_n hx hb dX1_isOne_1 rfl (lv_at hl 1 rfl) ?_
  refine k_rV (As := [.int (nI i)]) (rest := []) (c_X1_isLine l B0 g ct ad cS mS x (nI i)) hC ⟨hx, hb, hml, hown, hts⟩ (cwV 1 hts gX1_isOne_X1_isLine rfl rfl rfl (by decide +kernel) ⟨Nat.le_of_ble_eq_true rfl, Nat.le_of_ble_eq_true rfl⟩) (rc1 hC) rfl hl.1 rfl (Nat.le_of_ble_eq_true rfl) dX1_isOne_2 ⟨Nat.le_of_ble_eq_true rfl, Nat.le_of_ble_eq_true rfl⟩ ?_
  refine lv_if_eq (tgt := 28) hx hb dX1_isOne_5 (by decide) (fun c_5 => ?_) (fun c_5 => ?_)
  · skip
    rw [hf] at c_5; exact absurd c_5 (by decide)
  · skip
    refine lv_iload_n hx hb dX1_isOne_8 rfl (lv_at hl 2 rfl) ?_
    refine lv_iconst (v := nI 0) hx hb dX1_isOne_9 (by decide) ?_
    refine lv_aload_n hx hb dX1_isOne_10 rfl (lv_at hl 0 rfl) ?_
    refine r_g1 hC hx hb hts hin hown 3 (by decide) (hts (.fieldLink RX1 9 "AbjadPoemsModel" "longs" "[I") (by decide +kernel)) rfl dX1_isOne_11 ?_
    refine lv_iload_n hx hb dX1_isOne_14 rfl (lv_at hl 1 rfl) ?_
    refine r_lg hC hx hb dX1_isOne_15 (j := i) (by omega) ?_
    refine lv_iconst (v := nI 1) hx hb dX1_isOne_16 (by decide) ?_
    refine lv_isub hx hb dX1_isOne_17 ?_
    refine k_pS (As := [.int wi, .int (nI 0), .int ((nI (ss mS i)) - (nI 1))]) (rest := []) (c_X1_isIn l wi (nI 0) ((nI (ss mS i)) - (nI 1))) ⟨hx, hb, hml, hown, hts⟩ (va_cwS 3 hts gX1_isOne_X1_isIn rfl rfl rfl (by decide +kernel) ⟨Nat.le_of_ble_eq_true rfl, Nat.le_of_ble_eq_true rfl⟩) rfl hl.1 rfl (Nat.le_of_ble_eq_true rfl) dX1_isOne_18 ⟨Nat.le_of_ble_eq_true rfl, Nat.le_of_ble_eq_true rfl⟩ ?_
    refine lv_if_eq (tgt := 28) hx hb dX1_isOne_21 (by decide) (fun c_21 => ?_) (fun c_21 => ?_)
    · skip
      have hE : li_ (ss mS i) wi = false := b2_0.mp c_21
      refine lv_iconst (v := nI 0) hx hb dX1_isOne_28 (by decide) ?_
      exact W.zret hx hb hr rfl (fun t ht hW => ⟨_, rfl, (by show nI 0 = b2_ (li_ (ss mS i) wi); rw [hE]; rfl), ht⟩) (fun q hq => absurd hq List.not_mem_nil) dX1_isOne_29
    · skip
      have hE : li_ (ss mS i) wi = true := b2_ne c_21
      refine lv_iconst (v := nI 1) hx hb dX1_isOne_24 (by decide) ?_
      refine lv_goto (tgt := 29) hx hb dX1_isOne_25 (by decide) ?_
      exact W.zret hx hb hr rfl (fun t ht hW => ⟨_, rfl, (by show nI 1 = b2_ (li_ (ss mS i) wi); rw [hE]; rfl), ht⟩) (fun q hq => absurd hq List.not_mem_nil) dX1_isOne_29
set_option maxHeartbeats 4000000 in
set_option maxRecDepth 100000 in
theorem c_X1_wt0 (l : Launch) (B0 : Nat) (g : va_G) (ct ad : Nat → Nat) (cS mS : St_) (x : Ax_) (i w : Nat) (hi : i < 12) (hw : w < 10) : RI l yX1_wordTold wsX1_wordTold 3 (PX B0 g ct ad cS mS x [.ref (ad 7), .int (nI i), .int (nI w), .int (nI 0)]) (nI (wt_ mS i w 0)) := by
  refine Met.ofW (cc := cX1_wordTold) (maxL := 7) (ret := (some .int)) (by decide) rfl ?_
  intro p e s m args below meth c s₁ B hml hv
  obtain ⟨rfl, hC⟩ := hv
  have hx := B.exec
  have hb := B.bytes
  have hr := B.returns
  have hts := atoms_spec (ws := wsX1_wordTold) B.pre
  have hown : s.vm.findClass RX1 = some m.cls := findClass_of_methodNamed B.named
  have hlocks := B.notSynchronized
  have hin : ∀ w ∈ wsX10, w ∈ wsX1_wordTold := fun _ h => List.mem_cons_of_mem _ (List.mem_append_right _ h)
  have hI := hC.1.2.2.2.2.1
  have hw6 := hI.2.2.2.1 (10 * i + w)
  have h6 := ln_le hw6
  have hk6 := hI.2.2.2.2.1 (10 * i + w)
  have hl := lv_entry ([.ref (ad 7), .int (nI i), .int (nI w), .int (nI 0)]) (n := 7) (Nat.le_of_ble_eq_true rfl)
  rw [lg_entry_eq]
  generalize (lg_sl ([.ref (ad 7), .int (nI i), .int (nI w), .int (nI 0)]) ++ List.replicate (7 - (lg_sl ([.ref (ad 7), .int (nI i), .int (nI w), .int (nI 0)])).length) Slot.unset).toArray = ls at hl ⊢
  have hl : lv_has ls 7 [(0, .ref (ad 7)), (1, .int (nI i)), (2, .int (nI w)), (3, .int (nI 0))] := hl
  refine lv_aload_n hx hb dX1_wordTold_0 rfl (lv_at hl 0 rfl) ?_
  refine lv_iload_n hx hb dX1_wordTold_1 rfl (lv_at hl 1 rfl) ?_
  refine lv_iload_n hx hb dX1_wordTold_2 rfl (lv_at hl 2 rfl) ?_
  refine k_rV (As := [.int (nI i), .int (nI w)]) (rest := []) (c_X1_wo l B0 g ct ad cS mS x i w (by omega) (by omega)) hC ⟨hx, hb, hml, hown, hts⟩ (cwV 2 hts gX1_wordTold_X1_wo rfl rfl rfl (by decide +kernel) ⟨Nat.le_of_ble_eq_true rfl, Nat.le_of_ble_eq_true rfl⟩) (rc1 hC) rfl hl.1 rfl (Nat.le_of_ble_eq_true rfl) dX1_wordTold_3 ⟨Nat.le_of_ble_eq_true rfl, Nat.le_of_ble_eq_true rfl⟩ ?_
  refine lv_istore (lv' := [(4, .int (nI (sw mS (10 * i + w)))), (0, .ref (ad 7)), (1, .int (nI i)), (2, .int (nI w)), (3, .int (nI 0))]) hx hb dX1_wordTold_6 hl (by decide) rfl (fun ls hl => ?_)
  refine lv_iconst (v := nI 0) hx hb dX1_wordTold_8 (by decide) ?_
  refine lv_istore (lv' := [(5, .int (nI 0)), (4, .int (nI (sw mS (10 * i + w)))), (0, .ref (ad 7)), (1, .int (nI i)), (2, .int (nI w)), (3, .int (nI 0))]) hx hb dX1_wordTold_9 hl (by decide) rfl (fun ls hl => ?_)
  refine lv_iload_n hx hb dX1_wordTold_11 rfl (lv_at hl 5 rfl) ?_
  refine lv_tableIn (x := nI 0) (off := 28) (tgt := 40) hx hb dX1_wordTold_12 (by decide) (by decide) rfl (by decide) ?_
  refine lv_iload hx hb dX1_wordTold_40 (lv_at hl 1 rfl) ?_
  exact W.iret hx hb hr (fun t ht hW => ⟨_, rfl, rfl, ht⟩) (fun q hq => absurd hq List.not_mem_nil) dX1_wordTold_42
set_option maxHeartbeats 4000000 in
set_option maxRecDepth 100000 in
theorem c_X1_wt1 (l : Launch) (B0 : Nat) (g : va_G) (ct ad : Nat → Nat) (cS mS : St_) (x : Ax_) (i w : Nat) (hi : i < 12) (hw : w < 10) : RI l yX1_wordTold wsX1_wordTold 3 (PX B0 g ct ad cS mS x [.ref (ad 7), .int (nI i), .int (nI w), .int (nI 1)]) (nI (wt_ mS i w 1)) := by
  refine Met.ofW (cc := cX1_wordTold) (maxL := 7) (ret := (some .int)) (by decide) rfl ?_
  intro p e s m args below meth c s₁ B hml hv
  obtain ⟨rfl, hC⟩ := hv
  have hx := B.exec
  have hb := B.bytes
  have hr := B.returns
  have hts := atoms_spec (ws := wsX1_wordTold) B.pre
  have hown : s.vm.findClass RX1 = some m.cls := findClass_of_methodNamed B.named
  have hlocks := B.notSynchronized
  have hin : ∀ w ∈ wsX10, w ∈ wsX1_wordTold := fun _ h => List.mem_cons_of_mem _ (List.mem_append_right _ h)
  have hI := hC.1.2.2.2.2.1
  have hw6 := hI.2.2.2.1 (10 * i + w)
  have h6 := ln_le hw6
  have hk6 := hI.2.2.2.2.1 (10 * i + w)
  have hl := lv_entry ([.ref (ad 7), .int (nI i), .int (nI w), .int (nI 1)]) (n := 7) (Nat.le_of_ble_eq_true rfl)
  rw [lg_entry_eq]
  generalize (lg_sl ([.ref (ad 7), .int (nI i), .int (nI w), .int (nI 1)]) ++ List.replicate (7 - (lg_sl ([.ref (ad 7), .int (nI i), .int (nI w), .int (nI 1)])).length) Slot.unset).toArray = ls at hl ⊢
  have hl : lv_has ls 7 [(0, .ref (ad 7)), (1, .int (nI i)), (2, .int (nI w)), (3, .int (nI 1))] := hl
  refine lv_aload_n hx hb dX1_wordTold_0 rfl (lv_at hl 0 rfl) ?_
  refine lv_iload_n hx hb dX1_wordTold_1 rfl (lv_at hl 1 rfl) ?_
  refine lv_iload_n hx hb dX1_wordTold_2 rfl (lv_at hl 2 rfl) ?_
  refine k_rV (As := [.int (nI i), .int (nI w)]) (rest := []) (c_X1_wo l B0 g ct ad cS mS x i w (by omega) (by omega)) hC ⟨hx, hb, hml, hown, hts⟩ (cwV 2 hts gX1_wordTold_X1_wo rfl rfl rfl (by decide +kernel) ⟨Nat.le_of_ble_eq_true rfl, Nat.le_of_ble_eq_true rfl⟩) (rc1 hC) rfl hl.1 rfl (Nat.le_of_ble_eq_true rfl) dX1_wordTold_3 ⟨Nat.le_of_ble_eq_true rfl, Nat.le_of_ble_eq_true rfl⟩ ?_
  refine lv_istore (lv' := [(4, .int (nI (sw mS (10 * i + w)))), (0, .ref (ad 7)), (1, .int (nI i)), (2, .int (nI w)), (3, .int (nI 1))]) hx hb dX1_wordTold_6 hl (by decide) rfl (fun ls hl => ?_)
  refine lv_iconst (v := nI 0) hx hb dX1_wordTold_8 (by decide) ?_
  refine lv_istore (lv' := [(5, .int (nI 0)), (4, .int (nI (sw mS (10 * i + w)))), (0, .ref (ad 7)), (1, .int (nI i)), (2, .int (nI w)), (3, .int (nI 1))]) hx hb dX1_wordTold_9 hl (by decide) rfl (fun ls hl => ?_)
  refine lv_iload_n hx hb dX1_wordTold_11 rfl (lv_at hl 5 rfl) ?_
  refine lv_tableIn (x := nI 1) (off := 31) (tgt := 43) hx hb dX1_wordTold_12 (by decide) (by decide) rfl (by decide) ?_
  refine lv_iload hx hb dX1_wordTold_43 (lv_at hl 1 rfl) ?_
  refine k_pS (As := [.int (nI (sw mS (10 * i + w)))]) (rest := []) (c_X1_size l (sw mS (10 * i + w)) (by omega)) ⟨hx, hb, hml, hown, hts⟩ (va_cwS 1 hts gX1_wordTold_X1_size rfl rfl rfl (by decide +kernel) ⟨Nat.le_of_ble_eq_true rfl, Nat.le_of_ble_eq_true rfl⟩) rfl hl.1 rfl (Nat.le_of_ble_eq_true rfl) dX1_wordTold_45 ⟨Nat.le_of_ble_eq_true rfl, Nat.le_of_ble_eq_true rfl⟩ ?_
  exact W.iret hx hb hr (fun t ht hW => ⟨_, rfl, rfl, ht⟩) (fun q hq => absurd hq List.not_mem_nil) dX1_wordTold_48
set_option maxHeartbeats 4000000 in
set_option maxRecDepth 100000 in
theorem c_X1_wt2 (l : Launch) (B0 : Nat) (g : va_G) (ct ad : Nat → Nat) (cS mS : St_) (x : Ax_) (i w : Nat) (hi : i < 12) (hw : w < 10) : RI l yX1_wordTold wsX1_wordTold 3 (PX B0 g ct ad cS mS x [.ref (ad 7), .int (nI i), .int (nI w), .int (nI 2)]) (nI (wt_ mS i w 2)) := by
  refine Met.ofW (cc := cX1_wordTold) (maxL := 7) (ret := (some .int)) (by decide) rfl ?_
  intro p e s m args below meth c s₁ B hml hv
  obtain ⟨rfl, hC⟩ := hv
  have hx := B.exec
  have hb := B.bytes
  have hr := B.returns
  have hts := atoms_spec (ws := wsX1_wordTold) B.pre
  have hown : s.vm.findClass RX1 = some m.cls := findClass_of_methodNamed B.named
  have hlocks := B.notSynchronized
  have hin : ∀ w ∈ wsX10, w ∈ wsX1_wordTold := fun _ h => List.mem_cons_of_mem _ (List.mem_append_right _ h)
  have hI := hC.1.2.2.2.2.1
  have hw6 := hI.2.2.2.1 (10 * i + w)
  have h6 := ln_le hw6
  have hk6 := hI.2.2.2.2.1 (10 * i + w)
  have hl := lv_entry ([.ref (ad 7), .int (nI i), .int (nI w), .int (nI 2)]) (n := 7) (Nat.le_of_ble_eq_true rfl)
  rw [lg_entry_eq]
  generalize (lg_sl ([.ref (ad 7), .int (nI i), .int (nI w), .int (nI 2)]) ++ List.replicate (7 - (lg_sl ([.ref (ad 7), .int (nI i), .int (nI w), .int (nI 2)])).length) Slot.unset).toArray = ls at hl ⊢
  have hl : lv_has ls 7 [(0, .ref (ad 7)), (1, .int (nI i)), (2, .int (nI w)), (3, .int (nI 2))] := hl
  refine lv_aload_n hx hb dX1_wordTold_0 rfl (lv_at hl 0 rfl) ?_
  refine lv_iload_n hx hb dX1_wordTold_1 rfl (lv_at hl 1 rfl) ?_
  refine lv_iload_n hx hb dX1_wordTold_2 rfl (lv_at hl 2 rfl) ?_
  refine k_rV (As := [.int (nI i), .int (nI w)]) (rest := []) (c_X1_wo l B0 g ct ad cS mS x i w (by omega) (by omega)) hC ⟨hx, hb, hml, hown, hts⟩ (cwV 2 hts gX1_wordTold_X1_wo rfl rfl rfl (by decide +kernel) ⟨Nat.le_of_ble_eq_true rfl, Nat.le_of_ble_eq_true rfl⟩) (rc1 hC) rfl hl.1 rfl (Nat.le_of_ble_eq_true rfl) dX1_wordTold_3 ⟨Nat.le_of_ble_eq_true rfl, Nat.le_of_ble_eq_true rfl⟩ ?_
  refine lv_istore (lv' := [(4, .int (nI (sw mS (10 * i + w)))), (0, .ref (ad 7)), (1, .int (nI i)), (2, .int (nI w)), (3, .int (nI 2))]) hx hb dX1_wordTold_6 hl (by decide) rfl (fun ls hl => ?_)
  refine lv_iconst (v := nI 0) hx hb dX1_wordTold_8 (by decide) ?_
  refine lv_istore (lv' := [(5, .int (nI 0)), (4, .int (nI (sw mS (10 * i + w)))), (0, .ref (ad 7)), (1, .int (nI i)), (2, .int (nI w)), (3, .int (nI 2))]) hx hb dX1_wordTold_9 hl (by decide) rfl (fun ls hl => ?_)
  refine lv_iload_n hx hb dX1_wordTold_11 rfl (lv_at hl 5 rfl) ?_
  refine lv_tableIn (x := nI 2) (off := 37) (tgt := 49) hx hb dX1_wordTold_12 (by decide) (by decide) rfl (by decide) ?_
  refine lv_aload_n hx hb dX1_wordTold_49 rfl (lv_at hl 2 rfl) ?_
  refine lv_iload hx hb dX1_wordTold_50 (lv_at hl 1 rfl) ?_
  refine k_rV (As := [.int (nI (sw mS (10 * i + w)))]) (rest := []) (c_X1_sum l B0 g ct ad cS mS x (sw mS (10 * i + w)) (by omega)) hC ⟨hx, hb, hml, hown, hts⟩ (cwV 1 hts gX1_wordTold_X1_sum rfl rfl rfl (by decide +kernel) ⟨Nat.le_of_ble_eq_true rfl, Nat.le_of_ble_eq_true rfl⟩) (rc1 hC) rfl hl.1 rfl (Nat.le_of_ble_eq_true rfl) dX1_wordTold_52 ⟨Nat.le_of_ble_eq_true rfl, Nat.le_of_ble_eq_true rfl⟩ ?_
  exact W.iret hx hb hr (fun t ht hW => ⟨_, rfl, rfl, ht⟩) (fun q hq => absurd hq List.not_mem_nil) dX1_wordTold_55
set_option maxHeartbeats 4000000 in
set_option maxRecDepth 100000 in
theorem c_X1_wt3 (l : Launch) (B0 : Nat) (g : va_G) (ct ad : Nat → Nat) (cS mS : St_) (x : Ax_) (i w : Nat) (hi : i < 12) (hw : w < 10) : RI l yX1_wordTold wsX1_wordTold 3 (PX B0 g ct ad cS mS x [.ref (ad 7), .int (nI i), .int (nI w), .int (nI 3)]) (nI (wt_ mS i w 3)) := by
  refine Met.ofW (cc := cX1_wordTold) (maxL := 7) (ret := (some .int)) (by decide) rfl ?_
  intro p e s m args below meth c s₁ B hml hv
  obtain ⟨rfl, hC⟩ := hv
  have hx := B.exec
  have hb := B.bytes
  have hr := B.returns
  have hts := atoms_spec (ws := wsX1_wordTold) B.pre
  have hown : s.vm.findClass RX1 = some m.cls := findClass_of_methodNamed B.named
  have hlocks := B.notSynchronized
  have hin : ∀ w ∈ wsX10, w ∈ wsX1_wordTold := fun _ h => List.mem_cons_of_mem _ (List.mem_append_right _ h)
  have hI := hC.1.2.2.2.2.1
  have hw6 := hI.2.2.2.1 (10 * i + w)
  have h6 := ln_le hw6
  have hk6 := hI.2.2.2.2.1 (10 * i + w)
  have hl := lv_entry ([.ref (ad 7), .int (nI i), .int (nI w), .int (nI 3)]) (n := 7) (Nat.le_of_ble_eq_true rfl)
  rw [lg_entry_eq]
  generalize (lg_sl ([.ref (ad 7), .int (nI i), .int (nI w), .int (nI 3)]) ++ List.replicate (7 - (lg_sl ([.ref (ad 7), .int (nI i), .int (nI w), .int (nI 3)])).length) Slot.unset).toArray = ls at hl ⊢
  have hl : lv_has ls 7 [(0, .ref (ad 7)), (1, .int (nI i)), (2, .int (nI w)), (3, .int (nI 3))] := hl
  refine lv_aload_n hx hb dX1_wordTold_0 rfl (lv_at hl 0 rfl) ?_
  refine lv_iload_n hx hb dX1_wordTold_1 rfl (lv_at hl 1 rfl) ?_
  refine lv_iload_n hx hb dX1_wordTold_2 rfl (lv_at hl 2 rfl) ?_
  refine k_rV (As := [.int (nI i), .int (nI w)]) (rest := []) (c_X1_wo l B0 g ct ad cS mS x i w (by omega) (by omega)) hC ⟨hx, hb, hml, hown, hts⟩ (cwV 2 hts gX1_wordTold_X1_wo rfl rfl rfl (by decide +kernel) ⟨Nat.le_of_ble_eq_true rfl, Nat.le_of_ble_eq_true rfl⟩) (rc1 hC) rfl hl.1 rfl (Nat.le_of_ble_eq_true rfl) dX1_wordTold_3 ⟨Nat.le_of_ble_eq_true rfl, Nat.le_of_ble_eq_true rfl⟩ ?_
  refine lv_istore (lv' := [(4, .int (nI (sw mS (10 * i + w)))), (0, .ref (ad 7)), (1, .int (nI i)), (2, .int (nI w)), (3, .int (nI 3))]) hx hb dX1_wordTold_6 hl (by decide) rfl (fun ls hl => ?_)
  refine lv_iconst (v := nI 0) hx hb dX1_wordTold_8 (by decide) ?_
  refine lv_istore (lv' := [(5, .int (nI 0)), (4, .int (nI (sw mS (10 * i + w)))), (0, .ref (ad 7)), (1, .int (nI i)), (2, .int (nI w)), (3, .int (nI 3))]) hx hb dX1_wordTold_9 hl (by decide) rfl (fun ls hl => ?_)
  refine lv_iload_n hx hb dX1_wordTold_11 rfl (lv_at hl 5 rfl) ?_
  refine lv_tableOut (x := nI 3) (tgt := 56) hx hb dX1_wordTold_12 (by decide) (by decide) ?_
  refine lv_iconst (v := nI 0) hx hb dX1_wordTold_56 (by decide) ?_
  refine lv_istore (lv' := [(6, .int (nI 0)), (5, .int (nI 0)), (4, .int (nI (sw mS (10 * i + w)))), (0, .ref (ad 7)), (1, .int (nI i)), (2, .int (nI w)), (3, .int (nI 3))]) hx hb dX1_wordTold_57 hl (by decide) rfl (fun ls hl => ?_)
  have LP_59 : ∀ (n_ : Nat) (t : Nat) (k : Nat), ln_ (sw mS (10 * i + w)) - k < n_ → (t = qs_ (wb_ (sk mS (10 * i + w))) k) → (k ≤ ln_ (sw mS (10 * i + w))) → ∀ ls : Array Slot, lv_has ls 7 [(6, .int (nI k)), (5, .int (nI t)), (4, .int (nI (sw mS (10 * i + w)))), (0, .ref (ad 7)), (1, .int (nI i)), (2, .int (nI w)), (3, .int (nI 3))] → W p l e (headSpec wsX1_wordTold (rm_ 3 0 0)).room s m ([.ref (ad 7), .int (nI i), .int (nI w), .int (nI 3)] : List Value).toArray below meth c s.heap [] 0 0 (MQ below (vp_Si (fun r => r = nI (wt_ mS i w 3))) ([.ref (ad 7), .int (nI i), .int (nI w), .int (nI 3)] : List Value).toArray s 0 0 (fun _ => False)) (F0 m 59 ls []) := by
    intro n_
    induction n_ with
    | zero => intro t k hm; exact absurd hm (Nat.not_lt_zero _)
    | succ n_ ih_59 =>
      intro t k hm ht hk ls hl
      refine lv_iload hx hb dX1_wordTold_59 (lv_at hl 0 rfl) ?_
      refine lv_iload hx hb dX1_wordTold_61 (lv_at hl 2 rfl) ?_
      refine k_pS (As := [.int (nI (sw mS (10 * i + w)))]) (rest := [.int (nI k)]) (c_X1_size l (sw mS (10 * i + w)) (by omega)) ⟨hx, hb, hml, hown, hts⟩ (va_cwS 1 hts gX1_wordTold_X1_size rfl rfl rfl (by decide +kernel) ⟨Nat.le_of_ble_eq_true rfl, Nat.le_of_ble_eq_true rfl⟩) rfl hl.1 rfl (Nat.le_of_ble_eq_true rfl) dX1_wordTold_63 ⟨Nat.le_of_ble_eq_true rfl, Nat.le_of_ble_eq_true rfl⟩ ?_
      refine lv_icmp_ge (tgt := 117) hx hb dX1_wordTold_66 (by decide) (fun c_66 => ?_) (fun c_66 => ?_)
      · skip
        have n_66 : ln_ (sw mS (10 * i + w)) ≤ k := (nI_leI (a := ln_ (sw mS (10 * i + w))) (b := k) (by omega) (by omega)).mp c_66
        have hE : t = wt_ mS i w 3 := by rw [ht, show k = ln_ (sw mS (10 * i + w)) by omega]; rfl
        refine lv_iload hx hb dX1_wordTold_117 (lv_at hl 1 rfl) ?_
        exact W.iret hx hb hr (fun t ht hW => ⟨_, rfl, (congrArg nI hE), ht⟩) (fun q hq => absurd hq List.not_mem_nil) dX1_wordTold_119
      · skip
        have n_66 : ¬ ln_ (sw mS (10 * i + w)) ≤ k := fun q__ => c_66 ((nI_leI (a := ln_ (sw mS (10 * i + w))) (b := k) (by omega) (by omega)).mpr q__)
        refine lv_aload_n hx hb dX1_wordTold_69 rfl (lv_at hl 3 rfl) ?_
        refine r_g1 hC hx hb hts hin hown 5 (by decide) (hts (.fieldLink RX1 16 "AbjadPoemsModel" "marks" "[Z") (by decide +kernel)) rfl dX1_wordTold_70 ?_
        refine lv_aload_n hx hb dX1_wordTold_73 rfl (lv_at hl 3 rfl) ?_
        refine lv_iload_n hx hb dX1_wordTold_74 rfl (lv_at hl 4 rfl) ?_
        refine lv_iload_n hx hb dX1_wordTold_75 rfl (lv_at hl 5 rfl) ?_
        refine k_rV (As := [.int (nI i), .int (nI w)]) (rest := [.ref (ad 10)]) (c_X1_base l B0 g ct ad cS mS x i w) hC ⟨hx, hb, hml, hown, hts⟩ (cwV 2 hts gX1_wordTold_X1_base rfl rfl rfl (by decide +kernel) ⟨Nat.le_of_ble_eq_true rfl, Nat.le_of_ble_eq_true rfl⟩) (rc1 hC) rfl hl.1 rfl (Nat.le_of_ble_eq_true rfl) dX1_wordTold_76 ⟨Nat.le_of_ble_eq_true rfl, Nat.le_of_ble_eq_true rfl⟩ ?_
        refine lv_iload hx hb dX1_wordTold_79 (lv_at hl 0 rfl) ?_
        refine lv_iadd hx hb dX1_wordTold_81 ?_
        refine lv_tn (nI_add _ _) ?_
        refine r_mk hC hx hb dX1_wordTold_82 (j := (6 * (10 * i + w)) + k) (by omega) ?_
        refine lv_tn (w := b2_ ((sk mS (10 * i + w)).testBit k)) (mb_i (by omega)) ?_
        refine lv_if_eq (tgt := 111) hx hb dX1_wordTold_83 (by decide) (fun c_83 => ?_) (fun c_83 => ?_)
        · skip
          have n_83 := b2_0.mp c_83
          refine lv_iinc (v := nI (k + 1)) (lv' := [(6, .int (nI (k + 1))), (5, .int (nI t)), (4, .int (nI (sw mS (10 * i + w)))), (0, .ref (ad 7)), (1, .int (nI i)), (2, .int (nI w)), (3, .int (nI 3))]) hx hb dX1_wordTold_111 hl (k := 0) rfl (nI_1 _) (by decide) rfl (fun ls hl => ?_)
          refine lv_goto (tgt := 59) hx hb dX1_wordTold_114 (by decide) ?_
          exact ih_59 t (k + 1) (by omega) (by rw [ht]; first | rw [wb_1 n_83] | rw [wb_2 n_83] | rw [wq_1 n_83] | rw [wq_2 n_83]) (by omega) ls (lv_sub hl [0, 1, 2, 3, 4, 5, 6] rfl)
        · skip
          have n_83 := b2_ne c_83
          refine lv_iload hx hb dX1_wordTold_86 (lv_at hl 1 rfl) ?_
          refine lv_iload_n hx hb dX1_wordTold_88 rfl (lv_at hl 6 rfl) ?_
          refine lv_iconst (v := nI 3) hx hb dX1_wordTold_89 (by decide) ?_
          refine lv_icmp_ne (tgt := 97) hx hb dX1_wordTold_90 (by decide) (fun c_90 => ?_) (fun c_90 => ?_)
          · skip
            have n_90 : ¬ 3 = 3 := fun q__ => c_90 ((nI_eq (a := 3) (b := 3) (by omega) (by omega)).mpr q__)
            exact absurd rfl n_90
          · skip
            have n_90 : 3 = 3 := (nI_eq (a := 3) (b := 3) (by omega) (by omega)).mp c_90
            refine lv_iconst (v := nI 1) hx hb dX1_wordTold_93 (by decide) ?_
            refine lv_goto (tgt := 108) hx hb dX1_wordTold_94 (by decide) ?_
            refine lv_iadd hx hb dX1_wordTold_108 ?_
            refine lv_tn (nI_add _ _) ?_
            refine lv_istore (lv' := [(5, .int (nI (t + 1))), (6, .int (nI k)), (4, .int (nI (sw mS (10 * i + w)))), (0, .ref (ad 7)), (1, .int (nI i)), (2, .int (nI w)), (3, .int (nI 3))]) hx hb dX1_wordTold_109 hl (by decide) rfl (fun ls hl => ?_)
            refine lv_iinc (v := nI (k + 1)) (lv' := [(6, .int (nI (k + 1))), (5, .int (nI (t + 1))), (4, .int (nI (sw mS (10 * i + w)))), (0, .ref (ad 7)), (1, .int (nI i)), (2, .int (nI w)), (3, .int (nI 3))]) hx hb dX1_wordTold_111 hl (k := 1) rfl (nI_1 _) (by decide) rfl (fun ls hl => ?_)
            refine lv_goto (tgt := 59) hx hb dX1_wordTold_114 (by decide) ?_
            exact ih_59 (t + 1) (k + 1) (by omega) (by rw [ht]; first | rw [wb_1 n_83] | rw [wb_2 n_83] | rw [wq_1 n_83] | rw [wq_2 n_83]) (by omega) ls (lv_sub hl [0, 1, 2, 3, 4, 5, 6] rfl)
  exact LP_59 _ 0 0 (Nat.lt_succ_self _) rfl (Nat.zero_le _) ls (lv_sub hl [0, 1, 2, 3, 4, 5, 6] rfl)
set_option maxHeartbeats 4000000 in
set_option maxRecDepth 100000 in
theorem c_X1_wt4 (l : Launch) (B0 : Nat) (g : va_G) (ct ad : Nat → Nat) (cS mS : St_) (x : Ax_) (i w : Nat) (hi : i < 12) (hw : w < 10) : RI l yX1_wordTold wsX1_wordTold 3 (PX B0 g ct ad cS mS x [.ref (ad 7), .int (nI i), .int (nI w), .int (nI 4)]) (nI (wt_ mS i w 4)) := by
  refine Met.ofW (cc := cX1_wordTold) (maxL := 7) (ret := (some .int)) (by decide) rfl ?_
  intro p e s m args below meth c s₁ B hml hv
  obtain ⟨rfl, hC⟩ := hv
  have hx := B.exec
  have hb := B.bytes
  have hr := B.returns
  have hts := atoms_spec (ws := wsX1_wordTold) B.pre
  have hown : s.vm.findClass RX1 = some m.cls := findClass_of_methodNamed B.named
  have hlocks := B.notSynchronized
  have hin : ∀ w ∈ wsX10, w ∈ wsX1_wordTold := fun _ h => List.mem_cons_of_mem _ (List.mem_append_right _ h)
  have hI := hC.1.2.2.2.2.1
  have hw6 := hI.2.2.2.1 (10 * i + w)
  have h6 := ln_le hw6
  have hk6 := hI.2.2.2.2.1 (10 * i + w)
  have hl := lv_entry ([.ref (ad 7), .int (nI i), .int (nI w), .int (nI 4)]) (n := 7) (Nat.le_of_ble_eq_true rfl)
  rw [lg_entry_eq]
  generalize (lg_sl ([.ref (ad 7), .int (nI i), .int (nI w), .int (nI 4)]) ++ List.replicate (7 - (lg_sl ([.ref (ad 7), .int (nI i), .int (nI w), .int (nI 4)])).length) Slot.unset).toArray = ls at hl ⊢
  have hl : lv_has ls 7 [(0, .ref (ad 7)), (1, .int (nI i)), (2, .int (nI w)), (3, .int (nI 4))] := hl
  refine lv_aload_n hx hb dX1_wordTold_0 rfl (lv_at hl 0 rfl) ?_
  refine lv_iload_n hx hb dX1_wordTold_1 rfl (lv_at hl 1 rfl) ?_
  refine lv_iload_n hx hb dX1_wordTold_2 rfl (lv_at hl 2 rfl) ?_
  refine k_rV (As := [.int (nI i), .int (nI w)]) (rest := []) (c_X1_wo l B0 g ct ad cS mS x i w (by omega) (by omega)) hC ⟨hx, hb, hml, hown, hts⟩ (cwV 2 hts gX1_wordTold_X1_wo rfl rfl rfl (by decide +kernel) ⟨Nat.le_of_ble_eq_true rfl, Nat.le_of_ble_eq_true rfl⟩) (rc1 hC) rfl hl.1 rfl (Nat.le_of_ble_eq_true rfl) dX1_wordTold_3 ⟨Nat.le_of_ble_eq_true rfl, Nat.le_of_ble_eq_true rfl⟩ ?_
  refine lv_istore (lv' := [(4, .int (nI (sw mS (10 * i + w)))), (0, .ref (ad 7)), (1, .int (nI i)), (2, .int (nI w)), (3, .int (nI 4))]) hx hb dX1_wordTold_6 hl (by decide) rfl (fun ls hl => ?_)
  refine lv_iconst (v := nI 0) hx hb dX1_wordTold_8 (by decide) ?_
  refine lv_istore (lv' := [(5, .int (nI 0)), (4, .int (nI (sw mS (10 * i + w)))), (0, .ref (ad 7)), (1, .int (nI i)), (2, .int (nI w)), (3, .int (nI 4))]) hx hb dX1_wordTold_9 hl (by decide) rfl (fun ls hl => ?_)
  refine lv_iload_n hx hb dX1_wordTold_11 rfl (lv_at hl 5 rfl) ?_
  refine lv_tableOut (x := nI 4) (tgt := 56) hx hb dX1_wordTold_12 (by decide) (by decide) ?_
  refine lv_iconst (v := nI 0) hx hb dX1_wordTold_56 (by decide) ?_
  refine lv_istore (lv' := [(6, .int (nI 0)), (5, .int (nI 0)), (4, .int (nI (sw mS (10 * i + w)))), (0, .ref (ad 7)), (1, .int (nI i)), (2, .int (nI w)), (3, .int (nI 4))]) hx hb dX1_wordTold_57 hl (by decide) rfl (fun ls hl => ?_)
  have LP_59 : ∀ (n_ : Nat) (t : Nat) (k : Nat), ln_ (sw mS (10 * i + w)) - k < n_ → (t = wq_ (so mS) (sw mS (10 * i + w)) (sk mS (10 * i + w)) k) → (k ≤ ln_ (sw mS (10 * i + w))) → ∀ ls : Array Slot, lv_has ls 7 [(6, .int (nI k)), (5, .int (nI t)), (4, .int (nI (sw mS (10 * i + w)))), (0, .ref (ad 7)), (1, .int (nI i)), (2, .int (nI w)), (3, .int (nI 4))] → W p l e (headSpec wsX1_wordTold (rm_ 3 0 0)).room s m ([.ref (ad 7), .int (nI i), .int (nI w), .int (nI 4)] : List Value).toArray below meth c s.heap [] 0 0 (MQ below (vp_Si (fun r => r = nI (wt_ mS i w 4))) ([.ref (ad 7), .int (nI i), .int (nI w), .int (nI 4)] : List Value).toArray s 0 0 (fun _ => False)) (F0 m 59 ls []) := by
    intro n_
    induction n_ with
    | zero => intro t k hm; exact absurd hm (Nat.not_lt_zero _)
    | succ n_ ih_59 =>
      intro t k hm ht hk ls hl
      refine lv_iload hx hb dX1_wordTold_59 (lv_at hl 0 rfl) ?_
      refine lv_iload hx hb dX1_wordTold_61 (lv_at hl 2 rfl) ?_
      refine k_pS (As := [.int (nI (sw mS (10 * i + w)))]) (rest := [.int (nI k)]) (c_X1_size l (sw mS (10 * i + w)) (by omega)) ⟨hx, hb, hml, hown, hts⟩ (va_cwS 1 hts gX1_wordTold_X1_size rfl rfl rfl (by decide +kernel) ⟨Nat.le_of_ble_eq_true rfl, Nat.le_of_ble_eq_true rfl⟩) rfl hl.1 rfl (Nat.le_of_ble_eq_true rfl) dX1_wordTold_63 ⟨Nat.le_of_ble_eq_true rfl, Nat.le_of_ble_eq_true rfl⟩ ?_
      refine lv_icmp_ge (tgt := 117) hx hb dX1_wordTold_66 (by decide) (fun c_66 => ?_) (fun c_66 => ?_)
      · skip
        have n_66 : ln_ (sw mS (10 * i + w)) ≤ k := (nI_leI (a := ln_ (sw mS (10 * i + w))) (b := k) (by omega) (by omega)).mp c_66
        have hE : t = wt_ mS i w 4 := by rw [ht, show k = ln_ (sw mS (10 * i + w)) by omega]; rfl
        refine lv_iload hx hb dX1_wordTold_117 (lv_at hl 1 rfl) ?_
        exact W.iret hx hb hr (fun t ht hW => ⟨_, rfl, (congrArg nI hE), ht⟩) (fun q hq => absurd hq List.not_mem_nil) dX1_wordTold_119
      · skip
        have n_66 : ¬ ln_ (sw mS (10 * i + w)) ≤ k := fun q__ => c_66 ((nI_leI (a := ln_ (sw mS (10 * i + w))) (b := k) (by omega) (by omega)).mpr q__)
        refine lv_aload_n hx hb dX1_wordTold_69 rfl (lv_at hl 3 rfl) ?_
        refine r_g1 hC hx hb hts hin hown 5 (by decide) (hts (.fieldLink RX1 16 "AbjadPoemsModel" "marks" "[Z") (by decide +kernel)) rfl dX1_wordTold_70 ?_
        refine lv_aload_n hx hb dX1_wordTold_73 rfl (lv_at hl 3 rfl) ?_
        refine lv_iload_n hx hb dX1_wordTold_74 rfl (lv_at hl 4 rfl) ?_
        refine lv_iload_n hx hb dX1_wordTold_75 rfl (lv_at hl 5 rfl) ?_
        refine k_rV (As := [.int (nI i), .int (nI w)]) (rest := [.ref (ad 10)]) (c_X1_base l B0 g ct ad cS mS x i w) hC ⟨hx, hb, hml, hown, hts⟩ (cwV 2 hts gX1_wordTold_X1_base rfl rfl rfl (by decide +kernel) ⟨Nat.le_of_ble_eq_true rfl, Nat.le_of_ble_eq_true rfl⟩) (rc1 hC) rfl hl.1 rfl (Nat.le_of_ble_eq_true rfl) dX1_wordTold_76 ⟨Nat.le_of_ble_eq_true rfl, Nat.le_of_ble_eq_true rfl⟩ ?_
        refine lv_iload hx hb dX1_wordTold_79 (lv_at hl 0 rfl) ?_
        refine lv_iadd hx hb dX1_wordTold_81 ?_
        refine lv_tn (nI_add _ _) ?_
        refine r_mk hC hx hb dX1_wordTold_82 (j := (6 * (10 * i + w)) + k) (by omega) ?_
        refine lv_tn (w := b2_ ((sk mS (10 * i + w)).testBit k)) (mb_i (by omega)) ?_
        refine lv_if_eq (tgt := 111) hx hb dX1_wordTold_83 (by decide) (fun c_83 => ?_) (fun c_83 => ?_)
        · skip
          have n_83 := b2_0.mp c_83
          refine lv_iinc (v := nI (k + 1)) (lv' := [(6, .int (nI (k + 1))), (5, .int (nI t)), (4, .int (nI (sw mS (10 * i + w)))), (0, .ref (ad 7)), (1, .int (nI i)), (2, .int (nI w)), (3, .int (nI 4))]) hx hb dX1_wordTold_111 hl (k := 0) rfl (nI_1 _) (by decide) rfl (fun ls hl => ?_)
          refine lv_goto (tgt := 59) hx hb dX1_wordTold_114 (by decide) ?_
          exact ih_59 t (k + 1) (by omega) (by rw [ht]; first | rw [wb_1 n_83] | rw [wb_2 n_83] | rw [wq_1 n_83] | rw [wq_2 n_83]) (by omega) ls (lv_sub hl [0, 1, 2, 3, 4, 5, 6] rfl)
        · skip
          have n_83 := b2_ne c_83
          refine lv_iload hx hb dX1_wordTold_86 (lv_at hl 1 rfl) ?_
          refine lv_iload_n hx hb dX1_wordTold_88 rfl (lv_at hl 6 rfl) ?_
          refine lv_iconst (v := nI 3) hx hb dX1_wordTold_89 (by decide) ?_
          refine lv_icmp_ne (tgt := 97) hx hb dX1_wordTold_90 (by decide) (fun c_90 => ?_) (fun c_90 => ?_)
          · skip
            have n_90 : ¬ 4 = 3 := fun q__ => c_90 ((nI_eq (a := 4) (b := 3) (by omega) (by omega)).mpr q__)
            refine lv_aload_n hx hb dX1_wordTold_97 rfl (lv_at hl 3 rfl) ?_
            refine lv_iload hx hb dX1_wordTold_98 (lv_at hl 2 rfl) ?_
            refine lv_iload hx hb dX1_wordTold_100 (lv_at hl 0 rfl) ?_
            refine k_pS (As := [.int (nI (sw mS (10 * i + w))), .int (nI k)]) (rest := [.ref (ad 7), .int (nI t)]) (c_X1_at l (sw mS (10 * i + w)) k (by omega) (by omega)) ⟨hx, hb, hml, hown, hts⟩ (va_cwS 2 hts gX1_wordTold_X1_at rfl rfl rfl (by decide +kernel) ⟨Nat.le_of_ble_eq_true rfl, Nat.le_of_ble_eq_true rfl⟩) rfl hl.1 rfl (Nat.le_of_ble_eq_true rfl) dX1_wordTold_102 ⟨Nat.le_of_ble_eq_true rfl, Nat.le_of_ble_eq_true rfl⟩ ?_
            refine k_rV (As := [.int (nI (at_ (sw mS (10 * i + w)) k))]) (rest := [.int (nI t)]) (c_X1_valueOf l B0 g ct ad cS mS x (at_ (sw mS (10 * i + w)) k) (at_lt _ _)) hC ⟨hx, hb, hml, hown, hts⟩ (cwV 1 hts gX1_wordTold_X1_valueOf rfl rfl rfl (by decide +kernel) ⟨Nat.le_of_ble_eq_true rfl, Nat.le_of_ble_eq_true rfl⟩) (rc1 hC) rfl hl.1 rfl (Nat.le_of_ble_eq_true rfl) dX1_wordTold_105 ⟨Nat.le_of_ble_eq_true rfl, Nat.le_of_ble_eq_true rfl⟩ ?_
            refine lv_iadd hx hb dX1_wordTold_108 ?_
            refine lv_tn (nI_add _ _) ?_
            refine lv_istore (lv' := [(5, .int (nI (t + (vl_ (so mS) (at_ (sw mS (10 * i + w)) k))))), (6, .int (nI k)), (4, .int (nI (sw mS (10 * i + w)))), (0, .ref (ad 7)), (1, .int (nI i)), (2, .int (nI w)), (3, .int (nI 4))]) hx hb dX1_wordTold_109 hl (by decide) rfl (fun ls hl => ?_)
            refine lv_iinc (v := nI (k + 1)) (lv' := [(6, .int (nI (k + 1))), (5, .int (nI (t + (vl_ (so mS) (at_ (sw mS (10 * i + w)) k))))), (4, .int (nI (sw mS (10 * i + w)))), (0, .ref (ad 7)), (1, .int (nI i)), (2, .int (nI w)), (3, .int (nI 4))]) hx hb dX1_wordTold_111 hl (k := 1) rfl (nI_1 _) (by decide) rfl (fun ls hl => ?_)
            refine lv_goto (tgt := 59) hx hb dX1_wordTold_114 (by decide) ?_
            exact ih_59 (t + (vl_ (so mS) (at_ (sw mS (10 * i + w)) k))) (k + 1) (by omega) (by rw [ht]; first | rw [wb_1 n_83] | rw [wb_2 n_83] | rw [wq_1 n_83] | rw [wq_2 n_83]) (by omega) ls (lv_sub hl [0, 1, 2, 3, 4, 5, 6] rfl)
          · skip
            have n_90 : 4 = 3 := (nI_eq (a := 4) (b := 3) (by omega) (by omega)).mp c_90
            exact absurd n_90 (by decide)
  exact LP_59 _ 0 0 (Nat.lt_succ_self _) rfl (Nat.zero_le _) ls (lv_sub hl [0, 1, 2, 3, 4, 5, 6] rfl)
theorem c_X1_wordTold (l : Launch) (B0 : Nat) (g : va_G) (ct ad : Nat → Nat) (cS mS : St_) (x : Ax_) (i w what : Nat) (hi : i < 12) (hw : w < 10) (hq : what < 5) : RI l yX1_wordTold wsX1_wordTold 3 (PX B0 g ct ad cS mS x [.ref (ad 7), .int (nI i), .int (nI w), .int (nI what)]) (nI (wt_ mS i w what)) :=
  match what, hq with
  | 0, _ => c_X1_wt0 l B0 g ct ad cS mS x i w hi hw
  | 1, _ => c_X1_wt1 l B0 g ct ad cS mS x i w hi hw
  | 2, _ => c_X1_wt2 l B0 g ct ad cS mS x i w hi hw
  | 3, _ => c_X1_wt3 l B0 g ct ad cS mS x i w hi hw
  | 4, _ => c_X1_wt4 l B0 g ct ad cS mS x i w hi hw
  | k + 5, hq => absurd hq (by omega)
set_option maxHeartbeats 4000000 in
set_option maxRecDepth 100000 in
theorem c_X1_lineTold (l : Launch) (B0 : Nat) (g : va_G) (ct ad : Nat → Nat) (cS mS : St_) (x : Ax_) (i what : Nat) (hi : i < 12) (hq : what < 5) : RI l yX1_lineTold wsX1_lineTold 4 (PX B0 g ct ad cS mS x [.ref (ad 7), .int (nI i), .int (nI what)]) (nI (lt_ mS i what)) := by
  refine Met.ofW (cc := cX1_lineTold) (maxL := 5) (ret := (some .int)) (by decide) rfl ?_
  intro p e s m args below meth c s₁ B hml hv
  obtain ⟨rfl, hC⟩ := hv
  have hx := B.exec
  have hb := B.bytes
  have hr := B.returns
  have hts := atoms_spec (ws := wsX1_lineTold) B.pre
  have hown : s.vm.findClass RX1 = some m.cls := findClass_of_methodNamed B.named
  have hlocks := B.notSynchronized
  have hin : ∀ w ∈ wsX10, w ∈ wsX1_lineTold := fun _ h => List.mem_cons_of_mem _ (List.mem_append_right _ h)
  have hI := hC.1.2.2.2.2.1
  have hz := hI.2.2.1 i
  have hl := lv_entry ([.ref (ad 7), .int (nI i), .int (nI what)]) (n := 5) (Nat.le_of_ble_eq_true rfl)
  rw [lg_entry_eq]
  generalize (lg_sl ([.ref (ad 7), .int (nI i), .int (nI what)]) ++ List.replicate (5 - (lg_sl ([.ref (ad 7), .int (nI i), .int (nI what)])).length) Slot.unset).toArray = ls at hl ⊢
  have hl : lv_has ls 5 [(0, .ref (ad 7)), (1, .int (nI i)), (2, .int (nI what))] := hl
  refine lv_iload_n hx hb dX1_lineTold_0 rfl (lv_at hl 2 rfl) ?_
  refine lv_if_ne (tgt := 11) hx hb dX1_lineTold_1 (by decide) (fun c_1 => ?_) (fun c_1 => ?_)
  · skip
    have n_1 : ¬ what = 0 := fun q__ => c_1 ((eq0_ (by omega)).mpr q__)
    refine lv_iconst (v := nI 0) hx hb dX1_lineTold_11 (by decide) ?_
    refine lv_istore_n (lv' := [(3, .int (nI 0)), (0, .ref (ad 7)), (1, .int (nI i)), (2, .int (nI what))]) hx hb dX1_lineTold_12 rfl hl (by decide) rfl (fun ls hl => ?_)
    refine lv_iconst (v := nI 0) hx hb dX1_lineTold_13 (by decide) ?_
    refine lv_istore (lv' := [(4, .int (nI 0)), (3, .int (nI 0)), (0, .ref (ad 7)), (1, .int (nI i)), (2, .int (nI what))]) hx hb dX1_lineTold_14 hl (by decide) rfl (fun ls hl => ?_)
    have LP_16 : ∀ (n_ : Nat) (t : Nat) (k : Nat), ss mS i - k < n_ → (t = qs_ (fun w => wt_ mS i w what) k) → (k ≤ ss mS i) → ∀ ls : Array Slot, lv_has ls 5 [(4, .int (nI k)), (3, .int (nI t)), (0, .ref (ad 7)), (1, .int (nI i)), (2, .int (nI what))] → W p l e (headSpec wsX1_lineTold (rm_ 4 0 0)).room s m ([.ref (ad 7), .int (nI i), .int (nI what)] : List Value).toArray below meth c s.heap [] 0 0 (MQ below (vp_Si (fun r => r = nI (lt_ mS i what))) ([.ref (ad 7), .int (nI i), .int (nI what)] : List Value).toArray s 0 0 (fun _ => False)) (F0 m 16 ls []) := by
      intro n_
      induction n_ with
      | zero => intro t k hm; exact absurd hm (Nat.not_lt_zero _)
      | succ n_ ih_16 =>
        intro t k hm ht hk ls hl
        refine lv_iload hx hb dX1_lineTold_16 (lv_at hl 0 rfl) ?_
        refine lv_aload_n hx hb dX1_lineTold_18 rfl (lv_at hl 2 rfl) ?_
        refine r_g1 hC hx hb hts hin hown 3 (by decide) (hts (.fieldLink RX1 9 "AbjadPoemsModel" "longs" "[I") (by decide +kernel)) rfl dX1_lineTold_19 ?_
        refine lv_iload_n hx hb dX1_lineTold_22 rfl (lv_at hl 3 rfl) ?_
        refine r_lg hC hx hb dX1_lineTold_23 (j := i) (by omega) ?_
        refine lv_icmp_ge (tgt := 44) hx hb dX1_lineTold_24 (by decide) (fun c_24 => ?_) (fun c_24 => ?_)
        · skip
          have n_24 : ss mS i ≤ k := (nI_leI (a := ss mS i) (b := k) (by omega) (by omega)).mp c_24
          have hE : t = lt_ mS i what := by rw [lt_n n_1, ht, show k = ss mS i by omega]
          refine lv_iload_n hx hb dX1_lineTold_44 rfl (lv_at hl 1 rfl) ?_
          exact W.iret hx hb hr (fun t ht hW => ⟨_, rfl, (congrArg nI hE), ht⟩) (fun q hq => absurd hq List.not_mem_nil) dX1_lineTold_45
        · skip
          have n_24 : ¬ ss mS i ≤ k := fun q__ => c_24 ((nI_leI (a := ss mS i) (b := k) (by omega) (by omega)).mpr q__)
          refine lv_iload_n hx hb dX1_lineTold_27 rfl (lv_at hl 1 rfl) ?_
          refine lv_aload_n hx hb dX1_lineTold_28 rfl (lv_at hl 2 rfl) ?_
          refine lv_iload_n hx hb dX1_lineTold_29 rfl (lv_at hl 3 rfl) ?_
          refine lv_iload hx hb dX1_lineTold_30 (lv_at hl 0 rfl) ?_
          refine lv_iload_n hx hb dX1_lineTold_32 rfl (lv_at hl 4 rfl) ?_
          refine k_rV (As := [.int (nI i), .int (nI k), .int (nI what)]) (rest := [.int (nI t)]) (c_X1_wordTold l B0 g ct ad cS mS x i k what (by omega) (by omega) (by omega)) hC ⟨hx, hb, hml, hown, hts⟩ (cwV 3 hts gX1_lineTold_X1_wordTold rfl rfl rfl (by decide +kernel) ⟨Nat.le_of_ble_eq_true rfl, Nat.le_of_ble_eq_true rfl⟩) (rc1 hC) rfl hl.1 rfl (Nat.le_of_ble_eq_true rfl) dX1_lineTold_33 ⟨Nat.le_of_ble_eq_true rfl, Nat.le_of_ble_eq_true rfl⟩ ?_
          refine lv_iadd hx hb dX1_lineTold_36 ?_
          refine lv_tn (nI_add _ _) ?_
          refine lv_istore_n (lv' := [(3, .int (nI (t + (wt_ mS i k what)))), (4, .int (nI k)), (0, .ref (ad 7)), (1, .int (nI i)), (2, .int (nI what))]) hx hb dX1_lineTold_37 rfl hl (by decide) rfl (fun ls hl => ?_)
          refine lv_iinc (v := nI (k + 1)) (lv' := [(4, .int (nI (k + 1))), (3, .int (nI (t + (wt_ mS i k what)))), (0, .ref (ad 7)), (1, .int (nI i)), (2, .int (nI what))]) hx hb dX1_lineTold_38 hl (k := 1) rfl (nI_1 _) (by decide) rfl (fun ls hl => ?_)
          refine lv_goto (tgt := 16) hx hb dX1_lineTold_41 (by decide) ?_
          exact ih_16 (t + (wt_ mS i k what)) (k + 1) (by omega) (by rw [ht]; rfl) (by omega) ls (lv_sub hl [0, 1, 2, 3, 4] rfl)
    exact LP_16 _ 0 0 (Nat.lt_succ_self _) rfl (Nat.zero_le _) ls (lv_sub hl [0, 1, 2, 3, 4] rfl)
  · skip
    have n_1 : what = 0 := (eq0_ (by omega)).mp c_1
    refine lv_aload_n hx hb dX1_lineTold_4 rfl (lv_at hl 0 rfl) ?_
    refine r_g1 hC hx hb hts hin hown 3 (by decide) (hts (.fieldLink RX1 9 "AbjadPoemsModel" "longs" "[I") (by decide +kernel)) rfl dX1_lineTold_5 ?_
    refine lv_iload_n hx hb dX1_lineTold_8 rfl (lv_at hl 1 rfl) ?_
    refine r_lg hC hx hb dX1_lineTold_9 (j := i) (by omega) ?_
    exact W.iret hx hb hr (fun t ht hW => ⟨_, rfl, (by show nI (ss mS i) = nI (lt_ mS i what); rw [n_1]; rfl), ht⟩) (fun q hq => absurd hq List.not_mem_nil) dX1_lineTold_10
set_option maxHeartbeats 4000000 in
set_option maxRecDepth 100000 in
theorem c_X1_all (l : Launch) (B0 : Nat) (g : va_G) (ct ad : Nat → Nat) (cS mS : St_) (x : Ax_) (what : Nat) (hq : what < 5) : RI l yX1_all wsX1_all 5 (PX B0 g ct ad cS mS x [.ref (ad 7), .int (nI what)]) (nI (al_ mS what)) := by
  refine Met.ofW (cc := cX1_all) (maxL := 4) (ret := (some .int)) (by decide) rfl ?_
  intro p e s m args below meth c s₁ B hml hv
  obtain ⟨rfl, hC⟩ := hv
  have hx := B.exec
  have hb := B.bytes
  have hr := B.returns
  have hts := atoms_spec (ws := wsX1_all) B.pre
  have hown : s.vm.findClass RX1 = some m.cls := findClass_of_methodNamed B.named
  have hlocks := B.notSynchronized
  have hin : ∀ w ∈ wsX10, w ∈ wsX1_all := fun _ h => List.mem_cons_of_mem _ (List.mem_append_right _ h)
  have hI := hC.1.2.2.2.2.1
  have hn := hI.2.1
  have hl := lv_entry ([.ref (ad 7), .int (nI what)]) (n := 4) (Nat.le_of_ble_eq_true rfl)
  rw [lg_entry_eq]
  generalize (lg_sl ([.ref (ad 7), .int (nI what)]) ++ List.replicate (4 - (lg_sl ([.ref (ad 7), .int (nI what)])).length) Slot.unset).toArray = ls at hl ⊢
  have hl : lv_has ls 4 [(0, .ref (ad 7)), (1, .int (nI what))] := hl
  refine lv_iconst (v := nI 0) hx hb dX1_all_0 (by decide) ?_
  refine lv_istore_n (lv' := [(2, .int (nI 0)), (0, .ref (ad 7)), (1, .int (nI what))]) hx hb dX1_all_1 rfl hl (by decide) rfl (fun ls hl => ?_)
  refine lv_iconst (v := nI 0) hx hb dX1_all_2 (by decide) ?_
  refine lv_istore_n (lv' := [(3, .int (nI 0)), (2, .int (nI 0)), (0, .ref (ad 7)), (1, .int (nI what))]) hx hb dX1_all_3 rfl hl (by decide) rfl (fun ls hl => ?_)
  have LP_4 : ∀ (n_ : Nat) (t : Nat) (k : Nat), sn mS - k < n_ → (t = qs_ (fun l => lt_ mS l what) k) → (k ≤ sn mS) → ∀ ls : Array Slot, lv_has ls 4 [(3, .int (nI k)), (2, .int (nI t)), (0, .ref (ad 7)), (1, .int (nI what))] → W p l e (headSpec wsX1_all (rm_ 5 0 0)).room s m ([.ref (ad 7), .int (nI what)] : List Value).toArray below meth c s.heap [] 0 0 (MQ below (vp_Si (fun r => r = nI (al_ mS what))) ([.ref (ad 7), .int (nI what)] : List Value).toArray s 0 0 (fun _ => False)) (F0 m 4 ls []) := by
    intro n_
    induction n_ with
    | zero => intro t k hm; exact absurd hm (Nat.not_lt_zero _)
    | succ n_ ih_4 =>
      intro t k hm ht hk ls hl
      refine lv_iload_n hx hb dX1_all_4 rfl (lv_at hl 0 rfl) ?_
      refine lv_aload_n hx hb dX1_all_5 rfl (lv_at hl 2 rfl) ?_
      refine r_g1 hC hx hb hts hin hown 2 (by decide) (hts (.fieldLink RX1 24 "AbjadPoemsModel" "lines" "I") (by decide +kernel)) rfl dX1_all_6 ?_
      refine lv_icmp_ge (tgt := 27) hx hb dX1_all_9 (by decide) (fun c_9 => ?_) (fun c_9 => ?_)
      · skip
        have n_9 : sn mS ≤ k := (nI_leI (a := sn mS) (b := k) (by omega) (by omega)).mp c_9
        have hE : t = al_ mS what := by rw [ht, show k = sn mS by omega]; rfl
        refine lv_iload_n hx hb dX1_all_27 rfl (lv_at hl 1 rfl) ?_
        exact W.iret hx hb hr (fun t ht hW => ⟨_, rfl, (congrArg nI hE), ht⟩) (fun q hq => absurd hq List.not_mem_nil) dX1_all_28
      · skip
        have n_9 : ¬ sn mS ≤ k := fun q__ => c_9 ((nI_leI (a := sn mS) (b := k) (by omega) (by omega)).mpr q__)
        refine lv_iload_n hx hb dX1_all_12 rfl (lv_at hl 1 rfl) ?_
        refine lv_aload_n hx hb dX1_all_13 rfl (lv_at hl 2 rfl) ?_
        refine lv_iload_n hx hb dX1_all_14 rfl (lv_at hl 0 rfl) ?_
        refine lv_iload_n hx hb dX1_all_15 rfl (lv_at hl 3 rfl) ?_
        refine k_rV (As := [.int (nI k), .int (nI what)]) (rest := [.int (nI t)]) (c_X1_lineTold l B0 g ct ad cS mS x k what (by omega) (by omega)) hC ⟨hx, hb, hml, hown, hts⟩ (cwV 2 hts gX1_all_X1_lineTold rfl rfl rfl (by decide +kernel) ⟨Nat.le_of_ble_eq_true rfl, Nat.le_of_ble_eq_true rfl⟩) (rc1 hC) rfl hl.1 rfl (Nat.le_of_ble_eq_true rfl) dX1_all_16 ⟨Nat.le_of_ble_eq_true rfl, Nat.le_of_ble_eq_true rfl⟩ ?_
        refine lv_iadd hx hb dX1_all_19 ?_
        refine lv_tn (nI_add _ _) ?_
        refine lv_istore_n (lv' := [(2, .int (nI (t + (lt_ mS k what)))), (3, .int (nI k)), (0, .ref (ad 7)), (1, .int (nI what))]) hx hb dX1_all_20 rfl hl (by decide) rfl (fun ls hl => ?_)
        refine lv_iinc (v := nI (k + 1)) (lv' := [(3, .int (nI (k + 1))), (2, .int (nI (t + (lt_ mS k what)))), (0, .ref (ad 7)), (1, .int (nI what))]) hx hb dX1_all_21 hl (k := 1) rfl (nI_1 _) (by decide) rfl (fun ls hl => ?_)
        refine lv_goto (tgt := 4) hx hb dX1_all_24 (by decide) ?_
        exact ih_4 (t + (lt_ mS k what)) (k + 1) (by omega) (by rw [ht]; rfl) (by omega) ls (lv_sub hl [0, 1, 2, 3] rfl)
  exact LP_4 _ 0 0 (Nat.lt_succ_self _) rfl (Nat.zero_le _) ls (lv_sub hl [0, 1, 2, 3] rfl)
set_option maxHeartbeats 4000000 in
set_option maxRecDepth 100000 in
theorem c_X1_pairs (l : Launch) (B0 : Nat) (g : va_G) (ct ad : Nat → Nat) (cS mS : St_) (x : Ax_)  : RI l yX1_pairs wsX1_pairs 3 (PX B0 g ct ad cS mS x [.ref (ad 7)]) (nI (pr_ mS)) := by
  refine Met.ofW (cc := cX1_pairs) (maxL := 4) (ret := (some .int)) (by decide) rfl ?_
  intro p e s m args below meth c s₁ B hml hv
  obtain ⟨rfl, hC⟩ := hv
  have hx := B.exec
  have hb := B.bytes
  have hr := B.returns
  have hts := atoms_spec (ws := wsX1_pairs) B.pre
  have hown : s.vm.findClass RX1 = some m.cls := findClass_of_methodNamed B.named
  have hlocks := B.notSynchronized
  have hin : ∀ w ∈ wsX10, w ∈ wsX1_pairs := fun _ h => List.mem_cons_of_mem _ (List.mem_append_right _ h)
  have hI := hC.1.2.2.2.2.1
  have hn := hI.2.1
  have hl := lv_entry ([.ref (ad 7)]) (n := 4) (Nat.le_of_ble_eq_true rfl)
  rw [lg_entry_eq]
  generalize (lg_sl ([.ref (ad 7)]) ++ List.replicate (4 - (lg_sl ([.ref (ad 7)])).length) Slot.unset).toArray = ls at hl ⊢
  have hl : lv_has ls 4 [(0, .ref (ad 7))] := hl
  refine lv_iconst (v := nI 0) hx hb dX1_pairs_0 (by decide) ?_
  refine lv_istore_n (lv' := [(1, .int (nI 0)), (0, .ref (ad 7))]) hx hb dX1_pairs_1 rfl hl (by decide) rfl (fun ls hl => ?_)
  refine lv_iconst (v := nI 0) hx hb dX1_pairs_2 (by decide) ?_
  refine lv_istore_n (lv' := [(2, .int (nI 0)), (1, .int (nI 0)), (0, .ref (ad 7))]) hx hb dX1_pairs_3 rfl hl (by decide) rfl (fun ls hl => ?_)
  have LP_4 : ∀ (n_ : Nat) (t : Nat) (a : Nat), 10 * sn mS - a < n_ → (t = qs_ (pF_ mS) a) → (a ≤ 10 * sn mS) → ∀ ls : Array Slot, lv_has ls 4 [(2, .int (nI a)), (1, .int (nI t)), (0, .ref (ad 7))] → W p l e (headSpec wsX1_pairs (rm_ 3 0 0)).room s m ([.ref (ad 7)] : List Value).toArray below meth c s.heap [] 0 0 (MQ below (vp_Si (fun r => r = nI (pr_ mS))) ([.ref (ad 7)] : List Value).toArray s 0 0 (fun _ => False)) (F0 m 4 ls []) := by
    intro n_
    induction n_ with
    | zero => intro t a hm; exact absurd hm (Nat.not_lt_zero _)
    | succ n_ ih_4 =>
      intro t a hm ht ha ls hl
      have hwa := hI.2.2.2.1 a
      have hwa2 := ws_le hI.1 hwa
      refine lv_iload_n hx hb dX1_pairs_4 rfl (lv_at hl 0 rfl) ?_
      refine lv_bipush (v := nI 10) hx hb dX1_pairs_5 (by decide) ?_
      refine lv_aload_n hx hb dX1_pairs_7 rfl (lv_at hl 2 rfl) ?_
      refine r_g1 hC hx hb hts hin hown 2 (by decide) (hts (.fieldLink RX1 24 "AbjadPoemsModel" "lines" "I") (by decide +kernel)) rfl dX1_pairs_8 ?_
      refine lv_imul hx hb dX1_pairs_11 ?_
      refine lv_tn (pk_mul _ _) ?_
      refine lv_icmp_ge (tgt := 98) hx hb dX1_pairs_12 (by decide) (fun c_12 => ?_) (fun c_12 => ?_)
      · skip
        have n_12 : 10 * (sn mS) ≤ a := (nI_leI (a := 10 * (sn mS)) (b := a) (by omega) (by omega)).mp c_12
        have hE : t = pr_ mS := by rw [ht, show a = 10 * sn mS by omega]; rfl
        refine lv_iload_n hx hb dX1_pairs_98 rfl (lv_at hl 1 rfl) ?_
        exact W.iret hx hb hr (fun t ht hW => ⟨_, rfl, (congrArg nI hE), ht⟩) (fun q hq => absurd hq List.not_mem_nil) dX1_pairs_99
      · skip
        have n_12 : ¬ 10 * (sn mS) ≤ a := fun q__ => c_12 ((nI_leI (a := 10 * (sn mS)) (b := a) (by omega) (by omega)).mpr q__)
        refine lv_aload_n hx hb dX1_pairs_15 rfl (lv_at hl 2 rfl) ?_
        refine lv_iload_n hx hb dX1_pairs_16 rfl (lv_at hl 0 rfl) ?_
        refine lv_bipush (v := nI 10) hx hb dX1_pairs_17 (by decide) ?_
        refine lv_idiv hx hb dX1_pairs_19 (by decide) ?_
        refine lv_tn (pk_div (by omega) (by decide) (by decide)) ?_
        refine lv_iload_n hx hb dX1_pairs_20 rfl (lv_at hl 0 rfl) ?_
        refine lv_bipush (v := nI 10) hx hb dX1_pairs_21 (by decide) ?_
        refine lv_irem hx hb dX1_pairs_23 (by decide) ?_
        refine lv_tn (pk_rem (by omega) (by decide) (by decide)) ?_
        refine k_rV (As := [.int (nI (a / 10)), .int (nI (a % 10))]) (rest := []) (c_X1_isOne_2 l B0 g ct ad cS mS x (a / 10) (nI (a % 10)) (by omega)) hC ⟨hx, hb, hml, hown, hts⟩ (cwV 2 hts gX1_pairs_X1_isOne rfl rfl rfl (by decide +kernel) ⟨Nat.le_of_ble_eq_true rfl, Nat.le_of_ble_eq_true rfl⟩) (rc1 hC) rfl hl.1 rfl (Nat.le_of_ble_eq_true rfl) dX1_pairs_24 ⟨Nat.le_of_ble_eq_true rfl, Nat.le_of_ble_eq_true rfl⟩ ?_
        refine lv_tn (w := b2_ (on_ mS a)) (congrArg b2_ (on_li hI (by omega))) ?_
        refine lv_if_ne (tgt := 33) hx hb dX1_pairs_27 (by decide) (fun c_27 => ?_) (fun c_27 => ?_)
        · skip
          have n_27 := b2_ne c_27
          refine lv_iconst (v := nI 0) hx hb dX1_pairs_33 (by decide) ?_
          refine lv_istore_n (lv' := [(3, .int (nI 0)), (2, .int (nI a)), (1, .int (nI t)), (0, .ref (ad 7))]) hx hb dX1_pairs_34 rfl hl (by decide) rfl (fun ls hl => ?_)
          have LP_35 : ∀ (n_ : Nat) (u : Nat) (b : Nat), a - b < n_ → (u = t + qs_ (fun b => eq_ mS a b) b) → (b ≤ a) → ∀ ls : Array Slot, lv_has ls 4 [(3, .int (nI b)), (2, .int (nI a)), (1, .int (nI u)), (0, .ref (ad 7))] → W p l e (headSpec wsX1_pairs (rm_ 3 0 0)).room s m ([.ref (ad 7)] : List Value).toArray below meth c s.heap [] 0 0 (MQ below (vp_Si (fun r => r = nI (pr_ mS))) ([.ref (ad 7)] : List Value).toArray s 0 0 (fun _ => False)) (F0 m 35 ls []) := by
            intro n_
            induction n_ with
            | zero => intro u b hm; exact absurd hm (Nat.not_lt_zero _)
            | succ n_ ih_35 =>
              intro u b hm hu hb_ ls hl
              have hwb := hI.2.2.2.1 b
              have hwb2 := ws_le hI.1 hwb
              refine lv_iload_n hx hb dX1_pairs_35 rfl (lv_at hl 0 rfl) ?_
              refine lv_iload_n hx hb dX1_pairs_36 rfl (lv_at hl 1 rfl) ?_
              refine lv_icmp_ge (tgt := 92) hx hb dX1_pairs_37 (by decide) (fun c_37 => ?_) (fun c_37 => ?_)
              · skip
                have n_37 : a ≤ b := (nI_leI (a := a) (b := b) (by omega) (by omega)).mp c_37
                refine lv_iinc (v := nI (a + 1)) (lv' := [(2, .int (nI (a + 1))), (3, .int (nI b)), (1, .int (nI u)), (0, .ref (ad 7))]) hx hb dX1_pairs_92 hl (k := 1) rfl (nI_1 _) (by decide) rfl (fun ls hl => ?_)
                refine lv_goto (tgt := 4) hx hb dX1_pairs_95 (by decide) ?_
                exact ih_4 u (a + 1) (by omega) (by first | rw [pF_f n_27, ht] | rw [pF_t n_27, hu, ht, show b = a by omega]) (by omega) ls (lv_sub hl [0, 2, 3] rfl)
              · skip
                have n_37 : ¬ a ≤ b := fun q__ => c_37 ((nI_leI (a := a) (b := b) (by omega) (by omega)).mpr q__)
                refine lv_iload_n hx hb dX1_pairs_40 rfl (lv_at hl 2 rfl) ?_
                refine lv_aload_n hx hb dX1_pairs_41 rfl (lv_at hl 3 rfl) ?_
                refine lv_iload_n hx hb dX1_pairs_42 rfl (lv_at hl 0 rfl) ?_
                refine lv_bipush (v := nI 10) hx hb dX1_pairs_43 (by decide) ?_
                refine lv_idiv hx hb dX1_pairs_45 (by decide) ?_
                refine lv_tn (pk_div (by omega) (by decide) (by decide)) ?_
                refine lv_iload_n hx hb dX1_pairs_46 rfl (lv_at hl 0 rfl) ?_
                refine lv_bipush (v := nI 10) hx hb dX1_pairs_47 (by decide) ?_
                refine lv_irem hx hb dX1_pairs_49 (by decide) ?_
                refine lv_tn (pk_rem (by omega) (by decide) (by decide)) ?_
                refine k_rV (As := [.int (nI (b / 10)), .int (nI (b % 10))]) (rest := [.int (nI u)]) (c_X1_isOne_2 l B0 g ct ad cS mS x (b / 10) (nI (b % 10)) (by omega)) hC ⟨hx, hb, hml, hown, hts⟩ (cwV 2 hts gX1_pairs_X1_isOne rfl rfl rfl (by decide +kernel) ⟨Nat.le_of_ble_eq_true rfl, Nat.le_of_ble_eq_true rfl⟩) (rc1 hC) rfl hl.1 rfl (Nat.le_of_ble_eq_true rfl) dX1_pairs_50 ⟨Nat.le_of_ble_eq_true rfl, Nat.le_of_ble_eq_true rfl⟩ ?_
                refine lv_tn (w := b2_ (on_ mS b)) (congrArg b2_ (on_li hI (by omega))) ?_
                refine lv_if_eq (tgt := 83) hx hb dX1_pairs_53 (by decide) (fun c_53 => ?_) (fun c_53 => ?_)
                · skip
                  have n_53 := b2_0.mp c_53
                  refine lv_iconst (v := nI 0) hx hb dX1_pairs_83 (by decide) ?_
                  refine lv_iadd hx hb dX1_pairs_84 ?_
                  refine lv_tn (nI_add _ _) ?_
                  refine lv_istore_n (lv' := [(1, .int (nI (u + 0))), (3, .int (nI b)), (2, .int (nI a)), (0, .ref (ad 7))]) hx hb dX1_pairs_85 rfl hl (by decide) rfl (fun ls hl => ?_)
                  refine lv_iinc (v := nI (b + 1)) (lv' := [(3, .int (nI (b + 1))), (1, .int (nI (u + 0))), (2, .int (nI a)), (0, .ref (ad 7))]) hx hb dX1_pairs_86 hl (k := 1) rfl (nI_1 _) (by decide) rfl (fun ls hl => ?_)
                  refine lv_goto (tgt := 35) hx hb dX1_pairs_89 (by decide) ?_
                  exact ih_35 (u + 0) (b + 1) (by omega) (by first | (rw [eq_2 n_53, Nat.add_zero]; exact hu) | (rw [eq_3 n_76, Nat.add_zero]; exact hu) | (rw [eq_1 n_53 n_76, hu]; rfl)) (by omega) ls (lv_sub hl [0, 2, 1, 3] rfl)
                · skip
                  have n_53 := b2_ne c_53
                  refine lv_aload_n hx hb dX1_pairs_56 rfl (lv_at hl 3 rfl) ?_
                  refine lv_aload_n hx hb dX1_pairs_57 rfl (lv_at hl 3 rfl) ?_
                  refine r_g1 hC hx hb hts hin hown 4 (by decide) (hts (.fieldLink RX1 13 "AbjadPoemsModel" "words" "[I") (by decide +kernel)) rfl dX1_pairs_58 ?_
                  refine lv_iload_n hx hb dX1_pairs_61 rfl (lv_at hl 1 rfl) ?_
                  refine r_mw hC hx hb dX1_pairs_62 (j := a) (by omega) ?_
                  refine k_rV (As := [.int (nI (sw mS a))]) (rest := [.int (nI u)]) (c_X1_sum l B0 g ct ad cS mS x (sw mS a) (by omega)) hC ⟨hx, hb, hml, hown, hts⟩ (cwV 1 hts gX1_pairs_X1_sum rfl rfl rfl (by decide +kernel) ⟨Nat.le_of_ble_eq_true rfl, Nat.le_of_ble_eq_true rfl⟩) (rc1 hC) rfl hl.1 rfl (Nat.le_of_ble_eq_true rfl) dX1_pairs_63 ⟨Nat.le_of_ble_eq_true rfl, Nat.le_of_ble_eq_true rfl⟩ ?_
                  refine lv_aload_n hx hb dX1_pairs_66 rfl (lv_at hl 3 rfl) ?_
                  refine lv_aload_n hx hb dX1_pairs_67 rfl (lv_at hl 3 rfl) ?_
                  refine r_g1 hC hx hb hts hin hown 4 (by decide) (hts (.fieldLink RX1 13 "AbjadPoemsModel" "words" "[I") (by decide +kernel)) rfl dX1_pairs_68 ?_
                  refine lv_iload_n hx hb dX1_pairs_71 rfl (lv_at hl 0 rfl) ?_
                  refine r_mw hC hx hb dX1_pairs_72 (j := b) (by omega) ?_
                  refine k_rV (As := [.int (nI (sw mS b))]) (rest := [.int (nI (ws0 (so mS) (sw mS a))), .int (nI u)]) (c_X1_sum l B0 g ct ad cS mS x (sw mS b) (by omega)) hC ⟨hx, hb, hml, hown, hts⟩ (cwV 1 hts gX1_pairs_X1_sum rfl rfl rfl (by decide +kernel) ⟨Nat.le_of_ble_eq_true rfl, Nat.le_of_ble_eq_true rfl⟩) (rc1 hC) rfl hl.1 rfl (Nat.le_of_ble_eq_true rfl) dX1_pairs_73 ⟨Nat.le_of_ble_eq_true rfl, Nat.le_of_ble_eq_true rfl⟩ ?_
                  refine lv_icmp_ne (tgt := 83) hx hb dX1_pairs_76 (by decide) (fun c_76 => ?_) (fun c_76 => ?_)
                  · skip
                    have n_76 : ¬ ws0 (so mS) (sw mS a) = ws0 (so mS) (sw mS b) := fun q__ => c_76 ((nI_eq (a := ws0 (so mS) (sw mS a)) (b := ws0 (so mS) (sw mS b)) (by omega) (by omega)).mpr q__)
                    refine lv_iconst (v := nI 0) hx hb dX1_pairs_83 (by decide) ?_
                    refine lv_iadd hx hb dX1_pairs_84 ?_
                    refine lv_tn (nI_add _ _) ?_
                    refine lv_istore_n (lv' := [(1, .int (nI (u + 0))), (3, .int (nI b)), (2, .int (nI a)), (0, .ref (ad 7))]) hx hb dX1_pairs_85 rfl hl (by decide) rfl (fun ls hl => ?_)
                    refine lv_iinc (v := nI (b + 1)) (lv' := [(3, .int (nI (b + 1))), (1, .int (nI (u + 0))), (2, .int (nI a)), (0, .ref (ad 7))]) hx hb dX1_pairs_86 hl (k := 1) rfl (nI_1 _) (by decide) rfl (fun ls hl => ?_)
                    refine lv_goto (tgt := 35) hx hb dX1_pairs_89 (by decide) ?_
                    exact ih_35 (u + 0) (b + 1) (by omega) (by first | (rw [eq_2 n_53, Nat.add_zero]; exact hu) | (rw [eq_3 n_76, Nat.add_zero]; exact hu) | (rw [eq_1 n_53 n_76, hu]; rfl)) (by omega) ls (lv_sub hl [0, 2, 1, 3] rfl)
                  · skip
                    have n_76 : ws0 (so mS) (sw mS a) = ws0 (so mS) (sw mS b) := (nI_eq (a := ws0 (so mS) (sw mS a)) (b := ws0 (so mS) (sw mS b)) (by omega) (by omega)).mp c_76
                    refine lv_iconst (v := nI 1) hx hb dX1_pairs_79 (by decide) ?_
                    refine lv_goto (tgt := 84) hx hb dX1_pairs_80 (by decide) ?_
                    refine lv_iadd hx hb dX1_pairs_84 ?_
                    refine lv_tn (nI_add _ _) ?_
                    refine lv_istore_n (lv' := [(1, .int (nI (u + 1))), (3, .int (nI b)), (2, .int (nI a)), (0, .ref (ad 7))]) hx hb dX1_pairs_85 rfl hl (by decide) rfl (fun ls hl => ?_)
                    refine lv_iinc (v := nI (b + 1)) (lv' := [(3, .int (nI (b + 1))), (1, .int (nI (u + 1))), (2, .int (nI a)), (0, .ref (ad 7))]) hx hb dX1_pairs_86 hl (k := 1) rfl (nI_1 _) (by decide) rfl (fun ls hl => ?_)
                    refine lv_goto (tgt := 35) hx hb dX1_pairs_89 (by decide) ?_
                    exact ih_35 (u + 1) (b + 1) (by omega) (by first | (rw [eq_2 n_53, Nat.add_zero]; exact hu) | (rw [eq_3 n_76, Nat.add_zero]; exact hu) | (rw [eq_1 n_53 n_76, hu]; rfl)) (by omega) ls (lv_sub hl [0, 2, 1, 3] rfl)
          exact LP_35 _ t 0 (Nat.lt_succ_self _) rfl (Nat.zero_le _) ls (lv_sub hl [0, 1, 2, 3] rfl)
        · skip
          have n_27 := b2_0.mp c_27
          refine lv_goto (tgt := 92) hx hb dX1_pairs_30 (by decide) ?_
          refine lv_iinc (v := nI (a + 1)) (lv' := [(2, .int (nI (a + 1))), (1, .int (nI t)), (0, .ref (ad 7))]) hx hb dX1_pairs_92 hl (k := 0) rfl (nI_1 _) (by decide) rfl (fun ls hl => ?_)
          refine lv_goto (tgt := 4) hx hb dX1_pairs_95 (by decide) ?_
          exact ih_4 t (a + 1) (by omega) (by first | rw [pF_f n_27, ht] | rw [pF_t n_27, hu, ht, show b = a by omega]) (by omega) ls (lv_sub hl [0, 1, 2] rfl)
  exact LP_4 _ 0 0 (Nat.lt_succ_self _) rfl (Nat.zero_le _) ls (lv_sub hl [0, 1, 2] rfl)
set_option maxHeartbeats 4000000 in
set_option maxRecDepth 100000 in
theorem c_X1_toldOf (l : Launch) (B0 : Nat) (g : va_G) (ct ad : Nat → Nat) (cS mS : St_) (x : Ax_) (q : Nat) (hq : q < 7) : RI l yX1_toldOf wsX1_toldOf 6 (PX B0 g ct ad cS mS x [.ref (ad 7), .int (nI q)]) (nI (to_ mS q)) := by
  refine Met.ofW (cc := cX1_toldOf) (maxL := 2) (ret := (some .int)) (by decide) rfl ?_
  intro p e s m args below meth c s₁ B hml hv
  obtain ⟨rfl, hC⟩ := hv
  have hx := B.exec
  have hb := B.bytes
  have hr := B.returns
  have hts := atoms_spec (ws := wsX1_toldOf) B.pre
  have hown : s.vm.findClass RX1 = some m.cls := findClass_of_methodNamed B.named
  have hlocks := B.notSynchronized
  have hin : ∀ w ∈ wsX10, w ∈ wsX1_toldOf := fun _ h => List.mem_cons_of_mem _ (List.mem_append_right _ h)
  have hl := lv_entry ([.ref (ad 7), .int (nI q)]) (n := 2) (Nat.le_of_ble_eq_true rfl)
  rw [lg_entry_eq]
  generalize (lg_sl ([.ref (ad 7), .int (nI q)]) ++ List.replicate (2 - (lg_sl ([.ref (ad 7), .int (nI q)])).length) Slot.unset).toArray = ls at hl ⊢
  have hl : lv_has ls 2 [(0, .ref (ad 7)), (1, .int (nI q))] := hl
  refine lv_iload_n hx hb dX1_toldOf_0 rfl (lv_at hl 1 rfl) ?_
  refine lv_if_ne (tgt := 11) hx hb dX1_toldOf_1 (by decide) (fun c_1 => ?_) (fun c_1 => ?_)
  · skip
    have n_1 : ¬ q = 0 := fun q__ => c_1 ((eq0_ (by omega)).mpr q__)
    refine lv_iload_n hx hb dX1_toldOf_11 rfl (lv_at hl 1 rfl) ?_
    refine lv_bipush (v := nI 6) hx hb dX1_toldOf_12 (by decide) ?_
    refine lv_icmp_ne (tgt := 24) hx hb dX1_toldOf_14 (by decide) (fun c_14 => ?_) (fun c_14 => ?_)
    · skip
      have n_14 : ¬ q = 6 := fun q__ => c_14 ((nI_eq (a := q) (b := 6) (by omega) (by omega)).mpr q__)
      have hE := (to_n (c := mS) n_1 n_14).symm
      refine lv_aload_n hx hb dX1_toldOf_24 rfl (lv_at hl 0 rfl) ?_
      refine lv_iload_n hx hb dX1_toldOf_25 rfl (lv_at hl 1 rfl) ?_
      refine lv_iconst (v := nI 1) hx hb dX1_toldOf_26 (by decide) ?_
      refine lv_isub hx hb dX1_toldOf_27 ?_
      refine lv_tn (pk_sub (by omega)) ?_
      refine k_rV (As := [.int (nI (q - 1))]) (rest := []) (c_X1_all l B0 g ct ad cS mS x (q - 1) (by omega)) hC ⟨hx, hb, hml, hown, hts⟩ (cwV 1 hts gX1_toldOf_X1_all rfl rfl rfl (by decide +kernel) ⟨Nat.le_of_ble_eq_true rfl, Nat.le_of_ble_eq_true rfl⟩) (rc1 hC) rfl hl.1 rfl (Nat.le_of_ble_eq_true rfl) dX1_toldOf_28 ⟨Nat.le_of_ble_eq_true rfl, Nat.le_of_ble_eq_true rfl⟩ ?_
      exact W.iret hx hb hr (fun t ht hW => ⟨_, rfl, (congrArg nI hE), ht⟩) (fun q hq => absurd hq List.not_mem_nil) dX1_toldOf_31
    · skip
      have n_14 : q = 6 := (nI_eq (a := q) (b := 6) (by omega) (by omega)).mp c_14
      have hE : pr_ mS = to_ mS q := by rw [n_14]; rfl
      refine lv_aload_n hx hb dX1_toldOf_17 rfl (lv_at hl 0 rfl) ?_
      refine k_rV (As := []) (rest := []) (c_X1_pairs l B0 g ct ad cS mS x) hC ⟨hx, hb, hml, hown, hts⟩ (cwV 0 hts gX1_toldOf_X1_pairs rfl rfl rfl (by decide +kernel) ⟨Nat.le_of_ble_eq_true rfl, Nat.le_of_ble_eq_true rfl⟩) (rc1 hC) rfl hl.1 rfl (Nat.le_of_ble_eq_true rfl) dX1_toldOf_18 ⟨Nat.le_of_ble_eq_true rfl, Nat.le_of_ble_eq_true rfl⟩ ?_
      refine lv_goto (tgt := 31) hx hb dX1_toldOf_21 (by decide) ?_
      exact W.iret hx hb hr (fun t ht hW => ⟨_, rfl, (congrArg nI hE), ht⟩) (fun q hq => absurd hq List.not_mem_nil) dX1_toldOf_31
  · skip
    have n_1 : q = 0 := (eq0_ (by omega)).mp c_1
    have hE : sn mS = to_ mS q := by rw [n_1]; rfl
    refine lv_aload_n hx hb dX1_toldOf_4 rfl (lv_at hl 0 rfl) ?_
    refine r_g1 hC hx hb hts hin hown 2 (by decide) (hts (.fieldLink RX1 24 "AbjadPoemsModel" "lines" "I") (by decide +kernel)) rfl dX1_toldOf_5 ?_
    refine lv_goto (tgt := 31) hx hb dX1_toldOf_8 (by decide) ?_
    exact W.iret hx hb hr (fun t ht hW => ⟨_, rfl, (congrArg nI hE), ht⟩) (fun q hq => absurd hq List.not_mem_nil) dX1_toldOf_31
set_option maxHeartbeats 4000000 in
set_option maxRecDepth 100000 in
theorem c_X1_runTo (l : Launch) (B0 : Nat) (g : va_G) (ct ad : Nat → Nat) (cS mS : St_) (x : Ax_) (i w0 : Nat) (yr : Int32) (hi : i < 12) (hw0 : w0 ≤ 10) : RI l yX1_runTo wsX1_runTo 3 (PX B0 g ct ad cS mS x [.ref (ad 7), .int (nI i), .int (nI w0), .int yr]) (ru_ mS i yr w0) := by
  refine Met.ofW (cc := cX1_runTo) (maxL := 6) (ret := (some .int)) (by decide) rfl ?_
  intro p e s m args below meth c s₁ B hml hv
  obtain ⟨rfl, hC⟩ := hv
  have hx := B.exec
  have hb := B.bytes
  have hr := B.returns
  have hts := atoms_spec (ws := wsX1_runTo) B.pre
  have hown : s.vm.findClass RX1 = some m.cls := findClass_of_methodNamed B.named
  have hlocks := B.notSynchronized
  have hin : ∀ w ∈ wsX10, w ∈ wsX1_runTo := fun _ h => List.mem_cons_of_mem _ (List.mem_append_right _ h)
  have hI := hC.1.2.2.2.2.1
  have hz := hI.2.2.1 i
  have hl := lv_entry ([.ref (ad 7), .int (nI i), .int (nI w0), .int yr]) (n := 6) (Nat.le_of_ble_eq_true rfl)
  rw [lg_entry_eq]
  generalize (lg_sl ([.ref (ad 7), .int (nI i), .int (nI w0), .int yr]) ++ List.replicate (6 - (lg_sl ([.ref (ad 7), .int (nI i), .int (nI w0), .int yr])).length) Slot.unset).toArray = ls at hl ⊢
  have hl : lv_has ls 6 [(0, .ref (ad 7)), (1, .int (nI i)), (2, .int (nI w0)), (3, .int yr)] := hl
  refine lv_iconst (v := nI 0) hx hb dX1_runTo_0 (by decide) ?_
  refine lv_istore (lv' := [(4, .int (nI 0)), (0, .ref (ad 7)), (1, .int (nI i)), (2, .int (nI w0)), (3, .int yr)]) hx hb dX1_runTo_1 hl (by decide) rfl (fun ls hl => ?_)
  refine lv_iload_n hx hb dX1_runTo_3 rfl (lv_at hl 3 rfl) ?_
  refine lv_istore (lv' := [(5, .int (nI w0)), (4, .int (nI 0)), (0, .ref (ad 7)), (1, .int (nI i)), (2, .int (nI w0)), (3, .int yr)]) hx hb dX1_runTo_4 hl (by decide) rfl (fun ls hl => ?_)
  have LP_6 : ∀ (n_ : Nat) (t : Nat) (w : Nat), ss mS i - w < n_ → (rn_ mS i yr (ss mS i - w) w t = ru_ mS i yr w0) → (w ≤ 10) → ∀ ls : Array Slot, lv_has ls 6 [(5, .int (nI w)), (4, .int (nI t)), (0, .ref (ad 7)), (1, .int (nI i)), (2, .int (nI w0)), (3, .int yr)] → W p l e (headSpec wsX1_runTo (rm_ 3 0 0)).room s m ([.ref (ad 7), .int (nI i), .int (nI w0), .int yr] : List Value).toArray below meth c s.heap [] 0 0 (MQ below (vp_Si (fun r => r = ru_ mS i yr w0)) ([.ref (ad 7), .int (nI i), .int (nI w0), .int yr] : List Value).toArray s 0 0 (fun _ => False)) (F0 m 6 ls []) := by
    intro n_
    induction n_ with
    | zero => intro t w hm; exact absurd hm (Nat.not_lt_zero _)
    | succ n_ ih_6 =>
      intro t w hm h1 hw_ ls hl
      have hw6 := hI.2.2.2.1 (10 * i + w)
      refine lv_iload hx hb dX1_runTo_6 (lv_at hl 0 rfl) ?_
      refine lv_aload_n hx hb dX1_runTo_8 rfl (lv_at hl 2 rfl) ?_
      refine r_g1 hC hx hb hts hin hown 3 (by decide) (hts (.fieldLink RX1 9 "AbjadPoemsModel" "longs" "[I") (by decide +kernel)) rfl dX1_runTo_9 ?_
      refine lv_iload_n hx hb dX1_runTo_12 rfl (lv_at hl 3 rfl) ?_
      refine r_lg hC hx hb dX1_runTo_13 (j := i) (by omega) ?_
      refine lv_icmp_ge (tgt := 48) hx hb dX1_runTo_14 (by decide) (fun c_14 => ?_) (fun c_14 => ?_)
      · skip
        have n_14 : ss mS i ≤ w := (nI_leI (a := ss mS i) (b := w) (by omega) (by omega)).mp c_14
        have hE : ru_ mS i yr w0 = -1 := by rw [← h1, rn_e (by omega)]
        refine lv_iconst (v := -1) hx hb dX1_runTo_48 (by decide) ?_
        exact W.iret hx hb hr (fun t ht hW => ⟨_, rfl, (by show (-1) = ru_ mS i yr w0; rw [hE]), ht⟩) (fun q hq => absurd hq List.not_mem_nil) dX1_runTo_49
      · skip
        have n_14 : ¬ ss mS i ≤ w := fun q__ => c_14 ((nI_leI (a := ss mS i) (b := w) (by omega) (by omega)).mpr q__)
        refine lv_iload hx hb dX1_runTo_17 (lv_at hl 1 rfl) ?_
        refine lv_aload_n hx hb dX1_runTo_19 rfl (lv_at hl 2 rfl) ?_
        refine lv_aload_n hx hb dX1_runTo_20 rfl (lv_at hl 2 rfl) ?_
        refine lv_iload_n hx hb dX1_runTo_21 rfl (lv_at hl 3 rfl) ?_
        refine lv_iload hx hb dX1_runTo_22 (lv_at hl 0 rfl) ?_
        refine k_rV (As := [.int (nI i), .int (nI w)]) (rest := [.ref (ad 7), .int (nI t)]) (c_X1_wo l B0 g ct ad cS mS x i w (by omega) (by omega)) hC ⟨hx, hb, hml, hown, hts⟩ (cwV 2 hts gX1_runTo_X1_wo rfl rfl rfl (by decide +kernel) ⟨Nat.le_of_ble_eq_true rfl, Nat.le_of_ble_eq_true rfl⟩) (rc1 hC) rfl hl.1 rfl (Nat.le_of_ble_eq_true rfl) dX1_runTo_24 ⟨Nat.le_of_ble_eq_true rfl, Nat.le_of_ble_eq_true rfl⟩ ?_
        refine k_rV (As := [.int (nI (sw mS (10 * i + w)))]) (rest := [.int (nI t)]) (c_X1_sum l B0 g ct ad cS mS x (sw mS (10 * i + w)) (by omega)) hC ⟨hx, hb, hml, hown, hts⟩ (cwV 1 hts gX1_runTo_X1_sum rfl rfl rfl (by decide +kernel) ⟨Nat.le_of_ble_eq_true rfl, Nat.le_of_ble_eq_true rfl⟩) (rc1 hC) rfl hl.1 rfl (Nat.le_of_ble_eq_true rfl) dX1_runTo_27 ⟨Nat.le_of_ble_eq_true rfl, Nat.le_of_ble_eq_true rfl⟩ ?_
        refine lv_iadd hx hb dX1_runTo_30 ?_
        refine lv_tn (nI_add _ _) ?_
        refine lv_istore (lv' := [(4, .int (nI (t + (ws0 (so mS) (sw mS (10 * i + w)))))), (5, .int (nI w)), (0, .ref (ad 7)), (1, .int (nI i)), (2, .int (nI w0)), (3, .int yr)]) hx hb dX1_runTo_31 hl (by decide) rfl (fun ls hl => ?_)
        refine lv_iload hx hb dX1_runTo_33 (lv_at hl 0 rfl) ?_
        refine lv_iload_n hx hb dX1_runTo_35 rfl (lv_at hl 5 rfl) ?_
        refine lv_icmp_ne (tgt := 42) hx hb dX1_runTo_36 (by decide) (fun c_36 => ?_) (fun c_36 => ?_)
        · skip
          refine lv_iinc (v := nI (w + 1)) (lv' := [(5, .int (nI (w + 1))), (4, .int (nI (t + (ws0 (so mS) (sw mS (10 * i + w)))))), (0, .ref (ad 7)), (1, .int (nI i)), (2, .int (nI w0)), (3, .int yr)]) hx hb dX1_runTo_42 hl (k := 1) rfl (nI_1 _) (by decide) rfl (fun ls hl => ?_)
          refine lv_goto (tgt := 6) hx hb dX1_runTo_45 (by decide) ?_
          exact ih_6 (t + (ws0 (so mS) (sw mS (10 * i + w)))) (w + 1) (by omega) (by rw [← h1, rn_s (show w < ss mS i by omega), if_neg c_36]) (by omega) ls (lv_sub hl [0, 1, 2, 3, 4, 5] rfl)
        · skip
          have hE : ru_ mS i yr w0 = nI w := by rw [← h1, rn_s (show w < ss mS i by omega), if_pos c_36]
          refine lv_iload hx hb dX1_runTo_39 (lv_at hl 1 rfl) ?_
          exact W.iret hx hb hr (fun t ht hW => ⟨_, rfl, (by show nI w = ru_ mS i yr w0; rw [hE]), ht⟩) (fun q hq => absurd hq List.not_mem_nil) dX1_runTo_41
  exact LP_6 _ 0 w0 (Nat.lt_succ_self _) rfl hw0 ls (lv_sub hl [0, 1, 2, 3, 4, 5] rfl)
