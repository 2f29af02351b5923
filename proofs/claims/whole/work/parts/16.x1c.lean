set_option maxHeartbeats 4000000 in
set_option maxRecDepth 100000 in
theorem c_X1_fewest (l : Launch) (B0 : Nat) (g : va_G) (ct ad : Nat → Nat) (cS mS : St_) (x : Ax_) (y : Nat) (hy : y ≤ 3000) : FW l yX1_fewest wsX1_fewest B0 g ct ad cS mS x [.ref (ad 7), .int (nI y)] y := by
  refine Met.ofW (cc := cX1_fewest) (maxL := 5) (ret := (some (.array .int))) (by decide) rfl ?_
  intro p e s m args below meth c s₁ B hml hv
  obtain ⟨rfl, hC⟩ := hv
  have hx := B.exec
  have hb := B.bytes
  have hr := B.returns
  have hts := atoms_spec (ws := wsX1_fewest) B.pre
  have hown : s.vm.findClass RX1 = some m.cls := findClass_of_methodNamed B.named
  have hlocks := B.notSynchronized
  have hin : ∀ w ∈ wsX10, w ∈ wsX1_fewest := fun _ h => List.mem_cons_of_mem _ (List.mem_append_right _ h)
  have hS : va_S (AA B0) s.heap s.heap [] := va_S.rf
  have hB : B0 ≤ s.heap.size := hC.1.2.2.1
  have hI := hC.1.2.2.2.2.1
  have ho := hI.1
  have hl := lv_entry ([.ref (ad 7), .int (nI y)]) (n := 5) (Nat.le_of_ble_eq_true rfl)
  rw [lg_entry_eq]
  generalize (lg_sl ([.ref (ad 7), .int (nI y)]) ++ List.replicate (5 - (lg_sl ([.ref (ad 7), .int (nI y)])).length) Slot.unset).toArray = ls at hl ⊢
  have hl : lv_has ls 5 [(0, .ref (ad 7)), (1, .int (nI y))] := hl
  refine lv_iload_n hx hb dX1_fewest_0 rfl (lv_at hl 1 rfl) ?_
  refine lv_iconst (v := nI 1) hx hb dX1_fewest_1 (by decide) ?_
  refine lv_iadd hx hb dX1_fewest_2 ?_
  refine lv_tn (nI_add _ _) ?_
  refine n_new hC hB hS hx hb (hts (.arrayClass .int) (by decide +kernel)) (j := y + 1) (by omega) (by show 0 + 1 ≤ 1; omega) (by show 0 + (y + 1) ≤ 3001; omega) dX1_fewest_3 (fun q_ cA_ H hY hS => ?_)
  have hC := hY.cx
  refine lv_astore_n (lv' := [(2, .ref q_), (0, .ref (ad 7)), (1, .int (nI y))]) hx hb dX1_fewest_5 rfl hl (by decide) rfl (fun ls hl => ?_)
  refine lv_iconst (v := nI 1) hx hb dX1_fewest_6 (by decide) ?_
  refine lv_istore_n (lv' := [(3, .int (nI 1)), (2, .ref q_), (0, .ref (ad 7)), (1, .int (nI y))]) hx hb dX1_fewest_7 rfl hl (by decide) rfl (fun ls hl => ?_)
  have LP_8 : ∀ (n_ : Nat) (yy : Nat) (f1 : Nat → Int32), 3001 - yy < n_ → (∀ j, j < yy → f1 j = nI (fe_ (so mS) j)) → (1 ≤ yy ∧ yy ≤ y + 1) → ∀ (H : Heap) (locs : List Loc), CY B0 g ct ad cS mS x q_ cA_ (y + 1) f1 s H → va_S (AA B0) s.heap H locs → ∀ ls : Array Slot, lv_has ls 5 [(3, .int (nI yy)), (2, .ref q_), (0, .ref (ad 7)), (1, .int (nI y))] → W p l e (headSpec wsX1_fewest (rm_ 1 1 3001)).room s m ([.ref (ad 7), .int (nI y)] : List Value).toArray below meth c H locs (0 + 1) (0 + (y + 1)) (MQ below (va_Qr (fun (u : Nat × (Nat → Int32)) => ∀ j, j ≤ y → u.2 j = nI (fe_ (so mS) j)) (fun u ra t => (va_P g vwCl (wy_ ct ad cS mS x ra u.1 (y + 1) u.2) t.heap ∧ va_D (AA B0) (wy_ ct ad cS mS x ra u.1 (y + 1) u.2) ∧ B0 ≤ t.heap.size) ∧ va_K g vwCl (ty_ ct ++ [(u.1, .int)]) t) (AA B0)) ([.ref (ad 7), .int (nI y)] : List Value).toArray s 1 3001 (AA B0)) (F0 m 8 ls []) := by
    intro n_
    induction n_ with
    | zero => intro yy f1 hm; exact absurd hm (Nat.not_lt_zero _)
    | succ n_ ih_8 =>
      intro yy f1 hm hf1 hyy H locs hY hS ls hl
      have hC := hY.cx
      refine lv_iload_n hx hb dX1_fewest_8 rfl (lv_at hl 0 rfl) ?_
      refine lv_iload_n hx hb dX1_fewest_9 rfl (lv_at hl 3 rfl) ?_
      refine lv_icmp_gt (tgt := 72) hx hb dX1_fewest_10 (by decide) (fun c_10 => ?_) (fun c_10 => ?_)
      · skip
        have n_10 : y < yy := (nI_ltI (a := y) (b := yy) (by omega) (by omega)).mp c_10
        have hE : ∀ j, j ≤ y → f1 j = nI (fe_ (so mS) j) := fun j hj => hf1 j (by omega)
        refine lv_aload_n hx hb dX1_fewest_72 rfl (lv_at hl 1 rfl) ?_
        refine W.widen (k := 1) (n := 3001) (by omega) (by omega) ?_
        exact W.aret hx hb hr (Or.inr ⟨_, rfl⟩) (Or.inr ⟨_, rfl⟩) (fun t ht hW => ⟨⟨(cA_, f1), q_, rfl, hE, ⟨by show va_P g vwCl _ t.heap; rw [ht]; exact hY.1, hY.2.1, by rw [ht]; exact hY.2.2.2.1.1⟩, va_K.moved hW.alike hY.2.2.1⟩, hS.F ht⟩) hS.2.2 dX1_fewest_73
      · skip
        have n_10 : ¬ y < yy := fun q__ => c_10 ((nI_ltI (a := y) (b := yy) (by omega) (by omega)).mpr q__)
        refine lv_aload_n hx hb dX1_fewest_13 rfl (lv_at hl 1 rfl) ?_
        refine lv_iload_n hx hb dX1_fewest_14 rfl (lv_at hl 0 rfl) ?_
        refine lv_sipush (v := nI 9999) hx hb dX1_fewest_15 (by decide) ?_
        refine w_na hY hB hS hx hb dX1_fewest_18 (j := yy) (v := nI 9999) (by omega) (by omega) (fun H locs hY hS => ?_)
        have hC := hY.cx
        obtain ⟨f2, hf2⟩ : ∃ z, z = upd f1 yy (nI 9999) := ⟨_, rfl⟩
        rw [← hf2] at hY
        refine lv_iconst (v := nI 1) hx hb dX1_fewest_19 (by decide) ?_
        refine lv_istore (lv' := [(4, .int (nI 1)), (3, .int (nI yy)), (2, .ref q_), (0, .ref (ad 7)), (1, .int (nI y))]) hx hb dX1_fewest_20 hl (by decide) rfl (fun ls hl => ?_)
        have LP_22 : ∀ (n_ : Nat) (k : Nat) (f3 : Nat → Int32), 27 - k < n_ → (∀ j, j < yy → f3 j = nI (fe_ (so mS) j)) → (f3 yy = nI (bs_ (so mS) (fe_ (so mS)) yy (k - 1))) → (1 ≤ k ∧ k ≤ 27) → ∀ (H : Heap) (locs : List Loc), CY B0 g ct ad cS mS x q_ cA_ (y + 1) f3 s H → va_S (AA B0) s.heap H locs → ∀ ls : Array Slot, lv_has ls 5 [(4, .int (nI k)), (3, .int (nI yy)), (2, .ref q_), (0, .ref (ad 7)), (1, .int (nI y))] → W p l e (headSpec wsX1_fewest (rm_ 1 1 3001)).room s m ([.ref (ad 7), .int (nI y)] : List Value).toArray below meth c H locs (0 + 1) (0 + (y + 1)) (MQ below (va_Qr (fun (u : Nat × (Nat → Int32)) => ∀ j, j ≤ y → u.2 j = nI (fe_ (so mS) j)) (fun u ra t => (va_P g vwCl (wy_ ct ad cS mS x ra u.1 (y + 1) u.2) t.heap ∧ va_D (AA B0) (wy_ ct ad cS mS x ra u.1 (y + 1) u.2) ∧ B0 ≤ t.heap.size) ∧ va_K g vwCl (ty_ ct ++ [(u.1, .int)]) t) (AA B0)) ([.ref (ad 7), .int (nI y)] : List Value).toArray s 1 3001 (AA B0)) (F0 m 22 ls []) := by
          intro n_
          induction n_ with
          | zero => intro k f3 hm; exact absurd hm (Nat.not_lt_zero _)
          | succ n_ ih_22 =>
            intro k f3 hm hf3 hf3b hk H locs hY hS ls hl
            have hC := hY.cx
            refine lv_iload hx hb dX1_fewest_22 (lv_at hl 0 rfl) ?_
            refine lv_bipush (v := nI 26) hx hb dX1_fewest_24 (by decide) ?_
            refine lv_icmp_gt (tgt := 66) hx hb dX1_fewest_26 (by decide) (fun c_26 => ?_) (fun c_26 => ?_)
            · skip
              have n_26 : 26 < k := (nI_ltI (a := 26) (b := k) (by omega) (by omega)).mp c_26
              have hE2 : f3 yy = nI (bs_ (so mS) (fe_ (so mS)) yy 26) := by rw [hf3b, show k - 1 = 26 by omega]
              refine lv_iinc (v := nI (yy + 1)) (lv' := [(3, .int (nI (yy + 1))), (4, .int (nI k)), (2, .ref q_), (0, .ref (ad 7)), (1, .int (nI y))]) hx hb dX1_fewest_66 hl (k := 1) rfl (nI_1 _) (by decide) rfl (fun ls hl => ?_)
              refine lv_goto (tgt := 8) hx hb dX1_fewest_69 (by decide) ?_
              exact ih_8 (yy + 1) f3 (by omega) (fun j hj => fe_d ho (by omega) hf3 hE2 j hj) (by omega) H locs hY hS ls (lv_sub hl [0, 2, 3, 4] rfl)
            · skip
              have n_26 : ¬ 26 < k := fun q__ => c_26 ((nI_ltI (a := 26) (b := k) (by omega) (by omega)).mpr q__)
              have hv := vl_pos _ ho k (by omega) (by omega)
              have hv2 := vl_le _ ho k (by omega)
              refine lv_aload_n hx hb dX1_fewest_29 rfl (lv_at hl 3 rfl) ?_
              refine lv_iload hx hb dX1_fewest_30 (lv_at hl 0 rfl) ?_
              refine k_rV (As := [.int (nI k)]) (rest := []) (c_X1_valueOf l B0 g ct ad cS mS x k (by omega)) hC ⟨hx, hb, hml, hown, hts⟩ (cwV 1 hts gX1_fewest_X1_valueOf rfl rfl rfl (by decide +kernel) ⟨Nat.le_of_ble_eq_true rfl, Nat.le_of_ble_eq_true rfl⟩) (rc1 hC) rfl hl.1 rfl (Nat.le_of_ble_eq_true rfl) dX1_fewest_32 ⟨Nat.le_of_ble_eq_true rfl, (by show 0 + (y + 1) ≤ 3001; omega)⟩ ?_
              refine lv_iload_n hx hb dX1_fewest_35 rfl (lv_at hl 1 rfl) ?_
              refine lv_icmp_gt (tgt := 60) hx hb dX1_fewest_36 (by decide) (fun c_36 => ?_) (fun c_36 => ?_)
              · skip
                have n_36 : yy < vl_ (so mS) k := (nI_ltI (a := yy) (b := vl_ (so mS) k) (by omega) (by omega)).mp c_36
                have hN : bs_ (so mS) (fe_ (so mS)) yy (k - 1) = bs_ (so mS) (fe_ (so mS)) yy k := (bs_0 (by omega) (by omega)).symm
                refine lv_iinc (v := nI (k + 1)) (lv' := [(4, .int (nI (k + 1))), (3, .int (nI yy)), (2, .ref q_), (0, .ref (ad 7)), (1, .int (nI y))]) hx hb dX1_fewest_60 hl (k := 0) rfl (nI_1 _) (by decide) rfl (fun ls hl => ?_)
                refine lv_goto (tgt := 22) hx hb dX1_fewest_63 (by decide) ?_
                exact ih_22 (k + 1) f3 (by omega) (by first | exact hf3 | (rw [hf4]; exact ud_n hf3)) (by first | (rw [Nat.add_sub_cancel, ← hN]; exact hf3b) | (rw [Nat.add_sub_cancel, hf4]; exact ud_y)) (by omega) H locs hY hS ls (lv_sub hl [0, 1, 2, 3, 4] rfl)
              · skip
                have n_36 : ¬ yy < vl_ (so mS) k := fun q__ => c_36 ((nI_ltI (a := yy) (b := vl_ (so mS) k) (by omega) (by omega)).mpr q__)
                refine lv_aload_n hx hb dX1_fewest_39 rfl (lv_at hl 2 rfl) ?_
                refine lv_iload_n hx hb dX1_fewest_40 rfl (lv_at hl 1 rfl) ?_
                refine lv_aload_n hx hb dX1_fewest_41 rfl (lv_at hl 2 rfl) ?_
                refine lv_iload_n hx hb dX1_fewest_42 rfl (lv_at hl 1 rfl) ?_
                refine r_na hY hx hb dX1_fewest_43 (j := yy) (by omega) (by omega) ?_
                refine lv_tn (w := nI (bs_ (so mS) (fe_ (so mS)) yy (k - 1))) hf3b ?_
                refine lv_aload_n hx hb dX1_fewest_44 rfl (lv_at hl 2 rfl) ?_
                refine lv_iload_n hx hb dX1_fewest_45 rfl (lv_at hl 1 rfl) ?_
                refine lv_aload_n hx hb dX1_fewest_46 rfl (lv_at hl 3 rfl) ?_
                refine lv_iload hx hb dX1_fewest_47 (lv_at hl 0 rfl) ?_
                refine k_rV (As := [.int (nI k)]) (rest := [.int (nI yy), .ref q_, .int (nI (bs_ (so mS) (fe_ (so mS)) yy (k - 1))), .int (nI yy), .ref q_]) (c_X1_valueOf l B0 g ct ad cS mS x k (by omega)) hC ⟨hx, hb, hml, hown, hts⟩ (cwV 1 hts gX1_fewest_X1_valueOf rfl rfl rfl (by decide +kernel) ⟨Nat.le_of_ble_eq_true rfl, Nat.le_of_ble_eq_true rfl⟩) (rc1 hC) rfl hl.1 rfl (Nat.le_of_ble_eq_true rfl) dX1_fewest_49 ⟨Nat.le_of_ble_eq_true rfl, (by show 0 + (y + 1) ≤ 3001; omega)⟩ ?_
                refine lv_isub hx hb dX1_fewest_52 ?_
                refine lv_tn (pk_sub (by omega)) ?_
                refine r_na hY hx hb dX1_fewest_53 (j := yy - (vl_ (so mS) k)) (by omega) (by omega) ?_
                refine lv_tn (w := nI (fe_ (so mS) (yy - vl_ (so mS) k))) (hf3 _ (by omega)) ?_
                refine lv_iconst (v := nI 1) hx hb dX1_fewest_54 (by decide) ?_
                refine lv_iadd hx hb dX1_fewest_55 ?_
                refine lv_tn (nI_add _ _) ?_
                refine va_mmin hx hb (hml.trans hl.1.symm) hown (hts (.methodLink RX1 97 Lib.Math.min.name) (by decide +kernel)) (hts (.static Lib.Math.min.name) (by decide +kernel)) (hts (.initialized "java/lang/Math") (by decide +kernel)) (hts (.code Lib.Math.min.name Lib.Math.min.code 2 (some .int)) (by decide +kernel)) (Nat.le_of_ble_eq_true rfl) (Nat.le_of_ble_eq_true rfl) ((by show 0 + 1 ≤ 1; omega)) ((by show 0 + (y + 1) ≤ 3001; omega)) dX1_fewest_56 ?_
                refine lv_tn (w := nI (bs_ (so mS) (fe_ (so mS)) yy k)) (mn_ ho (by omega) (by omega)) ?_
                refine w_na hY hB hS hx hb dX1_fewest_59 (j := yy) (v := nI (bs_ (so mS) (fe_ (so mS)) yy k)) (by omega) (by omega) (fun H locs hY hS => ?_)
                have hC := hY.cx
                obtain ⟨f4, hf4⟩ : ∃ z, z = upd f3 yy (nI (bs_ (so mS) (fe_ (so mS)) yy k)) := ⟨_, rfl⟩
                rw [← hf4] at hY
                refine lv_iinc (v := nI (k + 1)) (lv' := [(4, .int (nI (k + 1))), (3, .int (nI yy)), (2, .ref q_), (0, .ref (ad 7)), (1, .int (nI y))]) hx hb dX1_fewest_60 hl (k := 0) rfl (nI_1 _) (by decide) rfl (fun ls hl => ?_)
                refine lv_goto (tgt := 22) hx hb dX1_fewest_63 (by decide) ?_
                exact ih_22 (k + 1) f4 (by omega) (by first | exact hf3 | (rw [hf4]; exact ud_n hf3)) (by first | (rw [Nat.add_sub_cancel, ← hN]; exact hf3b) | (rw [Nat.add_sub_cancel, hf4]; exact ud_y)) (by omega) H locs hY hS ls (lv_sub hl [0, 1, 2, 3, 4] rfl)
        exact LP_22 _ 1 f2 (Nat.lt_succ_self _) (by rw [hf2]; exact ud_n hf1) (by rw [hf2]; exact ud_y) (by omega) H locs hY hS ls (lv_sub hl [0, 1, 2, 3, 4] rfl)
  exact LP_8 _ 1 ((fun _ => 0)) (Nat.lt_succ_self _) (fun j hj => by rw [show j = 0 by omega]; rfl) (by omega) H [] hY hS ls (lv_sub hl [0, 1, 2, 3] rfl)
set_option maxHeartbeats 4000000 in
set_option maxRecDepth 100000 in
theorem c_X1_letters (l : Launch) (B0 : Nat) (g : va_G) (ct ad : Nat → Nat) (cS mS : St_) (x : Ax_) (y : Nat) (h1 : 1 ≤ y) (h2 : y ≤ 3000) : WI l yX1_letters wsX1_letters 5 1 3001 B0 g ct ad cS mS x [.ref (ad 7), .int (nI y)] (en_ (fe_ (so mS) y)) cS mS ((fun u => u = ax_h x (nI 0))) := by
  refine Met.ofW (cc := cX1_letters) (maxL := 3) (ret := (some .int)) (by decide) rfl ?_
  intro p e s m args below meth c s₁ B hml hv
  obtain ⟨rfl, hC⟩ := hv
  have hx := B.exec
  have hb := B.bytes
  have hr := B.returns
  have hts := atoms_spec (ws := wsX1_letters) B.pre
  have hown : s.vm.findClass RX1 = some m.cls := findClass_of_methodNamed B.named
  have hlocks := B.notSynchronized
  have hin : ∀ w ∈ wsX10, w ∈ wsX1_letters := fun _ h => List.mem_cons_of_mem _ (List.mem_append_right _ h)
  have hS : va_S (AA B0) s.heap s.heap [] := va_S.rf
  have hB : B0 ≤ s.heap.size := hC.1.2.2.1
  have hI := hC.1.2.2.2.2.1
  have ho := hI.1
  have h9 := fe_le (so mS) y ho
  have hy2 : ii_ (nI y) (nI 1) (nI 3000) = true := ii_n (by omega) (by omega) (by omega)
  have hl := lv_entry ([.ref (ad 7), .int (nI y)]) (n := 3) (Nat.le_of_ble_eq_true rfl)
  rw [lg_entry_eq]
  generalize (lg_sl ([.ref (ad 7), .int (nI y)]) ++ List.replicate (3 - (lg_sl ([.ref (ad 7), .int (nI y)])).length) Slot.unset).toArray = ls at hl ⊢
  have hl : lv_has ls 3 [(0, .ref (ad 7)), (1, .int (nI y))] := hl
  refine lv_aload_n hx hb dX1_letters_0 rfl (lv_at hl 0 rfl) ?_
  refine lv_iconst (v := nI 0) hx hb dX1_letters_1 (by decide) ?_
  refine w_f1 (m' := mS) (x' := ax_h x (nI 0)) hC hB hS hx hb hts hin hown 0 (by decide) (hts (.fieldLink RX1 20 "AbjadPoemsModel" "thrown" "I") (by decide +kernel)) rfl rfl rfl hC.1.2.2.2.2.1 dX1_letters_2 (fun H locs hC hS => ?_)
  refine lv_iload_n hx hb dX1_letters_5 rfl (lv_at hl 1 rfl) ?_
  refine lv_iconst (v := nI 1) hx hb dX1_letters_6 (by decide) ?_
  refine lv_sipush (v := nI 3000) hx hb dX1_letters_7 (by decide) ?_
  refine k_pS (As := [.int (nI y), .int (nI 1), .int (nI 3000)]) (rest := []) (c_X1_isIn l (nI y) (nI 1) (nI 3000)) ⟨hx, hb, hml, hown, hts⟩ (va_cwS 3 hts gX1_letters_X1_isIn rfl rfl rfl (by decide +kernel) ⟨Nat.le_of_ble_eq_true rfl, Nat.le_of_ble_eq_true rfl⟩) rfl hl.1 rfl (Nat.le_of_ble_eq_true rfl) dX1_letters_10 ⟨Nat.le_of_ble_eq_true rfl, Nat.le_of_ble_eq_true rfl⟩ ?_
  refine lv_if_ne (tgt := 22) hx hb dX1_letters_13 (by decide) (fun c_13 => ?_) (fun c_13 => ?_)
  · skip
    refine lv_aload_n hx hb dX1_letters_22 rfl (lv_at hl 0 rfl) ?_
    refine lv_iload_n hx hb dX1_letters_23 rfl (lv_at hl 1 rfl) ?_
    refine k_few (As := [.int (nI y)]) (rest := []) (c_X1_fewest l B0 g ct ad cS mS (ax_h x (nI 0)) y (by omega)) hC hB hS ⟨hx, hb, hml, hown, hts⟩ (cwV 1 hts gX1_letters_X1_fewest rfl rfl rfl (by decide +kernel) ⟨Nat.le_of_ble_eq_true rfl, Nat.le_of_ble_eq_true rfl⟩) (rc1 hC) rfl hl.1 rfl (Nat.le_of_ble_eq_true rfl) dX1_letters_24 ⟨Nat.le_of_ble_eq_true rfl, Nat.le_of_ble_eq_true rfl⟩ (fun q_ cA_ fv_ H locs hfv_ hY hS => ?_)
    have hC := hY.cx
    refine lv_iload_n hx hb dX1_letters_27 rfl (lv_at hl 1 rfl) ?_
    refine r_na hY hx hb dX1_letters_28 (j := y) (by omega) (by omega) ?_
    refine lv_tn (w := nI (fe_ (so mS) y)) (hfv_ y (Nat.le_refl _)) ?_
    refine lv_istore_n (lv' := [(2, .int (nI (fe_ (so mS) y))), (0, .ref (ad 7)), (1, .int (nI y))]) hx hb dX1_letters_29 rfl hl (by decide) rfl (fun ls hl => ?_)
    refine lv_iload_n hx hb dX1_letters_30 rfl (lv_at hl 0 rfl) ?_
    refine lv_sipush (v := nI 9999) hx hb dX1_letters_31 (by decide) ?_
    refine lv_icmp_lt (tgt := 41) hx hb dX1_letters_34 (by decide) (fun c_34 => ?_) (fun c_34 => ?_)
    · skip
      have n_34 : fe_ (so mS) y < 9999 := (nI_ltI (a := fe_ (so mS) y) (b := 9999) (by omega) (by omega)).mp c_34
      have hE : nI (fe_ (so mS) y) = en_ (fe_ (so mS) y) := (en_t n_34).symm
      refine lv_iload_n hx hb dX1_letters_41 rfl (lv_at hl 0 rfl) ?_
      refine W.widen (k := 1) (n := 3001) (Nat.le_of_ble_eq_true rfl) (Nat.le_of_ble_eq_true rfl) ?_
      exact W.iret hx hb hr (fun t ht hW => ⟨⟨_, ax_h x (nI 0), rfl, ⟨hE, rfl⟩, (by show CW B0 g ct ad cS mS (ax_h x (nI 0)) t.heap; rw [ht]; exact hC.1)⟩, hS.F ht⟩) hS.2.2 dX1_letters_42
    · skip
      have n_34 : ¬ fe_ (so mS) y < 9999 := fun q__ => c_34 ((nI_ltI (a := fe_ (so mS) y) (b := 9999) (by omega) (by omega)).mpr q__)
      have hE : -1 = en_ (fe_ (so mS) y) := (en_f n_34).symm
      refine lv_iconst (v := -1) hx hb dX1_letters_37 (by decide) ?_
      refine lv_goto (tgt := 42) hx hb dX1_letters_38 (by decide) ?_
      refine W.widen (k := 1) (n := 3001) (Nat.le_of_ble_eq_true rfl) (Nat.le_of_ble_eq_true rfl) ?_
      exact W.iret hx hb hr (fun t ht hW => ⟨⟨_, ax_h x (nI 0), rfl, ⟨hE, rfl⟩, (by show CW B0 g ct ad cS mS (ax_h x (nI 0)) t.heap; rw [ht]; exact hC.1)⟩, hS.F ht⟩) hS.2.2 dX1_letters_42
  · skip
    rw [hy2] at c_13; exact absurd c_13 (by decide)
set_option maxHeartbeats 4000000 in
set_option maxRecDepth 100000 in
theorem t_X1_letters (l : Launch) (B0 : Nat) (g : va_G) (ct ad : Nat → Nat) (cS mS : St_) (x : Ax_) (y : Int32) (hf : ii_ y (nI 1) (nI 3000) = false) : WI l yX1_letters wsX1_letters 5 1 3001 B0 g ct ad cS mS x [.ref (ad 7), .int y] (nI 0) cS mS ((fun u => u = ax_h x (nI 1))) := by
  refine Met.ofW (cc := cX1_letters) (maxL := 3) (ret := (some .int)) (by decide) rfl ?_
  intro p e s m args below meth c s₁ B hml hv
  obtain ⟨rfl, hC⟩ := hv
  have hx := B.exec
  have hb := B.bytes
  have hr := B.returns
  have hts := atoms_spec (ws := wsX1_letters) B.pre
  have hown : s.vm.findClass RX1 = some m.cls := findClass_of_methodNamed B.named
  have hlocks := B.notSynchronized
  have hin : ∀ w ∈ wsX10, w ∈ wsX1_letters := fun _ h => List.mem_cons_of_mem _ (List.mem_append_right _ h)
  have hS : va_S (AA B0) s.heap s.heap [] := va_S.rf
  have hB : B0 ≤ s.heap.size := hC.1.2.2.1
  have hl := lv_entry ([.ref (ad 7), .int y]) (n := 3) (Nat.le_of_ble_eq_true rfl)
  rw [lg_entry_eq]
  generalize (lg_sl ([.ref (ad 7), .int y]) ++ List.replicate (3 - (lg_sl ([.ref (ad 7), .int y])).length) Slot.unset).toArray = ls at hl ⊢
  have hl : lv_has ls 3 [(0, .ref (ad 7)), (1, .int y)] := hl
  refine lv_aload_n hx hb dX1_letters_0 rfl (lv_at hl 0 rfl) ?_
  refine lv_iconst (v := nI 0) hx hb dX1_letters_1 (by decide) ?_
  refine w_f1 (m' := mS) (x' := ax_h x (nI 0)) hC hB hS hx hb hts hin hown 0 (by decide) (hts (.fieldLink RX1 20 "AbjadPoemsModel" "thrown" "I") (by decide +kernel)) rfl rfl rfl hC.1.2.2.2.2.1 dX1_letters_2 (fun H locs hC hS => ?_)
  refine lv_iload_n hx hb dX1_letters_5 rfl (lv_at hl 1 rfl) ?_
  refine lv_iconst (v := nI 1) hx hb dX1_letters_6 (by decide) ?_
  refine lv_sipush (v := nI 3000) hx hb dX1_letters_7 (by decide) ?_
  refine k_pS (As := [.int y, .int (nI 1), .int (nI 3000)]) (rest := []) (c_X1_isIn l y (nI 1) (nI 3000)) ⟨hx, hb, hml, hown, hts⟩ (va_cwS 3 hts gX1_letters_X1_isIn rfl rfl rfl (by decide +kernel) ⟨Nat.le_of_ble_eq_true rfl, Nat.le_of_ble_eq_true rfl⟩) rfl hl.1 rfl (Nat.le_of_ble_eq_true rfl) dX1_letters_10 ⟨Nat.le_of_ble_eq_true rfl, Nat.le_of_ble_eq_true rfl⟩ ?_
  refine lv_if_ne (tgt := 22) hx hb dX1_letters_13 (by decide) (fun c_13 => ?_) (fun c_13 => ?_)
  · skip
    rw [hf] at c_13; exact absurd rfl c_13
  · skip
    refine lv_aload_n hx hb dX1_letters_16 rfl (lv_at hl 0 rfl) ?_
    refine lv_iconst (v := nI 1) hx hb dX1_letters_17 (by decide) ?_
    refine k_wV (As := [.int (nI 1)]) (rest := []) (c_X1_fail l B0 g ct ad cS mS (ax_h x (nI 0)) 1) hC hB hS ⟨hx, hb, hml, hown, hts⟩ (cwV 1 hts gX1_letters_X1_fail rfl rfl rfl (by decide +kernel) ⟨Nat.le_of_ble_eq_true rfl, Nat.le_of_ble_eq_true rfl⟩) (rc1 hC) rfl hl.1 rfl (Nat.le_of_ble_eq_true rfl) dX1_letters_18 ⟨Nat.le_of_ble_eq_true rfl, Nat.le_of_ble_eq_true rfl⟩ (fun u_18 H locs hu_18 hC hS => ?_)
    subst hu_18
    refine W.widen (k := 1) (n := 3001) (Nat.le_of_ble_eq_true rfl) (Nat.le_of_ble_eq_true rfl) ?_
    exact W.iret hx hb hr (fun t ht hW => ⟨⟨_, ax_h (ax_h x (nI 0)) (nI 1), rfl, ⟨rfl, rfl⟩, (by show CW B0 g ct ad cS mS (ax_h (ax_h x (nI 0)) (nI 1)) t.heap; rw [ht]; exact hC.1)⟩, hS.F ht⟩) hS.2.2 dX1_letters_21
set_option maxHeartbeats 4000000 in
set_option maxRecDepth 100000 in
theorem c_X1_spell (l : Launch) (B0 : Nat) (g : va_G) (ct ad : Nat → Nat) (cS mS : St_) (x : Ax_) (y p_ : Nat) (h1 : 1 ≤ y) (h2 : y ≤ 3000) (hp : p_ < 2 ^ 31) : WI l yX1_spell wsX1_spell 5 1 3001 B0 g ct ad cS mS x [.ref (ad 7), .int (nI y), .int (nI p_)] (nI (sl_ (so mS) y p_)) cS mS ((fun u => u = ax_h x (nI 0))) := by
  refine Met.ofW (cc := cX1_spell) (maxL := 7) (ret := (some .int)) (by decide) rfl ?_
  intro p e s m args below meth c s₁ B hml hv
  obtain ⟨rfl, hC⟩ := hv
  have hx := B.exec
  have hb := B.bytes
  have hr := B.returns
  have hts := atoms_spec (ws := wsX1_spell) B.pre
  have hown : s.vm.findClass RX1 = some m.cls := findClass_of_methodNamed B.named
  have hlocks := B.notSynchronized
  have hin : ∀ w ∈ wsX10, w ∈ wsX1_spell := fun _ h => List.mem_cons_of_mem _ (List.mem_append_right _ h)
  have hS : va_S (AA B0) s.heap s.heap [] := va_S.rf
  have hB : B0 ≤ s.heap.size := hC.1.2.2.1
  have hI := hC.1.2.2.2.2.1
  have ho := hI.1
  have h9 := fe_le (so mS) y ho
  have hy2 : ii_ (nI y) (nI 1) (nI 3000) = true := ii_n (by omega) (by omega) (by omega)
  have hl := lv_entry ([.ref (ad 7), .int (nI y), .int (nI p_)]) (n := 7) (Nat.le_of_ble_eq_true rfl)
  rw [lg_entry_eq]
  generalize (lg_sl ([.ref (ad 7), .int (nI y), .int (nI p_)]) ++ List.replicate (7 - (lg_sl ([.ref (ad 7), .int (nI y), .int (nI p_)])).length) Slot.unset).toArray = ls at hl ⊢
  have hl : lv_has ls 7 [(0, .ref (ad 7)), (1, .int (nI y)), (2, .int (nI p_))] := hl
  refine lv_aload_n hx hb dX1_spell_0 rfl (lv_at hl 0 rfl) ?_
  refine lv_iconst (v := nI 0) hx hb dX1_spell_1 (by decide) ?_
  refine w_f1 (m' := mS) (x' := ax_h x (nI 0)) hC hB hS hx hb hts hin hown 0 (by decide) (hts (.fieldLink RX1 20 "AbjadPoemsModel" "thrown" "I") (by decide +kernel)) rfl rfl rfl hC.1.2.2.2.2.1 dX1_spell_2 (fun H locs hC hS => ?_)
  refine lv_iload_n hx hb dX1_spell_5 rfl (lv_at hl 1 rfl) ?_
  refine lv_iconst (v := nI 1) hx hb dX1_spell_6 (by decide) ?_
  refine lv_sipush (v := nI 3000) hx hb dX1_spell_7 (by decide) ?_
  refine k_pS (As := [.int (nI y), .int (nI 1), .int (nI 3000)]) (rest := []) (c_X1_isIn l (nI y) (nI 1) (nI 3000)) ⟨hx, hb, hml, hown, hts⟩ (va_cwS 3 hts gX1_spell_X1_isIn rfl rfl rfl (by decide +kernel) ⟨Nat.le_of_ble_eq_true rfl, Nat.le_of_ble_eq_true rfl⟩) rfl hl.1 rfl (Nat.le_of_ble_eq_true rfl) dX1_spell_10 ⟨Nat.le_of_ble_eq_true rfl, Nat.le_of_ble_eq_true rfl⟩ ?_
  refine lv_if_ne (tgt := 22) hx hb dX1_spell_13 (by decide) (fun c_13 => ?_) (fun c_13 => ?_)
  · skip
    refine lv_iload_n hx hb dX1_spell_22 rfl (lv_at hl 2 rfl) ?_
    refine lv_if_ge (tgt := 32) hx hb dX1_spell_23 (by decide) (fun c_23 => ?_) (fun c_23 => ?_)
    · skip
      refine lv_aload_n hx hb dX1_spell_32 rfl (lv_at hl 0 rfl) ?_
      refine lv_iload_n hx hb dX1_spell_33 rfl (lv_at hl 1 rfl) ?_
      refine k_few (As := [.int (nI y)]) (rest := []) (c_X1_fewest l B0 g ct ad cS mS (ax_h x (nI 0)) y (by omega)) hC hB hS ⟨hx, hb, hml, hown, hts⟩ (cwV 1 hts gX1_spell_X1_fewest rfl rfl rfl (by decide +kernel) ⟨Nat.le_of_ble_eq_true rfl, Nat.le_of_ble_eq_true rfl⟩) (rc1 hC) rfl hl.1 rfl (Nat.le_of_ble_eq_true rfl) dX1_spell_34 ⟨Nat.le_of_ble_eq_true rfl, Nat.le_of_ble_eq_true rfl⟩ (fun q_ cA_ fv_ H locs hfv_ hY hS => ?_)
      have hC := hY.cx
      refine lv_astore_n (lv' := [(3, .ref q_), (0, .ref (ad 7)), (1, .int (nI y)), (2, .int (nI p_))]) hx hb dX1_spell_37 rfl hl (by decide) rfl (fun ls hl => ?_)
      refine lv_aload_n hx hb dX1_spell_38 rfl (lv_at hl 0 rfl) ?_
      refine lv_iload_n hx hb dX1_spell_39 rfl (lv_at hl 2 rfl) ?_
      refine r_na hY hx hb dX1_spell_40 (j := y) (by omega) (by omega) ?_
      refine lv_tn (w := nI (fe_ (so mS) y)) (hfv_ y (Nat.le_refl _)) ?_
      refine lv_sipush (v := nI 9999) hx hb dX1_spell_41 (by decide) ?_
      refine lv_icmp_ge (tgt := 54) hx hb dX1_spell_44 (by decide) (fun c_44 => ?_) (fun c_44 => ?_)
      · skip
        have n_44 : 9999 ≤ fe_ (so mS) y := (nI_leI (a := 9999) (b := fe_ (so mS) y) (by omega) (by omega)).mp c_44
        have hE : sl_ (so mS) y p_ = 0 := if_neg (fun q => absurd q.1 (by omega))
        refine lv_iconst (v := nI 0) hx hb dX1_spell_54 (by decide) ?_
        refine W.widen (k := 1) (n := 3001) (Nat.le_of_ble_eq_true rfl) (Nat.le_of_ble_eq_true rfl) ?_
        exact W.iret hx hb hr (fun t ht hW => ⟨⟨_, ax_h x (nI 0), rfl, ⟨(by show nI 0 = nI (sl_ (so mS) y p_); rw [hE]), rfl⟩, (by show CW B0 g ct ad cS mS (ax_h x (nI 0)) t.heap; rw [ht]; exact hC.1)⟩, hS.F ht⟩) hS.2.2 dX1_spell_55
      · skip
        have n_44 : ¬ 9999 ≤ fe_ (so mS) y := fun q__ => c_44 ((nI_leI (a := 9999) (b := fe_ (so mS) y) (by omega) (by omega)).mpr q__)
        refine lv_iload_n hx hb dX1_spell_47 rfl (lv_at hl 3 rfl) ?_
        refine lv_aload_n hx hb dX1_spell_48 rfl (lv_at hl 0 rfl) ?_
        refine lv_iload_n hx hb dX1_spell_49 rfl (lv_at hl 2 rfl) ?_
        refine r_na hY hx hb dX1_spell_50 (j := y) (by omega) (by omega) ?_
        refine lv_tn (w := nI (fe_ (so mS) y)) (hfv_ y (Nat.le_refl _)) ?_
        refine lv_icmp_lt (tgt := 56) hx hb dX1_spell_51 (by decide) (fun c_51 => ?_) (fun c_51 => ?_)
        · skip
          have n_51 : p_ < fe_ (so mS) y := (nI_ltI (a := p_) (b := fe_ (so mS) y) (by omega) (by omega)).mp c_51
          refine lv_iload_n hx hb dX1_spell_56 rfl (lv_at hl 2 rfl) ?_
          refine lv_istore (lv' := [(4, .int (nI y)), (3, .ref q_), (0, .ref (ad 7)), (1, .int (nI y)), (2, .int (nI p_))]) hx hb dX1_spell_57 hl (by decide) rfl (fun ls hl => ?_)
          refine lv_iconst (v := nI 0) hx hb dX1_spell_59 (by decide) ?_
          refine lv_istore (lv' := [(5, .int (nI 0)), (4, .int (nI y)), (3, .ref q_), (0, .ref (ad 7)), (1, .int (nI y)), (2, .int (nI p_))]) hx hb dX1_spell_60 hl (by decide) rfl (fun ls hl => ?_)
          refine lv_iconst (v := nI 0) hx hb dX1_spell_62 (by decide) ?_
          refine lv_istore (lv' := [(6, .int (nI 0)), (5, .int (nI 0)), (4, .int (nI y)), (3, .ref q_), (0, .ref (ad 7)), (1, .int (nI y)), (2, .int (nI p_))]) hx hb dX1_spell_63 hl (by decide) rfl (fun ls hl => ?_)
          have LP_65 : ∀ (n_ : Nat) (k : Nat) (r : Nat) (it : Nat), p_ + 1 - k < n_ → (r = sp_ (so mS) y k) → (k ≤ p_ + 1) → (0 < k → it = gf_ (so mS) (sp_ (so mS) y (k - 1))) → ∀ ls : Array Slot, lv_has ls 7 [(6, .int (nI k)), (5, .int (nI it)), (4, .int (nI r)), (3, .ref q_), (0, .ref (ad 7)), (1, .int (nI y)), (2, .int (nI p_))] → W p l e (headSpec wsX1_spell (rm_ 5 1 3001)).room s m ([.ref (ad 7), .int (nI y), .int (nI p_)] : List Value).toArray below meth c H locs (0 + 1) (0 + 3001) (MQ below (va_Qi (fun r (u : Ax_) => r = nI (sl_ (so mS) y p_) ∧ ((fun u => u = ax_h x (nI 0))) u) (fun u t => CW B0 g ct ad cS mS u t.heap) (AA B0)) ([.ref (ad 7), .int (nI y), .int (nI p_)] : List Value).toArray s 1 3001 (AA B0)) (F0 m 65 ls []) := by
            intro n_
            induction n_ with
            | zero => intro k r it hm; exact absurd hm (Nat.not_lt_zero _)
            | succ n_ ih_65 =>
              intro k r it hm hr_ hk hit ls hl
              refine lv_iload hx hb dX1_spell_65 (lv_at hl 0 rfl) ?_
              refine lv_iload_n hx hb dX1_spell_67 rfl (lv_at hl 6 rfl) ?_
              refine lv_icmp_gt (tgt := 129) hx hb dX1_spell_68 (by decide) (fun c_68 => ?_) (fun c_68 => ?_)
              · skip
                have n_68 : p_ < k := (nI_ltI (a := p_) (b := k) (by omega) (by omega)).mp c_68
                have hE : it = sl_ (so mS) y p_ := by rw [hit (by omega), show k - 1 = p_ by omega]; exact (if_pos ⟨by omega, n_51⟩).symm
                refine lv_iload hx hb dX1_spell_129 (lv_at hl 1 rfl) ?_
                refine W.widen (k := 1) (n := 3001) (Nat.le_of_ble_eq_true rfl) (Nat.le_of_ble_eq_true rfl) ?_
                exact W.iret hx hb hr (fun t ht hW => ⟨⟨_, ax_h x (nI 0), rfl, ⟨(congrArg nI hE), rfl⟩, (by show CW B0 g ct ad cS mS (ax_h x (nI 0)) t.heap; rw [ht]; exact hC.1)⟩, hS.F ht⟩) hS.2.2 dX1_spell_131
              · skip
                have n_68 : ¬ p_ < k := fun q__ => c_68 ((nI_ltI (a := p_) (b := k) (by omega) (by omega)).mpr q__)
                have hsp := sp_in (o := (so mS)) (y := y) ho (by omega) k (by omega)
                rw [← hr_] at hsp
                have hgf := gf_in (o := (so mS)) (y := r) ho (by omega) (by omega)
                have h9r := fe_le (so mS) r ho
                refine lv_bipush (v := nI 26) hx hb dX1_spell_71 (by decide) ?_
                refine lv_istore (lv' := [(5, .int (nI 26)), (6, .int (nI k)), (4, .int (nI r)), (3, .ref q_), (0, .ref (ad 7)), (1, .int (nI y)), (2, .int (nI p_))]) hx hb dX1_spell_73 hl (by decide) rfl (fun ls hl => ?_)
                have LP_75 : ∀ (n_ : Nat) (g_ : Nat), g_ < n_ → (gs_ (so mS) r g_ = gf_ (so mS) r) → (g_ ≤ 26) → ∀ ls : Array Slot, lv_has ls 7 [(5, .int (nI g_)), (6, .int (nI k)), (4, .int (nI r)), (3, .ref q_), (0, .ref (ad 7)), (1, .int (nI y)), (2, .int (nI p_))] → W p l e (headSpec wsX1_spell (rm_ 5 1 3001)).room s m ([.ref (ad 7), .int (nI y), .int (nI p_)] : List Value).toArray below meth c H locs (0 + 1) (0 + 3001) (MQ below (va_Qi (fun r (u : Ax_) => r = nI (sl_ (so mS) y p_) ∧ ((fun u => u = ax_h x (nI 0))) u) (fun u t => CW B0 g ct ad cS mS u t.heap) (AA B0)) ([.ref (ad 7), .int (nI y), .int (nI p_)] : List Value).toArray s 1 3001 (AA B0)) (F0 m 75 ls []) := by
                  intro n_
                  induction n_ with
                  | zero => intro g_ hm; exact absurd hm (Nat.not_lt_zero _)
                  | succ n_ ih_75 =>
                    intro g_ hm hg hg2 ls hl
                    have hg0 : 0 < g_ := by
                      rcases Nat.eq_zero_or_pos g_ with q | q
                      · rw [q] at hg; have h8 : gf_ (so mS) r = 0 := hg.symm; omega
                      · exact q
                    have hv := vl_pos _ ho g_ (by omega) hg0
                    have hv2 := vl_le _ ho g_ (by omega)
                    refine lv_aload_n hx hb dX1_spell_75 rfl (lv_at hl 4 rfl) ?_
                    refine lv_iload hx hb dX1_spell_76 (lv_at hl 0 rfl) ?_
                    refine k_rV (As := [.int (nI g_)]) (rest := []) (c_X1_valueOf l B0 g ct ad cS mS (ax_h x (nI 0)) g_ (by omega)) hC ⟨hx, hb, hml, hown, hts⟩ (cwV 1 hts gX1_spell_X1_valueOf rfl rfl rfl (by decide +kernel) ⟨Nat.le_of_ble_eq_true rfl, Nat.le_of_ble_eq_true rfl⟩) (rc1 hC) rfl hl.1 rfl (Nat.le_of_ble_eq_true rfl) dX1_spell_78 ⟨Nat.le_of_ble_eq_true rfl, Nat.le_of_ble_eq_true rfl⟩ ?_
                    refine lv_iload hx hb dX1_spell_81 (lv_at hl 2 rfl) ?_
                    refine lv_icmp_gt (tgt := 106) hx hb dX1_spell_83 (by decide) (fun c_83 => ?_) (fun c_83 => ?_)
                    · skip
                      have n_83 : r < vl_ (so mS) g_ := (nI_ltI (a := r) (b := vl_ (so mS) g_) (by omega) (by omega)).mp c_83
                      have hN : ¬ (vl_ (so mS) g_ ≤ r ∧ fe_ (so mS) (r - vl_ (so mS) g_) + 1 = fe_ (so mS) r) := fun q => absurd q.1 (by omega)
                      refine lv_iinc (v := nI (g_ - 1)) (lv' := [(5, .int (nI (g_ - 1))), (6, .int (nI k)), (4, .int (nI r)), (3, .ref q_), (0, .ref (ad 7)), (1, .int (nI y)), (2, .int (nI p_))]) hx hb dX1_spell_106 hl (k := 0) rfl (im2_ (by omega)) (by decide) rfl (fun ls hl => ?_)
                      refine lv_goto (tgt := 75) hx hb dX1_spell_109 (by decide) ?_
                      exact ih_75 (g_ - 1) (by omega) (by rw [← hg, gs_f hg0 hN]) (by omega) ls (lv_sub hl [0, 1, 2, 3, 4, 5, 6] rfl)
                    · skip
                      have n_83 : ¬ r < vl_ (so mS) g_ := fun q__ => c_83 ((nI_ltI (a := r) (b := vl_ (so mS) g_) (by omega) (by omega)).mpr q__)
                      have h9g := fe_le (so mS) (r - vl_ (so mS) g_) ho
                      refine lv_aload_n hx hb dX1_spell_86 rfl (lv_at hl 3 rfl) ?_
                      refine lv_iload hx hb dX1_spell_87 (lv_at hl 2 rfl) ?_
                      refine lv_aload_n hx hb dX1_spell_89 rfl (lv_at hl 4 rfl) ?_
                      refine lv_iload hx hb dX1_spell_90 (lv_at hl 0 rfl) ?_
                      refine k_rV (As := [.int (nI g_)]) (rest := [.int (nI r), .ref q_]) (c_X1_valueOf l B0 g ct ad cS mS (ax_h x (nI 0)) g_ (by omega)) hC ⟨hx, hb, hml, hown, hts⟩ (cwV 1 hts gX1_spell_X1_valueOf rfl rfl rfl (by decide +kernel) ⟨Nat.le_of_ble_eq_true rfl, Nat.le_of_ble_eq_true rfl⟩) (rc1 hC) rfl hl.1 rfl (Nat.le_of_ble_eq_true rfl) dX1_spell_92 ⟨Nat.le_of_ble_eq_true rfl, Nat.le_of_ble_eq_true rfl⟩ ?_
                      refine lv_isub hx hb dX1_spell_95 ?_
                      refine lv_tn (pk_sub (by omega)) ?_
                      refine r_na hY hx hb dX1_spell_96 (j := r - (vl_ (so mS) g_)) (by omega) (by omega) ?_
                      refine lv_tn (w := nI (fe_ (so mS) (r - vl_ (so mS) g_))) (hfv_ _ (by omega)) ?_
                      refine lv_iconst (v := nI 1) hx hb dX1_spell_97 (by decide) ?_
                      refine lv_iadd hx hb dX1_spell_98 ?_
                      refine lv_tn (nI_add _ _) ?_
                      refine lv_aload_n hx hb dX1_spell_99 rfl (lv_at hl 3 rfl) ?_
                      refine lv_iload hx hb dX1_spell_100 (lv_at hl 2 rfl) ?_
                      refine r_na hY hx hb dX1_spell_102 (j := r) (by omega) (by omega) ?_
                      refine lv_tn (w := nI (fe_ (so mS) r)) (hfv_ _ (by omega)) ?_
                      refine lv_icmp_eq (tgt := 112) hx hb dX1_spell_103 (by decide) (fun c_103 => ?_) (fun c_103 => ?_)
                      · skip
                        have n_103 : (fe_ (so mS) (r - vl_ (so mS) g_)) + 1 = fe_ (so mS) r := (nI_eq (a := (fe_ (so mS) (r - vl_ (so mS) g_)) + 1) (b := fe_ (so mS) r) (by omega) (by omega)).mp c_103
                        have hG : gf_ (so mS) r = g_ := by rw [← hg, gs_t (by omega) ⟨by omega, n_103⟩]
                        refine lv_iload hx hb dX1_spell_112 (lv_at hl 2 rfl) ?_
                        refine lv_aload_n hx hb dX1_spell_114 rfl (lv_at hl 4 rfl) ?_
                        refine lv_iload hx hb dX1_spell_115 (lv_at hl 0 rfl) ?_
                        refine k_rV (As := [.int (nI g_)]) (rest := [.int (nI r)]) (c_X1_valueOf l B0 g ct ad cS mS (ax_h x (nI 0)) g_ (by omega)) hC ⟨hx, hb, hml, hown, hts⟩ (cwV 1 hts gX1_spell_X1_valueOf rfl rfl rfl (by decide +kernel) ⟨Nat.le_of_ble_eq_true rfl, Nat.le_of_ble_eq_true rfl⟩) (rc1 hC) rfl hl.1 rfl (Nat.le_of_ble_eq_true rfl) dX1_spell_117 ⟨Nat.le_of_ble_eq_true rfl, Nat.le_of_ble_eq_true rfl⟩ ?_
                        refine lv_isub hx hb dX1_spell_120 ?_
                        refine lv_tn (pk_sub (by omega)) ?_
                        refine lv_istore (lv' := [(4, .int (nI (r - (vl_ (so mS) g_)))), (5, .int (nI g_)), (6, .int (nI k)), (3, .ref q_), (0, .ref (ad 7)), (1, .int (nI y)), (2, .int (nI p_))]) hx hb dX1_spell_121 hl (by decide) rfl (fun ls hl => ?_)
                        refine lv_iinc (v := nI (k + 1)) (lv' := [(6, .int (nI (k + 1))), (4, .int (nI (r - (vl_ (so mS) g_)))), (5, .int (nI g_)), (3, .ref q_), (0, .ref (ad 7)), (1, .int (nI y)), (2, .int (nI p_))]) hx hb dX1_spell_123 hl (k := 2) rfl (nI_1 _) (by decide) rfl (fun ls hl => ?_)
                        refine lv_goto (tgt := 65) hx hb dX1_spell_126 (by decide) ?_
                        exact ih_65 (k + 1) (r - (vl_ (so mS) g_)) g_ (by omega) (by show r - vl_ (so mS) g_ = sp_ (so mS) y k - vl_ (so mS) (gf_ (so mS) (sp_ (so mS) y k)); rw [← hr_, hG]) (by omega) (fun _ => by rw [Nat.add_sub_cancel, ← hr_, hG]) ls (lv_sub hl [0, 2, 1, 3, 4, 5, 6] rfl)
                      · skip
                        have n_103 : ¬ (fe_ (so mS) (r - vl_ (so mS) g_)) + 1 = fe_ (so mS) r := fun q__ => c_103 ((nI_eq (a := (fe_ (so mS) (r - vl_ (so mS) g_)) + 1) (b := fe_ (so mS) r) (by omega) (by omega)).mpr q__)
                        have hN : ¬ (vl_ (so mS) g_ ≤ r ∧ fe_ (so mS) (r - vl_ (so mS) g_) + 1 = fe_ (so mS) r) := fun q => n_103 q.2
                        refine lv_iinc (v := nI (g_ - 1)) (lv' := [(5, .int (nI (g_ - 1))), (6, .int (nI k)), (4, .int (nI r)), (3, .ref q_), (0, .ref (ad 7)), (1, .int (nI y)), (2, .int (nI p_))]) hx hb dX1_spell_106 hl (k := 0) rfl (im2_ (by omega)) (by decide) rfl (fun ls hl => ?_)
                        refine lv_goto (tgt := 75) hx hb dX1_spell_109 (by decide) ?_
                        exact ih_75 (g_ - 1) (by omega) (by rw [← hg, gs_f hg0 hN]) (by omega) ls (lv_sub hl [0, 1, 2, 3, 4, 5, 6] rfl)
                exact LP_75 _ 26 (Nat.lt_succ_self _) rfl (by omega) ls (lv_sub hl [0, 1, 2, 3, 4, 5, 6] rfl)
          exact LP_65 _ 0 y 0 (Nat.lt_succ_self _) rfl (by omega) (fun q => absurd q (by omega)) ls (lv_sub hl [0, 1, 2, 3, 4, 5, 6] rfl)
        · skip
          have n_51 : ¬ p_ < fe_ (so mS) y := fun q__ => c_51 ((nI_ltI (a := p_) (b := fe_ (so mS) y) (by omega) (by omega)).mpr q__)
          have hE : sl_ (so mS) y p_ = 0 := if_neg (fun q => absurd q.2 n_51)
          refine lv_iconst (v := nI 0) hx hb dX1_spell_54 (by decide) ?_
          refine W.widen (k := 1) (n := 3001) (Nat.le_of_ble_eq_true rfl) (Nat.le_of_ble_eq_true rfl) ?_
          exact W.iret hx hb hr (fun t ht hW => ⟨⟨_, ax_h x (nI 0), rfl, ⟨(by show nI 0 = nI (sl_ (so mS) y p_); rw [hE]), rfl⟩, (by show CW B0 g ct ad cS mS (ax_h x (nI 0)) t.heap; rw [ht]; exact hC.1)⟩, hS.F ht⟩) hS.2.2 dX1_spell_55
    · skip
      exact absurd (nI_pos' (by omega)) c_23
  · skip
    rw [hy2] at c_13; exact absurd c_13 (by decide)
set_option maxHeartbeats 4000000 in
set_option maxRecDepth 100000 in
theorem t_X1_spell_1 (l : Launch) (B0 : Nat) (g : va_G) (ct ad : Nat → Nat) (cS mS : St_) (x : Ax_) (y p_ : Int32) (hf : ii_ y (nI 1) (nI 3000) = false) : WI l yX1_spell wsX1_spell 5 1 3001 B0 g ct ad cS mS x [.ref (ad 7), .int y, .int p_] (nI 0) cS mS ((fun u => u = ax_h x (nI 1))) := by
  refine Met.ofW (cc := cX1_spell) (maxL := 7) (ret := (some .int)) (by decide) rfl ?_
  intro p e s m args below meth c s₁ B hml hv
  obtain ⟨rfl, hC⟩ := hv
  have hx := B.exec
  have hb := B.bytes
  have hr := B.returns
  have hts := atoms_spec (ws := wsX1_spell) B.pre
  have hown : s.vm.findClass RX1 = some m.cls := findClass_of_methodNamed B.named
  have hlocks := B.notSynchronized
  have hin : ∀ w ∈ wsX10, w ∈ wsX1_spell := fun _ h => List.mem_cons_of_mem _ (List.mem_append_right _ h)
  have hS : va_S (AA B0) s.heap s.heap [] := va_S.rf
  have hB : B0 ≤ s.heap.size := hC.1.2.2.1
  have hl := lv_entry ([.ref (ad 7), .int y, .int p_]) (n := 7) (Nat.le_of_ble_eq_true rfl)
  rw [lg_entry_eq]
  generalize (lg_sl ([.ref (ad 7), .int y, .int p_]) ++ List.replicate (7 - (lg_sl ([.ref (ad 7), .int y, .int p_])).length) Slot.unset).toArray = ls at hl ⊢
  have hl : lv_has ls 7 [(0, .ref (ad 7)), (1, .int y), (2, .int p_)] := hl
  refine lv_aload_n hx hb dX1_spell_0 rfl (lv_at hl 0 rfl) ?_
  refine lv_iconst (v := nI 0) hx hb dX1_spell_1 (by decide) ?_
  refine w_f1 (m' := mS) (x' := ax_h x (nI 0)) hC hB hS hx hb hts hin hown 0 (by decide) (hts (.fieldLink RX1 20 "AbjadPoemsModel" "thrown" "I") (by decide +kernel)) rfl rfl rfl hC.1.2.2.2.2.1 dX1_spell_2 (fun H locs hC hS => ?_)
  refine lv_iload_n hx hb dX1_spell_5 rfl (lv_at hl 1 rfl) ?_
  refine lv_iconst (v := nI 1) hx hb dX1_spell_6 (by decide) ?_
  refine lv_sipush (v := nI 3000) hx hb dX1_spell_7 (by decide) ?_
  refine k_pS (As := [.int y, .int (nI 1), .int (nI 3000)]) (rest := []) (c_X1_isIn l y (nI 1) (nI 3000)) ⟨hx, hb, hml, hown, hts⟩ (va_cwS 3 hts gX1_spell_X1_isIn rfl rfl rfl (by decide +kernel) ⟨Nat.le_of_ble_eq_true rfl, Nat.le_of_ble_eq_true rfl⟩) rfl hl.1 rfl (Nat.le_of_ble_eq_true rfl) dX1_spell_10 ⟨Nat.le_of_ble_eq_true rfl, Nat.le_of_ble_eq_true rfl⟩ ?_
  refine lv_if_ne (tgt := 22) hx hb dX1_spell_13 (by decide) (fun c_13 => ?_) (fun c_13 => ?_)
  · skip
    rw [hf] at c_13; exact absurd rfl c_13
  · skip
    refine lv_aload_n hx hb dX1_spell_16 rfl (lv_at hl 0 rfl) ?_
    refine lv_iconst (v := nI 1) hx hb dX1_spell_17 (by decide) ?_
    refine k_wV (As := [.int (nI 1)]) (rest := []) (c_X1_fail l B0 g ct ad cS mS (ax_h x (nI 0)) 1) hC hB hS ⟨hx, hb, hml, hown, hts⟩ (cwV 1 hts gX1_spell_X1_fail rfl rfl rfl (by decide +kernel) ⟨Nat.le_of_ble_eq_true rfl, Nat.le_of_ble_eq_true rfl⟩) (rc1 hC) rfl hl.1 rfl (Nat.le_of_ble_eq_true rfl) dX1_spell_18 ⟨Nat.le_of_ble_eq_true rfl, Nat.le_of_ble_eq_true rfl⟩ (fun u_18 H locs hu_18 hC hS => ?_)
    subst hu_18
    refine W.widen (k := 1) (n := 3001) (Nat.le_of_ble_eq_true rfl) (Nat.le_of_ble_eq_true rfl) ?_
    exact W.iret hx hb hr (fun t ht hW => ⟨⟨_, ax_h (ax_h x (nI 0)) (nI 1), rfl, ⟨rfl, rfl⟩, (by show CW B0 g ct ad cS mS (ax_h (ax_h x (nI 0)) (nI 1)) t.heap; rw [ht]; exact hC.1)⟩, hS.F ht⟩) hS.2.2 dX1_spell_21
set_option maxHeartbeats 4000000 in
set_option maxRecDepth 100000 in
theorem t_X1_spell_2 (l : Launch) (B0 : Nat) (g : va_G) (ct ad : Nat → Nat) (cS mS : St_) (x : Ax_) (y : Nat) (p_ : Int32) (h1 : 1 ≤ y) (h2 : y ≤ 3000) (h : p_ < 0) : WI l yX1_spell wsX1_spell 5 1 3001 B0 g ct ad cS mS x [.ref (ad 7), .int (nI y), .int p_] (nI 0) cS mS ((fun u => u = ax_h x (nI 2))) := by
  refine Met.ofW (cc := cX1_spell) (maxL := 7) (ret := (some .int)) (by decide) rfl ?_
  intro p e s m args below meth c s₁ B hml hv
  obtain ⟨rfl, hC⟩ := hv
  have hx := B.exec
  have hb := B.bytes
  have hr := B.returns
  have hts := atoms_spec (ws := wsX1_spell) B.pre
  have hown : s.vm.findClass RX1 = some m.cls := findClass_of_methodNamed B.named
  have hlocks := B.notSynchronized
  have hin : ∀ w ∈ wsX10, w ∈ wsX1_spell := fun _ h => List.mem_cons_of_mem _ (List.mem_append_right _ h)
  have hS : va_S (AA B0) s.heap s.heap [] := va_S.rf
  have hB : B0 ≤ s.heap.size := hC.1.2.2.1
  have hy2 : ii_ (nI y) (nI 1) (nI 3000) = true := ii_n (by omega) (by omega) (by omega)
  have hl := lv_entry ([.ref (ad 7), .int (nI y), .int p_]) (n := 7) (Nat.le_of_ble_eq_true rfl)
  rw [lg_entry_eq]
  generalize (lg_sl ([.ref (ad 7), .int (nI y), .int p_]) ++ List.replicate (7 - (lg_sl ([.ref (ad 7), .int (nI y), .int p_])).length) Slot.unset).toArray = ls at hl ⊢
  have hl : lv_has ls 7 [(0, .ref (ad 7)), (1, .int (nI y)), (2, .int p_)] := hl
  refine lv_aload_n hx hb dX1_spell_0 rfl (lv_at hl 0 rfl) ?_
  refine lv_iconst (v := nI 0) hx hb dX1_spell_1 (by decide) ?_
  refine w_f1 (m' := mS) (x' := ax_h x (nI 0)) hC hB hS hx hb hts hin hown 0 (by decide) (hts (.fieldLink RX1 20 "AbjadPoemsModel" "thrown" "I") (by decide +kernel)) rfl rfl rfl hC.1.2.2.2.2.1 dX1_spell_2 (fun H locs hC hS => ?_)
  refine lv_iload_n hx hb dX1_spell_5 rfl (lv_at hl 1 rfl) ?_
  refine lv_iconst (v := nI 1) hx hb dX1_spell_6 (by decide) ?_
  refine lv_sipush (v := nI 3000) hx hb dX1_spell_7 (by decide) ?_
  refine k_pS (As := [.int (nI y), .int (nI 1), .int (nI 3000)]) (rest := []) (c_X1_isIn l (nI y) (nI 1) (nI 3000)) ⟨hx, hb, hml, hown, hts⟩ (va_cwS 3 hts gX1_spell_X1_isIn rfl rfl rfl (by decide +kernel) ⟨Nat.le_of_ble_eq_true rfl, Nat.le_of_ble_eq_true rfl⟩) rfl hl.1 rfl (Nat.le_of_ble_eq_true rfl) dX1_spell_10 ⟨Nat.le_of_ble_eq_true rfl, Nat.le_of_ble_eq_true rfl⟩ ?_
  refine lv_if_ne (tgt := 22) hx hb dX1_spell_13 (by decide) (fun c_13 => ?_) (fun c_13 => ?_)
  · skip
    refine lv_iload_n hx hb dX1_spell_22 rfl (lv_at hl 2 rfl) ?_
    refine lv_if_ge (tgt := 32) hx hb dX1_spell_23 (by decide) (fun c_23 => ?_) (fun c_23 => ?_)
    · skip
      exact absurd h (Int32.not_lt.mpr c_23)
    · skip
      refine lv_aload_n hx hb dX1_spell_26 rfl (lv_at hl 0 rfl) ?_
      refine lv_iconst (v := nI 2) hx hb dX1_spell_27 (by decide) ?_
      refine k_wV (As := [.int (nI 2)]) (rest := []) (c_X1_fail l B0 g ct ad cS mS (ax_h x (nI 0)) 2) hC hB hS ⟨hx, hb, hml, hown, hts⟩ (cwV 1 hts gX1_spell_X1_fail rfl rfl rfl (by decide +kernel) ⟨Nat.le_of_ble_eq_true rfl, Nat.le_of_ble_eq_true rfl⟩) (rc1 hC) rfl hl.1 rfl (Nat.le_of_ble_eq_true rfl) dX1_spell_28 ⟨Nat.le_of_ble_eq_true rfl, Nat.le_of_ble_eq_true rfl⟩ (fun u_28 H locs hu_28 hC hS => ?_)
      subst hu_28
      refine W.widen (k := 1) (n := 3001) (Nat.le_of_ble_eq_true rfl) (Nat.le_of_ble_eq_true rfl) ?_
      exact W.iret hx hb hr (fun t ht hW => ⟨⟨_, ax_h (ax_h x (nI 0)) (nI 2), rfl, ⟨rfl, rfl⟩, (by show CW B0 g ct ad cS mS (ax_h (ax_h x (nI 0)) (nI 2)) t.heap; rw [ht]; exact hC.1)⟩, hS.F ht⟩) hS.2.2 dX1_spell_31
  · skip
    rw [hy2] at c_13; exact absurd c_13 (by decide)
