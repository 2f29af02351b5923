set_option maxHeartbeats 4000000 in
set_option maxRecDepth 100000 in
/-- lengthOf -/
theorem c_X0_lengthOf (l : Launch) (w : Nat) (hw : w < 387420489) : RI l yX0_lengthOf wsX0_lengthOf 0 (va_Pc [.int (nI w)] (fun _ => True)) (nI (ln_ w)) := by
  refine Met.ofW (cc := cX0_lengthOf) (maxL := 3) (ret := (some .int)) (by decide) rfl ?_
  intro p e s m args below meth c s₁ B hml hv
  obtain ⟨rfl, -⟩ := hv
  have hx := B.exec
  have hb := B.bytes
  have hr := B.returns
  have hts := atoms_spec (ws := wsX0_lengthOf) B.pre
  have hown : s.vm.findClass RX0 = some m.cls := findClass_of_methodNamed B.named
  have hlocks := B.notSynchronized
  have hl := lv_entry ([.int (nI w)]) (n := 3) (Nat.le_of_ble_eq_true rfl)
  rw [lg_entry_eq]
  generalize (lg_sl ([.int (nI w)]) ++ List.replicate (3 - (lg_sl ([.int (nI w)])).length) Slot.unset).toArray = ls at hl ⊢
  have hl : lv_has ls 3 [(0, .int (nI w))] := hl
  refine lv_iconst (v := nI 0) hx hb dX0_lengthOf_0 (by decide) ?_
  refine lv_istore_n (lv' := [(1, .int (nI 0)), (0, .int (nI w))]) hx hb dX0_lengthOf_1 rfl hl (by decide) rfl (fun ls hl => ?_)
  refine lv_iload_n hx hb dX0_lengthOf_2 rfl (lv_at hl 1 rfl) ?_
  refine lv_istore_n (lv' := [(2, .int (nI w)), (1, .int (nI 0)), (0, .int (nI w))]) hx hb dX0_lengthOf_3 rfl hl (by decide) rfl (fun ls hl => ?_)
  have LP_4 : ∀ (n_ : Nat) (k : Nat) (r : Nat), 6 - k < n_ → (k ≤ 6) → (k + lnf (6 - k) r = ln_ w) → (r < 387420489) → ∀ ls : Array Slot, lv_has ls 3 [(2, .int (nI r)), (1, .int (nI k)), (0, .int (nI w))] → W p l e (headSpec wsX0_lengthOf (rm_ 0 0 0)).room s m ([.int (nI w)] : List Value).toArray below meth c s.heap [] 0 0 (MQ below (vp_Si (fun r => r = nI (ln_ w))) ([.int (nI w)] : List Value).toArray s 0 0 (fun _ => False)) (F0 m 4 ls []) := by
    intro n_
    induction n_ with
    | zero => intro k r hm; exact absurd hm (Nat.not_lt_zero _)
    | succ n_ ih_4 =>
      intro k r hm h0 h1 h2 ls hl
      refine lv_iload_n hx hb dX0_lengthOf_4 rfl (lv_at hl 1 rfl) ?_
      refine lv_bipush (v := nI 6) hx hb dX0_lengthOf_5 (by decide) ?_
      refine lv_icmp_ge (tgt := 25) hx hb dX0_lengthOf_7 (by decide) (fun c_7 => ?_) (fun c_7 => ?_)
      · skip
        have n_7 : 6 ≤ k := (nI_leI (a := 6) (b := k) (by omega) (by omega)).mp c_7
        have hE : k = ln_ w := by rw [show 6 - k = 0 by omega] at h1; exact h1
        refine lv_iload_n hx hb dX0_lengthOf_25 rfl (lv_at hl 1 rfl) ?_
        exact W.iret hx hb hr (fun t ht hW => ⟨_, rfl, (congrArg nI hE), ht⟩) (fun q hq => absurd hq List.not_mem_nil) dX0_lengthOf_26
      · skip
        have n_7 : ¬ 6 ≤ k := fun q__ => c_7 ((nI_leI (a := 6) (b := k) (by omega) (by omega)).mpr q__)
        refine lv_iload_n hx hb dX0_lengthOf_10 rfl (lv_at hl 0 rfl) ?_
        refine lv_if_le (tgt := 25) hx hb dX0_lengthOf_11 (by decide) (fun c_11 => ?_) (fun c_11 => ?_)
        · skip
          have n_11 : r = 0 := (nle0_ (by omega)).mp c_11
          have hE : k = ln_ w := by rw [n_11, lnf_0] at h1; exact h1
          refine lv_iload_n hx hb dX0_lengthOf_25 rfl (lv_at hl 1 rfl) ?_
          exact W.iret hx hb hr (fun t ht hW => ⟨_, rfl, (congrArg nI hE), ht⟩) (fun q hq => absurd hq List.not_mem_nil) dX0_lengthOf_26
        · skip
          have n_11 : 0 < r := Nat.pos_of_ne_zero (fun q__ => c_11 ((nle0_ (by omega)).mpr q__))
          refine lv_iload_n hx hb dX0_lengthOf_14 rfl (lv_at hl 0 rfl) ?_
          refine lv_bipush (v := nI 27) hx hb dX0_lengthOf_15 (by decide) ?_
          refine lv_idiv hx hb dX0_lengthOf_17 (by decide) ?_
          refine lv_tn (pk_div (by omega) (by decide) (by decide)) ?_
          refine lv_istore_n (lv' := [(2, .int (nI (r / 27))), (1, .int (nI k)), (0, .int (nI w))]) hx hb dX0_lengthOf_18 rfl hl (by decide) rfl (fun ls hl => ?_)
          refine lv_iinc (v := nI (k + 1)) (lv' := [(1, .int (nI (k + 1))), (2, .int (nI (r / 27))), (0, .int (nI w))]) hx hb dX0_lengthOf_19 hl (k := 1) rfl (nI_1 _) (by decide) rfl (fun ls hl => ?_)
          refine lv_goto (tgt := 4) hx hb dX0_lengthOf_22 (by decide) ?_
          exact ih_4 (k + 1) (r / 27) (by omega) (by omega) (by have h3 := h1; rw [show 6 - k = (6 - (k + 1)) + 1 by omega, lnf_s (show ¬ r = 0 by omega)] at h3; omega) (by omega) ls (lv_sub hl [1, 0, 2] rfl)
  exact LP_4 _ 0 w (Nat.lt_succ_self _) (by omega) ((Nat.zero_add _).trans (ln_6 hw).symm) hw ls (lv_sub hl [0, 1, 2] rfl)
set_option maxHeartbeats 4000000 in
set_option maxRecDepth 100000 in
theorem c_X0_isMarked (l : Launch) (mk p_ : Nat) (hm : mk < 64) (hp : p_ < 6) : RI l yX0_isMarked wsX0_isMarked 0 (va_Pc [.int (nI mk), .int (nI p_)] (fun _ => True)) (b2_ (mk.testBit p_)) := by
  refine Met.ofW (cc := cX0_isMarked) (maxL := 2) (ret := (some .boolean)) (by decide) rfl ?_
  intro p e s m args below meth c s₁ B hml hv
  obtain ⟨rfl, -⟩ := hv
  have hx := B.exec
  have hb := B.bytes
  have hr := B.returns
  have hts := atoms_spec (ws := wsX0_isMarked) B.pre
  have hown : s.vm.findClass RX0 = some m.cls := findClass_of_methodNamed B.named
  have hlocks := B.notSynchronized
  have hl := lv_entry ([.int (nI mk), .int (nI p_)]) (n := 2) (Nat.le_of_ble_eq_true rfl)
  rw [lg_entry_eq]
  generalize (lg_sl ([.int (nI mk), .int (nI p_)]) ++ List.replicate (2 - (lg_sl ([.int (nI mk), .int (nI p_)])).length) Slot.unset).toArray = ls at hl ⊢
  have hl : lv_has ls 2 [(0, .int (nI mk)), (1, .int (nI p_))] := hl
  refine lv_iload_n hx hb dX0_isMarked_0 rfl (lv_at hl 0 rfl) ?_
  refine lv_iload_n hx hb dX0_isMarked_1 rfl (lv_at hl 1 rfl) ?_
  refine lv_ishr hx hb dX0_isMarked_2 ?_
  refine lv_iconst (v := nI 1) hx hb dX0_isMarked_3 (by decide) ?_
  refine lv_iand hx hb dX0_isMarked_4 ?_
  refine lv_iconst (v := nI 1) hx hb dX0_isMarked_5 (by decide) ?_
  refine lv_icmp_ne (tgt := 13) hx hb dX0_isMarked_6 (by decide) (fun c_6 => ?_) (fun c_6 => ?_)
  · skip
    have hE : mk.testBit p_ = false := by
      cases h8 : mk.testBit p_ with
      | false => rfl
      | true => exact absurd ((im_ mk hm p_ hp).mpr h8) c_6
    refine lv_iconst (v := nI 0) hx hb dX0_isMarked_13 (by decide) ?_
    exact W.zret hx hb hr rfl (fun t ht hW => ⟨_, rfl, (by show nI 0 = b2_ (mk.testBit p_); rw [hE]; rfl), ht⟩) (fun q hq => absurd hq List.not_mem_nil) dX0_isMarked_14
  · skip
    have hE : mk.testBit p_ = true := (im_ mk hm p_ hp).mp c_6
    refine lv_iconst (v := nI 1) hx hb dX0_isMarked_9 (by decide) ?_
    refine lv_goto (tgt := 14) hx hb dX0_isMarked_10 (by decide) ?_
    exact W.zret hx hb hr rfl (fun t ht hW => ⟨_, rfl, (by show nI 1 = b2_ (mk.testBit p_); rw [hE]; rfl), ht⟩) (fun q hq => absurd hq List.not_mem_nil) dX0_isMarked_14
set_option maxHeartbeats 4000000 in
set_option maxRecDepth 100000 in
theorem c_X0_worthOfLetter (l : Launch) (B0 : Nat) (g : va_G) (ct ad : Nat → Nat) (cS : St_) (mS : Pl_) (x : Ax_) (k : Nat) (hk : k < 27) : RI l yX0_worthOfLetter wsX0_worthOfLetter 0 (PX B0 g ct ad cS mS x [.ref (ad 0), .int (nI k)]) (nI (vl_ (so cS) k)) := by
  refine Met.ofW (cc := cX0_worthOfLetter) (maxL := 2) (ret := (some .int)) (by decide) rfl ?_
  intro p e s m args below meth c s₁ B hml hv
  obtain ⟨rfl, hC⟩ := hv
  have hx := B.exec
  have hb := B.bytes
  have hr := B.returns
  have hts := atoms_spec (ws := wsX0_worthOfLetter) B.pre
  have hown : s.vm.findClass RX0 = some m.cls := findClass_of_methodNamed B.named
  have hlocks := B.notSynchronized
  have hin : ∀ w ∈ wsX00, w ∈ wsX0_worthOfLetter := fun _ h => List.mem_cons_of_mem _ (List.mem_append_right _ h)
  have ho : so cS < 3 := hC.1.2.2.2.1
  have hkk : k * k ≤ 26 * 26 := Nat.mul_le_mul (by omega) (by omega)
  have hl := lv_entry ([.ref (ad 0), .int (nI k)]) (n := 2) (Nat.le_of_ble_eq_true rfl)
  rw [lg_entry_eq]
  generalize (lg_sl ([.ref (ad 0), .int (nI k)]) ++ List.replicate (2 - (lg_sl ([.ref (ad 0), .int (nI k)])).length) Slot.unset).toArray = ls at hl ⊢
  have hl : lv_has ls 2 [(0, .ref (ad 0)), (1, .int (nI k))] := hl
  refine lv_aload_n hx hb dX0_worthOfLetter_0 rfl (lv_at hl 0 rfl) ?_
  refine r_g0 hC hx hb hts hin hown 0 (by decide) (hts (.fieldLink RX0 9 "AbjadPoems" "order" "I") (by decide +kernel)) rfl dX0_worthOfLetter_1 ?_
  refine lv_iconst (v := nI 2) hx hb dX0_worthOfLetter_4 (by decide) ?_
  refine lv_icmp_ne (tgt := 20) hx hb dX0_worthOfLetter_5 (by decide) (fun c_5 => ?_) (fun c_5 => ?_)
  · skip
    have n_5 : ¬ so cS = 2 := fun q__ => c_5 ((nI_eq (a := so cS) (b := 2) (by omega) (by omega)).mpr q__)
    refine lv_aload_n hx hb dX0_worthOfLetter_20 rfl (lv_at hl 0 rfl) ?_
    refine r_g0 hC hx hb hts hin hown 0 (by decide) (hts (.fieldLink RX0 9 "AbjadPoems" "order" "I") (by decide +kernel)) rfl dX0_worthOfLetter_21 ?_
    refine lv_iconst (v := nI 1) hx hb dX0_worthOfLetter_24 (by decide) ?_
    refine lv_icmp_eq (tgt := 34) hx hb dX0_worthOfLetter_25 (by decide) (fun c_25 => ?_) (fun c_25 => ?_)
    · skip
      have n_25 : so cS = 1 := (nI_eq (a := so cS) (b := 1) (by omega) (by omega)).mp c_25
      have hE := vA2 _ ho k hk n_5 n_25
      refine lv_iload_n hx hb dX0_worthOfLetter_34 rfl (lv_at hl 1 rfl) ?_
      exact W.iret hx hb hr (fun t ht hW => ⟨_, rfl, (by show nI k = nI (vl_ (so cS) k); rw [← hE]), ht⟩) (fun q hq => absurd hq List.not_mem_nil) dX0_worthOfLetter_35
    · skip
      have n_25 : ¬ so cS = 1 := fun q__ => c_25 ((nI_eq (a := so cS) (b := 1) (by omega) (by omega)).mpr q__)
      refine lv_iload_n hx hb dX0_worthOfLetter_28 rfl (lv_at hl 1 rfl) ?_
      refine lv_bipush (v := nI 9) hx hb dX0_worthOfLetter_29 (by decide) ?_
      refine lv_icmp_gt (tgt := 36) hx hb dX0_worthOfLetter_31 (by decide) (fun c_31 => ?_) (fun c_31 => ?_)
      · skip
        have n_31 : 9 < k := (nI_ltI (a := 9) (b := k) (by omega) (by omega)).mp c_31
        refine lv_iload_n hx hb dX0_worthOfLetter_36 rfl (lv_at hl 1 rfl) ?_
        refine lv_bipush (v := nI 18) hx hb dX0_worthOfLetter_37 (by decide) ?_
        refine lv_icmp_gt (tgt := 52) hx hb dX0_worthOfLetter_39 (by decide) (fun c_39 => ?_) (fun c_39 => ?_)
        · skip
          have n_39 : 18 < k := (nI_ltI (a := 18) (b := k) (by omega) (by omega)).mp c_39
          have hE := vA5 _ ho k hk n_5 n_25 (by omega) (by omega)
          refine lv_iload_n hx hb dX0_worthOfLetter_52 rfl (lv_at hl 1 rfl) ?_
          refine lv_bipush (v := nI 18) hx hb dX0_worthOfLetter_53 (by decide) ?_
          refine lv_isub hx hb dX0_worthOfLetter_55 ?_
          refine lv_tn (pk_sub (by omega)) ?_
          refine lv_bipush (v := nI 100) hx hb dX0_worthOfLetter_56 (by decide) ?_
          refine lv_imul hx hb dX0_worthOfLetter_58 ?_
          refine lv_tn (pk_mul _ _) ?_
          exact W.iret hx hb hr (fun t ht hW => ⟨_, rfl, (by show nI ((k - 18) * 100) = nI (vl_ (so cS) k); rw [← hE]), ht⟩) (fun q hq => absurd hq List.not_mem_nil) dX0_worthOfLetter_59
        · skip
          have n_39 : ¬ 18 < k := fun q__ => c_39 ((nI_ltI (a := 18) (b := k) (by omega) (by omega)).mpr q__)
          have hE := vA4 _ ho k hk n_5 n_25 (by omega) (by omega)
          refine lv_iload_n hx hb dX0_worthOfLetter_42 rfl (lv_at hl 1 rfl) ?_
          refine lv_bipush (v := nI 9) hx hb dX0_worthOfLetter_43 (by decide) ?_
          refine lv_isub hx hb dX0_worthOfLetter_45 ?_
          refine lv_tn (pk_sub (by omega)) ?_
          refine lv_bipush (v := nI 10) hx hb dX0_worthOfLetter_46 (by decide) ?_
          refine lv_imul hx hb dX0_worthOfLetter_48 ?_
          refine lv_tn (pk_mul _ _) ?_
          refine lv_goto (tgt := 59) hx hb dX0_worthOfLetter_49 (by decide) ?_
          exact W.iret hx hb hr (fun t ht hW => ⟨_, rfl, (by show nI ((k - 9) * 10) = nI (vl_ (so cS) k); rw [← hE]), ht⟩) (fun q hq => absurd hq List.not_mem_nil) dX0_worthOfLetter_59
      · skip
        have n_31 : ¬ 9 < k := fun q__ => c_31 ((nI_ltI (a := 9) (b := k) (by omega) (by omega)).mpr q__)
        have hE := vA3 _ ho k hk n_5 n_25 (by omega)
        refine lv_iload_n hx hb dX0_worthOfLetter_34 rfl (lv_at hl 1 rfl) ?_
        exact W.iret hx hb hr (fun t ht hW => ⟨_, rfl, (by show nI k = nI (vl_ (so cS) k); rw [← hE]), ht⟩) (fun q hq => absurd hq List.not_mem_nil) dX0_worthOfLetter_35
  · skip
    have n_5 : so cS = 2 := (nI_eq (a := so cS) (b := 2) (by omega) (by omega)).mp c_5
    refine lv_iload_n hx hb dX0_worthOfLetter_8 rfl (lv_at hl 1 rfl) ?_
    refine lv_iload_n hx hb dX0_worthOfLetter_9 rfl (lv_at hl 1 rfl) ?_
    refine lv_imul hx hb dX0_worthOfLetter_10 ?_
    refine lv_tn (pk_mul _ _) ?_
    refine lv_bipush (v := nI 7) hx hb dX0_worthOfLetter_11 (by decide) ?_
    refine lv_imul hx hb dX0_worthOfLetter_13 ?_
    refine lv_tn (pk_mul _ _) ?_
    refine lv_bipush (v := nI 101) hx hb dX0_worthOfLetter_14 (by decide) ?_
    refine lv_irem hx hb dX0_worthOfLetter_16 (by decide) ?_
    refine lv_tn (pk_rem (by omega) (by decide) (by decide)) ?_
    refine lv_iconst (v := nI 1) hx hb dX0_worthOfLetter_17 (by decide) ?_
    refine lv_iadd hx hb dX0_worthOfLetter_18 ?_
    refine lv_tn (nI_add _ _) ?_
    exact W.iret hx hb hr (fun t ht hW => ⟨_, rfl, (by show nI ((((k * k) * 7) % 101) + 1) = nI (vl_ (so cS) k); rw [← vA1 _ ho k hk n_5]), ht⟩) (fun q hq => absurd hq List.not_mem_nil) dX0_worthOfLetter_19
