set_option maxHeartbeats 4000000 in
set_option maxRecDepth 100000 in
theorem c_X0_worthOfPlaces (l : Launch) (B0 : Nat) (g : va_G) (ct ad : Nat → Nat) (cS : St_) (mS : Pl_) (x : Ax_) (w mk : Nat) (hw : w < 387420489) (hm : mk < 64) : RI l yX0_worthOfPlaces wsX0_worthOfPlaces 1 (PX B0 g ct ad cS mS x [.ref (ad 0), .int (nI w), .int (nI mk)]) (nI (wm_ (so cS) w mk)) := by
  refine Met.ofW (cc := cX0_worthOfPlaces) (maxL := 6) (ret := (some .int)) (by decide) rfl ?_
  intro p e s m args below meth c s₁ B hml hv
  obtain ⟨rfl, hC⟩ := hv
  have hx := B.exec
  have hb := B.bytes
  have hr := B.returns
  have hts := atoms_spec (ws := wsX0_worthOfPlaces) B.pre
  have hown : s.vm.findClass RX0 = some m.cls := findClass_of_methodNamed B.named
  have hlocks := B.notSynchronized
  have hin : ∀ w ∈ wsX00, w ∈ wsX0_worthOfPlaces := fun _ h => List.mem_cons_of_mem _ (List.mem_append_right _ h)
  have h6 := ln_le hw
  have hl := lv_entry ([.ref (ad 0), .int (nI w), .int (nI mk)]) (n := 6) (Nat.le_of_ble_eq_true rfl)
  rw [lg_entry_eq]
  generalize (lg_sl ([.ref (ad 0), .int (nI w), .int (nI mk)]) ++ List.replicate (6 - (lg_sl ([.ref (ad 0), .int (nI w), .int (nI mk)])).length) Slot.unset).toArray = ls at hl ⊢
  have hl : lv_has ls 6 [(0, .ref (ad 0)), (1, .int (nI w)), (2, .int (nI mk))] := hl
  refine lv_iconst (v := nI 0) hx hb dX0_worthOfPlaces_0 (by decide) ?_
  refine lv_istore_n (lv' := [(3, .int (nI 0)), (0, .ref (ad 0)), (1, .int (nI w)), (2, .int (nI mk))]) hx hb dX0_worthOfPlaces_1 rfl hl (by decide) rfl (fun ls hl => ?_)
  refine lv_iload_n hx hb dX0_worthOfPlaces_2 rfl (lv_at hl 2 rfl) ?_
  refine lv_istore (lv' := [(4, .int (nI w)), (3, .int (nI 0)), (0, .ref (ad 0)), (1, .int (nI w)), (2, .int (nI mk))]) hx hb dX0_worthOfPlaces_3 hl (by decide) rfl (fun ls hl => ?_)
  refine lv_iload_n hx hb dX0_worthOfPlaces_5 rfl (lv_at hl 3 rfl) ?_
  refine k_pS (As := [.int (nI w)]) (rest := []) (c_X0_lengthOf l w (by omega)) ⟨hx, hb, hml, hown, hts⟩ (va_cwS 1 hts gX0_worthOfPlaces_X0_lengthOf rfl rfl rfl (by decide +kernel) ⟨Nat.le_of_ble_eq_true rfl, Nat.le_of_ble_eq_true rfl⟩) rfl hl.1 rfl (Nat.le_of_ble_eq_true rfl) dX0_worthOfPlaces_6 ⟨Nat.le_of_ble_eq_true rfl, Nat.le_of_ble_eq_true rfl⟩ ?_
  refine lv_iconst (v := nI 1) hx hb dX0_worthOfPlaces_9 (by decide) ?_
  refine lv_isub hx hb dX0_worthOfPlaces_10 ?_
  refine lv_istore (lv' := [(5, .int ((nI (ln_ w)) - (nI 1))), (4, .int (nI w)), (3, .int (nI 0)), (0, .ref (ad 0)), (1, .int (nI w)), (2, .int (nI mk))]) hx hb dX0_worthOfPlaces_11 hl (by decide) rfl (fun ls hl => ?_)
  have LP_13 : ∀ (n_ : Nat) (t : Nat) (r : Nat) (p1 : Nat), p1 < n_ → (t + wq_ (so cS) w mk p1 = wm_ (so cS) w mk) → (r = w / 27 ^ (ln_ w - p1)) → (p1 ≤ ln_ w) → ∀ ls : Array Slot, lv_has ls 6 [(5, .int (nI p1 - nI 1)), (4, .int (nI r)), (3, .int (nI t)), (0, .ref (ad 0)), (1, .int (nI w)), (2, .int (nI mk))] → W p l e (headSpec wsX0_worthOfPlaces (rm_ 1 0 0)).room s m ([.ref (ad 0), .int (nI w), .int (nI mk)] : List Value).toArray below meth c s.heap [] 0 0 (MQ below (vp_Si (fun r => r = nI (wm_ (so cS) w mk))) ([.ref (ad 0), .int (nI w), .int (nI mk)] : List Value).toArray s 0 0 (fun _ => False)) (F0 m 13 ls []) := by
    intro n_
    induction n_ with
    | zero => intro t r p1 hm; exact absurd hm (Nat.not_lt_zero _)
    | succ n_ ih_13 =>
      intro t r p1 hm ht hr_ hp ls hl
      have hrb : r < 387420489 := by rw [hr_]; exact Nat.lt_of_le_of_lt (Nat.div_le_self _ _) hw
      refine lv_iload hx hb dX0_worthOfPlaces_13 (lv_at hl 0 rfl) ?_
      refine lv_if_lt (tgt := 52) hx hb dX0_worthOfPlaces_15 (by decide) (fun c_15 => ?_) (fun c_15 => ?_)
      · skip
        have n_15 : p1 = 0 := (pm_ (by omega)).mp c_15
        have hE : t = wm_ (so cS) w mk := by rw [n_15] at ht; exact ht
        refine lv_iload_n hx hb dX0_worthOfPlaces_52 rfl (lv_at hl 2 rfl) ?_
        exact W.iret hx hb hr (fun t ht hW => ⟨_, rfl, (congrArg nI hE), ht⟩) (fun q hq => absurd hq List.not_mem_nil) dX0_worthOfPlaces_53
      · skip
        have n_15 : ¬ p1 = 0 := fun q => c_15 ((pm_ (by omega)).mpr q)
        have hl : lv_has ls 6 [(5, .int (nI (p1 - 1))), (4, .int (nI r)), (3, .int (nI t)), (0, .ref (ad 0)), (1, .int (nI w)), (2, .int (nI mk))] := (by rw [pk_sub (show 1 ≤ p1 by omega)] at hl; exact hl)
        refine lv_iload_n hx hb dX0_worthOfPlaces_18 rfl (lv_at hl 5 rfl) ?_
        refine lv_iload hx hb dX0_worthOfPlaces_19 (lv_at hl 0 rfl) ?_
        refine k_pS (As := [.int (nI mk), .int (nI (p1 - 1))]) (rest := []) (c_X0_isMarked l mk (p1 - 1) (by omega) (by omega)) ⟨hx, hb, hml, hown, hts⟩ (va_cwS 2 hts gX0_worthOfPlaces_X0_isMarked rfl rfl rfl (by decide +kernel) ⟨Nat.le_of_ble_eq_true rfl, Nat.le_of_ble_eq_true rfl⟩) rfl hl.1 rfl (Nat.le_of_ble_eq_true rfl) dX0_worthOfPlaces_21 ⟨Nat.le_of_ble_eq_true rfl, Nat.le_of_ble_eq_true rfl⟩ ?_
        refine lv_if_eq (tgt := 39) hx hb dX0_worthOfPlaces_24 (by decide) (fun c_24 => ?_) (fun c_24 => ?_)
        · skip
          have n_24 := b2_0.mp c_24
          refine lv_iload hx hb dX0_worthOfPlaces_39 (lv_at hl 1 rfl) ?_
          refine lv_bipush (v := nI 27) hx hb dX0_worthOfPlaces_41 (by decide) ?_
          refine lv_idiv hx hb dX0_worthOfPlaces_43 (by decide) ?_
          refine lv_tn (pk_div (by omega) (by decide) (by decide)) ?_
          refine lv_istore (lv' := [(4, .int (nI (r / 27))), (5, .int (nI (p1 - 1))), (3, .int (nI t)), (0, .ref (ad 0)), (1, .int (nI w)), (2, .int (nI mk))]) hx hb dX0_worthOfPlaces_44 hl (by decide) rfl (fun ls hl => ?_)
          refine lv_iinc (v := nI (p1 - 1) - nI 1) (lv' := [(5, .int (nI (p1 - 1) - nI 1)), (4, .int (nI (r / 27))), (3, .int (nI t)), (0, .ref (ad 0)), (1, .int (nI w)), (2, .int (nI mk))]) hx hb dX0_worthOfPlaces_46 hl (k := 1) rfl (im1_ _) (by decide) rfl (fun ls hl => ?_)
          refine lv_goto (tgt := 13) hx hb dX0_worthOfPlaces_49 (by decide) ?_
          exact ih_13 t (r / 27) (p1 - 1) (by omega) (by first | (have h9 := wq_t (o := so cS) (w := w) (m := mk) (p := p1) (by omega) n_24; omega) | (have h9 := wq_f (o := so cS) (w := w) (m := mk) (p := p1) (by omega) n_24; omega)) (by rw [hr_, dv_, show ln_ w - p1 + 1 = ln_ w - (p1 - 1) by omega]) (by omega) ls (lv_sub hl [0, 1, 2, 3, 4, 5] rfl)
        · skip
          have n_24 := b2_ne c_24
          refine lv_iload_n hx hb dX0_worthOfPlaces_27 rfl (lv_at hl 2 rfl) ?_
          refine lv_aload_n hx hb dX0_worthOfPlaces_28 rfl (lv_at hl 3 rfl) ?_
          refine lv_iload hx hb dX0_worthOfPlaces_29 (lv_at hl 1 rfl) ?_
          refine lv_bipush (v := nI 27) hx hb dX0_worthOfPlaces_31 (by decide) ?_
          refine lv_irem hx hb dX0_worthOfPlaces_33 (by decide) ?_
          refine lv_tn (pk_rem (by omega) (by decide) (by decide)) ?_
          refine lv_tn (w := nI (at_ w (p1 - 1))) (by unfold at_; rw [hr_, show ln_ w - 1 - (p1 - 1) = ln_ w - p1 by omega]) ?_
          refine k_rV (As := [.int (nI (at_ w (p1 - 1)))]) (rest := [.int (nI t)]) (c_X0_worthOfLetter l B0 g ct ad cS mS x (at_ w (p1 - 1)) (at_lt _ _)) hC ⟨hx, hb, hml, hown, hts⟩ (cwV 1 hts gX0_worthOfPlaces_X0_worthOfLetter rfl rfl rfl (by decide +kernel) ⟨Nat.le_of_ble_eq_true rfl, Nat.le_of_ble_eq_true rfl⟩) (rc0 hC) rfl hl.1 rfl (Nat.le_of_ble_eq_true rfl) dX0_worthOfPlaces_34 ⟨Nat.le_of_ble_eq_true rfl, Nat.le_of_ble_eq_true rfl⟩ ?_
          refine lv_iadd hx hb dX0_worthOfPlaces_37 ?_
          refine lv_tn (nI_add _ _) ?_
          refine lv_istore_n (lv' := [(3, .int (nI (t + (vl_ (so cS) (at_ w (p1 - 1)))))), (5, .int (nI (p1 - 1))), (4, .int (nI r)), (0, .ref (ad 0)), (1, .int (nI w)), (2, .int (nI mk))]) hx hb dX0_worthOfPlaces_38 rfl hl (by decide) rfl (fun ls hl => ?_)
          refine lv_iload hx hb dX0_worthOfPlaces_39 (lv_at hl 2 rfl) ?_
          refine lv_bipush (v := nI 27) hx hb dX0_worthOfPlaces_41 (by decide) ?_
          refine lv_idiv hx hb dX0_worthOfPlaces_43 (by decide) ?_
          refine lv_tn (pk_div (by omega) (by decide) (by decide)) ?_
          refine lv_istore (lv' := [(4, .int (nI (r / 27))), (3, .int (nI (t + (vl_ (so cS) (at_ w (p1 - 1)))))), (5, .int (nI (p1 - 1))), (0, .ref (ad 0)), (1, .int (nI w)), (2, .int (nI mk))]) hx hb dX0_worthOfPlaces_44 hl (by decide) rfl (fun ls hl => ?_)
          refine lv_iinc (v := nI (p1 - 1) - nI 1) (lv' := [(5, .int (nI (p1 - 1) - nI 1)), (4, .int (nI (r / 27))), (3, .int (nI (t + (vl_ (so cS) (at_ w (p1 - 1)))))), (0, .ref (ad 0)), (1, .int (nI w)), (2, .int (nI mk))]) hx hb dX0_worthOfPlaces_46 hl (k := 2) rfl (im1_ _) (by decide) rfl (fun ls hl => ?_)
          refine lv_goto (tgt := 13) hx hb dX0_worthOfPlaces_49 (by decide) ?_
          exact ih_13 (t + (vl_ (so cS) (at_ w (p1 - 1)))) (r / 27) (p1 - 1) (by omega) (by first | (have h9 := wq_t (o := so cS) (w := w) (m := mk) (p := p1) (by omega) n_24; omega) | (have h9 := wq_f (o := so cS) (w := w) (m := mk) (p := p1) (by omega) n_24; omega)) (by rw [hr_, dv_, show ln_ w - p1 + 1 = ln_ w - (p1 - 1) by omega]) (by omega) ls (lv_sub hl [0, 1, 2, 3, 4, 5] rfl)
  exact LP_13 _ 0 w (ln_ w) (Nat.lt_succ_self _) (Nat.zero_add _) (by rw [Nat.sub_self]; simp) (Nat.le_refl _) ls (lv_sub hl [0, 1, 2, 3, 4, 5] rfl)
set_option maxHeartbeats 4000000 in
set_option maxRecDepth 100000 in
theorem c_X0_isWord_a (l : Launch) (w : Int32) (hle : w ≤ 0) : RI l yX0_isWord wsX0_isWord 0 (va_Pc [.int w] (fun _ => True)) (b2_ (wd_ w)) := by
  refine Met.ofW (cc := cX0_isWord) (maxL := 3) (ret := (some .boolean)) (by decide) rfl ?_
  intro p e s m args below meth c s₁ B hml hv
  obtain ⟨rfl, -⟩ := hv
  have hx := B.exec
  have hb := B.bytes
  have hr := B.returns
  have hts := atoms_spec (ws := wsX0_isWord) B.pre
  have hown : s.vm.findClass RX0 = some m.cls := findClass_of_methodNamed B.named
  have hlocks := B.notSynchronized
  have hE := wd_0 hle
  have hl := lv_entry ([.int w]) (n := 3) (Nat.le_of_ble_eq_true rfl)
  rw [lg_entry_eq]
  generalize (lg_sl ([.int w]) ++ List.replicate (3 - (lg_sl ([.int w])).length) Slot.unset).toArray = ls at hl ⊢
  have hl : lv_has ls 3 [(0, .int w)] := hl
  refine lv_iload_n hx hb dX0_isWord_0 rfl (lv_at hl 0 rfl) ?_
  refine lv_if_le (tgt := 10) hx hb dX0_isWord_1 (by decide) (fun c_1 => ?_) (fun c_1 => ?_)
  · skip
    refine lv_iconst (v := nI 0) hx hb dX0_isWord_10 (by decide) ?_
    exact W.zret hx hb hr rfl (fun t ht hW => ⟨_, rfl, (by show nI 0 = b2_ (wd_ w); rw [hE]; rfl), ht⟩) (fun q hq => absurd hq List.not_mem_nil) dX0_isWord_11
  · skip
    exact absurd hle c_1
set_option maxHeartbeats 4000000 in
set_option maxRecDepth 100000 in
theorem c_X0_isWord_b (l : Launch) (n : Nat) (h0 : 0 < n) (hn : n < 2 ^ 31) : RI l yX0_isWord wsX0_isWord 0 (va_Pc [.int (nI n)] (fun _ => True)) (b2_ (iw_ n)) := by
  refine Met.ofW (cc := cX0_isWord) (maxL := 3) (ret := (some .boolean)) (by decide) rfl ?_
  intro p e s m args below meth c s₁ B hml hv
  obtain ⟨rfl, -⟩ := hv
  have hx := B.exec
  have hb := B.bytes
  have hr := B.returns
  have hts := atoms_spec (ws := wsX0_isWord) B.pre
  have hown : s.vm.findClass RX0 = some m.cls := findClass_of_methodNamed B.named
  have hlocks := B.notSynchronized
  have hl := lv_entry ([.int (nI n)]) (n := 3) (Nat.le_of_ble_eq_true rfl)
  rw [lg_entry_eq]
  generalize (lg_sl ([.int (nI n)]) ++ List.replicate (3 - (lg_sl ([.int (nI n)])).length) Slot.unset).toArray = ls at hl ⊢
  have hl : lv_has ls 3 [(0, .int (nI n))] := hl
  refine lv_iload_n hx hb dX0_isWord_0 rfl (lv_at hl 0 rfl) ?_
  refine lv_if_le (tgt := 10) hx hb dX0_isWord_1 (by decide) (fun c_1 => ?_) (fun c_1 => ?_)
  · skip
    have n_1 : n = 0 := (nle0_ (by omega)).mp c_1
    exact absurd n_1 (by omega)
  · skip
    have n_1 : 0 < n := Nat.pos_of_ne_zero (fun q__ => c_1 ((nle0_ (by omega)).mpr q__))
    refine lv_iload_n hx hb dX0_isWord_4 rfl (lv_at hl 0 rfl) ?_
    refine lv_ldc hx hb hown (hts (.constant RX0 150 (387420489)) (by decide +kernel)) dX0_isWord_5 ?_
    refine lv_tn (w := nI 387420489) (by decide) ?_
    refine lv_icmp_lt (tgt := 12) hx hb dX0_isWord_7 (by decide) (fun c_7 => ?_) (fun c_7 => ?_)
    · skip
      have n_7 : n < 387420489 := (nI_ltI (a := n) (b := 387420489) (by omega) (by omega)).mp c_7
      refine lv_iload_n hx hb dX0_isWord_12 rfl (lv_at hl 0 rfl) ?_
      refine lv_istore_n (lv' := [(1, .int (nI n)), (0, .int (nI n))]) hx hb dX0_isWord_13 rfl hl (by decide) rfl (fun ls hl => ?_)
      refine lv_iconst (v := nI 0) hx hb dX0_isWord_14 (by decide) ?_
      refine lv_istore_n (lv' := [(2, .int (nI 0)), (1, .int (nI n)), (0, .int (nI n))]) hx hb dX0_isWord_15 rfl hl (by decide) rfl (fun ls hl => ?_)
      have LP_16 : ∀ (n_ : Nat) (k : Nat) (r : Nat), 6 - k < n_ → (nz_ (7 - k) r = nz_ 7 n) → (r < 27 ^ (6 - k)) → (k ≤ 6) → (r ≤ n) → ∀ ls : Array Slot, lv_has ls 3 [(2, .int (nI k)), (1, .int (nI r)), (0, .int (nI n))] → W p l e (headSpec wsX0_isWord (rm_ 0 0 0)).room s m ([.int (nI n)] : List Value).toArray below meth c s.heap [] 0 0 (MQ below (vp_Si (fun r => r = b2_ (iw_ n))) ([.int (nI n)] : List Value).toArray s 0 0 (fun _ => False)) (F0 m 16 ls []) := by
        intro n_
        induction n_ with
        | zero => intro k r hm; exact absurd hm (Nat.not_lt_zero _)
        | succ n_ ih_16 =>
          intro k r hm h1 h2 hk hr_ ls hl
          refine lv_iload_n hx hb dX0_isWord_16 rfl (lv_at hl 0 rfl) ?_
          refine lv_bipush (v := nI 6) hx hb dX0_isWord_17 (by decide) ?_
          refine lv_icmp_ge (tgt := 46) hx hb dX0_isWord_19 (by decide) (fun c_19 => ?_) (fun c_19 => ?_)
          · skip
            have n_19 : 6 ≤ k := (nI_leI (a := 6) (b := k) (by omega) (by omega)).mp c_19
            have hr0 : r = 0 := by rw [show k = 6 by omega] at h2; simpa using h2
            have hE : iw_ n = true := iw_y h0 n_7 (by rw [← h1, hr0, nz_0])
            refine lv_iconst (v := nI 1) hx hb dX0_isWord_46 (by decide) ?_
            exact W.zret hx hb hr rfl (fun t ht hW => ⟨_, rfl, (by show nI 1 = b2_ (iw_ n); rw [hE]; rfl), ht⟩) (fun q hq => absurd hq List.not_mem_nil) dX0_isWord_47
          · skip
            have n_19 : ¬ 6 ≤ k := fun q__ => c_19 ((nI_leI (a := 6) (b := k) (by omega) (by omega)).mpr q__)
            refine lv_iload_n hx hb dX0_isWord_22 rfl (lv_at hl 1 rfl) ?_
            refine lv_if_le (tgt := 46) hx hb dX0_isWord_23 (by decide) (fun c_23 => ?_) (fun c_23 => ?_)
            · skip
              have n_23 : r = 0 := (nle0_ (by omega)).mp c_23
              have hE : iw_ n = true := iw_y h0 n_7 (by rw [← h1, n_23, nz_0])
              refine lv_iconst (v := nI 1) hx hb dX0_isWord_46 (by decide) ?_
              exact W.zret hx hb hr rfl (fun t ht hW => ⟨_, rfl, (by show nI 1 = b2_ (iw_ n); rw [hE]; rfl), ht⟩) (fun q hq => absurd hq List.not_mem_nil) dX0_isWord_47
            · skip
              have n_23 : 0 < r := Nat.pos_of_ne_zero (fun q__ => c_23 ((nle0_ (by omega)).mpr q__))
              refine lv_iload_n hx hb dX0_isWord_26 rfl (lv_at hl 1 rfl) ?_
              refine lv_bipush (v := nI 27) hx hb dX0_isWord_27 (by decide) ?_
              refine lv_irem hx hb dX0_isWord_29 (by decide) ?_
              refine lv_tn (pk_rem (by omega) (by decide) (by decide)) ?_
              refine lv_if_ne (tgt := 35) hx hb dX0_isWord_30 (by decide) (fun c_30 => ?_) (fun c_30 => ?_)
              · skip
                have n_30 : ¬ r % 27 = 0 := fun q__ => c_30 ((eq0_ (by omega)).mpr q__)
                refine lv_iload_n hx hb dX0_isWord_35 rfl (lv_at hl 1 rfl) ?_
                refine lv_bipush (v := nI 27) hx hb dX0_isWord_36 (by decide) ?_
                refine lv_idiv hx hb dX0_isWord_38 (by decide) ?_
                refine lv_tn (pk_div (by omega) (by decide) (by decide)) ?_
                refine lv_istore_n (lv' := [(1, .int (nI (r / 27))), (2, .int (nI k)), (0, .int (nI n))]) hx hb dX0_isWord_39 rfl hl (by decide) rfl (fun ls hl => ?_)
                refine lv_iinc (v := nI (k + 1)) (lv' := [(2, .int (nI (k + 1))), (1, .int (nI (r / 27))), (0, .int (nI n))]) hx hb dX0_isWord_40 hl (k := 1) rfl (nI_1 _) (by decide) rfl (fun ls hl => ?_)
                refine lv_goto (tgt := 16) hx hb dX0_isWord_43 (by decide) ?_
                exact ih_16 (k + 1) (r / 27) (by omega) (by rw [← h1, show 7 - k = (7 - (k + 1)) + 1 by omega, nz_y (by omega) n_30]) (pw_ (by omega) h2) (by omega) (by omega) ls (lv_sub hl [0, 1, 2] rfl)
              · skip
                have n_30 : r % 27 = 0 := (eq0_ (by omega)).mp c_30
                have hz : nz_ 7 n = false := by rw [← h1, show 7 - k = (6 - k) + 1 by omega, nz_n (by omega) n_30]
                have hE : iw_ n = false := iw_n hz
                refine lv_iconst (v := nI 0) hx hb dX0_isWord_33 (by decide) ?_
                exact W.zret hx hb hr rfl (fun t ht hW => ⟨_, rfl, (by show nI 0 = b2_ (iw_ n); rw [hE]; rfl), ht⟩) (fun q hq => absurd hq List.not_mem_nil) dX0_isWord_34
      exact LP_16 _ 0 n (Nat.lt_succ_self _) rfl (by show n < 27 ^ 6; omega) (by omega) (by omega) ls (lv_sub hl [0, 1, 2] rfl)
    · skip
      have n_7 : ¬ n < 387420489 := fun q__ => c_7 ((nI_ltI (a := n) (b := 387420489) (by omega) (by omega)).mpr q__)
      have hE : iw_ n = false := iw_b n_7
      refine lv_iconst (v := nI 0) hx hb dX0_isWord_10 (by decide) ?_
      exact W.zret hx hb hr rfl (fun t ht hW => ⟨_, rfl, (by show nI 0 = b2_ (iw_ n); rw [hE]; rfl), ht⟩) (fun q hq => absurd hq List.not_mem_nil) dX0_isWord_11
theorem c_X0_isWord (l : Launch) (w : Int32) : RI l yX0_isWord wsX0_isWord 0 (va_Pc [.int w] (fun _ => True)) (b2_ (wd_ w)) := by
  by_cases h : w ≤ 0
  · exact c_X0_isWord_a l w h
  · obtain ⟨n, hn, rfl⟩ := nI_of (x := w) (fun z => h (Int32.le_of_lt z))
    have h0 : 0 < n := (gt0_ hn).mp (gt_i h)
    rw [wd_n hn]
    exact c_X0_isWord_b l n h0 hn
theorem bc_ : ∀ mk, mk < 64 → ((((((((nI mk) - ((((nI mk).toUInt32 >>> ((nI 1).toUInt32 &&& Int32.toUInt32 31)).toInt32) &&& (nI 1431655765))) &&& (nI 858993459)) + (((((nI mk) - ((((nI mk).toUInt32 >>> ((nI 1).toUInt32 &&& Int32.toUInt32 31)).toInt32) &&& (nI 1431655765))).toUInt32 >>> ((nI 2).toUInt32 &&& Int32.toUInt32 31)).toInt32) &&& (nI 858993459))) + ((((((nI mk) - ((((nI mk).toUInt32 >>> ((nI 1).toUInt32 &&& Int32.toUInt32 31)).toInt32) &&& (nI 1431655765))) &&& (nI 858993459)) + (((((nI mk) - ((((nI mk).toUInt32 >>> ((nI 1).toUInt32 &&& Int32.toUInt32 31)).toInt32) &&& (nI 1431655765))).toUInt32 >>> ((nI 2).toUInt32 &&& Int32.toUInt32 31)).toInt32) &&& (nI 858993459))).toUInt32 >>> ((nI 4).toUInt32 &&& Int32.toUInt32 31)).toInt32)) &&& (nI 252645135)) + ((((((((nI mk) - ((((nI mk).toUInt32 >>> ((nI 1).toUInt32 &&& Int32.toUInt32 31)).toInt32) &&& (nI 1431655765))) &&& (nI 858993459)) + (((((nI mk) - ((((nI mk).toUInt32 >>> ((nI 1).toUInt32 &&& Int32.toUInt32 31)).toInt32) &&& (nI 1431655765))).toUInt32 >>> ((nI 2).toUInt32 &&& Int32.toUInt32 31)).toInt32) &&& (nI 858993459))) + ((((((nI mk) - ((((nI mk).toUInt32 >>> ((nI 1).toUInt32 &&& Int32.toUInt32 31)).toInt32) &&& (nI 1431655765))) &&& (nI 858993459)) + (((((nI mk) - ((((nI mk).toUInt32 >>> ((nI 1).toUInt32 &&& Int32.toUInt32 31)).toInt32) &&& (nI 1431655765))).toUInt32 >>> ((nI 2).toUInt32 &&& Int32.toUInt32 31)).toInt32) &&& (nI 858993459))).toUInt32 >>> ((nI 4).toUInt32 &&& Int32.toUInt32 31)).toInt32)) &&& (nI 252645135)).toUInt32 >>> ((nI 8).toUInt32 &&& Int32.toUInt32 31)).toInt32)) + (((((((((nI mk) - ((((nI mk).toUInt32 >>> ((nI 1).toUInt32 &&& Int32.toUInt32 31)).toInt32) &&& (nI 1431655765))) &&& (nI 858993459)) + (((((nI mk) - ((((nI mk).toUInt32 >>> ((nI 1).toUInt32 &&& Int32.toUInt32 31)).toInt32) &&& (nI 1431655765))).toUInt32 >>> ((nI 2).toUInt32 &&& Int32.toUInt32 31)).toInt32) &&& (nI 858993459))) + ((((((nI mk) - ((((nI mk).toUInt32 >>> ((nI 1).toUInt32 &&& Int32.toUInt32 31)).toInt32) &&& (nI 1431655765))) &&& (nI 858993459)) + (((((nI mk) - ((((nI mk).toUInt32 >>> ((nI 1).toUInt32 &&& Int32.toUInt32 31)).toInt32) &&& (nI 1431655765))).toUInt32 >>> ((nI 2).toUInt32 &&& Int32.toUInt32 31)).toInt32) &&& (nI 858993459))).toUInt32 >>> ((nI 4).toUInt32 &&& Int32.toUInt32 31)).toInt32)) &&& (nI 252645135)) + ((((((((nI mk) - ((((nI mk).toUInt32 >>> ((nI 1).toUInt32 &&& Int32.toUInt32 31)).toInt32) &&& (nI 1431655765))) &&& (nI 858993459)) + (((((nI mk) - ((((nI mk).toUInt32 >>> ((nI 1).toUInt32 &&& Int32.toUInt32 31)).toInt32) &&& (nI 1431655765))).toUInt32 >>> ((nI 2).toUInt32 &&& Int32.toUInt32 31)).toInt32) &&& (nI 858993459))) + ((((((nI mk) - ((((nI mk).toUInt32 >>> ((nI 1).toUInt32 &&& Int32.toUInt32 31)).toInt32) &&& (nI 1431655765))) &&& (nI 858993459)) + (((((nI mk) - ((((nI mk).toUInt32 >>> ((nI 1).toUInt32 &&& Int32.toUInt32 31)).toInt32) &&& (nI 1431655765))).toUInt32 >>> ((nI 2).toUInt32 &&& Int32.toUInt32 31)).toInt32) &&& (nI 858993459))).toUInt32 >>> ((nI 4).toUInt32 &&& Int32.toUInt32 31)).toInt32)) &&& (nI 252645135)).toUInt32 >>> ((nI 8).toUInt32 &&& Int32.toUInt32 31)).toInt32)).toUInt32 >>> ((nI 16).toUInt32 &&& Int32.toUInt32 31)).toInt32)) &&& (nI 63) = nI (qs_ (fun p => if mk.testBit p then 1 else 0) 6) := by decide +kernel
set_option maxHeartbeats 4000000 in
set_option maxRecDepth 100000 in
theorem c_J6_bitCount_0f7a4 (l : Launch) (mk : Nat) (hm : mk < 64) : RI l yJ6_bitCount_0f7a4 wsJ6_bitCount_0f7a4 0 (va_Pc [.int (nI mk)] (fun _ => True)) (nI (qs_ (fun p => if mk.testBit p then 1 else 0) 6)) := by
  refine Met.ofW (cc := cJ6_bitCount_0f7a4) (maxL := 1) (ret := (some .int)) (by decide) rfl ?_
  intro p e s m args below meth c s₁ B hml hv
  obtain ⟨rfl, -⟩ := hv
  have hx := B.exec
  have hb := B.bytes
  have hr := B.returns
  have hts := atoms_spec (ws := wsJ6_bitCount_0f7a4) B.pre
  have hown : s.vm.findClass RJ6 = some m.cls := findClass_of_methodNamed B.named
  have hlocks := B.notSynchronized
  have hl := lv_entry ([.int (nI mk)]) (n := 1) (Nat.le_of_ble_eq_true rfl)
  rw [lg_entry_eq]
  generalize (lg_sl ([.int (nI mk)]) ++ List.replicate (1 - (lg_sl ([.int (nI mk)])).length) Slot.unset).toArray = ls at hl ⊢
  have hl : lv_has ls 1 [(0, .int (nI mk))] := hl
  refine lv_iload_n hx hb dJ6_bitCount_0f7a4_0 rfl (lv_at hl 0 rfl) ?_
  refine lv_iload_n hx hb dJ6_bitCount_0f7a4_1 rfl (lv_at hl 0 rfl) ?_
  refine lv_iconst (v := nI 1) hx hb dJ6_bitCount_0f7a4_2 (by decide) ?_
  refine lv_iushr (v := ((nI mk).toUInt32 >>> ((nI 1).toUInt32 &&& Int32.toUInt32 31)).toInt32) hx hb dJ6_bitCount_0f7a4_3 rfl ?_
  refine lv_ldcw hx hb hown (hts (.constant RJ6 265 (1431655765)) (by decide +kernel)) dJ6_bitCount_0f7a4_4 ?_
  refine lv_tn (w := nI 1431655765) (by decide) ?_
  refine lv_iand hx hb dJ6_bitCount_0f7a4_7 ?_
  refine lv_isub hx hb dJ6_bitCount_0f7a4_8 ?_
  refine lv_istore_n (lv' := [(0, .int ((nI mk) - ((((nI mk).toUInt32 >>> ((nI 1).toUInt32 &&& Int32.toUInt32 31)).toInt32) &&& (nI 1431655765))))]) hx hb dJ6_bitCount_0f7a4_9 rfl hl (by decide) rfl (fun ls hl => ?_)
  refine lv_iload_n hx hb dJ6_bitCount_0f7a4_10 rfl (lv_at hl 0 rfl) ?_
  refine lv_ldcw hx hb hown (hts (.constant RJ6 266 (858993459)) (by decide +kernel)) dJ6_bitCount_0f7a4_11 ?_
  refine lv_tn (w := nI 858993459) (by decide) ?_
  refine lv_iand hx hb dJ6_bitCount_0f7a4_14 ?_
  refine lv_iload_n hx hb dJ6_bitCount_0f7a4_15 rfl (lv_at hl 0 rfl) ?_
  refine lv_iconst (v := nI 2) hx hb dJ6_bitCount_0f7a4_16 (by decide) ?_
  refine lv_iushr (v := (((nI mk) - ((((nI mk).toUInt32 >>> ((nI 1).toUInt32 &&& Int32.toUInt32 31)).toInt32) &&& (nI 1431655765))).toUInt32 >>> ((nI 2).toUInt32 &&& Int32.toUInt32 31)).toInt32) hx hb dJ6_bitCount_0f7a4_17 rfl ?_
  refine lv_ldcw hx hb hown (hts (.constant RJ6 266 (858993459)) (by decide +kernel)) dJ6_bitCount_0f7a4_18 ?_
  refine lv_tn (w := nI 858993459) (by decide) ?_
  refine lv_iand hx hb dJ6_bitCount_0f7a4_21 ?_
  refine lv_iadd hx hb dJ6_bitCount_0f7a4_22 ?_
  refine lv_istore_n (lv' := [(0, .int ((((nI mk) - ((((nI mk).toUInt32 >>> ((nI 1).toUInt32 &&& Int32.toUInt32 31)).toInt32) &&& (nI 1431655765))) &&& (nI 858993459)) + (((((nI mk) - ((((nI mk).toUInt32 >>> ((nI 1).toUInt32 &&& Int32.toUInt32 31)).toInt32) &&& (nI 1431655765))).toUInt32 >>> ((nI 2).toUInt32 &&& Int32.toUInt32 31)).toInt32) &&& (nI 858993459))))]) hx hb dJ6_bitCount_0f7a4_23 rfl hl (by decide) rfl (fun ls hl => ?_)
  refine lv_iload_n hx hb dJ6_bitCount_0f7a4_24 rfl (lv_at hl 0 rfl) ?_
  refine lv_iload_n hx hb dJ6_bitCount_0f7a4_25 rfl (lv_at hl 0 rfl) ?_
  refine lv_iconst (v := nI 4) hx hb dJ6_bitCount_0f7a4_26 (by decide) ?_
  refine lv_iushr (v := (((((nI mk) - ((((nI mk).toUInt32 >>> ((nI 1).toUInt32 &&& Int32.toUInt32 31)).toInt32) &&& (nI 1431655765))) &&& (nI 858993459)) + (((((nI mk) - ((((nI mk).toUInt32 >>> ((nI 1).toUInt32 &&& Int32.toUInt32 31)).toInt32) &&& (nI 1431655765))).toUInt32 >>> ((nI 2).toUInt32 &&& Int32.toUInt32 31)).toInt32) &&& (nI 858993459))).toUInt32 >>> ((nI 4).toUInt32 &&& Int32.toUInt32 31)).toInt32) hx hb dJ6_bitCount_0f7a4_27 rfl ?_
  refine lv_iadd hx hb dJ6_bitCount_0f7a4_28 ?_
  refine lv_ldcw hx hb hown (hts (.constant RJ6 267 (252645135)) (by decide +kernel)) dJ6_bitCount_0f7a4_29 ?_
  refine lv_tn (w := nI 252645135) (by decide) ?_
  refine lv_iand hx hb dJ6_bitCount_0f7a4_32 ?_
  refine lv_istore_n (lv' := [(0, .int ((((((nI mk) - ((((nI mk).toUInt32 >>> ((nI 1).toUInt32 &&& Int32.toUInt32 31)).toInt32) &&& (nI 1431655765))) &&& (nI 858993459)) + (((((nI mk) - ((((nI mk).toUInt32 >>> ((nI 1).toUInt32 &&& Int32.toUInt32 31)).toInt32) &&& (nI 1431655765))).toUInt32 >>> ((nI 2).toUInt32 &&& Int32.toUInt32 31)).toInt32) &&& (nI 858993459))) + ((((((nI mk) - ((((nI mk).toUInt32 >>> ((nI 1).toUInt32 &&& Int32.toUInt32 31)).toInt32) &&& (nI 1431655765))) &&& (nI 858993459)) + (((((nI mk) - ((((nI mk).toUInt32 >>> ((nI 1).toUInt32 &&& Int32.toUInt32 31)).toInt32) &&& (nI 1431655765))).toUInt32 >>> ((nI 2).toUInt32 &&& Int32.toUInt32 31)).toInt32) &&& (nI 858993459))).toUInt32 >>> ((nI 4).toUInt32 &&& Int32.toUInt32 31)).toInt32)) &&& (nI 252645135)))]) hx hb dJ6_bitCount_0f7a4_33 rfl hl (by decide) rfl (fun ls hl => ?_)
  refine lv_iload_n hx hb dJ6_bitCount_0f7a4_34 rfl (lv_at hl 0 rfl) ?_
  refine lv_iload_n hx hb dJ6_bitCount_0f7a4_35 rfl (lv_at hl 0 rfl) ?_
  refine lv_bipush (v := nI 8) hx hb dJ6_bitCount_0f7a4_36 (by decide) ?_
  refine lv_iushr (v := (((((((nI mk) - ((((nI mk).toUInt32 >>> ((nI 1).toUInt32 &&& Int32.toUInt32 31)).toInt32) &&& (nI 1431655765))) &&& (nI 858993459)) + (((((nI mk) - ((((nI mk).toUInt32 >>> ((nI 1).toUInt32 &&& Int32.toUInt32 31)).toInt32) &&& (nI 1431655765))).toUInt32 >>> ((nI 2).toUInt32 &&& Int32.toUInt32 31)).toInt32) &&& (nI 858993459))) + ((((((nI mk) - ((((nI mk).toUInt32 >>> ((nI 1).toUInt32 &&& Int32.toUInt32 31)).toInt32) &&& (nI 1431655765))) &&& (nI 858993459)) + (((((nI mk) - ((((nI mk).toUInt32 >>> ((nI 1).toUInt32 &&& Int32.toUInt32 31)).toInt32) &&& (nI 1431655765))).toUInt32 >>> ((nI 2).toUInt32 &&& Int32.toUInt32 31)).toInt32) &&& (nI 858993459))).toUInt32 >>> ((nI 4).toUInt32 &&& Int32.toUInt32 31)).toInt32)) &&& (nI 252645135)).toUInt32 >>> ((nI 8).toUInt32 &&& Int32.toUInt32 31)).toInt32) hx hb dJ6_bitCount_0f7a4_38 rfl ?_
  refine lv_iadd hx hb dJ6_bitCount_0f7a4_39 ?_
  refine lv_istore_n (lv' := [(0, .int (((((((nI mk) - ((((nI mk).toUInt32 >>> ((nI 1).toUInt32 &&& Int32.toUInt32 31)).toInt32) &&& (nI 1431655765))) &&& (nI 858993459)) + (((((nI mk) - ((((nI mk).toUInt32 >>> ((nI 1).toUInt32 &&& Int32.toUInt32 31)).toInt32) &&& (nI 1431655765))).toUInt32 >>> ((nI 2).toUInt32 &&& Int32.toUInt32 31)).toInt32) &&& (nI 858993459))) + ((((((nI mk) - ((((nI mk).toUInt32 >>> ((nI 1).toUInt32 &&& Int32.toUInt32 31)).toInt32) &&& (nI 1431655765))) &&& (nI 858993459)) + (((((nI mk) - ((((nI mk).toUInt32 >>> ((nI 1).toUInt32 &&& Int32.toUInt32 31)).toInt32) &&& (nI 1431655765))).toUInt32 >>> ((nI 2).toUInt32 &&& Int32.toUInt32 31)).toInt32) &&& (nI 858993459))).toUInt32 >>> ((nI 4).toUInt32 &&& Int32.toUInt32 31)).toInt32)) &&& (nI 252645135)) + ((((((((nI mk) - ((((nI mk).toUInt32 >>> ((nI 1).toUInt32 &&& Int32.toUInt32 31)).toInt32) &&& (nI 1431655765))) &&& (nI 858993459)) + (((((nI mk) - ((((nI mk).toUInt32 >>> ((nI 1).toUInt32 &&& Int32.toUInt32 31)).toInt32) &&& (nI 1431655765))).toUInt32 >>> ((nI 2).toUInt32 &&& Int32.toUInt32 31)).toInt32) &&& (nI 858993459))) + ((((((nI mk) - ((((nI mk).toUInt32 >>> ((nI 1).toUInt32 &&& Int32.toUInt32 31)).toInt32) &&& (nI 1431655765))) &&& (nI 858993459)) + (((((nI mk) - ((((nI mk).toUInt32 >>> ((nI 1).toUInt32 &&& Int32.toUInt32 31)).toInt32) &&& (nI 1431655765))).toUInt32 >>> ((nI 2).toUInt32 &&& Int32.toUInt32 31)).toInt32) &&& (nI 858993459))).toUInt32 >>> ((nI 4).toUInt32 &&& Int32.toUInt32 31)).toInt32)) &&& (nI 252645135)).toUInt32 >>> ((nI 8).toUInt32 &&& Int32.toUInt32 31)).toInt32)))]) hx hb dJ6_bitCount_0f7a4_40 rfl hl (by decide) rfl (fun ls hl => ?_)
  refine lv_iload_n hx hb dJ6_bitCount_0f7a4_41 rfl (lv_at hl 0 rfl) ?_
  refine lv_iload_n hx hb dJ6_bitCount_0f7a4_42 rfl (lv_at hl 0 rfl) ?_
  refine lv_bipush (v := nI 16) hx hb dJ6_bitCount_0f7a4_43 (by decide) ?_
  refine lv_iushr (v := ((((((((nI mk) - ((((nI mk).toUInt32 >>> ((nI 1).toUInt32 &&& Int32.toUInt32 31)).toInt32) &&& (nI 1431655765))) &&& (nI 858993459)) + (((((nI mk) - ((((nI mk).toUInt32 >>> ((nI 1).toUInt32 &&& Int32.toUInt32 31)).toInt32) &&& (nI 1431655765))).toUInt32 >>> ((nI 2).toUInt32 &&& Int32.toUInt32 31)).toInt32) &&& (nI 858993459))) + ((((((nI mk) - ((((nI mk).toUInt32 >>> ((nI 1).toUInt32 &&& Int32.toUInt32 31)).toInt32) &&& (nI 1431655765))) &&& (nI 858993459)) + (((((nI mk) - ((((nI mk).toUInt32 >>> ((nI 1).toUInt32 &&& Int32.toUInt32 31)).toInt32) &&& (nI 1431655765))).toUInt32 >>> ((nI 2).toUInt32 &&& Int32.toUInt32 31)).toInt32) &&& (nI 858993459))).toUInt32 >>> ((nI 4).toUInt32 &&& Int32.toUInt32 31)).toInt32)) &&& (nI 252645135)) + ((((((((nI mk) - ((((nI mk).toUInt32 >>> ((nI 1).toUInt32 &&& Int32.toUInt32 31)).toInt32) &&& (nI 1431655765))) &&& (nI 858993459)) + (((((nI mk) - ((((nI mk).toUInt32 >>> ((nI 1).toUInt32 &&& Int32.toUInt32 31)).toInt32) &&& (nI 1431655765))).toUInt32 >>> ((nI 2).toUInt32 &&& Int32.toUInt32 31)).toInt32) &&& (nI 858993459))) + ((((((nI mk) - ((((nI mk).toUInt32 >>> ((nI 1).toUInt32 &&& Int32.toUInt32 31)).toInt32) &&& (nI 1431655765))) &&& (nI 858993459)) + (((((nI mk) - ((((nI mk).toUInt32 >>> ((nI 1).toUInt32 &&& Int32.toUInt32 31)).toInt32) &&& (nI 1431655765))).toUInt32 >>> ((nI 2).toUInt32 &&& Int32.toUInt32 31)).toInt32) &&& (nI 858993459))).toUInt32 >>> ((nI 4).toUInt32 &&& Int32.toUInt32 31)).toInt32)) &&& (nI 252645135)).toUInt32 >>> ((nI 8).toUInt32 &&& Int32.toUInt32 31)).toInt32)).toUInt32 >>> ((nI 16).toUInt32 &&& Int32.toUInt32 31)).toInt32) hx hb dJ6_bitCount_0f7a4_45 rfl ?_
  refine lv_iadd hx hb dJ6_bitCount_0f7a4_46 ?_
  refine lv_istore_n (lv' := [(0, .int ((((((((nI mk) - ((((nI mk).toUInt32 >>> ((nI 1).toUInt32 &&& Int32.toUInt32 31)).toInt32) &&& (nI 1431655765))) &&& (nI 858993459)) + (((((nI mk) - ((((nI mk).toUInt32 >>> ((nI 1).toUInt32 &&& Int32.toUInt32 31)).toInt32) &&& (nI 1431655765))).toUInt32 >>> ((nI 2).toUInt32 &&& Int32.toUInt32 31)).toInt32) &&& (nI 858993459))) + ((((((nI mk) - ((((nI mk).toUInt32 >>> ((nI 1).toUInt32 &&& Int32.toUInt32 31)).toInt32) &&& (nI 1431655765))) &&& (nI 858993459)) + (((((nI mk) - ((((nI mk).toUInt32 >>> ((nI 1).toUInt32 &&& Int32.toUInt32 31)).toInt32) &&& (nI 1431655765))).toUInt32 >>> ((nI 2).toUInt32 &&& Int32.toUInt32 31)).toInt32) &&& (nI 858993459))).toUInt32 >>> ((nI 4).toUInt32 &&& Int32.toUInt32 31)).toInt32)) &&& (nI 252645135)) + ((((((((nI mk) - ((((nI mk).toUInt32 >>> ((nI 1).toUInt32 &&& Int32.toUInt32 31)).toInt32) &&& (nI 1431655765))) &&& (nI 858993459)) + (((((nI mk) - ((((nI mk).toUInt32 >>> ((nI 1).toUInt32 &&& Int32.toUInt32 31)).toInt32) &&& (nI 1431655765))).toUInt32 >>> ((nI 2).toUInt32 &&& Int32.toUInt32 31)).toInt32) &&& (nI 858993459))) + ((((((nI mk) - ((((nI mk).toUInt32 >>> ((nI 1).toUInt32 &&& Int32.toUInt32 31)).toInt32) &&& (nI 1431655765))) &&& (nI 858993459)) + (((((nI mk) - ((((nI mk).toUInt32 >>> ((nI 1).toUInt32 &&& Int32.toUInt32 31)).toInt32) &&& (nI 1431655765))).toUInt32 >>> ((nI 2).toUInt32 &&& Int32.toUInt32 31)).toInt32) &&& (nI 858993459))).toUInt32 >>> ((nI 4).toUInt32 &&& Int32.toUInt32 31)).toInt32)) &&& (nI 252645135)).toUInt32 >>> ((nI 8).toUInt32 &&& Int32.toUInt32 31)).toInt32)) + (((((((((nI mk) - ((((nI mk).toUInt32 >>> ((nI 1).toUInt32 &&& Int32.toUInt32 31)).toInt32) &&& (nI 1431655765))) &&& (nI 858993459)) + (((((nI mk) - ((((nI mk).toUInt32 >>> ((nI 1).toUInt32 &&& Int32.toUInt32 31)).toInt32) &&& (nI 1431655765))).toUInt32 >>> ((nI 2).toUInt32 &&& Int32.toUInt32 31)).toInt32) &&& (nI 858993459))) + ((((((nI mk) - ((((nI mk).toUInt32 >>> ((nI 1).toUInt32 &&& Int32.toUInt32 31)).toInt32) &&& (nI 1431655765))) &&& (nI 858993459)) + (((((nI mk) - ((((nI mk).toUInt32 >>> ((nI 1).toUInt32 &&& Int32.toUInt32 31)).toInt32) &&& (nI 1431655765))).toUInt32 >>> ((nI 2).toUInt32 &&& Int32.toUInt32 31)).toInt32) &&& (nI 858993459))).toUInt32 >>> ((nI 4).toUInt32 &&& Int32.toUInt32 31)).toInt32)) &&& (nI 252645135)) + ((((((((nI mk) - ((((nI mk).toUInt32 >>> ((nI 1).toUInt32 &&& Int32.toUInt32 31)).toInt32) &&& (nI 1431655765))) &&& (nI 858993459)) + (((((nI mk) - ((((nI mk).toUInt32 >>> ((nI 1).toUInt32 &&& Int32.toUInt32 31)).toInt32) &&& (nI 1431655765))).toUInt32 >>> ((nI 2).toUInt32 &&& Int32.toUInt32 31)).toInt32) &&& (nI 858993459))) + ((((((nI mk) - ((((nI mk).toUInt32 >>> ((nI 1).toUInt32 &&& Int32.toUInt32 31)).toInt32) &&& (nI 1431655765))) &&& (nI 858993459)) + (((((nI mk) - ((((nI mk).toUInt32 >>> ((nI 1).toUInt32 &&& Int32.toUInt32 31)).toInt32) &&& (nI 1431655765))).toUInt32 >>> ((nI 2).toUInt32 &&& Int32.toUInt32 31)).toInt32) &&& (nI 858993459))).toUInt32 >>> ((nI 4).toUInt32 &&& Int32.toUInt32 31)).toInt32)) &&& (nI 252645135)).toUInt32 >>> ((nI 8).toUInt32 &&& Int32.toUInt32 31)).toInt32)).toUInt32 >>> ((nI 16).toUInt32 &&& Int32.toUInt32 31)).toInt32)))]) hx hb dJ6_bitCount_0f7a4_47 rfl hl (by decide) rfl (fun ls hl => ?_)
  refine lv_iload_n hx hb dJ6_bitCount_0f7a4_48 rfl (lv_at hl 0 rfl) ?_
  refine lv_bipush (v := nI 63) hx hb dJ6_bitCount_0f7a4_49 (by decide) ?_
  refine lv_iand hx hb dJ6_bitCount_0f7a4_51 ?_
  exact W.iret hx hb hr (fun t ht hW => ⟨_, rfl, (bc_ mk hm), ht⟩) (fun q hq => absurd hq List.not_mem_nil) dJ6_bitCount_0f7a4_52
set_option maxHeartbeats 4000000 in
set_option maxRecDepth 100000 in
theorem c_X0_fow0 (l : Launch) (B0 : Nat) (g : va_G) (ct ad : Nat → Nat) (cS : St_) (mS : Pl_) (x : Ax_) (i w : Nat) (hi : i < 12) (hw : w < 10) : RI l yX0_figureOfWord wsX0_figureOfWord 2 (PX B0 g ct ad cS mS x [.ref (ad 0), .int (nI i), .int (nI w), .int (nI 0)]) (nI (wt_ cS i w 0)) := by
  refine Met.ofW (cc := cX0_figureOfWord) (maxL := 4) (ret := (some .int)) (by decide) rfl ?_
  intro p e s m args below meth c s₁ B hml hv
  obtain ⟨rfl, hC⟩ := hv
  have hx := B.exec
  have hb := B.bytes
  have hr := B.returns
  have hts := atoms_spec (ws := wsX0_figureOfWord) B.pre
  have hown : s.vm.findClass RX0 = some m.cls := findClass_of_methodNamed B.named
  have hlocks := B.notSynchronized
  have hin : ∀ w ∈ wsX00, w ∈ wsX0_figureOfWord := fun _ h => List.mem_cons_of_mem _ (List.mem_append_right _ h)
  have hI := hC.1.2.2.2
  have hw6 := hI.2.2.2.1 (10 * i + w)
  have hk6 := hI.2.2.2.2.1 (10 * i + w)
  have hl := lv_entry ([.ref (ad 0), .int (nI i), .int (nI w), .int (nI 0)]) (n := 4) (Nat.le_of_ble_eq_true rfl)
  rw [lg_entry_eq]
  generalize (lg_sl ([.ref (ad 0), .int (nI i), .int (nI w), .int (nI 0)]) ++ List.replicate (4 - (lg_sl ([.ref (ad 0), .int (nI i), .int (nI w), .int (nI 0)])).length) Slot.unset).toArray = ls at hl ⊢
  have hl : lv_has ls 4 [(0, .ref (ad 0)), (1, .int (nI i)), (2, .int (nI w)), (3, .int (nI 0))] := hl
  refine lv_iload_n hx hb dX0_figureOfWord_0 rfl (lv_at hl 3 rfl) ?_
  refine lv_tableIn (x := nI 0) (off := 31) (tgt := 32) hx hb dX0_figureOfWord_1 (by decide) (by decide) rfl (by decide) ?_
  refine lv_aload_n hx hb dX0_figureOfWord_32 rfl (lv_at hl 0 rfl) ?_
  refine r_g0 hC hx hb hts hin hown 3 (by decide) (hts (.fieldLink RX0 22 "AbjadPoems" "words" "[[I") (by decide +kernel)) rfl dX0_figureOfWord_33 ?_
  refine lv_iload_n hx hb dX0_figureOfWord_36 rfl (lv_at hl 1 rfl) ?_
  refine r_wo hC hx hb dX0_figureOfWord_37 (j := i) (by omega) ?_
  refine lv_iload_n hx hb dX0_figureOfWord_38 rfl (lv_at hl 2 rfl) ?_
  refine r_wr hC hx hb dX0_figureOfWord_39 (i := i) (j := w) (by omega) (by omega) ?_
  exact W.iret hx hb hr (fun t ht hW => ⟨_, rfl, rfl, ht⟩) (fun q hq => absurd hq List.not_mem_nil) dX0_figureOfWord_40
set_option maxHeartbeats 4000000 in
set_option maxRecDepth 100000 in
theorem c_X0_fow1 (l : Launch) (B0 : Nat) (g : va_G) (ct ad : Nat → Nat) (cS : St_) (mS : Pl_) (x : Ax_) (i w : Nat) (hi : i < 12) (hw : w < 10) : RI l yX0_figureOfWord wsX0_figureOfWord 2 (PX B0 g ct ad cS mS x [.ref (ad 0), .int (nI i), .int (nI w), .int (nI 1)]) (nI (wt_ cS i w 1)) := by
  refine Met.ofW (cc := cX0_figureOfWord) (maxL := 4) (ret := (some .int)) (by decide) rfl ?_
  intro p e s m args below meth c s₁ B hml hv
  obtain ⟨rfl, hC⟩ := hv
  have hx := B.exec
  have hb := B.bytes
  have hr := B.returns
  have hts := atoms_spec (ws := wsX0_figureOfWord) B.pre
  have hown : s.vm.findClass RX0 = some m.cls := findClass_of_methodNamed B.named
  have hlocks := B.notSynchronized
  have hin : ∀ w ∈ wsX00, w ∈ wsX0_figureOfWord := fun _ h => List.mem_cons_of_mem _ (List.mem_append_right _ h)
  have hI := hC.1.2.2.2
  have hw6 := hI.2.2.2.1 (10 * i + w)
  have hk6 := hI.2.2.2.2.1 (10 * i + w)
  have hl := lv_entry ([.ref (ad 0), .int (nI i), .int (nI w), .int (nI 1)]) (n := 4) (Nat.le_of_ble_eq_true rfl)
  rw [lg_entry_eq]
  generalize (lg_sl ([.ref (ad 0), .int (nI i), .int (nI w), .int (nI 1)]) ++ List.replicate (4 - (lg_sl ([.ref (ad 0), .int (nI i), .int (nI w), .int (nI 1)])).length) Slot.unset).toArray = ls at hl ⊢
  have hl : lv_has ls 4 [(0, .ref (ad 0)), (1, .int (nI i)), (2, .int (nI w)), (3, .int (nI 1))] := hl
  refine lv_iload_n hx hb dX0_figureOfWord_0 rfl (lv_at hl 3 rfl) ?_
  refine lv_tableIn (x := nI 1) (off := 40) (tgt := 41) hx hb dX0_figureOfWord_1 (by decide) (by decide) rfl (by decide) ?_
  refine lv_aload_n hx hb dX0_figureOfWord_41 rfl (lv_at hl 0 rfl) ?_
  refine r_g0 hC hx hb hts hin hown 3 (by decide) (hts (.fieldLink RX0 22 "AbjadPoems" "words" "[[I") (by decide +kernel)) rfl dX0_figureOfWord_42 ?_
  refine lv_iload_n hx hb dX0_figureOfWord_45 rfl (lv_at hl 1 rfl) ?_
  refine r_wo hC hx hb dX0_figureOfWord_46 (j := i) (by omega) ?_
  refine lv_iload_n hx hb dX0_figureOfWord_47 rfl (lv_at hl 2 rfl) ?_
  refine r_wr hC hx hb dX0_figureOfWord_48 (i := i) (j := w) (by omega) (by omega) ?_
  refine k_pS (As := [.int (nI (sw cS (10 * i + w)))]) (rest := []) (c_X0_lengthOf l (sw cS (10 * i + w)) (by omega)) ⟨hx, hb, hml, hown, hts⟩ (va_cwS 1 hts gX0_figureOfWord_X0_lengthOf rfl rfl rfl (by decide +kernel) ⟨Nat.le_of_ble_eq_true rfl, Nat.le_of_ble_eq_true rfl⟩) rfl hl.1 rfl (Nat.le_of_ble_eq_true rfl) dX0_figureOfWord_49 ⟨Nat.le_of_ble_eq_true rfl, Nat.le_of_ble_eq_true rfl⟩ ?_
  exact W.iret hx hb hr (fun t ht hW => ⟨_, rfl, rfl, ht⟩) (fun q hq => absurd hq List.not_mem_nil) dX0_figureOfWord_52
set_option maxHeartbeats 4000000 in
set_option maxRecDepth 100000 in
theorem c_X0_fow2 (l : Launch) (B0 : Nat) (g : va_G) (ct ad : Nat → Nat) (cS : St_) (mS : Pl_) (x : Ax_) (i w : Nat) (hi : i < 12) (hw : w < 10) : RI l yX0_figureOfWord wsX0_figureOfWord 2 (PX B0 g ct ad cS mS x [.ref (ad 0), .int (nI i), .int (nI w), .int (nI 2)]) (nI (wt_ cS i w 2)) := by
  refine Met.ofW (cc := cX0_figureOfWord) (maxL := 4) (ret := (some .int)) (by decide) rfl ?_
  intro p e s m args below meth c s₁ B hml hv
  obtain ⟨rfl, hC⟩ := hv
  have hx := B.exec
  have hb := B.bytes
  have hr := B.returns
  have hts := atoms_spec (ws := wsX0_figureOfWord) B.pre
  have hown : s.vm.findClass RX0 = some m.cls := findClass_of_methodNamed B.named
  have hlocks := B.notSynchronized
  have hin : ∀ w ∈ wsX00, w ∈ wsX0_figureOfWord := fun _ h => List.mem_cons_of_mem _ (List.mem_append_right _ h)
  have hI := hC.1.2.2.2
  have hw6 := hI.2.2.2.1 (10 * i + w)
  have hk6 := hI.2.2.2.2.1 (10 * i + w)
  have hl := lv_entry ([.ref (ad 0), .int (nI i), .int (nI w), .int (nI 2)]) (n := 4) (Nat.le_of_ble_eq_true rfl)
  rw [lg_entry_eq]
  generalize (lg_sl ([.ref (ad 0), .int (nI i), .int (nI w), .int (nI 2)]) ++ List.replicate (4 - (lg_sl ([.ref (ad 0), .int (nI i), .int (nI w), .int (nI 2)])).length) Slot.unset).toArray = ls at hl ⊢
  have hl : lv_has ls 4 [(0, .ref (ad 0)), (1, .int (nI i)), (2, .int (nI w)), (3, .int (nI 2))] := hl
  refine lv_iload_n hx hb dX0_figureOfWord_0 rfl (lv_at hl 3 rfl) ?_
  refine lv_tableIn (x := nI 2) (off := 52) (tgt := 53) hx hb dX0_figureOfWord_1 (by decide) (by decide) rfl (by decide) ?_
  refine lv_aload_n hx hb dX0_figureOfWord_53 rfl (lv_at hl 0 rfl) ?_
  refine lv_aload_n hx hb dX0_figureOfWord_54 rfl (lv_at hl 0 rfl) ?_
  refine r_g0 hC hx hb hts hin hown 3 (by decide) (hts (.fieldLink RX0 22 "AbjadPoems" "words" "[[I") (by decide +kernel)) rfl dX0_figureOfWord_55 ?_
  refine lv_iload_n hx hb dX0_figureOfWord_58 rfl (lv_at hl 1 rfl) ?_
  refine r_wo hC hx hb dX0_figureOfWord_59 (j := i) (by omega) ?_
  refine lv_iload_n hx hb dX0_figureOfWord_60 rfl (lv_at hl 2 rfl) ?_
  refine r_wr hC hx hb dX0_figureOfWord_61 (i := i) (j := w) (by omega) (by omega) ?_
  refine lv_bipush (v := nI 63) hx hb dX0_figureOfWord_62 (by decide) ?_
  refine k_rV (As := [.int (nI (sw cS (10 * i + w))), .int (nI 63)]) (rest := []) (c_X0_worthOfPlaces l B0 g ct ad cS mS x (sw cS (10 * i + w)) 63 (by omega) (by omega)) hC ⟨hx, hb, hml, hown, hts⟩ (cwV 2 hts gX0_figureOfWord_X0_worthOfPlaces rfl rfl rfl (by decide +kernel) ⟨Nat.le_of_ble_eq_true rfl, Nat.le_of_ble_eq_true rfl⟩) (rc0 hC) rfl hl.1 rfl (Nat.le_of_ble_eq_true rfl) dX0_figureOfWord_64 ⟨Nat.le_of_ble_eq_true rfl, Nat.le_of_ble_eq_true rfl⟩ ?_
  exact W.iret hx hb hr (fun t ht hW => ⟨_, rfl, (congrArg nI (wm_63 hw6)), ht⟩) (fun q hq => absurd hq List.not_mem_nil) dX0_figureOfWord_67
set_option maxHeartbeats 4000000 in
set_option maxRecDepth 100000 in
theorem c_X0_fow3 (l : Launch) (B0 : Nat) (g : va_G) (ct ad : Nat → Nat) (cS : St_) (mS : Pl_) (x : Ax_) (i w : Nat) (hi : i < 12) (hw : w < 10) (hm : sk cS (10 * i + w) < 2 ^ ln_ (sw cS (10 * i + w))) : RI l yX0_figureOfWord wsX0_figureOfWord 2 (PX B0 g ct ad cS mS x [.ref (ad 0), .int (nI i), .int (nI w), .int (nI 3)]) (nI (wt_ cS i w 3)) := by
  refine Met.ofW (cc := cX0_figureOfWord) (maxL := 4) (ret := (some .int)) (by decide) rfl ?_
  intro p e s m args below meth c s₁ B hml hv
  obtain ⟨rfl, hC⟩ := hv
  have hx := B.exec
  have hb := B.bytes
  have hr := B.returns
  have hts := atoms_spec (ws := wsX0_figureOfWord) B.pre
  have hown : s.vm.findClass RX0 = some m.cls := findClass_of_methodNamed B.named
  have hlocks := B.notSynchronized
  have hin : ∀ w ∈ wsX00, w ∈ wsX0_figureOfWord := fun _ h => List.mem_cons_of_mem _ (List.mem_append_right _ h)
  have hI := hC.1.2.2.2
  have hw6 := hI.2.2.2.1 (10 * i + w)
  have hk6 := hI.2.2.2.2.1 (10 * i + w)
  have hl := lv_entry ([.ref (ad 0), .int (nI i), .int (nI w), .int (nI 3)]) (n := 4) (Nat.le_of_ble_eq_true rfl)
  rw [lg_entry_eq]
  generalize (lg_sl ([.ref (ad 0), .int (nI i), .int (nI w), .int (nI 3)]) ++ List.replicate (4 - (lg_sl ([.ref (ad 0), .int (nI i), .int (nI w), .int (nI 3)])).length) Slot.unset).toArray = ls at hl ⊢
  have hl : lv_has ls 4 [(0, .ref (ad 0)), (1, .int (nI i)), (2, .int (nI w)), (3, .int (nI 3))] := hl
  refine lv_iload_n hx hb dX0_figureOfWord_0 rfl (lv_at hl 3 rfl) ?_
  refine lv_tableIn (x := nI 3) (off := 67) (tgt := 68) hx hb dX0_figureOfWord_1 (by decide) (by decide) rfl (by decide) ?_
  refine lv_aload_n hx hb dX0_figureOfWord_68 rfl (lv_at hl 0 rfl) ?_
  refine r_g0 hC hx hb hts hin hown 4 (by decide) (hts (.fieldLink RX0 25 "AbjadPoems" "marks" "[[I") (by decide +kernel)) rfl dX0_figureOfWord_69 ?_
  refine lv_iload_n hx hb dX0_figureOfWord_72 rfl (lv_at hl 1 rfl) ?_
  refine r_ko hC hx hb dX0_figureOfWord_73 (j := i) (by omega) ?_
  refine lv_iload_n hx hb dX0_figureOfWord_74 rfl (lv_at hl 2 rfl) ?_
  refine r_kr hC hx hb dX0_figureOfWord_75 (i := i) (j := w) (by omega) (by omega) ?_
  refine k_pS (As := [.int (nI (sk cS (10 * i + w)))]) (rest := []) (c_J6_bitCount_0f7a4 l (sk cS (10 * i + w)) (by omega)) ⟨hx, hb, hml, hown, hts⟩ (va_cwS 1 hts gX0_figureOfWord_J6_bitCount_0f7a4 rfl rfl rfl (by decide +kernel) ⟨Nat.le_of_ble_eq_true rfl, Nat.le_of_ble_eq_true rfl⟩) rfl hl.1 rfl (Nat.le_of_ble_eq_true rfl) dX0_figureOfWord_76 ⟨Nat.le_of_ble_eq_true rfl, Nat.le_of_ble_eq_true rfl⟩ ?_
  exact W.iret hx hb hr (fun t ht hW => ⟨_, rfl, (congrArg nI (wc_6 hw6 hm)), ht⟩) (fun q hq => absurd hq List.not_mem_nil) dX0_figureOfWord_79
set_option maxHeartbeats 4000000 in
set_option maxRecDepth 100000 in
theorem c_X0_fow4 (l : Launch) (B0 : Nat) (g : va_G) (ct ad : Nat → Nat) (cS : St_) (mS : Pl_) (x : Ax_) (i w : Nat) (hi : i < 12) (hw : w < 10) : RI l yX0_figureOfWord wsX0_figureOfWord 2 (PX B0 g ct ad cS mS x [.ref (ad 0), .int (nI i), .int (nI w), .int (nI 4)]) (nI (wt_ cS i w 4)) := by
  refine Met.ofW (cc := cX0_figureOfWord) (maxL := 4) (ret := (some .int)) (by decide) rfl ?_
  intro p e s m args below meth c s₁ B hml hv
  obtain ⟨rfl, hC⟩ := hv
  have hx := B.exec
  have hb := B.bytes
  have hr := B.returns
  have hts := atoms_spec (ws := wsX0_figureOfWord) B.pre
  have hown : s.vm.findClass RX0 = some m.cls := findClass_of_methodNamed B.named
  have hlocks := B.notSynchronized
  have hin : ∀ w ∈ wsX00, w ∈ wsX0_figureOfWord := fun _ h => List.mem_cons_of_mem _ (List.mem_append_right _ h)
  have hI := hC.1.2.2.2
  have hw6 := hI.2.2.2.1 (10 * i + w)
  have hk6 := hI.2.2.2.2.1 (10 * i + w)
  have hl := lv_entry ([.ref (ad 0), .int (nI i), .int (nI w), .int (nI 4)]) (n := 4) (Nat.le_of_ble_eq_true rfl)
  rw [lg_entry_eq]
  generalize (lg_sl ([.ref (ad 0), .int (nI i), .int (nI w), .int (nI 4)]) ++ List.replicate (4 - (lg_sl ([.ref (ad 0), .int (nI i), .int (nI w), .int (nI 4)])).length) Slot.unset).toArray = ls at hl ⊢
  have hl : lv_has ls 4 [(0, .ref (ad 0)), (1, .int (nI i)), (2, .int (nI w)), (3, .int (nI 4))] := hl
  refine lv_iload_n hx hb dX0_figureOfWord_0 rfl (lv_at hl 3 rfl) ?_
  refine lv_tableOut (x := nI 4) (tgt := 80) hx hb dX0_figureOfWord_1 (by decide) (by decide) ?_
  refine lv_aload_n hx hb dX0_figureOfWord_80 rfl (lv_at hl 0 rfl) ?_
  refine lv_aload_n hx hb dX0_figureOfWord_81 rfl (lv_at hl 0 rfl) ?_
  refine r_g0 hC hx hb hts hin hown 3 (by decide) (hts (.fieldLink RX0 22 "AbjadPoems" "words" "[[I") (by decide +kernel)) rfl dX0_figureOfWord_82 ?_
  refine lv_iload_n hx hb dX0_figureOfWord_85 rfl (lv_at hl 1 rfl) ?_
  refine r_wo hC hx hb dX0_figureOfWord_86 (j := i) (by omega) ?_
  refine lv_iload_n hx hb dX0_figureOfWord_87 rfl (lv_at hl 2 rfl) ?_
  refine r_wr hC hx hb dX0_figureOfWord_88 (i := i) (j := w) (by omega) (by omega) ?_
  refine lv_aload_n hx hb dX0_figureOfWord_89 rfl (lv_at hl 0 rfl) ?_
  refine r_g0 hC hx hb hts hin hown 4 (by decide) (hts (.fieldLink RX0 25 "AbjadPoems" "marks" "[[I") (by decide +kernel)) rfl dX0_figureOfWord_90 ?_
  refine lv_iload_n hx hb dX0_figureOfWord_93 rfl (lv_at hl 1 rfl) ?_
  refine r_ko hC hx hb dX0_figureOfWord_94 (j := i) (by omega) ?_
  refine lv_iload_n hx hb dX0_figureOfWord_95 rfl (lv_at hl 2 rfl) ?_
  refine r_kr hC hx hb dX0_figureOfWord_96 (i := i) (j := w) (by omega) (by omega) ?_
  refine k_rV (As := [.int (nI (sw cS (10 * i + w))), .int (nI (sk cS (10 * i + w)))]) (rest := []) (c_X0_worthOfPlaces l B0 g ct ad cS mS x (sw cS (10 * i + w)) (sk cS (10 * i + w)) (by omega) (by omega)) hC ⟨hx, hb, hml, hown, hts⟩ (cwV 2 hts gX0_figureOfWord_X0_worthOfPlaces rfl rfl rfl (by decide +kernel) ⟨Nat.le_of_ble_eq_true rfl, Nat.le_of_ble_eq_true rfl⟩) (rc0 hC) rfl hl.1 rfl (Nat.le_of_ble_eq_true rfl) dX0_figureOfWord_97 ⟨Nat.le_of_ble_eq_true rfl, Nat.le_of_ble_eq_true rfl⟩ ?_
  exact W.iret hx hb hr (fun t ht hW => ⟨_, rfl, rfl, ht⟩) (fun q hq => absurd hq List.not_mem_nil) dX0_figureOfWord_100
theorem c_X0_figureOfWord (l : Launch) (B0 : Nat) (g : va_G) (ct ad : Nat → Nat) (cS : St_) (mS : Pl_) (x : Ax_) (i w what : Nat) (hi : i < 12) (hw : w < 10) (hq : what < 5) (hm : what = 3 → sk cS (10 * i + w) < 2 ^ ln_ (sw cS (10 * i + w))) : RI l yX0_figureOfWord wsX0_figureOfWord 2 (PX B0 g ct ad cS mS x [.ref (ad 0), .int (nI i), .int (nI w), .int (nI what)]) (nI (wt_ cS i w what)) :=
  match what, hq, hm with
  | 0, _, _ => c_X0_fow0 l B0 g ct ad cS mS x i w hi hw
  | 1, _, _ => c_X0_fow1 l B0 g ct ad cS mS x i w hi hw
  | 2, _, _ => c_X0_fow2 l B0 g ct ad cS mS x i w hi hw
  | 3, _, hm => c_X0_fow3 l B0 g ct ad cS mS x i w hi hw (hm rfl)
  | 4, _, _ => c_X0_fow4 l B0 g ct ad cS mS x i w hi hw
  | k + 5, hq, _ => absurd hq (by omega)
set_option maxHeartbeats 4000000 in
set_option maxRecDepth 100000 in
theorem c_X0_figureOfLine (l : Launch) (B0 : Nat) (g : va_G) (ct ad : Nat → Nat) (cS : St_) (mS : Pl_) (x : Ax_) (i what : Nat) (hi : i < 12) (hq : what < 5) : RI l yX0_figureOfLine wsX0_figureOfLine 3 (PX B0 g ct ad cS mS x [.ref (ad 0), .int (nI i), .int (nI what)]) (nI (lt_ cS i what)) := by
  refine Met.ofW (cc := cX0_figureOfLine) (maxL := 5) (ret := (some .int)) (by decide) rfl ?_
  intro p e s m args below meth c s₁ B hml hv
  obtain ⟨rfl, hC⟩ := hv
  have hx := B.exec
  have hb := B.bytes
  have hr := B.returns
  have hts := atoms_spec (ws := wsX0_figureOfLine) B.pre
  have hown : s.vm.findClass RX0 = some m.cls := findClass_of_methodNamed B.named
  have hlocks := B.notSynchronized
  have hin : ∀ w ∈ wsX00, w ∈ wsX0_figureOfLine := fun _ h => List.mem_cons_of_mem _ (List.mem_append_right _ h)
  have hI := hC.1.2.2.2
  have hz := hI.2.2.1 i
  have hl := lv_entry ([.ref (ad 0), .int (nI i), .int (nI what)]) (n := 5) (Nat.le_of_ble_eq_true rfl)
  rw [lg_entry_eq]
  generalize (lg_sl ([.ref (ad 0), .int (nI i), .int (nI what)]) ++ List.replicate (5 - (lg_sl ([.ref (ad 0), .int (nI i), .int (nI what)])).length) Slot.unset).toArray = ls at hl ⊢
  have hl : lv_has ls 5 [(0, .ref (ad 0)), (1, .int (nI i)), (2, .int (nI what))] := hl
  refine lv_iload_n hx hb dX0_figureOfLine_0 rfl (lv_at hl 2 rfl) ?_
  refine lv_if_ne (tgt := 11) hx hb dX0_figureOfLine_1 (by decide) (fun c_1 => ?_) (fun c_1 => ?_)
  · skip
    have n_1 : ¬ what = 0 := fun q__ => c_1 ((eq0_ (by omega)).mpr q__)
    refine lv_iconst (v := nI 0) hx hb dX0_figureOfLine_11 (by decide) ?_
    refine lv_istore_n (lv' := [(3, .int (nI 0)), (0, .ref (ad 0)), (1, .int (nI i)), (2, .int (nI what))]) hx hb dX0_figureOfLine_12 rfl hl (by decide) rfl (fun ls hl => ?_)
    refine lv_iconst (v := nI 0) hx hb dX0_figureOfLine_13 (by decide) ?_
    refine lv_istore (lv' := [(4, .int (nI 0)), (3, .int (nI 0)), (0, .ref (ad 0)), (1, .int (nI i)), (2, .int (nI what))]) hx hb dX0_figureOfLine_14 hl (by decide) rfl (fun ls hl => ?_)
    have LP_16 : ∀ (n_ : Nat) (t : Nat) (k : Nat), ss cS i - k < n_ → (t = qs_ (fun w => wt_ cS i w what) k) → (k ≤ ss cS i) → ∀ ls : Array Slot, lv_has ls 5 [(4, .int (nI k)), (3, .int (nI t)), (0, .ref (ad 0)), (1, .int (nI i)), (2, .int (nI what))] → W p l e (headSpec wsX0_figureOfLine (rm_ 3 0 0)).room s m ([.ref (ad 0), .int (nI i), .int (nI what)] : List Value).toArray below meth c s.heap [] 0 0 (MQ below (vp_Si (fun r => r = nI (lt_ cS i what))) ([.ref (ad 0), .int (nI i), .int (nI what)] : List Value).toArray s 0 0 (fun _ => False)) (F0 m 16 ls []) := by
      intro n_
      induction n_ with
      | zero => intro t k hm; exact absurd hm (Nat.not_lt_zero _)
      | succ n_ ih_16 =>
        intro t k hm ht hk ls hl
        refine lv_iload hx hb dX0_figureOfLine_16 (lv_at hl 0 rfl) ?_
        refine lv_aload_n hx hb dX0_figureOfLine_18 rfl (lv_at hl 2 rfl) ?_
        refine r_g0 hC hx hb hts hin hown 2 (by decide) (hts (.fieldLink RX0 16 "AbjadPoems" "sizes" "[I") (by decide +kernel)) rfl dX0_figureOfLine_19 ?_
        refine lv_iload_n hx hb dX0_figureOfLine_22 rfl (lv_at hl 3 rfl) ?_
        refine r_sz hC hx hb dX0_figureOfLine_23 (j := i) (by omega) ?_
        refine lv_icmp_ge (tgt := 44) hx hb dX0_figureOfLine_24 (by decide) (fun c_24 => ?_) (fun c_24 => ?_)
        · skip
          have n_24 : ss cS i ≤ k := (nI_leI (a := ss cS i) (b := k) (by omega) (by omega)).mp c_24
          have hE : t = lt_ cS i what := by rw [lt_n n_1, ht, show k = ss cS i by omega]
          refine lv_iload_n hx hb dX0_figureOfLine_44 rfl (lv_at hl 1 rfl) ?_
          exact W.iret hx hb hr (fun t ht hW => ⟨_, rfl, (congrArg nI hE), ht⟩) (fun q hq => absurd hq List.not_mem_nil) dX0_figureOfLine_45
        · skip
          have n_24 : ¬ ss cS i ≤ k := fun q__ => c_24 ((nI_leI (a := ss cS i) (b := k) (by omega) (by omega)).mpr q__)
          refine lv_iload_n hx hb dX0_figureOfLine_27 rfl (lv_at hl 1 rfl) ?_
          refine lv_aload_n hx hb dX0_figureOfLine_28 rfl (lv_at hl 2 rfl) ?_
          refine lv_iload_n hx hb dX0_figureOfLine_29 rfl (lv_at hl 3 rfl) ?_
          refine lv_iload hx hb dX0_figureOfLine_30 (lv_at hl 0 rfl) ?_
          refine lv_iload_n hx hb dX0_figureOfLine_32 rfl (lv_at hl 4 rfl) ?_
          refine k_rV (As := [.int (nI i), .int (nI k), .int (nI what)]) (rest := [.int (nI t)]) (c_X0_figureOfWord l B0 g ct ad cS mS x i k what (by omega) (by omega) (by omega) (fun _ => hI.2.2.2.2.2 i k (by omega))) hC ⟨hx, hb, hml, hown, hts⟩ (cwV 3 hts gX0_figureOfLine_X0_figureOfWord rfl rfl rfl (by decide +kernel) ⟨Nat.le_of_ble_eq_true rfl, Nat.le_of_ble_eq_true rfl⟩) (rc0 hC) rfl hl.1 rfl (Nat.le_of_ble_eq_true rfl) dX0_figureOfLine_33 ⟨Nat.le_of_ble_eq_true rfl, Nat.le_of_ble_eq_true rfl⟩ ?_
          refine lv_iadd hx hb dX0_figureOfLine_36 ?_
          refine lv_tn (nI_add _ _) ?_
          refine lv_istore_n (lv' := [(3, .int (nI (t + (wt_ cS i k what)))), (4, .int (nI k)), (0, .ref (ad 0)), (1, .int (nI i)), (2, .int (nI what))]) hx hb dX0_figureOfLine_37 rfl hl (by decide) rfl (fun ls hl => ?_)
          refine lv_iinc (v := nI (k + 1)) (lv' := [(4, .int (nI (k + 1))), (3, .int (nI (t + (wt_ cS i k what)))), (0, .ref (ad 0)), (1, .int (nI i)), (2, .int (nI what))]) hx hb dX0_figureOfLine_38 hl (k := 1) rfl (nI_1 _) (by decide) rfl (fun ls hl => ?_)
          refine lv_goto (tgt := 16) hx hb dX0_figureOfLine_41 (by decide) ?_
          exact ih_16 (t + (wt_ cS i k what)) (k + 1) (by omega) (by rw [ht]; rfl) (by omega) ls (lv_sub hl [0, 1, 2, 3, 4] rfl)
    exact LP_16 _ 0 0 (Nat.lt_succ_self _) rfl (Nat.zero_le _) ls (lv_sub hl [0, 1, 2, 3, 4] rfl)
  · skip
    have n_1 : what = 0 := (eq0_ (by omega)).mp c_1
    refine lv_aload_n hx hb dX0_figureOfLine_4 rfl (lv_at hl 0 rfl) ?_
    refine r_g0 hC hx hb hts hin hown 2 (by decide) (hts (.fieldLink RX0 16 "AbjadPoems" "sizes" "[I") (by decide +kernel)) rfl dX0_figureOfLine_5 ?_
    refine lv_iload_n hx hb dX0_figureOfLine_8 rfl (lv_at hl 1 rfl) ?_
    refine r_sz hC hx hb dX0_figureOfLine_9 (j := i) (by omega) ?_
    exact W.iret hx hb hr (fun t ht hW => ⟨_, rfl, (by show nI (ss cS i) = nI (lt_ cS i what); rw [n_1]; rfl), ht⟩) (fun q hq => absurd hq List.not_mem_nil) dX0_figureOfLine_10
set_option maxHeartbeats 4000000 in
set_option maxRecDepth 100000 in
theorem c_X0_sumOverLines (l : Launch) (B0 : Nat) (g : va_G) (ct ad : Nat → Nat) (cS : St_) (mS : Pl_) (x : Ax_) (what : Nat) (hq : what < 5) : RI l yX0_sumOverLines wsX0_sumOverLines 4 (PX B0 g ct ad cS mS x [.ref (ad 0), .int (nI what)]) (nI (al_ cS what)) := by
  refine Met.ofW (cc := cX0_sumOverLines) (maxL := 4) (ret := (some .int)) (by decide) rfl ?_
  intro p e s m args below meth c s₁ B hml hv
  obtain ⟨rfl, hC⟩ := hv
  have hx := B.exec
  have hb := B.bytes
  have hr := B.returns
  have hts := atoms_spec (ws := wsX0_sumOverLines) B.pre
  have hown : s.vm.findClass RX0 = some m.cls := findClass_of_methodNamed B.named
  have hlocks := B.notSynchronized
  have hin : ∀ w ∈ wsX00, w ∈ wsX0_sumOverLines := fun _ h => List.mem_cons_of_mem _ (List.mem_append_right _ h)
  have hI := hC.1.2.2.2
  have hn := hI.2.1
  have hl := lv_entry ([.ref (ad 0), .int (nI what)]) (n := 4) (Nat.le_of_ble_eq_true rfl)
  rw [lg_entry_eq]
  generalize (lg_sl ([.ref (ad 0), .int (nI what)]) ++ List.replicate (4 - (lg_sl ([.ref (ad 0), .int (nI what)])).length) Slot.unset).toArray = ls at hl ⊢
  have hl : lv_has ls 4 [(0, .ref (ad 0)), (1, .int (nI what))] := hl
  refine lv_iconst (v := nI 0) hx hb dX0_sumOverLines_0 (by decide) ?_
  refine lv_istore_n (lv' := [(2, .int (nI 0)), (0, .ref (ad 0)), (1, .int (nI what))]) hx hb dX0_sumOverLines_1 rfl hl (by decide) rfl (fun ls hl => ?_)
  refine lv_iconst (v := nI 0) hx hb dX0_sumOverLines_2 (by decide) ?_
  refine lv_istore_n (lv' := [(3, .int (nI 0)), (2, .int (nI 0)), (0, .ref (ad 0)), (1, .int (nI what))]) hx hb dX0_sumOverLines_3 rfl hl (by decide) rfl (fun ls hl => ?_)
  have LP_4 : ∀ (n_ : Nat) (t : Nat) (k : Nat), sn cS - k < n_ → (t = qs_ (fun l => lt_ cS l what) k) → (k ≤ sn cS) → ∀ ls : Array Slot, lv_has ls 4 [(3, .int (nI k)), (2, .int (nI t)), (0, .ref (ad 0)), (1, .int (nI what))] → W p l e (headSpec wsX0_sumOverLines (rm_ 4 0 0)).room s m ([.ref (ad 0), .int (nI what)] : List Value).toArray below meth c s.heap [] 0 0 (MQ below (vp_Si (fun r => r = nI (al_ cS what))) ([.ref (ad 0), .int (nI what)] : List Value).toArray s 0 0 (fun _ => False)) (F0 m 4 ls []) := by
    intro n_
    induction n_ with
    | zero => intro t k hm; exact absurd hm (Nat.not_lt_zero _)
    | succ n_ ih_4 =>
      intro t k hm ht hk ls hl
      refine lv_iload_n hx hb dX0_sumOverLines_4 rfl (lv_at hl 0 rfl) ?_
      refine lv_aload_n hx hb dX0_sumOverLines_5 rfl (lv_at hl 2 rfl) ?_
      refine r_g0 hC hx hb hts hin hown 1 (by decide) (hts (.fieldLink RX0 13 "AbjadPoems" "lines" "I") (by decide +kernel)) rfl dX0_sumOverLines_6 ?_
      refine lv_icmp_ge (tgt := 27) hx hb dX0_sumOverLines_9 (by decide) (fun c_9 => ?_) (fun c_9 => ?_)
      · skip
        have n_9 : sn cS ≤ k := (nI_leI (a := sn cS) (b := k) (by omega) (by omega)).mp c_9
        have hE : t = al_ cS what := by rw [ht, show k = sn cS by omega]; rfl
        refine lv_iload_n hx hb dX0_sumOverLines_27 rfl (lv_at hl 1 rfl) ?_
        exact W.iret hx hb hr (fun t ht hW => ⟨_, rfl, (congrArg nI hE), ht⟩) (fun q hq => absurd hq List.not_mem_nil) dX0_sumOverLines_28
      · skip
        have n_9 : ¬ sn cS ≤ k := fun q__ => c_9 ((nI_leI (a := sn cS) (b := k) (by omega) (by omega)).mpr q__)
        refine lv_iload_n hx hb dX0_sumOverLines_12 rfl (lv_at hl 1 rfl) ?_
        refine lv_aload_n hx hb dX0_sumOverLines_13 rfl (lv_at hl 2 rfl) ?_
        refine lv_iload_n hx hb dX0_sumOverLines_14 rfl (lv_at hl 0 rfl) ?_
        refine lv_iload_n hx hb dX0_sumOverLines_15 rfl (lv_at hl 3 rfl) ?_
        refine k_rV (As := [.int (nI k), .int (nI what)]) (rest := [.int (nI t)]) (c_X0_figureOfLine l B0 g ct ad cS mS x k what (by omega) (by omega)) hC ⟨hx, hb, hml, hown, hts⟩ (cwV 2 hts gX0_sumOverLines_X0_figureOfLine rfl rfl rfl (by decide +kernel) ⟨Nat.le_of_ble_eq_true rfl, Nat.le_of_ble_eq_true rfl⟩) (rc0 hC) rfl hl.1 rfl (Nat.le_of_ble_eq_true rfl) dX0_sumOverLines_16 ⟨Nat.le_of_ble_eq_true rfl, Nat.le_of_ble_eq_true rfl⟩ ?_
        refine lv_iadd hx hb dX0_sumOverLines_19 ?_
        refine lv_tn (nI_add _ _) ?_
        refine lv_istore_n (lv' := [(2, .int (nI (t + (lt_ cS k what)))), (3, .int (nI k)), (0, .ref (ad 0)), (1, .int (nI what))]) hx hb dX0_sumOverLines_20 rfl hl (by decide) rfl (fun ls hl => ?_)
        refine lv_iinc (v := nI (k + 1)) (lv' := [(3, .int (nI (k + 1))), (2, .int (nI (t + (lt_ cS k what)))), (0, .ref (ad 0)), (1, .int (nI what))]) hx hb dX0_sumOverLines_21 hl (k := 1) rfl (nI_1 _) (by decide) rfl (fun ls hl => ?_)
        refine lv_goto (tgt := 4) hx hb dX0_sumOverLines_24 (by decide) ?_
        exact ih_4 (t + (lt_ cS k what)) (k + 1) (by omega) (by rw [ht]; rfl) (by omega) ls (lv_sub hl [0, 1, 2, 3] rfl)
  exact LP_4 _ 0 0 (Nat.lt_succ_self _) rfl (Nat.zero_le _) ls (lv_sub hl [0, 1, 2, 3] rfl)
set_option maxHeartbeats 4000000 in
set_option maxRecDepth 100000 in
theorem c_X0_lastOfRun (l : Launch) (B0 : Nat) (g : va_G) (ct ad : Nat → Nat) (cS : St_) (mS : Pl_) (x : Ax_) (i w0 : Nat) (yr : Int32) (hi : i < 12) (hw0 : w0 ≤ 10) : RI l yX0_lastOfRun wsX0_lastOfRun 2 (PX B0 g ct ad cS mS x [.ref (ad 0), .int (nI i), .int (nI w0), .int yr]) (ru_ cS i yr w0) := by
  refine Met.ofW (cc := cX0_lastOfRun) (maxL := 6) (ret := (some .int)) (by decide) rfl ?_
  intro p e s m args below meth c s₁ B hml hv
  obtain ⟨rfl, hC⟩ := hv
  have hx := B.exec
  have hb := B.bytes
  have hr := B.returns
  have hts := atoms_spec (ws := wsX0_lastOfRun) B.pre
  have hown : s.vm.findClass RX0 = some m.cls := findClass_of_methodNamed B.named
  have hlocks := B.notSynchronized
  have hin : ∀ w ∈ wsX00, w ∈ wsX0_lastOfRun := fun _ h => List.mem_cons_of_mem _ (List.mem_append_right _ h)
  have hI := hC.1.2.2.2
  have hz := hI.2.2.1 i
  have hl := lv_entry ([.ref (ad 0), .int (nI i), .int (nI w0), .int yr]) (n := 6) (Nat.le_of_ble_eq_true rfl)
  rw [lg_entry_eq]
  generalize (lg_sl ([.ref (ad 0), .int (nI i), .int (nI w0), .int yr]) ++ List.replicate (6 - (lg_sl ([.ref (ad 0), .int (nI i), .int (nI w0), .int yr])).length) Slot.unset).toArray = ls at hl ⊢
  have hl : lv_has ls 6 [(0, .ref (ad 0)), (1, .int (nI i)), (2, .int (nI w0)), (3, .int yr)] := hl
  refine lv_iconst (v := nI 0) hx hb dX0_lastOfRun_0 (by decide) ?_
  refine lv_istore (lv' := [(4, .int (nI 0)), (0, .ref (ad 0)), (1, .int (nI i)), (2, .int (nI w0)), (3, .int yr)]) hx hb dX0_lastOfRun_1 hl (by decide) rfl (fun ls hl => ?_)
  refine lv_iload_n hx hb dX0_lastOfRun_3 rfl (lv_at hl 3 rfl) ?_
  refine lv_istore (lv' := [(5, .int (nI w0)), (4, .int (nI 0)), (0, .ref (ad 0)), (1, .int (nI i)), (2, .int (nI w0)), (3, .int yr)]) hx hb dX0_lastOfRun_4 hl (by decide) rfl (fun ls hl => ?_)
  have LP_6 : ∀ (n_ : Nat) (t : Nat) (w : Nat), ss cS i - w < n_ → (rn_ cS i yr (ss cS i - w) w t = ru_ cS i yr w0) → (w ≤ 10) → ∀ ls : Array Slot, lv_has ls 6 [(5, .int (nI w)), (4, .int (nI t)), (0, .ref (ad 0)), (1, .int (nI i)), (2, .int (nI w0)), (3, .int yr)] → W p l e (headSpec wsX0_lastOfRun (rm_ 2 0 0)).room s m ([.ref (ad 0), .int (nI i), .int (nI w0), .int yr] : List Value).toArray below meth c s.heap [] 0 0 (MQ below (vp_Si (fun r => r = ru_ cS i yr w0)) ([.ref (ad 0), .int (nI i), .int (nI w0), .int yr] : List Value).toArray s 0 0 (fun _ => False)) (F0 m 6 ls []) := by
    intro n_
    induction n_ with
    | zero => intro t w hm; exact absurd hm (Nat.not_lt_zero _)
    | succ n_ ih_6 =>
      intro t w hm h1 hw_ ls hl
      have hw6 := hI.2.2.2.1 (10 * i + w)
      refine lv_iload hx hb dX0_lastOfRun_6 (lv_at hl 0 rfl) ?_
      refine lv_aload_n hx hb dX0_lastOfRun_8 rfl (lv_at hl 2 rfl) ?_
      refine r_g0 hC hx hb hts hin hown 2 (by decide) (hts (.fieldLink RX0 16 "AbjadPoems" "sizes" "[I") (by decide +kernel)) rfl dX0_lastOfRun_9 ?_
      refine lv_iload_n hx hb dX0_lastOfRun_12 rfl (lv_at hl 3 rfl) ?_
      refine r_sz hC hx hb dX0_lastOfRun_13 (j := i) (by omega) ?_
      refine lv_icmp_ge (tgt := 52) hx hb dX0_lastOfRun_14 (by decide) (fun c_14 => ?_) (fun c_14 => ?_)
      · skip
        have n_14 : ss cS i ≤ w := (nI_leI (a := ss cS i) (b := w) (by omega) (by omega)).mp c_14
        have hE : ru_ cS i yr w0 = -1 := by rw [← h1, rn_e (by omega)]
        refine lv_iconst (v := -1) hx hb dX0_lastOfRun_52 (by decide) ?_
        exact W.iret hx hb hr (fun t ht hW => ⟨_, rfl, (by show (-1) = ru_ cS i yr w0; rw [hE]), ht⟩) (fun q hq => absurd hq List.not_mem_nil) dX0_lastOfRun_53
      · skip
        have n_14 : ¬ ss cS i ≤ w := fun q__ => c_14 ((nI_leI (a := ss cS i) (b := w) (by omega) (by omega)).mpr q__)
        refine lv_iload hx hb dX0_lastOfRun_17 (lv_at hl 1 rfl) ?_
        refine lv_aload_n hx hb dX0_lastOfRun_19 rfl (lv_at hl 2 rfl) ?_
        refine lv_aload_n hx hb dX0_lastOfRun_20 rfl (lv_at hl 2 rfl) ?_
        refine r_g0 hC hx hb hts hin hown 3 (by decide) (hts (.fieldLink RX0 22 "AbjadPoems" "words" "[[I") (by decide +kernel)) rfl dX0_lastOfRun_21 ?_
        refine lv_iload_n hx hb dX0_lastOfRun_24 rfl (lv_at hl 3 rfl) ?_
        refine r_wo hC hx hb dX0_lastOfRun_25 (j := i) (by omega) ?_
        refine lv_iload hx hb dX0_lastOfRun_26 (lv_at hl 0 rfl) ?_
        refine r_wr hC hx hb dX0_lastOfRun_28 (i := i) (j := w) (by omega) (by omega) ?_
        refine lv_bipush (v := nI 63) hx hb dX0_lastOfRun_29 (by decide) ?_
        refine k_rV (As := [.int (nI (sw cS (10 * i + w))), .int (nI 63)]) (rest := [.int (nI t)]) (c_X0_worthOfPlaces l B0 g ct ad cS mS x (sw cS (10 * i + w)) 63 (by omega) (by omega)) hC ⟨hx, hb, hml, hown, hts⟩ (cwV 2 hts gX0_lastOfRun_X0_worthOfPlaces rfl rfl rfl (by decide +kernel) ⟨Nat.le_of_ble_eq_true rfl, Nat.le_of_ble_eq_true rfl⟩) (rc0 hC) rfl hl.1 rfl (Nat.le_of_ble_eq_true rfl) dX0_lastOfRun_31 ⟨Nat.le_of_ble_eq_true rfl, Nat.le_of_ble_eq_true rfl⟩ ?_
        refine lv_tn (w := nI (ws0 (so cS) (sw cS (10 * i + w)))) (congrArg nI (wm_63 hw6)) ?_
        refine lv_iadd hx hb dX0_lastOfRun_34 ?_
        refine lv_tn (nI_add _ _) ?_
        refine lv_istore (lv' := [(4, .int (nI (t + (ws0 (so cS) (sw cS (10 * i + w)))))), (5, .int (nI w)), (0, .ref (ad 0)), (1, .int (nI i)), (2, .int (nI w0)), (3, .int yr)]) hx hb dX0_lastOfRun_35 hl (by decide) rfl (fun ls hl => ?_)
        refine lv_iload hx hb dX0_lastOfRun_37 (lv_at hl 0 rfl) ?_
        refine lv_iload_n hx hb dX0_lastOfRun_39 rfl (lv_at hl 5 rfl) ?_
        refine lv_icmp_ne (tgt := 46) hx hb dX0_lastOfRun_40 (by decide) (fun c_40 => ?_) (fun c_40 => ?_)
        · skip
          refine lv_iinc (v := nI (w + 1)) (lv' := [(5, .int (nI (w + 1))), (4, .int (nI (t + (ws0 (so cS) (sw cS (10 * i + w)))))), (0, .ref (ad 0)), (1, .int (nI i)), (2, .int (nI w0)), (3, .int yr)]) hx hb dX0_lastOfRun_46 hl (k := 1) rfl (nI_1 _) (by decide) rfl (fun ls hl => ?_)
          refine lv_goto (tgt := 6) hx hb dX0_lastOfRun_49 (by decide) ?_
          exact ih_6 (t + (ws0 (so cS) (sw cS (10 * i + w)))) (w + 1) (by omega) (by rw [← h1, rn_s (show w < ss cS i by omega), if_neg c_40]) (by omega) ls (lv_sub hl [0, 1, 2, 3, 4, 5] rfl)
        · skip
          have hE : ru_ cS i yr w0 = nI w := by rw [← h1, rn_s (show w < ss cS i by omega), if_pos c_40]
          refine lv_iload hx hb dX0_lastOfRun_43 (lv_at hl 1 rfl) ?_
          exact W.iret hx hb hr (fun t ht hW => ⟨_, rfl, (by show nI w = ru_ cS i yr w0; rw [hE]), ht⟩) (fun q hq => absurd hq List.not_mem_nil) dX0_lastOfRun_45
  exact LP_6 _ 0 w0 (Nat.lt_succ_self _) rfl hw0 ls (lv_sub hl [0, 1, 2, 3, 4, 5] rfl)
set_option maxHeartbeats 4000000 in
set_option maxRecDepth 100000 in
theorem c_X0_timesAmongWorths (l : Launch) (B0 : Nat) (g : va_G) (ct ad : Nat → Nat) (cS : St_) (mS : Pl_) (x : Ax_) (v : Int32) (seen : Nat) (hs : seen ≤ 120) : RI l yX0_timesAmongWorths wsX0_timesAmongWorths 0 (PX B0 g ct ad cS mS x [.ref (ad 0), .int v, .int (nI seen)]) (nI (qs_ (fun j => if xw x j = v then 1 else 0) seen)) := by
  refine Met.ofW (cc := cX0_timesAmongWorths) (maxL := 5) (ret := (some .int)) (by decide) rfl ?_
  intro p e s m args below meth c s₁ B hml hv
  obtain ⟨rfl, hC⟩ := hv
  have hx := B.exec
  have hb := B.bytes
  have hr := B.returns
  have hts := atoms_spec (ws := wsX0_timesAmongWorths) B.pre
  have hown : s.vm.findClass RX0 = some m.cls := findClass_of_methodNamed B.named
  have hlocks := B.notSynchronized
  have hin : ∀ w ∈ wsX00, w ∈ wsX0_timesAmongWorths := fun _ h => List.mem_cons_of_mem _ (List.mem_append_right _ h)
  have hl := lv_entry ([.ref (ad 0), .int v, .int (nI seen)]) (n := 5) (Nat.le_of_ble_eq_true rfl)
  rw [lg_entry_eq]
  generalize (lg_sl ([.ref (ad 0), .int v, .int (nI seen)]) ++ List.replicate (5 - (lg_sl ([.ref (ad 0), .int v, .int (nI seen)])).length) Slot.unset).toArray = ls at hl ⊢
  have hl : lv_has ls 5 [(0, .ref (ad 0)), (1, .int v), (2, .int (nI seen))] := hl
  refine lv_iconst (v := nI 0) hx hb dX0_timesAmongWorths_0 (by decide) ?_
  refine lv_istore_n (lv' := [(3, .int (nI 0)), (0, .ref (ad 0)), (1, .int v), (2, .int (nI seen))]) hx hb dX0_timesAmongWorths_1 rfl hl (by decide) rfl (fun ls hl => ?_)
  refine lv_iconst (v := nI 0) hx hb dX0_timesAmongWorths_2 (by decide) ?_
  refine lv_istore (lv' := [(4, .int (nI 0)), (3, .int (nI 0)), (0, .ref (ad 0)), (1, .int v), (2, .int (nI seen))]) hx hb dX0_timesAmongWorths_3 hl (by decide) rfl (fun ls hl => ?_)
  have LP_5 : ∀ (n_ : Nat) (t : Nat) (k : Nat), seen - k < n_ → (t = qs_ (fun j => if xw x j = v then 1 else 0) k) → (k ≤ seen) → ∀ ls : Array Slot, lv_has ls 5 [(4, .int (nI k)), (3, .int (nI t)), (0, .ref (ad 0)), (1, .int v), (2, .int (nI seen))] → W p l e (headSpec wsX0_timesAmongWorths (rm_ 0 0 0)).room s m ([.ref (ad 0), .int v, .int (nI seen)] : List Value).toArray below meth c s.heap [] 0 0 (MQ below (vp_Si (fun r => r = nI (qs_ (fun j => if xw x j = v then 1 else 0) seen))) ([.ref (ad 0), .int v, .int (nI seen)] : List Value).toArray s 0 0 (fun _ => False)) (F0 m 5 ls []) := by
    intro n_
    induction n_ with
    | zero => intro t k hm; exact absurd hm (Nat.not_lt_zero _)
    | succ n_ ih_5 =>
      intro t k hm ht hk ls hl
      refine lv_iload hx hb dX0_timesAmongWorths_5 (lv_at hl 0 rfl) ?_
      refine lv_iload_n hx hb dX0_timesAmongWorths_7 rfl (lv_at hl 4 rfl) ?_
      refine lv_icmp_ge (tgt := 31) hx hb dX0_timesAmongWorths_8 (by decide) (fun c_8 => ?_) (fun c_8 => ?_)
      · skip
        have n_8 : seen ≤ k := (nI_leI (a := seen) (b := k) (by omega) (by omega)).mp c_8
        have hE : t = qs_ (fun j => if xw x j = v then 1 else 0) seen := by rw [ht, show k = seen by omega]
        refine lv_iload_n hx hb dX0_timesAmongWorths_31 rfl (lv_at hl 1 rfl) ?_
        exact W.iret hx hb hr (fun t ht hW => ⟨_, rfl, (congrArg nI hE), ht⟩) (fun q hq => absurd hq List.not_mem_nil) dX0_timesAmongWorths_32
      · skip
        have n_8 : ¬ seen ≤ k := fun q__ => c_8 ((nI_leI (a := seen) (b := k) (by omega) (by omega)).mpr q__)
        refine lv_aload_n hx hb dX0_timesAmongWorths_11 rfl (lv_at hl 2 rfl) ?_
        refine r_g0 hC hx hb hts hin hown 5 (by decide) (hts (.fieldLink RX0 28 "AbjadPoems" "worths" "[I") (by decide +kernel)) rfl dX0_timesAmongWorths_12 ?_
        refine lv_iload hx hb dX0_timesAmongWorths_15 (lv_at hl 0 rfl) ?_
        refine r_wt hC hx hb dX0_timesAmongWorths_17 (j := k) (by omega) ?_
        refine lv_iload_n hx hb dX0_timesAmongWorths_18 rfl (lv_at hl 3 rfl) ?_
        refine lv_icmp_ne (tgt := 25) hx hb dX0_timesAmongWorths_19 (by decide) (fun c_19 => ?_) (fun c_19 => ?_)
        · skip
          refine lv_iinc (v := nI (k + 1)) (lv' := [(4, .int (nI (k + 1))), (3, .int (nI t)), (0, .ref (ad 0)), (1, .int v), (2, .int (nI seen))]) hx hb dX0_timesAmongWorths_25 hl (k := 0) rfl (nI_1 _) (by decide) rfl (fun ls hl => ?_)
          refine lv_goto (tgt := 5) hx hb dX0_timesAmongWorths_28 (by decide) ?_
          exact ih_5 t (k + 1) (by omega) (by rw [ht]; first | exact (qs_1 (f := fun j => if xw x j = v then 1 else 0) (if_pos c_19)).symm | exact (qs_1 (f := fun j => if xw x j = v then 1 else 0) (v := 0) (if_neg c_19)).symm) (by omega) ls (lv_sub hl [0, 1, 2, 3, 4] rfl)
        · skip
          refine lv_iinc (v := nI (t + 1)) (lv' := [(3, .int (nI (t + 1))), (4, .int (nI k)), (0, .ref (ad 0)), (1, .int v), (2, .int (nI seen))]) hx hb dX0_timesAmongWorths_22 hl (k := 1) rfl (nI_1 _) (by decide) rfl (fun ls hl => ?_)
          refine lv_iinc (v := nI (k + 1)) (lv' := [(4, .int (nI (k + 1))), (3, .int (nI (t + 1))), (0, .ref (ad 0)), (1, .int v), (2, .int (nI seen))]) hx hb dX0_timesAmongWorths_25 hl (k := 1) rfl (nI_1 _) (by decide) rfl (fun ls hl => ?_)
          refine lv_goto (tgt := 5) hx hb dX0_timesAmongWorths_28 (by decide) ?_
          exact ih_5 (t + 1) (k + 1) (by omega) (by rw [ht]; first | exact (qs_1 (f := fun j => if xw x j = v then 1 else 0) (if_pos c_19)).symm | exact (qs_1 (f := fun j => if xw x j = v then 1 else 0) (v := 0) (if_neg c_19)).symm) (by omega) ls (lv_sub hl [0, 1, 2, 3, 4] rfl)
  exact LP_5 _ 0 0 (Nat.lt_succ_self _) rfl (Nat.zero_le _) ls (lv_sub hl [0, 1, 2, 3, 4] rfl)
