set_option maxHeartbeats 4000000 in
set_option maxRecDepth 100000 in
theorem c_L_value (l : Launch) (ov k : Nat) (ho : ov < 3) (hk : k < 27) : PF l yL_value wsL_value 0 [.int (nI ov), .int (nI k)] (nI (vl_ ov k)) := by
  refine Met.ofW (cc := cL_value) (maxL := 4) (ret := (some .int)) (by decide) rfl ?_
  intro p e s m args below meth c s₁ B hml hv
  obtain ⟨rfl, -⟩ := hv
  have hx := B.exec
  have hb := B.bytes
  have hr := B.returns
  have hts := atoms_spec (ws := wsL_value) B.pre
  have hown : s.vm.findClass RL = some m.cls := findClass_of_methodNamed B.named
  have hlocks := B.notSynchronized
  have hkk : 7 * k * k ≤ 7 * 26 * 26 := Nat.mul_le_mul (Nat.mul_le_mul (by omega) (by omega)) (by omega)
  have hl := lv_entry ([.int (nI ov), .int (nI k)]) (n := 4) (Nat.le_of_ble_eq_true rfl)
  rw [lg_entry_eq]
  generalize (lg_sl ([.int (nI ov), .int (nI k)]) ++ List.replicate (4 - (lg_sl ([.int (nI ov), .int (nI k)])).length) Slot.unset).toArray = ls at hl ⊢
  have hl : lv_has ls 4 [(0, .int (nI ov)), (1, .int (nI k))] := hl
  refine lv_iload_n hx hb dL_value_0 rfl (lv_at hl 0 rfl) ?_
  refine lv_iconst (v := nI 1) hx hb dL_value_1 (by decide) ?_
  refine lv_icmp_ne (tgt := 7) hx hb dL_value_2 (by decide) (fun c_2 => ?_) (fun c_2 => ?_)
  · skip
    have n_2 : ¬ ov = 1 := fun q__ => c_2 ((nI_eq (a := ov) (b := 1) (by omega) (by omega)).mpr q__)
    refine lv_iload_n hx hb dL_value_7 rfl (lv_at hl 0 rfl) ?_
    refine lv_iconst (v := nI 2) hx hb dL_value_8 (by decide) ?_
    refine lv_icmp_ne (tgt := 24) hx hb dL_value_9 (by decide) (fun c_9 => ?_) (fun c_9 => ?_)
    · skip
      have n_9 : ¬ ov = 2 := fun q__ => c_9 ((nI_eq (a := ov) (b := 2) (by omega) (by omega)).mpr q__)
      refine lv_iload_n hx hb dL_value_24 rfl (lv_at hl 1 rfl) ?_
      refine lv_istore_n (lv' := [(2, .int (nI k)), (0, .int (nI ov)), (1, .int (nI k))]) hx hb dL_value_25 rfl hl (by decide) rfl (fun ls hl => ?_)
      refine lv_iconst (v := nI 1) hx hb dL_value_26 (by decide) ?_
      refine lv_istore_n (lv' := [(3, .int (nI 1)), (2, .int (nI k)), (0, .int (nI ov)), (1, .int (nI k))]) hx hb dL_value_27 rfl hl (by decide) rfl (fun ls hl => ?_)
      have LP_28 : ∀ (n_ : Nat) (a_ : Nat) (t_ : Nat), a_ < n_ → (a_ ≤ k) → ((a_ = k ∧ t_ = 1) ∨ (a_ + 9 = k ∧ t_ = 10 ∧ 0 < a_) ∨ (a_ + 18 = k ∧ t_ = 100 ∧ 0 < a_)) → ∀ ls : Array Slot, lv_has ls 4 [(3, .int (nI t_)), (2, .int (nI a_)), (0, .int (nI ov)), (1, .int (nI k))] → W p l e (headSpec wsL_value (rm_ 0 0 0)).room s m ([.int (nI ov), .int (nI k)] : List Value).toArray below meth c s.heap [] 0 0 (MQ below (va_Qi (fun r (_ : Unit) => r = nI (vl_ ov k)) (fun _ _ => True) (fun _ => False)) ([.int (nI ov), .int (nI k)] : List Value).toArray s 0 0 (fun _ => False)) (F0 m 28 ls []) := by
        intro n_
        induction n_ with
        | zero => intro a_ t_ hm; exact absurd hm (Nat.not_lt_zero _)
        | succ n_ ih_28 =>
          intro a_ t_ hm h1 h2 ls hl
          refine lv_iload_n hx hb dL_value_28 rfl (lv_at hl 1 rfl) ?_
          refine lv_bipush (v := nI 9) hx hb dL_value_29 (by decide) ?_
          refine lv_icmp_le (tgt := 45) hx hb dL_value_31 (by decide) (fun c_31 => ?_) (fun c_31 => ?_)
          · skip
            have n_31 : a_ ≤ 9 := (nI_leI (a := a_) (b := 9) (by omega) (by omega)).mp c_31
            have hE : a_ * t_ = vl_ ov k := vv_ ho hk n_2 n_9 n_31 h2
            refine lv_iload_n hx hb dL_value_45 rfl (lv_at hl 1 rfl) ?_
            refine lv_iload_n hx hb dL_value_46 rfl (lv_at hl 0 rfl) ?_
            refine lv_imul hx hb dL_value_47 ?_
            refine lv_tn (pk_mul _ _) ?_
            exact W.iret hx hb hr (fun t ht hW => ⟨⟨_, (), rfl, (by show nI (a_ * t_) = nI (vl_ ov k); rw [hE]), trivial⟩, ⟨Nat.le_of_eq (by rw [ht]), fun q _ _ => by rw [ht]⟩⟩) (fun q hq => absurd hq List.not_mem_nil) dL_value_48
          · skip
            have n_31 : ¬ a_ ≤ 9 := fun q__ => c_31 ((nI_leI (a := a_) (b := 9) (by omega) (by omega)).mpr q__)
            refine lv_iinc (v := nI (a_ - 9)) (lv' := [(2, .int (nI (a_ - 9))), (3, .int (nI t_)), (0, .int (nI ov)), (1, .int (nI k))]) hx hb dL_value_34 hl (k := 1) rfl (by rw [show (Int32.ofInt (-9)) = -nI 9 by decide, ← Int32.sub_eq_add_neg, pk_sub (by omega)]) (by decide) rfl (fun ls hl => ?_)
            refine lv_iload_n hx hb dL_value_37 rfl (lv_at hl 1 rfl) ?_
            refine lv_bipush (v := nI 10) hx hb dL_value_38 (by decide) ?_
            refine lv_imul hx hb dL_value_40 ?_
            refine lv_tn (pk_mul _ _) ?_
            refine lv_istore_n (lv' := [(3, .int (nI (t_ * 10))), (2, .int (nI (a_ - 9))), (0, .int (nI ov)), (1, .int (nI k))]) hx hb dL_value_41 rfl hl (by decide) rfl (fun ls hl => ?_)
            refine lv_goto (tgt := 28) hx hb dL_value_42 (by decide) ?_
            exact ih_28 (a_ - 9) (t_ * 10) (by omega) (by omega) (by omega) ls (lv_sub hl [0, 1, 2, 3] rfl)
      exact LP_28 _ k 1 (Nat.lt_succ_self _) (Nat.le_refl _) (Or.inl ⟨rfl, rfl⟩) ls (lv_sub hl [0, 1, 2, 3] rfl)
    · skip
      have n_9 : ov = 2 := (nI_eq (a := ov) (b := 2) (by omega) (by omega)).mp c_9
      refine lv_bipush (v := nI 7) hx hb dL_value_12 (by decide) ?_
      refine lv_iload_n hx hb dL_value_14 rfl (lv_at hl 1 rfl) ?_
      refine lv_imul hx hb dL_value_15 ?_
      refine lv_tn (pk_mul _ _) ?_
      refine lv_iload_n hx hb dL_value_16 rfl (lv_at hl 1 rfl) ?_
      refine lv_imul hx hb dL_value_17 ?_
      refine lv_tn (pk_mul _ _) ?_
      refine lv_bipush (v := nI 101) hx hb dL_value_18 (by decide) ?_
      refine lv_irem hx hb dL_value_20 (by decide) ?_
      refine lv_tn (pk_rem (by omega) (by decide) (by decide)) ?_
      refine lv_iconst (v := nI 1) hx hb dL_value_21 (by decide) ?_
      refine lv_iadd hx hb dL_value_22 ?_
      refine lv_tn (nI_add _ _) ?_
      exact W.iret hx hb hr (fun t ht hW => ⟨⟨_, (), rfl, (by show nI ((((7 * k) * k) % 101) + 1) = nI (vl_ ov k); rw [n_9]; unfold vl_; rw [if_pos rfl, Nat.mul_assoc 7 k k, Nat.mul_comm 7 (k * k)]), trivial⟩, ⟨Nat.le_of_eq (by rw [ht]), fun q _ _ => by rw [ht]⟩⟩) (fun q hq => absurd hq List.not_mem_nil) dL_value_23
  · skip
    have n_2 : ov = 1 := (nI_eq (a := ov) (b := 1) (by omega) (by omega)).mp c_2
    refine lv_iload_n hx hb dL_value_5 rfl (lv_at hl 1 rfl) ?_
    exact W.iret hx hb hr (fun t ht hW => ⟨⟨_, (), rfl, (by show nI k = nI (vl_ ov k); rw [n_2, show vl_ 1 k = k from rfl]), trivial⟩, ⟨Nat.le_of_eq (by rw [ht]), fun q _ _ => by rw [ht]⟩⟩) (fun q hq => absurd hq List.not_mem_nil) dL_value_6
set_option maxHeartbeats 4000000 in
set_option maxRecDepth 100000 in
theorem c_L_below (l : Launch) (v : Int32) (n : Nat) (h0 : 0 < n) (hn : n < 2 ^ 31) : RI l yL_below wsL_below 0 (va_Pc [.int v, .int (nI n)] (fun _ => True)) (nI (bl_ v n)) := by
  refine Met.ofW (cc := cL_below) (maxL := 2) (ret := (some .int)) (by decide) rfl ?_
  intro p e s m args below meth c s₁ B hml hv
  obtain ⟨rfl, -⟩ := hv
  have hx := B.exec
  have hb := B.bytes
  have hr := B.returns
  have hts := atoms_spec (ws := wsL_below) B.pre
  have hown : s.vm.findClass RL = some m.cls := findClass_of_methodNamed B.named
  have hlocks := B.notSynchronized
  have hj := bj_j v
  have hl := lv_entry ([.int v, .int (nI n)]) (n := 2) (Nat.le_of_ble_eq_true rfl)
  rw [lg_entry_eq]
  generalize (lg_sl ([.int v, .int (nI n)]) ++ List.replicate (2 - (lg_sl ([.int v, .int (nI n)])).length) Slot.unset).toArray = ls at hl ⊢
  have hl : lv_has ls 2 [(0, .int v), (1, .int (nI n))] := hl
  refine lv_iload_n hx hb dL_below_0 rfl (lv_at hl 0 rfl) ?_
  refine lv_ldc hx hb hown (hts (.constant RL 7 (2147483647)) (by decide +kernel)) dL_below_1 ?_
  refine lv_tn (w := nI 2147483647) (by decide) ?_
  refine lv_iand hx hb dL_below_3 ?_
  refine lv_tn (w := nI (bj_ v)) hj.2 ?_
  refine lv_iload_n hx hb dL_below_4 rfl (lv_at hl 1 rfl) ?_
  refine lv_irem hx hb dL_below_5 (fun q => by rw [eq0_ hn] at q; omega) ?_
  refine lv_tn (pk_rem hj.1 h0 hn) ?_
  exact W.iret hx hb hr (fun t ht hW => ⟨_, rfl, rfl, ht⟩) (fun q hq => absurd hq List.not_mem_nil) dL_below_6
set_option maxHeartbeats 4000000 in
set_option maxRecDepth 100000 in
theorem c_L_letters (l : Launch) (B0 : Nat) (g : va_G) (ct ad : Nat → Nat) (cS : St_) (mS : Pl_) (x : Ax_) (w : Nat) (hw : w < 387420489) : WR l yL_letters wsL_letters 0 1 6 B0 g ct ad cS mS x [.int (nI w)] cS (fun r m1 => Ex_ mS m1 ∧ r ∉ mS.1 ∧ AI_ ct m1 r (ln_ w) (fun k => nI (at_ w k))) := by
  refine Met.ofW (cc := cL_letters) (maxL := 4) (ret := (some (.array .int))) (by decide) rfl ?_
  intro p e s m args below meth c s₁ B hml hv
  obtain ⟨rfl, hC⟩ := hv
  have hx := B.exec
  have hb := B.bytes
  have hr := B.returns
  have hts := atoms_spec (ws := wsL_letters) B.pre
  have hown : s.vm.findClass RL = some m.cls := findClass_of_methodNamed B.named
  have hlocks := B.notSynchronized
  have hS : va_S (AA B0) s.heap s.heap [] := va_S.rf
  have hB : B0 ≤ s.heap.size := hC.1.2.2.1
  have h6 := ln_le hw
  have hE := Ex_r mS
  have hl := lv_entry ([.int (nI w)]) (n := 4) (Nat.le_of_ble_eq_true rfl)
  rw [lg_entry_eq]
  generalize (lg_sl ([.int (nI w)]) ++ List.replicate (4 - (lg_sl ([.int (nI w)])).length) Slot.unset).toArray = ls at hl ⊢
  have hl : lv_has ls 4 [(0, .int (nI w))] := hl
  refine lv_iconst (v := nI 0) hx hb dL_letters_0 (by decide) ?_
  refine lv_istore_n (lv' := [(1, .int (nI 0)), (0, .int (nI w))]) hx hb dL_letters_1 rfl hl (by decide) rfl (fun ls hl => ?_)
  refine lv_iload_n hx hb dL_letters_2 rfl (lv_at hl 1 rfl) ?_
  refine lv_istore_n (lv' := [(2, .int (nI w)), (1, .int (nI 0)), (0, .int (nI w))]) hx hb dL_letters_3 rfl hl (by decide) rfl (fun ls hl => ?_)
  have LP_4 : ∀ (n_ : Nat) (k : Nat) (r : Nat), r < n_ → (k + ln_ r = ln_ w) → (r ≤ w) → ∀ ls : Array Slot, lv_has ls 4 [(2, .int (nI r)), (1, .int (nI k)), (0, .int (nI w))] → W p l e (headSpec wsL_letters (rm_ 0 1 6)).room s m ([.int (nI w)] : List Value).toArray below meth c s.heap [] 0 0 (MQ below (va_Qr (fun (_ : Qu_) => True) (fun u r t => (fun r m1 => Ex_ mS m1 ∧ r ∉ mS.1 ∧ AI_ ct m1 r (ln_ w) (fun k => nI (at_ w k))) r u.1 ∧ CW B0 g ct ad cS u.1 u.2 t.heap) (AA B0)) ([.int (nI w)] : List Value).toArray s 1 6 (AA B0)) (F0 m 4 ls []) := by
    intro n_
    induction n_ with
    | zero => intro k r hm; exact absurd hm (Nat.not_lt_zero _)
    | succ n_ ih_4 =>
      intro k r hm h1 h2 ls hl
      refine lv_iload_n hx hb dL_letters_4 rfl (lv_at hl 0 rfl) ?_
      refine lv_if_le (tgt := 19) hx hb dL_letters_5 (by decide) (fun c_5 => ?_) (fun c_5 => ?_)
      · skip
        have n_5 : r = 0 := (nle0_ (by omega)).mp c_5
        have hE1 : k = ln_ w := by rw [n_5, ln_0] at h1; omega
        have hl : lv_has ls 4 [(2, .int (nI r)), (1, .int (nI (ln_ w))), (0, .int (nI w))] := (by rw [hE1] at hl; exact hl)
        refine lv_iload_n hx hb dL_letters_19 rfl (lv_at hl 1 rfl) ?_
        refine n_i hC hB hS hx hb (hts (.arrayClass .int) (by decide +kernel)) (j := ln_ w) (by omega) (by show _ ≤ 1; omega) (by show _ ≤ 6; omega) dL_letters_20 (fun q_20 m_20 H fq_20 xq_20 A_20 hC hS => ?_)
        have fb_20 : q_20 ∉ mS.1 := hE.nin fq_20
        have hE := Ex_t hE xq_20
        refine lv_astore_n (lv' := [(2, .ref q_20), (1, .int (nI (ln_ w))), (0, .int (nI w))]) hx hb dL_letters_22 rfl hl (by decide) rfl (fun ls hl => ?_)
        refine lv_iload_n hx hb dL_letters_23 rfl (lv_at hl 2 rfl) ?_
        refine lv_istore_n (lv' := [(3, .int (nI w)), (2, .ref q_20), (1, .int (nI (ln_ w))), (0, .int (nI w))]) hx hb dL_letters_24 rfl hl (by decide) rfl (fun ls hl => ?_)
        have LP_25 : ∀ (n_ : Nat) (k : Nat) (r : Nat) (mL : Pl_) (xL : Ax_), r < n_ → (ln_ r = k) → (r ≤ w) → (r = w / 27 ^ (ln_ w - k)) → (k ≤ ln_ w) → Ex_ mS mL → AI_ ct mL q_20 (ln_ w) (fun j => if j < k then 0 else nI (at_ w j)) → ∀ (H : Heap) (locs : List Loc), CX B0 g ct ad cS mL xL s H → va_S (AA B0) s.heap H locs → ∀ ls : Array Slot, lv_has ls 4 [(3, .int (nI r)), (2, .ref q_20), (1, .int (nI k)), (0, .int (nI w))] → W p l e (headSpec wsL_letters (rm_ 0 1 6)).room s m ([.int (nI w)] : List Value).toArray below meth c H locs (0 + 1) (0 + ln_ w) (MQ below (va_Qr (fun (_ : Qu_) => True) (fun u r t => (fun r m1 => Ex_ mS m1 ∧ r ∉ mS.1 ∧ AI_ ct m1 r (ln_ w) (fun k => nI (at_ w k))) r u.1 ∧ CW B0 g ct ad cS u.1 u.2 t.heap) (AA B0)) ([.int (nI w)] : List Value).toArray s 1 6 (AA B0)) (F0 m 25 ls []) := by
          intro n_
          induction n_ with
          | zero => intro k r mL xL hm; exact absurd hm (Nat.not_lt_zero _)
          | succ n_ ih_25 =>
            intro k r mL xL hm h1 h2 h3 h4 hE A_20 H locs hC hS ls hl
            have hk1 : 0 < r → 0 < k := fun q => by rw [ln_s q (by omega)] at h1; omega
            refine lv_iload_n hx hb dL_letters_25 rfl (lv_at hl 0 rfl) ?_
            refine lv_if_le (tgt := 47) hx hb dL_letters_26 (by decide) (fun c_26 => ?_) (fun c_26 => ?_)
            · skip
              have n_26 : r = 0 := (nle0_ (by omega)).mp c_26
              have hE2 : k = 0 := by rw [n_26, ln_0] at h1; omega
              have A_end : AI_ ct mL q_20 (ln_ w) (fun k => nI (at_ w k)) := A_20.to (fun j hj => if_neg (by omega))
              refine lv_aload_n hx hb dL_letters_47 rfl (lv_at hl 1 rfl) ?_
              refine W.widen (k := 1) (n := 6) (by omega) (by omega) ?_
              exact W.aret hx hb hr (Or.inr ⟨_, rfl⟩) (Or.inr ⟨_, rfl⟩) (fun t ht hW => ⟨⟨(mL, xL), _, rfl, trivial, ⟨hE, fb_20, A_end⟩, (by show CW B0 g ct ad cS mL xL t.heap; rw [ht]; exact hC.1)⟩, hS.F ht⟩) hS.2.2 dL_letters_48
            · skip
              have n_26 : 0 < r := Nat.pos_of_ne_zero (fun q__ => c_26 ((nle0_ (by omega)).mpr q__))
              have hk2 := hk1 n_26
              refine lv_iinc (v := nI (k - 1)) (lv' := [(1, .int (nI (k - 1))), (3, .int (nI r)), (2, .ref q_20), (0, .int (nI w))]) hx hb dL_letters_29 hl (k := 2) rfl (im2_ (by omega)) (by decide) rfl (fun ls hl => ?_)
              refine lv_aload_n hx hb dL_letters_32 rfl (lv_at hl 2 rfl) ?_
              refine lv_iload_n hx hb dL_letters_33 rfl (lv_at hl 0 rfl) ?_
              refine lv_iload_n hx hb dL_letters_34 rfl (lv_at hl 1 rfl) ?_
              refine lv_bipush (v := nI 27) hx hb dL_letters_35 (by decide) ?_
              refine lv_irem hx hb dL_letters_37 (by decide) ?_
              refine lv_tn (pk_rem (by omega) (by decide) (by decide)) ?_
              refine lv_tn (w := nI (at_ w (k - 1))) (congrArg nI (by unfold at_; rw [h3, show ln_ w - 1 - (k - 1) = ln_ w - k by omega])) ?_
              refine u_i hC hB hS hx hb A_20 dL_letters_38 (j := k - 1) (v := nI (at_ w (k - 1))) (by omega) (by omega) (fun m_38 H locs pu_38 A_38 hC hS => ?_)
              have hE := hE.pu fb_20 pu_38
              refine lv_iload_n hx hb dL_letters_39 rfl (lv_at hl 1 rfl) ?_
              refine lv_bipush (v := nI 27) hx hb dL_letters_40 (by decide) ?_
              refine lv_idiv hx hb dL_letters_42 (by decide) ?_
              refine lv_tn (pk_div (by omega) (by decide) (by decide)) ?_
              refine lv_istore_n (lv' := [(3, .int (nI (r / 27))), (1, .int (nI (k - 1))), (2, .ref q_20), (0, .int (nI w))]) hx hb dL_letters_43 rfl hl (by decide) rfl (fun ls hl => ?_)
              refine lv_goto (tgt := 25) hx hb dL_letters_44 (by decide) ?_
              refine W.widen (k := 0 + 1) (n := 0 + ln_ w) (by omega) (by omega) ?_
              exact ih_25 (k - 1) (r / 27) m_38 xL (by omega) (by rw [ln_s n_26 (by omega)] at h1; omega) (by omega) (by rw [h3, dv_, show ln_ w - k + 1 = ln_ w - (k - 1) by omega]) (by omega) hE (A_38.to (fun j hj => lt_up hj)) H locs hC hS ls (lv_sub hl [0, 2, 1, 3] rfl)
        refine W.widen (k := 0 + 1) (n := 0 + ln_ w) (by omega) (by omega) ?_
        exact LP_25 _ (ln_ w) w m_20 x (Nat.lt_succ_self _) rfl (Nat.le_refl _) (by rw [Nat.sub_self]; simp) (Nat.le_refl _) hE (A_20.to (fun j hj => (if_pos hj).symm)) H [] hC hS ls (lv_sub hl [0, 1, 2, 3] rfl)
      · skip
        have n_5 : 0 < r := Nat.pos_of_ne_zero (fun q__ => c_5 ((nle0_ (by omega)).mpr q__))
        refine lv_iinc (v := nI (k + 1)) (lv' := [(1, .int (nI (k + 1))), (2, .int (nI r)), (0, .int (nI w))]) hx hb dL_letters_8 hl (k := 1) rfl (nI_1 _) (by decide) rfl (fun ls hl => ?_)
        refine lv_iload_n hx hb dL_letters_11 rfl (lv_at hl 1 rfl) ?_
        refine lv_bipush (v := nI 27) hx hb dL_letters_12 (by decide) ?_
        refine lv_idiv hx hb dL_letters_14 (by decide) ?_
        refine lv_tn (pk_div (by omega) (by decide) (by decide)) ?_
        refine lv_istore_n (lv' := [(2, .int (nI (r / 27))), (1, .int (nI (k + 1))), (0, .int (nI w))]) hx hb dL_letters_15 rfl hl (by decide) rfl (fun ls hl => ?_)
        refine lv_goto (tgt := 4) hx hb dL_letters_16 (by decide) ?_
        exact ih_4 (k + 1) (r / 27) (by omega) (by rw [ln_s n_5 (by omega)] at h1; omega) (by omega) ls (lv_sub hl [0, 1, 2] rfl)
  exact LP_4 _ 0 w (Nat.lt_succ_self _) (Nat.zero_add _) (Nat.le_refl _) ls (lv_sub hl [0, 1, 2] rfl)
set_option maxHeartbeats 4000000 in
set_option maxRecDepth 100000 in
theorem c_X1_value (l : Launch) (B0 : Nat) (g : va_G) (ct ad : Nat → Nat) (cS : St_) (mS : Pl_) (x : Ax_) (o : Nat) (cJ : St_) (hI : Iv_ cJ) (hJ : SI_ ct mS o cJ) (w : Nat) (hw : w < 387420489) : WQ l yX1_value wsX1_value 1 1 6 B0 g ct ad cS mS x [.ref o, .int (nI w)] (nI (ws0 (so cJ) w)) cS (fun m1 => Ex_ mS m1) := by
  refine Met.ofW (cc := cX1_value) (maxL := 7) (ret := (some .int)) (by decide) rfl ?_
  intro p e s m args below meth c s₁ B hml hv
  obtain ⟨rfl, hC⟩ := hv
  have hx := B.exec
  have hb := B.bytes
  have hr := B.returns
  have hts := atoms_spec (ws := wsX1_value) B.pre
  have hown : s.vm.findClass RX1 = some m.cls := findClass_of_methodNamed B.named
  have hlocks := B.notSynchronized
  have hin1 : ∀ w ∈ wsX10, w ∈ wsX1_value := fun _ h => List.mem_cons_of_mem _ (List.mem_append_right _ h)
  have hS : va_S (AA B0) s.heap s.heap [] := va_S.rf
  have hB : B0 ≤ s.heap.size := hC.1.2.2.1
  obtain ⟨lo, mo, la, wa, ba, hJ0⟩ := hJ
  have hE := Ex_r mS
  have h12 := hI.2.1
  have h10 := hI.2.2.1
  have h6 := ln_le hw
  have hl := lv_entry ([.ref o, .int (nI w)]) (n := 7) (Nat.le_of_ble_eq_true rfl)
  rw [lg_entry_eq]
  generalize (lg_sl ([.ref o, .int (nI w)]) ++ List.replicate (7 - (lg_sl ([.ref o, .int (nI w)])).length) Slot.unset).toArray = ls at hl ⊢
  have hl : lv_has ls 7 [(0, .ref o), (1, .int (nI w))] := hl
  refine lv_iconst (v := nI 0) hx hb dX1_value_0 (by decide) ?_
  refine lv_istore_n (lv' := [(2, .int (nI 0)), (0, .ref o), (1, .int (nI w))]) hx hb dX1_value_1 rfl hl (by decide) rfl (fun ls hl => ?_)
  refine lv_iload_n hx hb dX1_value_2 rfl (lv_at hl 2 rfl) ?_
  refine k_RN (As := [.int (nI w)]) (rest := []) (c_L_letters l B0 g ct ad cS mS x w (by omega)) hC hS ⟨hx, hb, hml, hown, hts⟩ ⟨va_cnB 1 hts gX1_value_L_letters_n21 rfl rfl rfl hC.2.2.2.2.2.1 (hts (.initialized RL) (by decide +kernel)) (by decide +kernel) ⟨Nat.le_of_ble_eq_true rfl, Nat.le_of_ble_eq_true rfl⟩, hts (.static yL_letters) (by decide +kernel), trivial⟩ rfl hl.1 rfl (Nat.le_of_ble_eq_true rfl) dX1_value_3 ⟨(by show _ ≤ 1; omega), (by show _ ≤ 6; omega)⟩ (fun m_3 x_3 q_3 H locs hr_3 hC hS => ?_)
  obtain ⟨xq_3, fq_3, A_3⟩ := hr_3
  have fb_3 : q_3 ∉ mS.1 := hE.nin fq_3
  have hE := Ex_t hE xq_3
  refine lv_astore_n (lv' := [(3, .ref q_3), (2, .int (nI 0)), (0, .ref o), (1, .int (nI w))]) hx hb dX1_value_6 rfl hl (by decide) rfl (fun ls hl => ?_)
  refine lv_aload_n hx hb dX1_value_7 rfl (lv_at hl 0 rfl) ?_
  refine q_il hC hx hb A_3 dX1_value_8 ?_
  refine lv_istore (lv' := [(4, .int (nI (ln_ w))), (3, .ref q_3), (2, .int (nI 0)), (0, .ref o), (1, .int (nI w))]) hx hb dX1_value_9 hl (by decide) rfl (fun ls hl => ?_)
  refine lv_iconst (v := nI 0) hx hb dX1_value_11 (by decide) ?_
  refine lv_istore (lv' := [(5, .int (nI 0)), (4, .int (nI (ln_ w))), (3, .ref q_3), (2, .int (nI 0)), (0, .ref o), (1, .int (nI w))]) hx hb dX1_value_12 hl (by decide) rfl (fun ls hl => ?_)
  have LP_14 : ∀ (n_ : Nat) (t : Nat) (k : Nat), ln_ w - k < n_ → (t = qs_ (fun p => vl_ (so cJ) (at_ w p)) k) → (k ≤ ln_ w) → ∀ (H : Heap) (locs : List Loc), CX B0 g ct ad cS m_3 x_3 s H → va_S (AA B0) s.heap H locs → ∀ ls : Array Slot, lv_has ls 7 [(5, .int (nI k)), (4, .int (nI (ln_ w))), (3, .ref q_3), (2, .int (nI t)), (0, .ref o), (1, .int (nI w))] → W p l e (headSpec wsX1_value (rm_ 1 1 6)).room s m ([.ref o, .int (nI w)] : List Value).toArray below meth c H locs (0 + 1) (0 + 6) (MQ below (va_Qi (fun r (u : Qu_) => r = nI (ws0 (so cJ) w) ∧ (fun m1 => Ex_ mS m1) u.1) (fun u t => CW B0 g ct ad cS u.1 u.2 t.heap) (AA B0)) ([.ref o, .int (nI w)] : List Value).toArray s 1 6 (AA B0)) (F0 m 14 ls []) := by
    intro n_
    induction n_ with
    | zero => intro t k hm; exact absurd hm (Nat.not_lt_zero _)
    | succ n_ ih_14 =>
      intro t k hm h1 h2 H locs hC hS ls hl
      refine lv_iload hx hb dX1_value_14 (lv_at hl 0 rfl) ?_
      refine lv_iload hx hb dX1_value_16 (lv_at hl 1 rfl) ?_
      refine lv_icmp_ge (tgt := 45) hx hb dX1_value_18 (by decide) (fun c_18 => ?_) (fun c_18 => ?_)
      · skip
        have n_18 : ln_ w ≤ k := (nI_leI (a := ln_ w) (b := k) (by omega) (by omega)).mp c_18
        have hE1 : t = ws0 (so cJ) w := by rw [h1, show k = ln_ w by omega]; rfl
        refine lv_iload_n hx hb dX1_value_45 rfl (lv_at hl 3 rfl) ?_
        refine W.widen (k := 1) (n := 6) (by omega) (by omega) ?_
        exact W.iret hx hb hr (fun t ht hW => ⟨⟨_, (m_3, x_3), rfl, ⟨(congrArg nI hE1), hE⟩, (by show CW B0 g ct ad cS m_3 x_3 t.heap; rw [ht]; exact hC.1)⟩, hS.F ht⟩) hS.2.2 dX1_value_46
      · skip
        have n_18 : ¬ ln_ w ≤ k := fun q__ => c_18 ((nI_leI (a := ln_ w) (b := k) (by omega) (by omega)).mpr q__)
        refine lv_aload_n hx hb dX1_value_21 rfl (lv_at hl 2 rfl) ?_
        refine lv_iload hx hb dX1_value_22 (lv_at hl 0 rfl) ?_
        refine q_i hC hx hb A_3 dX1_value_24 (j := k) (by omega) (by omega) ?_
        refine lv_tn (w := nI (at_ w k)) rfl ?_
        refine lv_istore (lv' := [(6, .int (nI (at_ w k))), (5, .int (nI k)), (4, .int (nI (ln_ w))), (3, .ref q_3), (2, .int (nI t)), (0, .ref o), (1, .int (nI w))]) hx hb dX1_value_25 hl (by decide) rfl (fun ls hl => ?_)
        refine lv_iload_n hx hb dX1_value_27 rfl (lv_at hl 4 rfl) ?_
        refine lv_aload_n hx hb dX1_value_28 rfl (lv_at hl 5 rfl) ?_
        refine q_f hC hx hb hts hin1 hown (hJ0.1.ex hE) 0 (by decide) (hts (.fieldLink RX1 27 "AbjadPoemsLaw$Sim" "order" "I") (by decide +kernel)) (v := .int (nI (so cJ))) rfl dX1_value_29 ?_
        refine lv_iload hx hb dX1_value_32 (lv_at hl 0 rfl) ?_
        refine k_fN (As := [.int (nI (so cJ)), .int (nI (at_ w k))]) (rest := [.int (nI t)]) (c_L_value l (so cJ) (at_ w k) hI.1 (at_lt _ _)) hC hS ⟨hx, hb, hml, hown, hts⟩ ⟨va_cnB 2 hts gX1_value_L_value_n31 rfl rfl rfl hC.2.2.2.2.2.2.1 (hts (.initialized RL) (by decide +kernel)) (by decide +kernel) ⟨Nat.le_of_ble_eq_true rfl, Nat.le_of_ble_eq_true rfl⟩, hts (.static yL_value) (by decide +kernel), trivial⟩ rfl hl.1 rfl (Nat.le_of_ble_eq_true rfl) dX1_value_34 ⟨(by show _ ≤ 1; omega), (by show _ ≤ 6; omega)⟩ (fun H locs hC hS => ?_)
        refine lv_iadd hx hb dX1_value_37 ?_
        refine lv_tn (nI_add _ _) ?_
        refine lv_istore_n (lv' := [(2, .int (nI (t + (vl_ (so cJ) (at_ w k))))), (6, .int (nI (at_ w k))), (5, .int (nI k)), (4, .int (nI (ln_ w))), (3, .ref q_3), (0, .ref o), (1, .int (nI w))]) hx hb dX1_value_38 rfl hl (by decide) rfl (fun ls hl => ?_)
        refine lv_iinc (v := nI (k + 1)) (lv' := [(5, .int (nI (k + 1))), (2, .int (nI (t + (vl_ (so cJ) (at_ w k))))), (6, .int (nI (at_ w k))), (4, .int (nI (ln_ w))), (3, .ref q_3), (0, .ref o), (1, .int (nI w))]) hx hb dX1_value_39 hl (k := 2) rfl (nI_1 _) (by decide) rfl (fun ls hl => ?_)
        refine lv_goto (tgt := 14) hx hb dX1_value_42 (by decide) ?_
        refine W.widen (k := 0 + 1) (n := 0 + 6) (by omega) (by omega) ?_
        exact ih_14 (t + (vl_ (so cJ) (at_ w k))) (k + 1) (by omega) (by rw [h1]; rfl) (by omega) H locs hC hS ls (lv_sub hl [0, 3, 4, 1, 5, 6] rfl)
  refine W.widen (k := 0 + 1) (n := 0 + 6) (by omega) (by omega) ?_
  exact LP_14 _ 0 0 (Nat.lt_succ_self _) rfl (Nat.zero_le _) H locs hC hS ls (lv_sub hl [0, 1, 2, 3, 4, 5] rfl)
