/-- what holds all through the law -/
def LF (p : Program) (s : State) (m : MethodId) (b : Nat) (c : Code) (L : Nat) (xs : Nat → Int32) (B0 : Nat) : Prop :=
  p.tables.exec = Jvm.exec ∧ c.code = cL_law ∧ c.maxLocals = 18 ∧ s.vm.findClass RL = some m.cls ∧ (∀ w ∈ wsL_law, w.before #[Value.ref b] s = true) ∧ va_X b L xs s s.heap ∧ b < s.heap.size ∧ L ≤ 260 ∧ B0 ≤ s.heap.size ∧ ¬ AA B0 b
set_option maxHeartbeats 4000000 in
set_option maxRecDepth 100000 in
theorem l_law {p : Program} {l : Launch} {e : Env} {s : State} {m : MethodId} {b : Nat} {below : List Frame} {meth : Method} {c : Code} {Q : State → Prop} {L : Nat} {xs : Nat → Int32} {B0 : Nat} {g : va_G} {ct ad : Nat → Nat} {o : Nat} {cS : St_} {mS : Pl_} {x : Ax_} (h : LF p s m b c L xs B0) (hJ : SI_ ct mS o cS) (hZ : IZ_ cS)
    (kend : ∀ (H : Heap) (locs : List Loc) (ls : Array Slot) (cells slots : Nat), va_S (AA B0) s.heap H locs → cells ≤ 600130 → slots ≤ 7301080 → W p l e room_1 s m #[Value.ref b] below meth c H locs cells slots Q (F0 m 778 ls [.int (nI 1)]))
    {H : Heap} {locs : List Loc} {ls : Array Slot} (hC : CX B0 g ct ad cS mS x s H) (hS : va_S (AA B0) s.heap H locs) (hl : lv_has ls 18 [(2, .ref o), (1, .ref (ad 0)), (0, .ref b)]) : W p l e room_1 s m #[Value.ref b] below meth c H locs 181 10568 Q (F0 m 20 ls []) := by
  obtain ⟨hx, hb, hml, hown, hts, hX, hbl, hL, hB, hbA⟩ := id h
  have hin : ∀ w ∈ wsX00, w ∈ wsL_law := inlX0
  have hin1 : ∀ w ∈ wsX10, w ∈ wsL_law := inlX1
  refine lv_iconst (v := nI 0) hx hb dL_law_20 (by decide) ?_
  refine lv_istore_n (lv' := [(3, .int (nI 0)), (2, .ref o), (1, .ref (ad 0)), (0, .ref b)]) hx hb dL_law_21 rfl hl (by decide) rfl (fun ls hl => ?_)
  have LP_22 : ∀ (n_ : Nat) (tm : Nat) (cL : St_) (mL : Pl_) (xL : Ax_), 16 - tm < n_ → (tm ≤ 16) → (SI_ ct mL o cL) → (IZ_ cL) → ∀ (H : Heap) (locs : List Loc), CX B0 g ct ad cL mL xL s H → va_S (AA B0) s.heap H locs → ∀ ls : Array Slot, lv_has ls 18 [(3, .int (nI tm)), (2, .ref o), (1, .ref (ad 0)), (0, .ref b)] → W p l e room_1 s m #[Value.ref b] below meth c H locs (181 + 21 * tm) (10568 + 129 * tm) Q (F0 m 22 ls []) := by
    intro n_
    induction n_ with
    | zero => intro tm cL mL xL hm; exact absurd hm (Nat.not_lt_zero _)
    | succ n_ ih_22 =>
      intro tm cL mL xL hm htm hSI hZI H locs hC hS ls hl
      refine lv_iload_n hx hb dL_law_22 rfl (lv_at hl 0 rfl) ?_
      refine lv_bipush (v := nI 16) hx hb dL_law_23 (by decide) ?_
      refine lv_icmp_ge (tgt := 773) hx hb dL_law_25 (by decide) (fun c_25 => ?_) (fun c_25 => ?_)
      · skip
        have n_25 : 16 ≤ tm := (nI_leI (a := 16) (b := tm) (by omega) (by omega)).mp c_25
        obtain ⟨lo9, mo9, la9, wa9, ba9, hJ9⟩ := id hSI
        refine lv_aload_n hx hb dL_law_773 rfl (lv_at hl 1 rfl) ?_
        refine lv_aload_n hx hb dL_law_774 rfl (lv_at hl 2 rfl) ?_
        refine k_qV (As := [.ref (ad 0)]) (rest := []) (c_X1_isSame l B0 g ct ad cL mL xL o hSI) hC hS ⟨hx, hb, hml, hown, hts⟩ (cwV 1 hts gL_law_X1_isSame rfl rfl rfl (by decide +kernel) ⟨Nat.le_of_ble_eq_true rfl, Nat.le_of_ble_eq_true rfl⟩) (rc1 hC hJ9.1) rfl hl.1 rfl (Nat.le_of_ble_eq_true rfl) dL_law_775 ⟨(by show _ ≤ 600130; omega), (by show _ ≤ 7301080; omega)⟩ (fun m_775 x_775 H locs hr_775 hC hS => ?_)
        exact kend H locs ls _ _ hS (by omega) (by omega)
      · skip
        have n_25 : ¬ 16 ≤ tm := fun q__ => c_25 ((nI_leI (a := 16) (b := tm) (by omega) (by omega)).mpr q__)
        refine lv_aload_n hx hb dL_law_28 rfl (lv_at hl 3 rfl) ?_
        refine lv_iload_n hx hb dL_law_29 rfl (lv_at hl 0 rfl) ?_
        refine k_cell (As := [.ref b, .int (nI tm)]) (rest := []) (c_L_cell l b L xs tm (by omega) hL) hX hbl hbA hS ⟨hx, hb, hml, hown, hts⟩ (va_cwS 2 hts gL_law_L_cell rfl rfl rfl (by decide +kernel) ⟨Nat.le_of_ble_eq_true rfl, Nat.le_of_ble_eq_true rfl⟩) rfl hl.1 rfl (Nat.le_of_ble_eq_true rfl) dL_law_30 ⟨(by show _ ≤ 600130; omega), (by show _ ≤ 7301080; omega)⟩ (fun v_30 => ?_)
        refine lv_sipush (v := nI 239) hx hb dL_law_33 (by decide) ?_
        refine lv_iload_n hx hb dL_law_36 rfl (lv_at hl 0 rfl) ?_
        refine lv_imul hx hb dL_law_37 ?_
        refine lv_tn (pk_mul _ _) ?_
        refine lv_iadd hx hb dL_law_38 ?_
        refine lv_istore (lv' := [(4, .int (v_30 + (nI (239 * tm)))), (3, .int (nI tm)), (2, .ref o), (1, .ref (ad 0)), (0, .ref b)]) hx hb dL_law_39 hl (by decide) rfl (fun ls hl => ?_)
        refine lv_iconst (v := nI 0) hx hb dL_law_41 (by decide) ?_
        refine lv_istore (lv' := [(5, .int (nI 0)), (4, .int (v_30 + (nI (239 * tm)))), (3, .int (nI tm)), (2, .ref o), (1, .ref (ad 0)), (0, .ref b)]) hx hb dL_law_42 hl (by decide) rfl (fun ls hl => ?_)
        have LP_44 : ∀ (n_ : Nat) (kk : Nat) (cL : St_) (mL : Pl_) (xL : Ax_), 2 - kk < n_ → (kk ≤ 2) → (SI_ ct mL o cL) → (IZ_ cL) → ∀ (H : Heap) (locs : List Loc), CX B0 g ct ad cL mL xL s H → va_S (AA B0) s.heap H locs → ∀ ls : Array Slot, lv_has ls 18 [(5, .int (nI kk)), (4, .int (v_30 + (nI (239 * tm)))), (3, .int (nI tm)), (2, .ref o), (1, .ref (ad 0)), (0, .ref b)] → W p l e room_1 s m #[Value.ref b] below meth c H locs (181 + 21 * tm + 4 * kk) (10568 + 129 * tm + 32 * kk) Q (F0 m 44 ls []) := by
          intro n_
          induction n_ with
          | zero => intro kk cL mL xL hm; exact absurd hm (Nat.not_lt_zero _)
          | succ n_ ih_44 =>
            intro kk cL mL xL hm hkk hSI hZI H locs hC hS ls hl
            refine lv_iload hx hb dL_law_44 (lv_at hl 0 rfl) ?_
            refine lv_iconst (v := nI 2) hx hb dL_law_46 (by decide) ?_
            refine lv_icmp_ge (tgt := 80) hx hb dL_law_47 (by decide) (fun c_47 => ?_) (fun c_47 => ?_)
            · skip
              have n_47 : 2 ≤ kk := (nI_leI (a := 2) (b := kk) (by omega) (by omega)).mp c_47
              obtain ⟨mB, hmB⟩ : ∃ mB : Pl_, mB = mL := ⟨_, rfl⟩
              rw [← hmB] at hC hSI
              obtain ⟨cB, hcB⟩ : ∃ cB : St_, cB = cL := ⟨_, rfl⟩
              rw [← hcB] at hC hSI hZI
              have hSB := hSI
              have hZB := hZI
              have hE := Ex_r mB
              have hI := hC.1.2.2.2
              have h12 := hI.2.1
              have h10 := hI.2.2.1
              have ho9 := hI.1
              have hal := al_b hI
              have hpr : to_ cB 6 ≤ al_ cB 0 * (al_ cB 0 - 1) / 2 := pr_b hI
              have htb := tri_b hal
              refine lv_aload_n hx hb dL_law_80 rfl (lv_at hl 4 rfl) ?_
              refine lv_iconst (v := nI 0) hx hb dL_law_81 (by decide) ?_
              refine k_wV (As := [.int (nI 0)]) (rest := []) (c_X0_told l B0 g ct ad cB mB xL 0 (by omega)) hC hB hS ⟨hx, hb, hml, hown, hts⟩ (cwV 1 hts gL_law_X0_told rfl rfl rfl (by decide +kernel) ⟨Nat.le_of_ble_eq_true rfl, Nat.le_of_ble_eq_true rfl⟩) (rc0 hC) rfl hl.1 rfl (Nat.le_of_ble_eq_true rfl) dL_law_82 ⟨(by show _ ≤ 600130; omega), (by show _ ≤ 7301080; omega)⟩ (fun u_82 H locs hu_82 hC hS => ?_)
              refine lv_tn (w := nI (sn cB)) rfl ?_
              refine lv_istore (lv' := [(5, .int (nI (sn cB))), (4, .int (v_30 + (nI (239 * tm)))), (3, .int (nI tm)), (2, .ref o), (1, .ref (ad 0)), (0, .ref b)]) hx hb dL_law_85 hl (by decide) rfl (fun ls hl => ?_)
              refine lv_iconst (v := nI 5) hx hb dL_law_87 (by decide) ?_
              refine n_i hC hB hS hx hb (hts (.arrayClass .int) (by decide +kernel)) (j := 5) (by omega) (by show _ ≤ 600130; omega) (by show _ ≤ 7301080; omega) dL_law_88 (fun q_88 m_88 H fq_88 xq_88 A_88 hC hS => ?_)
              have fb_88 : q_88 ∉ mB.1 := hE.nin fq_88
              have hE := Ex_t hE xq_88
              refine lv_astore (lv' := [(6, .ref q_88), (5, .int (nI (sn cB))), (4, .int (v_30 + (nI (239 * tm)))), (3, .int (nI tm)), (2, .ref o), (1, .ref (ad 0)), (0, .ref b)]) hx hb dL_law_90 hl (by decide) rfl (fun ls hl => ?_)
              refine lv_iload hx hb dL_law_92 (lv_at hl 2 rfl) ?_
              refine lv_iconst (v := nI 3) hx hb dL_law_94 (by decide) ?_
              refine lv_ishr hx hb dL_law_95 ?_
              refine lv_sipush (v := nI 500) hx hb dL_law_96 (by decide) ?_
              refine k_pS (As := [.int ((v_30 + (nI (239 * tm))) >>> (nI 3 &&& 31)), .int (nI 500)]) (rest := []) (c_L_below l ((v_30 + (nI (239 * tm))) >>> (nI 3 &&& 31)) 500 (by omega) (by omega)) ⟨hx, hb, hml, hown, hts⟩ (va_cwS 2 hts gL_law_L_below rfl rfl rfl (by decide +kernel) ⟨Nat.le_of_ble_eq_true rfl, Nat.le_of_ble_eq_true rfl⟩) rfl hl.1 rfl (Nat.le_of_ble_eq_true rfl) dL_law_99 ⟨(by show _ ≤ 600130; omega), (by show _ ≤ 7301080; omega)⟩ ?_
              obtain ⟨yr, h_yr⟩ : ∃ yr, yr = bl_ ((v_30 + (nI (239 * tm))) >>> (nI 3 &&& 31)) 500 := ⟨_, rfl⟩
              have b_yr : yr < 500 := by rw [h_yr]; exact bl_lt _ (by omega)
              refine lv_tn (w := nI yr) (congrArg nI h_yr.symm) ?_
              refine lv_istore (lv' := [(7, .int (nI yr)), (6, .ref q_88), (5, .int (nI (sn cB))), (4, .int (v_30 + (nI (239 * tm)))), (3, .int (nI tm)), (2, .ref o), (1, .ref (ad 0)), (0, .ref b)]) hx hb dL_law_102 hl (by decide) rfl (fun ls hl => ?_)
              refine lv_iconst (v := nI 0) hx hb dL_law_104 (by decide) ?_
              refine lv_istore (lv' := [(8, .int (nI 0)), (7, .int (nI yr)), (6, .ref q_88), (5, .int (nI (sn cB))), (4, .int (v_30 + (nI (239 * tm)))), (3, .int (nI tm)), (2, .ref o), (1, .ref (ad 0)), (0, .ref b)]) hx hb dL_law_105 hl (by decide) rfl (fun ls hl => ?_)
              refine lv_iconst (v := -1) hx hb dL_law_107 (by decide) ?_
              refine lv_istore (lv' := [(9, .int ((-1))), (8, .int (nI 0)), (7, .int (nI yr)), (6, .ref q_88), (5, .int (nI (sn cB))), (4, .int (v_30 + (nI (239 * tm)))), (3, .int (nI tm)), (2, .ref o), (1, .ref (ad 0)), (0, .ref b)]) hx hb dL_law_108 hl (by decide) rfl (fun ls hl => ?_)
              refine lv_iconst (v := nI 0) hx hb dL_law_110 (by decide) ?_
              refine lv_istore (lv' := [(10, .int (nI 0)), (9, .int ((-1))), (8, .int (nI 0)), (7, .int (nI yr)), (6, .ref q_88), (5, .int (nI (sn cB))), (4, .int (v_30 + (nI (239 * tm)))), (3, .int (nI tm)), (2, .ref o), (1, .ref (ad 0)), (0, .ref b)]) hx hb dL_law_111 hl (by decide) rfl (fun ls hl => ?_)
              have LP_113 : ∀ (n_ : Nat) (k : Nat) (hd : Nat) (bi : Int32) (mL : Pl_) (xL : Ax_), sn cB - k < n_ → (hd = qs_ (fun l => hl_ cB (nI yr) l) k) → (bi = ni_ (nr_ cB (nI yr) k)) → (k ≤ sn cB) → Ex_ mB mL → AI_ ct mL q_88 5 (fun j => nI (qs_ (fun l => lt_ cB l j) k)) → ∀ (H : Heap) (locs : List Loc), CX B0 g ct ad cB mL xL s H → va_S (AA B0) s.heap H locs → ∀ ls : Array Slot, lv_has ls 18 [(10, .int (nI k)), (9, .int bi), (8, .int (nI hd)), (7, .int (nI yr)), (6, .ref q_88), (5, .int (nI (sn cB))), (4, .int (v_30 + (nI (239 * tm)))), (3, .int (nI tm)), (2, .ref o), (1, .ref (ad 0)), (0, .ref b)] → W p l e room_1 s m #[Value.ref b] below meth c H locs (181 + 21 * tm + 9 + k) (10568 + 129 * tm + 69 + 5 * k) Q (F0 m 113 ls []) := by
                intro n_
                induction n_ with
                | zero => intro k hd bi mL xL hm; exact absurd hm (Nat.not_lt_zero _)
                | succ n_ ih_113 =>
                  intro k hd bi mL xL hm hhd hbi hk hE A_88 H locs hC hS ls hl
                  have hz := h10 k
                  have hlt : ∀ b, nr_ cB (nI yr) k = some b → b < 2 ^ 31 := fun b q => by have := nr_lt q; omega
                  refine lv_iload hx hb dL_law_113 (lv_at hl 0 rfl) ?_
                  refine lv_iload hx hb dL_law_115 (lv_at hl 5 rfl) ?_
                  refine lv_icmp_ge (tgt := 649) hx hb dL_law_117 (by decide) (fun c_117 => ?_) (fun c_117 => ?_)
                  · skip
                    have n_117 : sn cB ≤ k := (nI_leI (a := sn cB) (b := k) (by omega) (by omega)).mp c_117
                    have hk9 : k = sn cB := by omega
                    have A_88 : AI_ ct mL q_88 5 (fun q => nI (to_ cB (1 + q))) := A_88.to (fun j hj => by rw [hk9]; exact po_t hj)
                    have hl : lv_has ls 18 [(10, .int (nI (sn cB))), (9, .int (ni_ (nr_ cB (nI yr) (sn cB)))), (8, .int (nI (hs_ cB (nI yr)))), (7, .int (nI yr)), (6, .ref q_88), (5, .int (nI (sn cB))), (4, .int (v_30 + (nI (239 * tm)))), (3, .int (nI tm)), (2, .ref o), (1, .ref (ad 0)), (0, .ref b)] := (by rw [hhd, hbi, hk9] at hl; exact hl)
                    refine lv_iconst (v := nI 0) hx hb dL_law_649 (by decide) ?_
                    refine lv_istore (lv' := [(10, .int (nI 0)), (9, .int (ni_ (nr_ cB (nI yr) (sn cB)))), (8, .int (nI (hs_ cB (nI yr)))), (7, .int (nI yr)), (6, .ref q_88), (5, .int (nI (sn cB))), (4, .int (v_30 + (nI (239 * tm)))), (3, .int (nI tm)), (2, .ref o), (1, .ref (ad 0)), (0, .ref b)]) hx hb dL_law_650 hl (by decide) rfl (fun ls hl => ?_)
                    have LP_652 : ∀ (n_ : Nat) (p_ : Nat) (mL : Pl_) (xL : Ax_), 5 - p_ < n_ → (p_ ≤ 5) → Ex_ mB mL → AI_ ct mL q_88 5 (fun q => nI (to_ cB (1 + q))) → ∀ (H : Heap) (locs : List Loc), CX B0 g ct ad cB mL xL s H → va_S (AA B0) s.heap H locs → ∀ ls : Array Slot, lv_has ls 18 [(10, .int (nI p_)), (9, .int (ni_ (nr_ cB (nI yr) (sn cB)))), (8, .int (nI (hs_ cB (nI yr)))), (7, .int (nI yr)), (6, .ref q_88), (5, .int (nI (sn cB))), (4, .int (v_30 + (nI (239 * tm)))), (3, .int (nI tm)), (2, .ref o), (1, .ref (ad 0)), (0, .ref b)] → W p l e room_1 s m #[Value.ref b] below meth c H locs (181 + 21 * tm + 21) (10568 + 129 * tm + 129) Q (F0 m 652 ls []) := by
                      intro n_
                      induction n_ with
                      | zero => intro p_ mL xL hm; exact absurd hm (Nat.not_lt_zero _)
                      | succ n_ ih_652 =>
                        intro p_ mL xL hm hp hE A_88 H locs hC hS ls hl
                        refine lv_iload hx hb dL_law_652 (lv_at hl 0 rfl) ?_
                        refine lv_iconst (v := nI 5) hx hb dL_law_654 (by decide) ?_
                        refine lv_icmp_ge (tgt := 682) hx hb dL_law_655 (by decide) (fun c_655 => ?_) (fun c_655 => ?_)
                        · skip
                          have n_655 : 5 ≤ p_ := (nI_leI (a := 5) (b := p_) (by omega) (by omega)).mp c_655
                          refine lv_aload_n hx hb dL_law_682 rfl (lv_at hl 9 rfl) ?_
                          refine lv_iload hx hb dL_law_683 (lv_at hl 3 rfl) ?_
                          refine k_rV (As := [.int (nI yr)]) (rest := []) (c_X0_hides l B0 g ct ad cB mL xL (nI yr)) hC ⟨hx, hb, hml, hown, hts⟩ (cwV 1 hts gL_law_X0_hides rfl rfl rfl (by decide +kernel) ⟨Nat.le_of_ble_eq_true rfl, Nat.le_of_ble_eq_true rfl⟩) (rc0 hC) rfl hl.1 rfl (Nat.le_of_ble_eq_true rfl) dL_law_685 ⟨(by show _ ≤ 600130; omega), (by show _ ≤ 7301080; omega)⟩ ?_
                          refine lv_iload hx hb dL_law_688 (lv_at hl 2 rfl) ?_
                          refine lv_icmp_ne (tgt := 765) hx hb dL_law_690 (by decide) (fun c_690 => ?_) (fun c_690 => ?_)
                          · skip
                            exact absurd rfl c_690
                          · skip
                            refine lv_aload_n hx hb dL_law_693 rfl (lv_at hl 9 rfl) ?_
                            refine lv_iload hx hb dL_law_694 (lv_at hl 3 rfl) ?_
                            refine k_rV (As := [.int (nI yr)]) (rest := []) (c_X0_nearest l B0 g ct ad cB mL xL (nI yr)) hC ⟨hx, hb, hml, hown, hts⟩ (cwV 1 hts gL_law_X0_nearest rfl rfl rfl (by decide +kernel) ⟨Nat.le_of_ble_eq_true rfl, Nat.le_of_ble_eq_true rfl⟩) (rc0 hC) rfl hl.1 rfl (Nat.le_of_ble_eq_true rfl) dL_law_696 ⟨(by show _ ≤ 600130; omega), (by show _ ≤ 7301080; omega)⟩ ?_
                            refine lv_iload hx hb dL_law_699 (lv_at hl 1 rfl) ?_
                            refine lv_icmp_ne (tgt := 765) hx hb dL_law_701 (by decide) (fun c_701 => ?_) (fun c_701 => ?_)
                            · skip
                              exact absurd rfl c_701
                            · skip
                              refine lv_aload_n hx hb dL_law_704 rfl (lv_at hl 9 rfl) ?_
                              refine lv_bipush (v := nI 6) hx hb dL_law_705 (by decide) ?_
                              refine k_wV (As := [.int (nI 6)]) (rest := []) (c_X0_told l B0 g ct ad cB mL xL 6 (by omega)) hC hB hS ⟨hx, hb, hml, hown, hts⟩ (cwV 1 hts gL_law_X0_told rfl rfl rfl (by decide +kernel) ⟨Nat.le_of_ble_eq_true rfl, Nat.le_of_ble_eq_true rfl⟩) (rc0 hC) rfl hl.1 rfl (Nat.le_of_ble_eq_true rfl) dL_law_707 ⟨(by show _ ≤ 600130; omega), (by show _ ≤ 7301080; omega)⟩ (fun u_707 H locs hu_707 hC hS => ?_)
                              refine lv_if_lt (tgt := 765) hx hb dL_law_710 (by decide) (fun c_710 => ?_) (fun c_710 => ?_)
                              · skip
                                exact absurd c_710 (nI_pos (by omega))
                              · skip
                                refine lv_aload_n hx hb dL_law_713 rfl (lv_at hl 9 rfl) ?_
                                refine lv_bipush (v := nI 6) hx hb dL_law_714 (by decide) ?_
                                refine k_wV (As := [.int (nI 6)]) (rest := []) (c_X0_told l B0 g ct ad cB mL u_707 6 (by omega)) hC hB hS ⟨hx, hb, hml, hown, hts⟩ (cwV 1 hts gL_law_X0_told rfl rfl rfl (by decide +kernel) ⟨Nat.le_of_ble_eq_true rfl, Nat.le_of_ble_eq_true rfl⟩) (rc0 hC) rfl hl.1 rfl (Nat.le_of_ble_eq_true rfl) dL_law_716 ⟨(by show _ ≤ 600130; omega), (by show _ ≤ 7301080; omega)⟩ (fun u_716 H locs hu_716 hC hS => ?_)
                                refine lv_aload hx hb dL_law_719 (lv_at hl 4 rfl) ?_
                                refine lv_iconst (v := nI 0) hx hb dL_law_721 (by decide) ?_
                                refine q_i hC hx hb A_88 dL_law_722 (j := 0) (by omega) (by omega) ?_
                                refine lv_tn (w := nI (al_ cB 0)) rfl ?_
                                refine lv_aload hx hb dL_law_723 (lv_at hl 4 rfl) ?_
                                refine lv_iconst (v := nI 0) hx hb dL_law_725 (by decide) ?_
                                refine q_i hC hx hb A_88 dL_law_726 (j := 0) (by omega) (by omega) ?_
                                refine lv_tn (w := nI (al_ cB 0)) rfl ?_
                                refine lv_iconst (v := nI 1) hx hb dL_law_727 (by decide) ?_
                                refine lv_isub hx hb dL_law_728 ?_
                                refine lv_imul hx hb dL_law_729 ?_
                                refine lv_iconst (v := nI 2) hx hb dL_law_730 (by decide) ?_
                                refine lv_idiv hx hb dL_law_731 (by decide) ?_
                                refine lv_tn (w := nI (al_ cB 0 * (al_ cB 0 - 1) / 2)) (tri_i _ (by omega)) ?_
                                refine lv_icmp_gt (tgt := 765) hx hb dL_law_732 (by decide) (fun c_732 => ?_) (fun c_732 => ?_)
                                · skip
                                  have n_732 : al_ cB 0 * (al_ cB 0 - 1) / 2 < to_ cB 6 := (nI_ltI (a := al_ cB 0 * (al_ cB 0 - 1) / 2) (b := to_ cB 6) (by omega) (by omega)).mp c_732
                                  exact absurd hpr (by omega)
                                · skip
                                  have n_732 : ¬ al_ cB 0 * (al_ cB 0 - 1) / 2 < to_ cB 6 := fun q__ => c_732 ((nI_ltI (a := al_ cB 0 * (al_ cB 0 - 1) / 2) (b := to_ cB 6) (by omega) (by omega)).mpr q__)
                                  refine lv_aload_n hx hb dL_law_735 rfl (lv_at hl 9 rfl) ?_
                                  refine k_dV (As := []) (rest := []) (c_X0_mean l B0 g ct ad cB mL u_716) hC ⟨hx, hb, hml, hown, hts⟩ (cwV 0 hts gL_law_X0_mean rfl rfl rfl (by decide +kernel) ⟨Nat.le_of_ble_eq_true rfl, Nat.le_of_ble_eq_true rfl⟩) (rc0 hC) rfl hl.1 rfl (Nat.le_of_ble_eq_true rfl) dL_law_736 ⟨(by show _ ≤ 600130; omega), (by show _ ≤ 7301080; omega)⟩ ?_
                                  refine lv_aload hx hb dL_law_739 (lv_at hl 4 rfl) ?_
                                  refine lv_iconst (v := nI 0) hx hb dL_law_741 (by decide) ?_
                                  refine q_i hC hx hb A_88 dL_law_742 (j := 0) (by omega) (by omega) ?_
                                  refine lv_tn (w := nI (al_ cB 0)) rfl ?_
                                  refine lv_if_ne (tgt := 750) hx hb dL_law_743 (by decide) (fun c_743 => ?_) (fun c_743 => ?_)
                                  · skip
                                    have n_743 : ¬ al_ cB 0 = 0 := fun q__ => c_743 ((eq0_ (by omega)).mpr q__)
                                    refine lv_aload hx hb dL_law_750 (lv_at hl 4 rfl) ?_
                                    refine lv_iconst (v := nI 2) hx hb dL_law_752 (by decide) ?_
                                    refine q_i hC hx hb A_88 dL_law_753 (j := 2) (by omega) (by omega) ?_
                                    refine lv_tn (w := nI (al_ cB 2)) rfl ?_
                                    refine lv_i2d hx hb dL_law_754 ?_
                                    refine lv_aload hx hb dL_law_755 (lv_at hl 4 rfl) ?_
                                    refine lv_iconst (v := nI 0) hx hb dL_law_757 (by decide) ?_
                                    refine q_i hC hx hb A_88 dL_law_758 (j := 0) (by omega) (by omega) ?_
                                    refine lv_tn (w := nI (al_ cB 0)) rfl ?_
                                    refine lv_i2d hx hb dL_law_759 ?_
                                    refine lv_ddiv hx hb dL_law_760 (nn_ (by omega) (by omega)) ?_
                                    refine lv_dcmp hx hb dL_law_761 ?_
                                    refine lv_tn (w := nI 0) (dc_ (by omega) (mn_1 n_743).symm) ?_
                                    refine lv_if_eq (tgt := 767) hx hb dL_law_762 (by decide) (fun c_762 => ?_) (fun c_762 => ?_)
                                    · skip
                                      have n_762 : 0 = 0 := (eq0_ (by omega)).mp c_762
                                      refine lv_iinc (v := nI (tm + 1)) (lv' := [(3, .int (nI (tm + 1))), (10, .int (nI p_)), (9, .int (ni_ (nr_ cB (nI yr) (sn cB)))), (8, .int (nI (hs_ cB (nI yr)))), (7, .int (nI yr)), (6, .ref q_88), (5, .int (nI (sn cB))), (4, .int (v_30 + (nI (239 * tm)))), (2, .ref o), (1, .ref (ad 0)), (0, .ref b)]) hx hb dL_law_767 hl (k := 7) rfl (nI_1 _) (by decide) rfl (fun ls hl => ?_)
                                      refine lv_goto (tgt := 22) hx hb dL_law_770 (by decide) ?_
                                      refine W.widen (k := 181 + 21 * (tm + 1)) (n := 10568 + 129 * (tm + 1)) (by omega) (by omega) ?_
                                      exact ih_22 (tm + 1) cB mL u_716 (by omega) (by omega) (hSB.ex hE) hZB H locs hC hS ls (lv_sub hl [0, 8, 9, 10] rfl)
                                    · skip
                                      have n_762 : ¬ 0 = 0 := fun q__ => c_762 ((eq0_ (by omega)).mpr q__)
                                      exact absurd rfl n_762
                                  · skip
                                    have n_743 : al_ cB 0 = 0 := (eq0_ (by omega)).mp c_743
                                    refine lv_dconst0 hx hb dL_law_746 ?_
                                    refine lv_goto (tgt := 761) hx hb dL_law_747 (by decide) ?_
                                    refine lv_dcmp hx hb dL_law_761 ?_
                                    refine lv_tn (w := nI 0) (dc_ (by omega) (mn_0 n_743).symm) ?_
                                    refine lv_if_eq (tgt := 767) hx hb dL_law_762 (by decide) (fun c_762 => ?_) (fun c_762 => ?_)
                                    · skip
                                      have n_762 : 0 = 0 := (eq0_ (by omega)).mp c_762
                                      refine lv_iinc (v := nI (tm + 1)) (lv' := [(3, .int (nI (tm + 1))), (10, .int (nI p_)), (9, .int (ni_ (nr_ cB (nI yr) (sn cB)))), (8, .int (nI (hs_ cB (nI yr)))), (7, .int (nI yr)), (6, .ref q_88), (5, .int (nI (sn cB))), (4, .int (v_30 + (nI (239 * tm)))), (2, .ref o), (1, .ref (ad 0)), (0, .ref b)]) hx hb dL_law_767 hl (k := 7) rfl (nI_1 _) (by decide) rfl (fun ls hl => ?_)
                                      refine lv_goto (tgt := 22) hx hb dL_law_770 (by decide) ?_
                                      refine W.widen (k := 181 + 21 * (tm + 1)) (n := 10568 + 129 * (tm + 1)) (by omega) (by omega) ?_
                                      exact ih_22 (tm + 1) cB mL u_716 (by omega) (by omega) (hSB.ex hE) hZB H locs hC hS ls (lv_sub hl [0, 8, 9, 10] rfl)
                                    · skip
                                      have n_762 : ¬ 0 = 0 := fun q__ => c_762 ((eq0_ (by omega)).mpr q__)
                                      exact absurd rfl n_762
                        · skip
                          have n_655 : ¬ 5 ≤ p_ := fun q__ => c_655 ((nI_leI (a := 5) (b := p_) (by omega) (by omega)).mpr q__)
                          refine lv_aload_n hx hb dL_law_658 rfl (lv_at hl 9 rfl) ?_
                          refine lv_iconst (v := nI 1) hx hb dL_law_659 (by decide) ?_
                          refine lv_iload hx hb dL_law_660 (lv_at hl 0 rfl) ?_
                          refine lv_iadd hx hb dL_law_662 ?_
                          refine lv_tn (nI_add _ _) ?_
                          refine k_wV (As := [.int (nI (1 + p_))]) (rest := []) (c_X0_told l B0 g ct ad cB mL xL (1 + p_) (by omega)) hC hB hS ⟨hx, hb, hml, hown, hts⟩ (cwV 1 hts gL_law_X0_told rfl rfl rfl (by decide +kernel) ⟨Nat.le_of_ble_eq_true rfl, Nat.le_of_ble_eq_true rfl⟩) (rc0 hC) rfl hl.1 rfl (Nat.le_of_ble_eq_true rfl) dL_law_663 ⟨(by show _ ≤ 600130; omega), (by show _ ≤ 7301080; omega)⟩ (fun u_663 H locs hu_663 hC hS => ?_)
                          refine lv_aload hx hb dL_law_666 (lv_at hl 4 rfl) ?_
                          refine lv_iload hx hb dL_law_668 (lv_at hl 0 rfl) ?_
                          refine q_i hC hx hb A_88 dL_law_670 (j := p_) (by omega) (by omega) ?_
                          refine lv_tn (w := nI (to_ cB (1 + p_))) rfl ?_
                          refine lv_icmp_eq (tgt := 676) hx hb dL_law_671 (by decide) (fun c_671 => ?_) (fun c_671 => ?_)
                          · skip
                            refine lv_iinc (v := nI (p_ + 1)) (lv' := [(10, .int (nI (p_ + 1))), (9, .int (ni_ (nr_ cB (nI yr) (sn cB)))), (8, .int (nI (hs_ cB (nI yr)))), (7, .int (nI yr)), (6, .ref q_88), (5, .int (nI (sn cB))), (4, .int (v_30 + (nI (239 * tm)))), (3, .int (nI tm)), (2, .ref o), (1, .ref (ad 0)), (0, .ref b)]) hx hb dL_law_676 hl (k := 0) rfl (nI_1 _) (by decide) rfl (fun ls hl => ?_)
                            refine lv_goto (tgt := 652) hx hb dL_law_679 (by decide) ?_
                            refine W.widen (k := 181 + 21 * tm + 21) (n := 10568 + 129 * tm + 129) (by omega) (by omega) ?_
                            exact ih_652 (p_ + 1) mL u_663 (by omega) (by omega) hE A_88 H locs hC hS ls (lv_sub hl [0, 1, 2, 3, 4, 5, 6, 7, 8, 9, 10] rfl)
                          · skip
                            exact absurd rfl c_671
                    refine W.widen (k := 181 + 21 * tm + 21) (n := 10568 + 129 * tm + 129) (by omega) (by omega) ?_
                    exact LP_652 _ 0 mL xL (Nat.lt_succ_self _) (Nat.zero_le _) hE A_88 H locs hC hS ls (lv_sub hl [0, 1, 2, 3, 4, 5, 6, 7, 8, 9, 10] rfl)
                  · skip
                    have n_117 : ¬ sn cB ≤ k := fun q__ => c_117 ((nI_leI (a := sn cB) (b := k) (by omega) (by omega)).mpr q__)
                    refine lv_aload_n hx hb dL_law_120 rfl (lv_at hl 9 rfl) ?_
                    refine lv_iload hx hb dL_law_121 (lv_at hl 0 rfl) ?_
                    refine lv_iconst (v := nI 0) hx hb dL_law_123 (by decide) ?_
                    refine k_rV (As := [.int (nI k), .int (nI 0)]) (rest := []) (c_X0_line l B0 g ct ad cB mL xL k 0 (by omega) (by omega)) hC ⟨hx, hb, hml, hown, hts⟩ (cwV 2 hts gL_law_X0_line rfl rfl rfl (by decide +kernel) ⟨Nat.le_of_ble_eq_true rfl, Nat.le_of_ble_eq_true rfl⟩) (rc0 hC) rfl hl.1 rfl (Nat.le_of_ble_eq_true rfl) dL_law_124 ⟨(by show _ ≤ 600130; omega), (by show _ ≤ 7301080; omega)⟩ ?_
                    refine lv_tn (w := nI (ss cB k)) rfl ?_
                    refine lv_istore (lv' := [(11, .int (nI (ss cB k))), (10, .int (nI k)), (9, .int bi), (8, .int (nI hd)), (7, .int (nI yr)), (6, .ref q_88), (5, .int (nI (sn cB))), (4, .int (v_30 + (nI (239 * tm)))), (3, .int (nI tm)), (2, .ref o), (1, .ref (ad 0)), (0, .ref b)]) hx hb dL_law_127 hl (by decide) rfl (fun ls hl => ?_)
                    refine lv_iconst (v := nI 5) hx hb dL_law_129 (by decide) ?_
                    refine n_i hC hB hS hx hb (hts (.arrayClass .int) (by decide +kernel)) (j := 5) (by omega) (by show _ ≤ 600130; omega) (by show _ ≤ 7301080; omega) dL_law_130 (fun q_130 m_130 H fq_130 xq_130 A_130 hC hS => ?_)
                    have d_130_88 : q_88 ≠ q_130 := fun e9 => fq_130 (e9 ▸ A_88.1)
                    have A_88 := A_88.ex xq_130
                    have fb_130 : q_130 ∉ mB.1 := hE.nin fq_130
                    have hE := Ex_t hE xq_130
                    refine lv_astore (lv' := [(12, .ref q_130), (11, .int (nI (ss cB k))), (10, .int (nI k)), (9, .int bi), (8, .int (nI hd)), (7, .int (nI yr)), (6, .ref q_88), (5, .int (nI (sn cB))), (4, .int (v_30 + (nI (239 * tm)))), (3, .int (nI tm)), (2, .ref o), (1, .ref (ad 0)), (0, .ref b)]) hx hb dL_law_132 hl (by decide) rfl (fun ls hl => ?_)
                    refine lv_aload hx hb dL_law_134 (lv_at hl 0 rfl) ?_
                    refine lv_iconst (v := nI 0) hx hb dL_law_136 (by decide) ?_
                    refine lv_iload hx hb dL_law_137 (lv_at hl 1 rfl) ?_
                    refine u_i hC hB hS hx hb A_130 dL_law_139 (j := 0) (v := nI (ss cB k)) (by omega) (by omega) (fun m_139 H locs pu_139 A_139 hC hS => ?_)
                    have A_88 := A_88.pu pu_139 d_130_88
                    have hE := hE.pu fb_130 pu_139
                    have A_139 : AI_ ct m_139 q_130 5 (fun j => if j = 0 then nI (ss cB k) else nI (qs_ (fun w => wt_ cB k w j) 0)) := A_139.to (fun j hj => by rcases (show j = 0 ∨ j = 1 ∨ j = 2 ∨ j = 3 ∨ j = 4 by omega) with rfl | rfl | rfl | rfl | rfl <;> rfl)
                    refine lv_iconst (v := nI 0) hx hb dL_law_140 (by decide) ?_
                    refine lv_istore (lv' := [(13, .int (nI 0)), (12, .ref q_130), (11, .int (nI (ss cB k))), (10, .int (nI k)), (9, .int bi), (8, .int (nI hd)), (7, .int (nI yr)), (6, .ref q_88), (5, .int (nI (sn cB))), (4, .int (v_30 + (nI (239 * tm)))), (3, .int (nI tm)), (2, .ref o), (1, .ref (ad 0)), (0, .ref b)]) hx hb dL_law_141 hl (by decide) rfl (fun ls hl => ?_)
                    have LP_143 : ∀ (n_ : Nat) (w : Nat) (mL : Pl_) (xL : Ax_), ss cB k - w < n_ → (w ≤ ss cB k) → Ex_ mB mL → AI_ ct mL q_88 5 (fun j => nI (qs_ (fun l => lt_ cB l j) k)) → AI_ ct mL q_130 5 (fun j => if j = 0 then nI (ss cB k) else nI (qs_ (fun w => wt_ cB k w j) w)) → ∀ (H : Heap) (locs : List Loc), CX B0 g ct ad cB mL xL s H → va_S (AA B0) s.heap H locs → ∀ ls : Array Slot, lv_has ls 18 [(13, .int (nI w)), (12, .ref q_130), (11, .int (nI (ss cB k))), (10, .int (nI k)), (9, .int bi), (8, .int (nI hd)), (7, .int (nI yr)), (6, .ref q_88), (5, .int (nI (sn cB))), (4, .int (v_30 + (nI (239 * tm)))), (3, .int (nI tm)), (2, .ref o), (1, .ref (ad 0)), (0, .ref b)] → W p l e room_1 s m #[Value.ref b] below meth c H locs (181 + 21 * tm + 9 + k + 1) (10568 + 129 * tm + 69 + 5 * k + 5) Q (F0 m 143 ls []) := by
                      intro n_
                      induction n_ with
                      | zero => intro w mL xL hm; exact absurd hm (Nat.not_lt_zero _)
                      | succ n_ ih_143 =>
                        intro w mL xL hm hw hE A_88 A_139 H locs hC hS ls hl
                        refine lv_iload hx hb dL_law_143 (lv_at hl 0 rfl) ?_
                        refine lv_iload hx hb dL_law_145 (lv_at hl 2 rfl) ?_
                        refine lv_icmp_ge (tgt := 389) hx hb dL_law_147 (by decide) (fun c_147 => ?_) (fun c_147 => ?_)
                        · skip
                          have n_147 : ss cB k ≤ w := (nI_leI (a := ss cB k) (b := w) (by omega) (by omega)).mp c_147
                          have hw9 : w = ss cB k := by omega
                          have A_139 : AI_ ct mL q_130 5 (fun q => nI (lt_ cB k q)) := A_139.to (fun j hj => l5_z hw9)
                          refine lv_iconst (v := nI 0) hx hb dL_law_389 (by decide) ?_
                          refine lv_istore (lv' := [(13, .int (nI 0)), (12, .ref q_130), (11, .int (nI (ss cB k))), (10, .int (nI k)), (9, .int bi), (8, .int (nI hd)), (7, .int (nI yr)), (6, .ref q_88), (5, .int (nI (sn cB))), (4, .int (v_30 + (nI (239 * tm)))), (3, .int (nI tm)), (2, .ref o), (1, .ref (ad 0)), (0, .ref b)]) hx hb dL_law_390 hl (by decide) rfl (fun ls hl => ?_)
                          have LP_392 : ∀ (n_ : Nat) (p_ : Nat) (mL : Pl_) (xL : Ax_), 5 - p_ < n_ → (p_ ≤ 5) → Ex_ mB mL → AI_ ct mL q_88 5 (fun j => if j < p_ then nI (qs_ (fun l => lt_ cB l j) (k + 1)) else nI (qs_ (fun l => lt_ cB l j) k)) → AI_ ct mL q_130 5 (fun q => nI (lt_ cB k q)) → ∀ (H : Heap) (locs : List Loc), CX B0 g ct ad cB mL xL s H → va_S (AA B0) s.heap H locs → ∀ ls : Array Slot, lv_has ls 18 [(13, .int (nI p_)), (12, .ref q_130), (11, .int (nI (ss cB k))), (10, .int (nI k)), (9, .int bi), (8, .int (nI hd)), (7, .int (nI yr)), (6, .ref q_88), (5, .int (nI (sn cB))), (4, .int (v_30 + (nI (239 * tm)))), (3, .int (nI tm)), (2, .ref o), (1, .ref (ad 0)), (0, .ref b)] → W p l e room_1 s m #[Value.ref b] below meth c H locs (181 + 21 * tm + 9 + k + 1) (10568 + 129 * tm + 69 + 5 * k + 5) Q (F0 m 392 ls []) := by
                            intro n_
                            induction n_ with
                            | zero => intro p_ mL xL hm; exact absurd hm (Nat.not_lt_zero _)
                            | succ n_ ih_392 =>
                              intro p_ mL xL hm hp hE A_88 A_139 H locs hC hS ls hl
                              refine lv_iload hx hb dL_law_392 (lv_at hl 0 rfl) ?_
                              refine lv_iconst (v := nI 5) hx hb dL_law_394 (by decide) ?_
                              refine lv_icmp_ge (tgt := 435) hx hb dL_law_395 (by decide) (fun c_395 => ?_) (fun c_395 => ?_)
                              · skip
                                have n_395 : 5 ≤ p_ := (nI_leI (a := 5) (b := p_) (by omega) (by omega)).mp c_395
                                have hp5 : p_ = 5 := by omega
                                refine lv_iconst (v := -1) hx hb dL_law_435 (by decide) ?_
                                refine lv_istore (lv' := [(13, .int ((-1))), (12, .ref q_130), (11, .int (nI (ss cB k))), (10, .int (nI k)), (9, .int bi), (8, .int (nI hd)), (7, .int (nI yr)), (6, .ref q_88), (5, .int (nI (sn cB))), (4, .int (v_30 + (nI (239 * tm)))), (3, .int (nI tm)), (2, .ref o), (1, .ref (ad 0)), (0, .ref b)]) hx hb dL_law_436 hl (by decide) rfl (fun ls hl => ?_)
                                refine lv_iload hx hb dL_law_438 (lv_at hl 2 rfl) ?_
                                refine lv_iconst (v := nI 1) hx hb dL_law_440 (by decide) ?_
                                refine lv_isub hx hb dL_law_441 ?_
                                refine lv_istore (lv' := [(14, .int ((nI (ss cB k)) - (nI 1))), (13, .int ((-1))), (12, .ref q_130), (11, .int (nI (ss cB k))), (10, .int (nI k)), (9, .int bi), (8, .int (nI hd)), (7, .int (nI yr)), (6, .ref q_88), (5, .int (nI (sn cB))), (4, .int (v_30 + (nI (239 * tm)))), (3, .int (nI tm)), (2, .ref o), (1, .ref (ad 0)), (0, .ref b)]) hx hb dL_law_442 hl (by decide) rfl (fun ls hl => ?_)
                                have LP_444 : ∀ (n_ : Nat) (p1 : Nat) (fi : Int32) (h_ : Nat), p1 < n_ → (h_ + qs_ (hf_ cB (nI yr) k) p1 = hd + qs_ (hf_ cB (nI yr) k) (ss cB k)) → (fi = hd_ cB k (nI yr) (ss cB k - p1) p1) → (p1 ≤ ss cB k) → ∀ ls : Array Slot, lv_has ls 18 [(14, .int (nI p1 - nI 1)), (13, .int fi), (12, .ref q_130), (11, .int (nI (ss cB k))), (10, .int (nI k)), (9, .int bi), (8, .int (nI h_)), (7, .int (nI yr)), (6, .ref q_88), (5, .int (nI (sn cB))), (4, .int (v_30 + (nI (239 * tm)))), (3, .int (nI tm)), (2, .ref o), (1, .ref (ad 0)), (0, .ref b)] → W p l e room_1 s m #[Value.ref b] below meth c H locs (181 + 21 * tm + 9 + k + 1) (10568 + 129 * tm + 69 + 5 * k + 5) Q (F0 m 444 ls []) := by
                                  intro n_
                                  induction n_ with
                                  | zero => intro p1 fi h_ hm; exact absurd hm (Nat.not_lt_zero _)
                                  | succ n_ ih_444 =>
                                    intro p1 fi h_ hm a1 a2 a3 ls hl
                                    refine lv_iload hx hb dL_law_444 (lv_at hl 0 rfl) ?_
                                    refine lv_if_lt (tgt := 519) hx hb dL_law_446 (by decide) (fun c_446 => ?_) (fun c_446 => ?_)
                                    · skip
                                      have n_446 : p1 = 0 := (pm_ (by omega)).mp c_446
                                      have hfi : fi = hd_ cB k (nI yr) (ss cB k) 0 := by rw [a2, n_446]; rfl
                                      have hh : h_ = hd + hl_ cB (nI yr) k := by
                                        have a9 := a1
                                        rw [n_446] at a9
                                        exact a9
                                      refine lv_aload_n hx hb dL_law_519 rfl (lv_at hl 13 rfl) ?_
                                      refine lv_iload hx hb dL_law_520 (lv_at hl 4 rfl) ?_
                                      refine lv_iload hx hb dL_law_522 (lv_at hl 7 rfl) ?_
                                      refine k_rV (As := [.int (nI k), .int (nI yr)]) (rest := []) (c_X0_hidden l B0 g ct ad cB mL xL k (by omega) (nI yr)) hC ⟨hx, hb, hml, hown, hts⟩ (cwV 2 hts gL_law_X0_hidden rfl rfl rfl (by decide +kernel) ⟨Nat.le_of_ble_eq_true rfl, Nat.le_of_ble_eq_true rfl⟩) (rc0 hC) rfl hl.1 rfl (Nat.le_of_ble_eq_true rfl) dL_law_524 ⟨(by show _ ≤ 600130; omega), (by show _ ≤ 7301080; omega)⟩ ?_
                                      refine lv_iload hx hb dL_law_527 (lv_at hl 1 rfl) ?_
                                      refine lv_icmp_eq (tgt := 534) hx hb dL_law_529 (by decide) (fun c_529 => ?_) (fun c_529 => ?_)
                                      · skip
                                        refine lv_aload_n hx hb dL_law_534 rfl (lv_at hl 13 rfl) ?_
                                        refine lv_iload hx hb dL_law_535 (lv_at hl 4 rfl) ?_
                                        refine lv_iload hx hb dL_law_537 (lv_at hl 7 rfl) ?_
                                        refine k_rV (As := [.int (nI k), .int (nI yr)]) (rest := []) (c_X0_lacks l B0 g ct ad cB mL xL k (by omega) (nI yr)) hC ⟨hx, hb, hml, hown, hts⟩ (cwV 2 hts gL_law_X0_lacks rfl rfl rfl (by decide +kernel) ⟨Nat.le_of_ble_eq_true rfl, Nat.le_of_ble_eq_true rfl⟩) (rc0 hC) rfl hl.1 rfl (Nat.le_of_ble_eq_true rfl) dL_law_539 ⟨(by show _ ≤ 600130; omega), (by show _ ≤ 7301080; omega)⟩ ?_
                                        refine lv_istore (lv' := [(14, .int (lk_ cB k (nI yr) 26 1)), (13, .int fi), (12, .ref q_130), (11, .int (nI (ss cB k))), (10, .int (nI k)), (9, .int bi), (8, .int (nI h_)), (7, .int (nI yr)), (6, .ref q_88), (5, .int (nI (sn cB))), (4, .int (v_30 + (nI (239 * tm)))), (3, .int (nI tm)), (2, .ref o), (1, .ref (ad 0)), (0, .ref b)]) hx hb dL_law_542 hl (by decide) rfl (fun ls hl => ?_)
                                        refine lv_iload hx hb dL_law_544 (lv_at hl 7 rfl) ?_
                                        refine lv_aload hx hb dL_law_546 (lv_at hl 2 rfl) ?_
                                        refine lv_iconst (v := nI 2) hx hb dL_law_548 (by decide) ?_
                                        refine q_i hC hx hb A_139 dL_law_549 (j := 2) (by omega) (by omega) ?_
                                        refine lv_tn (w := nI (lt_ cB k 2)) rfl ?_
                                        refine lv_isub hx hb dL_law_550 ?_
                                        refine lv_istore (lv' := [(15, .int ((nI yr) - (nI (lt_ cB k 2)))), (14, .int (lk_ cB k (nI yr) 26 1)), (13, .int fi), (12, .ref q_130), (11, .int (nI (ss cB k))), (10, .int (nI k)), (9, .int bi), (8, .int (nI h_)), (7, .int (nI yr)), (6, .ref q_88), (5, .int (nI (sn cB))), (4, .int (v_30 + (nI (239 * tm)))), (3, .int (nI tm)), (2, .ref o), (1, .ref (ad 0)), (0, .ref b)]) hx hb dL_law_551 hl (by decide) rfl (fun ls hl => ?_)
                                        have K_571 : ∀ ls : Array Slot, lv_has ls 18 [(15, .int ((nI yr) - (nI (lt_ cB k 2)))), (14, .int (lk_ cB k (nI yr) 26 1)), (13, .int fi), (12, .ref q_130), (11, .int (nI (ss cB k))), (10, .int (nI k)), (9, .int bi), (8, .int (nI h_)), (7, .int (nI yr)), (6, .ref q_88), (5, .int (nI (sn cB))), (4, .int (v_30 + (nI (239 * tm)))), (3, .int (nI tm)), (2, .ref o), (1, .ref (ad 0)), (0, .ref b)] → W p l e room_1 s m #[Value.ref b] below meth c H locs (181 + 21 * tm + 9 + k + 1) (10568 + 129 * tm + 69 + 5 * k + 5) Q (F0 m 571 ls []) := by
                                          intro ls hl
                                          refine lv_iconst (v := nI 1) hx hb dL_law_571 (by decide) ?_
                                          refine lv_istore (lv' := [(16, .int (nI 1)), (15, .int ((nI yr) - (nI (lt_ cB k 2)))), (14, .int (lk_ cB k (nI yr) 26 1)), (13, .int fi), (12, .ref q_130), (11, .int (nI (ss cB k))), (10, .int (nI k)), (9, .int bi), (8, .int (nI h_)), (7, .int (nI yr)), (6, .ref q_88), (5, .int (nI (sn cB))), (4, .int (v_30 + (nI (239 * tm)))), (3, .int (nI tm)), (2, .ref o), (1, .ref (ad 0)), (0, .ref b)]) hx hb dL_law_572 hl (by decide) rfl (fun ls hl => ?_)
                                          have LP_574 : ∀ (n_ : Nat) (z : Nat), 27 - z < n_ → (1 ≤ z ∧ z ≤ 27) → ∀ ls : Array Slot, lv_has ls 18 [(16, .int (nI z)), (15, .int ((nI yr) - (nI (lt_ cB k 2)))), (14, .int (lk_ cB k (nI yr) 26 1)), (13, .int fi), (12, .ref q_130), (11, .int (nI (ss cB k))), (10, .int (nI k)), (9, .int bi), (8, .int (nI h_)), (7, .int (nI yr)), (6, .ref q_88), (5, .int (nI (sn cB))), (4, .int (v_30 + (nI (239 * tm)))), (3, .int (nI tm)), (2, .ref o), (1, .ref (ad 0)), (0, .ref b)] → W p l e room_1 s m #[Value.ref b] below meth c H locs (181 + 21 * tm + 9 + k + 1) (10568 + 129 * tm + 69 + 5 * k + 5) Q (F0 m 574 ls []) := by
                                            intro n_
                                            induction n_ with
                                            | zero => intro z hm; exact absurd hm (Nat.not_lt_zero _)
                                            | succ n_ ih_574 =>
                                              intro z hm hz1 ls hl
                                              refine lv_iload hx hb dL_law_574 (lv_at hl 0 rfl) ?_
                                              refine lv_bipush (v := nI 27) hx hb dL_law_576 (by decide) ?_
                                              refine lv_icmp_ge (tgt := 613) hx hb dL_law_578 (by decide) (fun c_578 => ?_) (fun c_578 => ?_)
                                              · skip
                                                have n_578 : 27 ≤ z := (nI_leI (a := 27) (b := z) (by omega) (by omega)).mp c_578
                                                refine lv_iload hx hb dL_law_613 (lv_at hl 7 rfl) ?_
                                                refine lv_if_lt (tgt := 639) hx hb dL_law_615 (by decide) (fun c_615 => ?_) (fun c_615 => ?_)
                                                · skip
                                                  have n_615 : nr_ cB (nI yr) k = none := (ni_neg hlt).mp (by rw [← hbi]; exact c_615)
                                                  have hN := nr_1 n_615
                                                  have hBI : nI k = ni_ (nr_ cB (nI yr) (k + 1)) := by rw [hN]; rfl
                                                  refine lv_iload hx hb dL_law_639 (lv_at hl 6 rfl) ?_
                                                  refine lv_istore (lv' := [(9, .int (nI k)), (16, .int (nI z)), (15, .int ((nI yr) - (nI (lt_ cB k 2)))), (14, .int (lk_ cB k (nI yr) 26 1)), (13, .int fi), (12, .ref q_130), (11, .int (nI (ss cB k))), (10, .int (nI k)), (8, .int (nI h_)), (7, .int (nI yr)), (6, .ref q_88), (5, .int (nI (sn cB))), (4, .int (v_30 + (nI (239 * tm)))), (3, .int (nI tm)), (2, .ref o), (1, .ref (ad 0)), (0, .ref b)]) hx hb dL_law_641 hl (by decide) rfl (fun ls hl => ?_)
                                                  refine lv_iinc (v := nI (k + 1)) (lv' := [(10, .int (nI (k + 1))), (9, .int (nI k)), (16, .int (nI z)), (15, .int ((nI yr) - (nI (lt_ cB k 2)))), (14, .int (lk_ cB k (nI yr) 26 1)), (13, .int fi), (12, .ref q_130), (11, .int (nI (ss cB k))), (8, .int (nI h_)), (7, .int (nI yr)), (6, .ref q_88), (5, .int (nI (sn cB))), (4, .int (v_30 + (nI (239 * tm)))), (3, .int (nI tm)), (2, .ref o), (1, .ref (ad 0)), (0, .ref b)]) hx hb dL_law_643 hl (k := 7) rfl (nI_1 _) (by decide) rfl (fun ls hl => ?_)
                                                  refine lv_goto (tgt := 113) hx hb dL_law_646 (by decide) ?_
                                                  refine W.widen (k := 181 + 21 * tm + 9 + (k + 1)) (n := 10568 + 129 * tm + 69 + 5 * (k + 1)) (by omega) (by omega) ?_
                                                  exact ih_113 (k + 1) h_ (nI k) mL xL (by omega) (by rw [hh, hhd]; rfl) hBI (by omega) hE (A_88.to (fun j hj => t2_e (by omega))) H locs hC hS ls (lv_sub hl [0, 1, 8, 9, 10, 11, 12, 13, 14, 15, 16] rfl)
                                                · skip
                                                  obtain ⟨b0, n_615⟩ : ∃ b0, nr_ cB (nI yr) k = some b0 := by
                                                    cases e9 : nr_ cB (nI yr) k with
                                                    | none => exact absurd (by rw [hbi, e9]; decide) c_615
                                                    | some b0 => exact ⟨b0, rfl⟩
                                                  have hb0 := nr_lt n_615
                                                  have hbe : bi = nI b0 := by rw [hbi, n_615]; rfl
                                                  have hl : lv_has ls 18 [(16, .int (nI z)), (15, .int ((nI yr) - (nI (lt_ cB k 2)))), (14, .int (lk_ cB k (nI yr) 26 1)), (13, .int fi), (12, .ref q_130), (11, .int (nI (ss cB k))), (10, .int (nI k)), (9, .int (nI b0)), (8, .int (nI h_)), (7, .int (nI yr)), (6, .ref q_88), (5, .int (nI (sn cB))), (4, .int (v_30 + (nI (239 * tm)))), (3, .int (nI tm)), (2, .ref o), (1, .ref (ad 0)), (0, .ref b)] := (by rw [hbe] at hl; exact hl)
                                                  refine lv_iload hx hb dL_law_618 (lv_at hl 1 rfl) ?_
                                                  refine va_mabs hx hb (hml.trans hl.1.symm) hown (hts (.methodLink RL 93 Lib.Math.abs.name) (by decide +kernel)) (hts (.static Lib.Math.abs.name) (by decide +kernel)) (hts (.initialized "java/lang/Math") (by decide +kernel)) (hts (.code Lib.Math.abs.name Lib.Math.abs.code 1 (some .int)) (by decide +kernel)) (Nat.le_of_ble_eq_true rfl) (Nat.le_of_ble_eq_true rfl) (by show _ ≤ 600130; omega) (by show _ ≤ 7301080; omega) dL_law_620 ?_
                                                  refine lv_tn (w := ai_ ((nI yr) - (nI (lt_ cB k 2)))) rfl ?_
                                                  refine lv_iload hx hb dL_law_623 (lv_at hl 9 rfl) ?_
                                                  refine lv_aload_n hx hb dL_law_625 rfl (lv_at hl 15 rfl) ?_
                                                  refine lv_iload hx hb dL_law_626 (lv_at hl 7 rfl) ?_
                                                  refine lv_iconst (v := nI 2) hx hb dL_law_628 (by decide) ?_
                                                  refine k_rV (As := [.int (nI b0), .int (nI 2)]) (rest := [.int (nI yr), .int (ai_ ((nI yr) - (nI (lt_ cB k 2))))]) (c_X0_line l B0 g ct ad cB mL xL b0 2 (by omega) (by omega)) hC ⟨hx, hb, hml, hown, hts⟩ (cwV 2 hts gL_law_X0_line rfl rfl rfl (by decide +kernel) ⟨Nat.le_of_ble_eq_true rfl, Nat.le_of_ble_eq_true rfl⟩) (rc0 hC) rfl hl.1 rfl (Nat.le_of_ble_eq_true rfl) dL_law_629 ⟨(by show _ ≤ 600130; omega), (by show _ ≤ 7301080; omega)⟩ ?_
                                                  refine lv_isub hx hb dL_law_632 ?_
                                                  refine va_mabs hx hb (hml.trans hl.1.symm) hown (hts (.methodLink RL 93 Lib.Math.abs.name) (by decide +kernel)) (hts (.static Lib.Math.abs.name) (by decide +kernel)) (hts (.initialized "java/lang/Math") (by decide +kernel)) (hts (.code Lib.Math.abs.name Lib.Math.abs.code 1 (some .int)) (by decide +kernel)) (Nat.le_of_ble_eq_true rfl) (Nat.le_of_ble_eq_true rfl) (by show _ ≤ 600130; omega) (by show _ ≤ 7301080; omega) dL_law_633 ?_
                                                  refine lv_tn (w := ai_ ((nI yr) - (nI (lt_ cB b0 2)))) rfl ?_
                                                  refine lv_icmp_ge (tgt := 643) hx hb dL_law_636 (by decide) (fun c_636 => ?_) (fun c_636 => ?_)
                                                  · skip
                                                    have hg := (ab_g hI b_yr).mp c_636
                                                    have hN := nr_3 n_615 hg
                                                    have hBI : nI b0 = ni_ (nr_ cB (nI yr) (k + 1)) := by rw [hN]; rfl
                                                    refine lv_iinc (v := nI (k + 1)) (lv' := [(10, .int (nI (k + 1))), (16, .int (nI z)), (15, .int ((nI yr) - (nI (lt_ cB k 2)))), (14, .int (lk_ cB k (nI yr) 26 1)), (13, .int fi), (12, .ref q_130), (11, .int (nI (ss cB k))), (9, .int (nI b0)), (8, .int (nI h_)), (7, .int (nI yr)), (6, .ref q_88), (5, .int (nI (sn cB))), (4, .int (v_30 + (nI (239 * tm)))), (3, .int (nI tm)), (2, .ref o), (1, .ref (ad 0)), (0, .ref b)]) hx hb dL_law_643 hl (k := 6) rfl (nI_1 _) (by decide) rfl (fun ls hl => ?_)
                                                    refine lv_goto (tgt := 113) hx hb dL_law_646 (by decide) ?_
                                                    refine W.widen (k := 181 + 21 * tm + 9 + (k + 1)) (n := 10568 + 129 * tm + 69 + 5 * (k + 1)) (by omega) (by omega) ?_
                                                    exact ih_113 (k + 1) h_ (nI b0) mL xL (by omega) (by rw [hh, hhd]; rfl) hBI (by omega) hE (A_88.to (fun j hj => t2_e (by omega))) H locs hC hS ls (lv_sub hl [0, 7, 8, 9, 10, 11, 12, 13, 14, 15, 16] rfl)
                                                  · skip
                                                    have hg : gp_ cB (nI yr) k < gp_ cB (nI yr) b0 := Decidable.of_not_not (fun q => c_636 ((ab_g hI b_yr).mpr q))
                                                    have hN := nr_2 n_615 hg
                                                    have hBI : nI k = ni_ (nr_ cB (nI yr) (k + 1)) := by rw [hN]; rfl
                                                    refine lv_iload hx hb dL_law_639 (lv_at hl 6 rfl) ?_
                                                    refine lv_istore (lv' := [(9, .int (nI k)), (16, .int (nI z)), (15, .int ((nI yr) - (nI (lt_ cB k 2)))), (14, .int (lk_ cB k (nI yr) 26 1)), (13, .int fi), (12, .ref q_130), (11, .int (nI (ss cB k))), (10, .int (nI k)), (8, .int (nI h_)), (7, .int (nI yr)), (6, .ref q_88), (5, .int (nI (sn cB))), (4, .int (v_30 + (nI (239 * tm)))), (3, .int (nI tm)), (2, .ref o), (1, .ref (ad 0)), (0, .ref b)]) hx hb dL_law_641 hl (by decide) rfl (fun ls hl => ?_)
                                                    refine lv_iinc (v := nI (k + 1)) (lv' := [(10, .int (nI (k + 1))), (9, .int (nI k)), (16, .int (nI z)), (15, .int ((nI yr) - (nI (lt_ cB k 2)))), (14, .int (lk_ cB k (nI yr) 26 1)), (13, .int fi), (12, .ref q_130), (11, .int (nI (ss cB k))), (8, .int (nI h_)), (7, .int (nI yr)), (6, .ref q_88), (5, .int (nI (sn cB))), (4, .int (v_30 + (nI (239 * tm)))), (3, .int (nI tm)), (2, .ref o), (1, .ref (ad 0)), (0, .ref b)]) hx hb dL_law_643 hl (k := 7) rfl (nI_1 _) (by decide) rfl (fun ls hl => ?_)
                                                    refine lv_goto (tgt := 113) hx hb dL_law_646 (by decide) ?_
                                                    refine W.widen (k := 181 + 21 * tm + 9 + (k + 1)) (n := 10568 + 129 * tm + 69 + 5 * (k + 1)) (by omega) (by omega) ?_
                                                    exact ih_113 (k + 1) h_ (nI k) mL xL (by omega) (by rw [hh, hhd]; rfl) hBI (by omega) hE (A_88.to (fun j hj => t2_e (by omega))) H locs hC hS ls (lv_sub hl [0, 1, 8, 9, 10, 11, 12, 13, 14, 15, 16] rfl)
                                              · skip
                                                have n_578 : ¬ 27 ≤ z := fun q__ => c_578 ((nI_leI (a := 27) (b := z) (by omega) (by omega)).mpr q__)
                                                refine lv_aload_n hx hb dL_law_581 rfl (lv_at hl 15 rfl) ?_
                                                refine lv_iload hx hb dL_law_582 (lv_at hl 0 rfl) ?_
                                                refine k_rV (As := [.int (nI z)]) (rest := []) (c_X0_letter l B0 g ct ad cB mL xL z (by omega) (by omega)) hC ⟨hx, hb, hml, hown, hts⟩ (cwV 1 hts gL_law_X0_letter rfl rfl rfl (by decide +kernel) ⟨Nat.le_of_ble_eq_true rfl, Nat.le_of_ble_eq_true rfl⟩) (rc0 hC) rfl hl.1 rfl (Nat.le_of_ble_eq_true rfl) dL_law_584 ⟨(by show _ ≤ 600130; omega), (by show _ ≤ 7301080; omega)⟩ ?_
                                                refine lv_iload hx hb dL_law_587 (lv_at hl 1 rfl) ?_
                                                refine lv_icmp_ne (tgt := 607) hx hb dL_law_589 (by decide) (fun c_589 => ?_) (fun c_589 => ?_)
                                                · skip
                                                  refine lv_iinc (v := nI (z + 1)) (lv' := [(16, .int (nI (z + 1))), (15, .int ((nI yr) - (nI (lt_ cB k 2)))), (14, .int (lk_ cB k (nI yr) 26 1)), (13, .int fi), (12, .ref q_130), (11, .int (nI (ss cB k))), (10, .int (nI k)), (9, .int bi), (8, .int (nI h_)), (7, .int (nI yr)), (6, .ref q_88), (5, .int (nI (sn cB))), (4, .int (v_30 + (nI (239 * tm)))), (3, .int (nI tm)), (2, .ref o), (1, .ref (ad 0)), (0, .ref b)]) hx hb dL_law_607 hl (k := 0) rfl (nI_1 _) (by decide) rfl (fun ls hl => ?_)
                                                  refine lv_goto (tgt := 574) hx hb dL_law_610 (by decide) ?_
                                                  exact ih_574 (z + 1) (by omega) (by omega) ls (lv_sub hl [0, 1, 2, 3, 4, 5, 6, 7, 8, 9, 10, 11, 12, 13, 14, 15, 16] rfl)
                                                · skip
                                                  obtain ⟨jz, j1, j2, j3⟩ := lk_m (by omega) (by omega) c_589
                                                  have hl : lv_has ls 18 [(16, .int (nI z)), (15, .int ((nI yr) - (nI (lt_ cB k 2)))), (14, .int (nI jz)), (13, .int fi), (12, .ref q_130), (11, .int (nI (ss cB k))), (10, .int (nI k)), (9, .int bi), (8, .int (nI h_)), (7, .int (nI yr)), (6, .ref q_88), (5, .int (nI (sn cB))), (4, .int (v_30 + (nI (239 * tm)))), (3, .int (nI tm)), (2, .ref o), (1, .ref (ad 0)), (0, .ref b)] := (by rw [j3] at hl; exact hl)
                                                  refine lv_iload hx hb dL_law_592 (lv_at hl 2 rfl) ?_
                                                  refine lv_iconst (v := nI 1) hx hb dL_law_594 (by decide) ?_
                                                  refine lv_icmp_lt (tgt := 605) hx hb dL_law_595 (by decide) (fun c_595 => ?_) (fun c_595 => ?_)
                                                  · skip
                                                    have n_595 : jz < 1 := (nI_ltI (a := jz) (b := 1) (by omega) (by omega)).mp c_595
                                                    exact absurd n_595 (by omega)
                                                  · skip
                                                    have n_595 : ¬ jz < 1 := fun q__ => c_595 ((nI_ltI (a := jz) (b := 1) (by omega) (by omega)).mpr q__)
                                                    refine lv_iload hx hb dL_law_598 (lv_at hl 2 rfl) ?_
                                                    refine lv_iload hx hb dL_law_600 (lv_at hl 0 rfl) ?_
                                                    refine lv_icmp_le (tgt := 607) hx hb dL_law_602 (by decide) (fun c_602 => ?_) (fun c_602 => ?_)
                                                    · skip
                                                      have n_602 : jz ≤ z := (nI_leI (a := jz) (b := z) (by omega) (by omega)).mp c_602
                                                      have hl : lv_has ls 18 [(16, .int (nI z)), (15, .int ((nI yr) - (nI (lt_ cB k 2)))), (14, .int (lk_ cB k (nI yr) 26 1)), (13, .int fi), (12, .ref q_130), (11, .int (nI (ss cB k))), (10, .int (nI k)), (9, .int bi), (8, .int (nI h_)), (7, .int (nI yr)), (6, .ref q_88), (5, .int (nI (sn cB))), (4, .int (v_30 + (nI (239 * tm)))), (3, .int (nI tm)), (2, .ref o), (1, .ref (ad 0)), (0, .ref b)] := (by rw [← j3] at hl; exact hl)
                                                      refine lv_iinc (v := nI (z + 1)) (lv' := [(16, .int (nI (z + 1))), (15, .int ((nI yr) - (nI (lt_ cB k 2)))), (14, .int (lk_ cB k (nI yr) 26 1)), (13, .int fi), (12, .ref q_130), (11, .int (nI (ss cB k))), (10, .int (nI k)), (9, .int bi), (8, .int (nI h_)), (7, .int (nI yr)), (6, .ref q_88), (5, .int (nI (sn cB))), (4, .int (v_30 + (nI (239 * tm)))), (3, .int (nI tm)), (2, .ref o), (1, .ref (ad 0)), (0, .ref b)]) hx hb dL_law_607 hl (k := 0) rfl (nI_1 _) (by decide) rfl (fun ls hl => ?_)
                                                      refine lv_goto (tgt := 574) hx hb dL_law_610 (by decide) ?_
                                                      exact ih_574 (z + 1) (by omega) (by omega) ls (lv_sub hl [0, 1, 2, 3, 4, 5, 6, 7, 8, 9, 10, 11, 12, 13, 14, 15, 16] rfl)
                                                    · skip
                                                      have n_602 : ¬ jz ≤ z := fun q__ => c_602 ((nI_leI (a := jz) (b := z) (by omega) (by omega)).mpr q__)
                                                      exact absurd j2 n_602
                                          exact LP_574 _ 1 (Nat.lt_succ_self _) (by omega) ls (lv_sub hl [0, 1, 2, 3, 4, 5, 6, 7, 8, 9, 10, 11, 12, 13, 14, 15, 16] rfl)
                                        refine lv_iload hx hb dL_law_553 (lv_at hl 1 rfl) ?_
                                        refine lv_if_lt (tgt := 571) hx hb dL_law_555 (by decide) (fun c_555 => ?_) (fun c_555 => ?_)
                                        · skip
                                          exact K_571 ls (lv_sub hl [0, 1, 2, 3, 4, 5, 6, 7, 8, 9, 10, 11, 12, 13, 14, 15] rfl)
                                        · skip
                                          obtain ⟨kk9, k1, k2, k3, k4⟩ := lk_y c_555
                                          have hl : lv_has ls 18 [(15, .int ((nI yr) - (nI (lt_ cB k 2)))), (14, .int (nI kk9)), (13, .int fi), (12, .ref q_130), (11, .int (nI (ss cB k))), (10, .int (nI k)), (9, .int bi), (8, .int (nI h_)), (7, .int (nI yr)), (6, .ref q_88), (5, .int (nI (sn cB))), (4, .int (v_30 + (nI (239 * tm)))), (3, .int (nI tm)), (2, .ref o), (1, .ref (ad 0)), (0, .ref b)] := (by rw [k3] at hl; exact hl)
                                          refine lv_aload_n hx hb dL_law_558 rfl (lv_at hl 14 rfl) ?_
                                          refine lv_iload hx hb dL_law_559 (lv_at hl 1 rfl) ?_
                                          refine k_rV (As := [.int (nI kk9)]) (rest := []) (c_X0_letter l B0 g ct ad cB mL xL kk9 k1 k2) hC ⟨hx, hb, hml, hown, hts⟩ (cwV 1 hts gL_law_X0_letter rfl rfl rfl (by decide +kernel) ⟨Nat.le_of_ble_eq_true rfl, Nat.le_of_ble_eq_true rfl⟩) (rc0 hC) rfl hl.1 rfl (Nat.le_of_ble_eq_true rfl) dL_law_561 ⟨(by show _ ≤ 600130; omega), (by show _ ≤ 7301080; omega)⟩ ?_
                                          refine lv_iload hx hb dL_law_564 (lv_at hl 0 rfl) ?_
                                          refine lv_icmp_eq (tgt := 571) hx hb dL_law_566 (by decide) (fun c_566 => ?_) (fun c_566 => ?_)
                                          · skip
                                            rw [← k3] at hl
                                            exact K_571 ls (lv_sub hl [0, 1, 2, 3, 4, 5, 6, 7, 8, 9, 10, 11, 12, 13, 14, 15] rfl)
                                          · skip
                                            exact absurd k4 c_566
                                      · skip
                                        exact absurd hfi.symm c_529
                                    · skip
                                      have n_446 : ¬ p1 = 0 := fun q => c_446 ((pm_ (by omega)).mpr q)
                                      have hl : lv_has ls 18 [(14, .int (nI (p1 - 1))), (13, .int fi), (12, .ref q_130), (11, .int (nI (ss cB k))), (10, .int (nI k)), (9, .int bi), (8, .int (nI h_)), (7, .int (nI yr)), (6, .ref q_88), (5, .int (nI (sn cB))), (4, .int (v_30 + (nI (239 * tm)))), (3, .int (nI tm)), (2, .ref o), (1, .ref (ad 0)), (0, .ref b)] := (by rw [pk_sub (show 1 ≤ p1 by omega)] at hl; exact hl)
                                      refine lv_iconst (v := nI 0) hx hb dL_law_449 (by decide) ?_
                                      refine lv_istore (lv' := [(15, .int (nI 0)), (14, .int (nI (p1 - 1))), (13, .int fi), (12, .ref q_130), (11, .int (nI (ss cB k))), (10, .int (nI k)), (9, .int bi), (8, .int (nI h_)), (7, .int (nI yr)), (6, .ref q_88), (5, .int (nI (sn cB))), (4, .int (v_30 + (nI (239 * tm)))), (3, .int (nI tm)), (2, .ref o), (1, .ref (ad 0)), (0, .ref b)]) hx hb dL_law_450 hl (by decide) rfl (fun ls hl => ?_)
                                      refine lv_iload hx hb dL_law_452 (lv_at hl 1 rfl) ?_
                                      refine lv_istore (lv' := [(16, .int (nI (p1 - 1))), (15, .int (nI 0)), (14, .int (nI (p1 - 1))), (13, .int fi), (12, .ref q_130), (11, .int (nI (ss cB k))), (10, .int (nI k)), (9, .int bi), (8, .int (nI h_)), (7, .int (nI yr)), (6, .ref q_88), (5, .int (nI (sn cB))), (4, .int (v_30 + (nI (239 * tm)))), (3, .int (nI tm)), (2, .ref o), (1, .ref (ad 0)), (0, .ref b)]) hx hb dL_law_454 hl (by decide) rfl (fun ls hl => ?_)
                                      have LP_456 : ∀ (n_ : Nat) (j : Nat) (sm : Nat) (fi2 : Int32) (h2 : Nat), ss cB k - j < n_ → (RJ_ cB k yr (p1 - 1) fi h_ j sm fi2 h2) → (sm ≤ 5400 * j) → (j ≤ ss cB k) → ∀ ls : Array Slot, lv_has ls 18 [(16, .int (nI j)), (15, .int (nI sm)), (14, .int (nI (p1 - 1))), (13, .int fi2), (12, .ref q_130), (11, .int (nI (ss cB k))), (10, .int (nI k)), (9, .int bi), (8, .int (nI h2)), (7, .int (nI yr)), (6, .ref q_88), (5, .int (nI (sn cB))), (4, .int (v_30 + (nI (239 * tm)))), (3, .int (nI tm)), (2, .ref o), (1, .ref (ad 0)), (0, .ref b)] → W p l e room_1 s m #[Value.ref b] below meth c H locs (181 + 21 * tm + 9 + k + 1) (10568 + 129 * tm + 69 + 5 * k + 5) Q (F0 m 456 ls []) := by
                                        intro n_
                                        induction n_ with
                                        | zero => intro j sm fi2 h2 hm; exact absurd hm (Nat.not_lt_zero _)
                                        | succ n_ ih_456 =>
                                          intro j sm fi2 h2 hm b1 b2 b3 ls hl
                                          refine lv_iload hx hb dL_law_456 (lv_at hl 0 rfl) ?_
                                          refine lv_iload hx hb dL_law_458 (lv_at hl 5 rfl) ?_
                                          refine lv_icmp_ge (tgt := 513) hx hb dL_law_460 (by decide) (fun c_460 => ?_) (fun c_460 => ?_)
                                          · skip
                                            have n_460 : ss cB k ≤ j := (nI_leI (a := ss cB k) (b := j) (by omega) (by omega)).mp c_460
                                            have hRE := RJ_e hI hZB (by omega) b1 b_yr b3 b2 (Or.inl n_460)
                                            refine lv_iinc (v := nI (p1 - 1) - nI 1) (lv' := [(14, .int (nI (p1 - 1) - nI 1)), (16, .int (nI j)), (15, .int (nI sm)), (13, .int fi2), (12, .ref q_130), (11, .int (nI (ss cB k))), (10, .int (nI k)), (9, .int bi), (8, .int (nI h2)), (7, .int (nI yr)), (6, .ref q_88), (5, .int (nI (sn cB))), (4, .int (v_30 + (nI (239 * tm)))), (3, .int (nI tm)), (2, .ref o), (1, .ref (ad 0)), (0, .ref b)]) hx hb dL_law_513 hl (k := 2) rfl (im1_ _) (by decide) rfl (fun ls hl => ?_)
                                            refine lv_goto (tgt := 444) hx hb dL_law_516 (by decide) ?_
                                            exact ih_444 (p1 - 1) fi2 h2 (by omega) (hf_p (by omega) a1 hRE.2) (hd_p (by omega) a3 a2 hRE.1) (by omega) ls (lv_sub hl [0, 3, 4, 5, 6, 7, 8, 9, 10, 11, 12, 13, 14, 15, 16] rfl)
                                          · skip
                                            have n_460 : ¬ ss cB k ≤ j := fun q__ => c_460 ((nI_leI (a := ss cB k) (b := j) (by omega) (by omega)).mpr q__)
                                            refine lv_iload hx hb dL_law_463 (lv_at hl 1 rfl) ?_
                                            refine lv_iload hx hb dL_law_465 (lv_at hl 9 rfl) ?_
                                            refine lv_icmp_ge (tgt := 513) hx hb dL_law_467 (by decide) (fun c_467 => ?_) (fun c_467 => ?_)
                                            · skip
                                              have n_467 : yr ≤ sm := (nI_leI (a := yr) (b := sm) (by omega) (by omega)).mp c_467
                                              have hRE := RJ_e hI hZB (by omega) b1 b_yr b3 b2 (Or.inr n_467)
                                              refine lv_iinc (v := nI (p1 - 1) - nI 1) (lv' := [(14, .int (nI (p1 - 1) - nI 1)), (16, .int (nI j)), (15, .int (nI sm)), (13, .int fi2), (12, .ref q_130), (11, .int (nI (ss cB k))), (10, .int (nI k)), (9, .int bi), (8, .int (nI h2)), (7, .int (nI yr)), (6, .ref q_88), (5, .int (nI (sn cB))), (4, .int (v_30 + (nI (239 * tm)))), (3, .int (nI tm)), (2, .ref o), (1, .ref (ad 0)), (0, .ref b)]) hx hb dL_law_513 hl (k := 2) rfl (im1_ _) (by decide) rfl (fun ls hl => ?_)
                                              refine lv_goto (tgt := 444) hx hb dL_law_516 (by decide) ?_
                                              exact ih_444 (p1 - 1) fi2 h2 (by omega) (hf_p (by omega) a1 hRE.2) (hd_p (by omega) a3 a2 hRE.1) (by omega) ls (lv_sub hl [0, 3, 4, 5, 6, 7, 8, 9, 10, 11, 12, 13, 14, 15, 16] rfl)
                                            · skip
                                              have n_467 : ¬ yr ≤ sm := fun q__ => c_467 ((nI_leI (a := yr) (b := sm) (by omega) (by omega)).mpr q__)
                                              have hwj := ws_le hI.1 (hI.2.2.2.1 (10 * k + j))
                                              refine lv_iload hx hb dL_law_470 (lv_at hl 1 rfl) ?_
                                              refine lv_aload_n hx hb dL_law_472 rfl (lv_at hl 15 rfl) ?_
                                              refine lv_iload hx hb dL_law_473 (lv_at hl 6 rfl) ?_
                                              refine lv_iload hx hb dL_law_475 (lv_at hl 0 rfl) ?_
                                              refine lv_iconst (v := nI 2) hx hb dL_law_477 (by decide) ?_
                                              refine k_rV (As := [.int (nI k), .int (nI j), .int (nI 2)]) (rest := [.int (nI sm)]) (c_X0_word l B0 g ct ad cB mL xL k j 2 (by omega) (by omega) (by omega)) hC ⟨hx, hb, hml, hown, hts⟩ (cwV 3 hts gL_law_X0_word rfl rfl rfl (by decide +kernel) ⟨Nat.le_of_ble_eq_true rfl, Nat.le_of_ble_eq_true rfl⟩) (rc0 hC) rfl hl.1 rfl (Nat.le_of_ble_eq_true rfl) dL_law_478 ⟨(by show _ ≤ 600130; omega), (by show _ ≤ 7301080; omega)⟩ ?_
                                              refine lv_tn (w := nI (ws0 (so cB) (sw cB (10 * k + j)))) rfl ?_
                                              refine lv_iadd hx hb dL_law_481 ?_
                                              refine lv_tn (nI_add _ _) ?_
                                              refine lv_istore (lv' := [(15, .int (nI (sm + (ws0 (so cB) (sw cB (10 * k + j)))))), (16, .int (nI j)), (14, .int (nI (p1 - 1))), (13, .int fi2), (12, .ref q_130), (11, .int (nI (ss cB k))), (10, .int (nI k)), (9, .int bi), (8, .int (nI h2)), (7, .int (nI yr)), (6, .ref q_88), (5, .int (nI (sn cB))), (4, .int (v_30 + (nI (239 * tm)))), (3, .int (nI tm)), (2, .ref o), (1, .ref (ad 0)), (0, .ref b)]) hx hb dL_law_482 hl (by decide) rfl (fun ls hl => ?_)
                                              refine lv_iload hx hb dL_law_484 (lv_at hl 0 rfl) ?_
                                              refine lv_iload hx hb dL_law_486 (lv_at hl 9 rfl) ?_
                                              refine lv_icmp_eq (tgt := 494) hx hb dL_law_488 (by decide) (fun c_488 => ?_) (fun c_488 => ?_)
                                              · skip
                                                have n_488 : sm + (ws0 (so cB) (sw cB (10 * k + j))) = yr := (nI_eq (a := sm + (ws0 (so cB) (sw cB (10 * k + j)))) (b := yr) (by omega) (by omega)).mp c_488
                                                refine lv_iinc (v := nI (h2 + 1)) (lv' := [(8, .int (nI (h2 + 1))), (15, .int (nI (sm + (ws0 (so cB) (sw cB (10 * k + j)))))), (16, .int (nI j)), (14, .int (nI (p1 - 1))), (13, .int fi2), (12, .ref q_130), (11, .int (nI (ss cB k))), (10, .int (nI k)), (9, .int bi), (7, .int (nI yr)), (6, .ref q_88), (5, .int (nI (sn cB))), (4, .int (v_30 + (nI (239 * tm)))), (3, .int (nI tm)), (2, .ref o), (1, .ref (ad 0)), (0, .ref b)]) hx hb dL_law_494 hl (k := 8) rfl (nI_1 _) (by decide) rfl (fun ls hl => ?_)
                                                refine lv_bipush (v := nI 10) hx hb dL_law_497 (by decide) ?_
                                                refine lv_iload hx hb dL_law_499 (lv_at hl 3 rfl) ?_
                                                refine lv_imul hx hb dL_law_501 ?_
                                                refine lv_tn (pk_mul _ _) ?_
                                                refine lv_iload hx hb dL_law_502 (lv_at hl 2 rfl) ?_
                                                refine lv_iadd hx hb dL_law_504 ?_
                                                refine lv_tn (nI_add _ _) ?_
                                                refine lv_istore (lv' := [(13, .int (nI ((10 * (p1 - 1)) + j))), (8, .int (nI (h2 + 1))), (15, .int (nI (sm + (ws0 (so cB) (sw cB (10 * k + j)))))), (16, .int (nI j)), (14, .int (nI (p1 - 1))), (12, .ref q_130), (11, .int (nI (ss cB k))), (10, .int (nI k)), (9, .int bi), (7, .int (nI yr)), (6, .ref q_88), (5, .int (nI (sn cB))), (4, .int (v_30 + (nI (239 * tm)))), (3, .int (nI tm)), (2, .ref o), (1, .ref (ad 0)), (0, .ref b)]) hx hb dL_law_505 hl (by decide) rfl (fun ls hl => ?_)
                                                refine lv_iinc (v := nI (j + 1)) (lv' := [(16, .int (nI (j + 1))), (13, .int (nI ((10 * (p1 - 1)) + j))), (8, .int (nI (h2 + 1))), (15, .int (nI (sm + (ws0 (so cB) (sw cB (10 * k + j)))))), (14, .int (nI (p1 - 1))), (12, .ref q_130), (11, .int (nI (ss cB k))), (10, .int (nI k)), (9, .int bi), (7, .int (nI yr)), (6, .ref q_88), (5, .int (nI (sn cB))), (4, .int (v_30 + (nI (239 * tm)))), (3, .int (nI tm)), (2, .ref o), (1, .ref (ad 0)), (0, .ref b)]) hx hb dL_law_507 hl (k := 3) rfl (nI_1 _) (by decide) rfl (fun ls hl => ?_)
                                                refine lv_goto (tgt := 456) hx hb dL_law_510 (by decide) ?_
                                                exact ih_456 (j + 1) (sm + (ws0 (so cB) (sw cB (10 * k + j)))) (nI ((10 * (p1 - 1)) + j)) (h2 + 1) (by omega) (by first | exact RJ_m hI b1 (by omega) (by omega) n_488 | exact RJ_n hI b1 (by omega) (by omega) b_yr n_488) (by omega) (by omega) ls (lv_sub hl [0, 3, 4, 1, 5, 6, 7, 8, 2, 9, 10, 11, 12, 13, 14, 15, 16] rfl)
                                              · skip
                                                have n_488 : ¬ sm + (ws0 (so cB) (sw cB (10 * k + j))) = yr := fun q__ => c_488 ((nI_eq (a := sm + (ws0 (so cB) (sw cB (10 * k + j)))) (b := yr) (by omega) (by omega)).mpr q__)
                                                refine lv_goto (tgt := 507) hx hb dL_law_491 (by decide) ?_
                                                refine lv_iinc (v := nI (j + 1)) (lv' := [(16, .int (nI (j + 1))), (15, .int (nI (sm + (ws0 (so cB) (sw cB (10 * k + j)))))), (14, .int (nI (p1 - 1))), (13, .int fi2), (12, .ref q_130), (11, .int (nI (ss cB k))), (10, .int (nI k)), (9, .int bi), (8, .int (nI h2)), (7, .int (nI yr)), (6, .ref q_88), (5, .int (nI (sn cB))), (4, .int (v_30 + (nI (239 * tm)))), (3, .int (nI tm)), (2, .ref o), (1, .ref (ad 0)), (0, .ref b)]) hx hb dL_law_507 hl (k := 1) rfl (nI_1 _) (by decide) rfl (fun ls hl => ?_)
                                                refine lv_goto (tgt := 456) hx hb dL_law_510 (by decide) ?_
                                                exact ih_456 (j + 1) (sm + (ws0 (so cB) (sw cB (10 * k + j)))) fi2 h2 (by omega) (by first | exact RJ_m hI b1 (by omega) (by omega) n_488 | exact RJ_n hI b1 (by omega) (by omega) b_yr n_488) (by omega) (by omega) ls (lv_sub hl [0, 1, 2, 3, 4, 5, 6, 7, 8, 9, 10, 11, 12, 13, 14, 15, 16] rfl)
                                      exact LP_456 _ (p1 - 1) 0 fi h_ (Nat.lt_succ_self _) RJ_0 (Nat.zero_le _) (by omega) ls (lv_sub hl [0, 1, 2, 3, 4, 5, 6, 7, 8, 9, 10, 11, 12, 13, 14, 15, 16] rfl)
                                exact LP_444 _ (ss cB k) (-1) hd (Nat.lt_succ_self _) rfl (by rw [Nat.sub_self]; rfl) (Nat.le_refl _) ls (lv_sub hl [0, 1, 2, 3, 4, 5, 6, 7, 8, 9, 10, 11, 12, 13, 14] rfl)
                              · skip
                                have n_395 : ¬ 5 ≤ p_ := fun q__ => c_395 ((nI_leI (a := 5) (b := p_) (by omega) (by omega)).mpr q__)
                                refine lv_aload_n hx hb dL_law_398 rfl (lv_at hl 12 rfl) ?_
                                refine lv_iload hx hb dL_law_399 (lv_at hl 3 rfl) ?_
                                refine lv_iload hx hb dL_law_401 (lv_at hl 0 rfl) ?_
                                refine k_rV (As := [.int (nI k), .int (nI p_)]) (rest := []) (c_X0_line l B0 g ct ad cB mL xL k p_ (by omega) (by omega)) hC ⟨hx, hb, hml, hown, hts⟩ (cwV 2 hts gL_law_X0_line rfl rfl rfl (by decide +kernel) ⟨Nat.le_of_ble_eq_true rfl, Nat.le_of_ble_eq_true rfl⟩) (rc0 hC) rfl hl.1 rfl (Nat.le_of_ble_eq_true rfl) dL_law_403 ⟨(by show _ ≤ 600130; omega), (by show _ ≤ 7301080; omega)⟩ ?_
                                refine lv_aload hx hb dL_law_406 (lv_at hl 1 rfl) ?_
                                refine lv_iload hx hb dL_law_408 (lv_at hl 0 rfl) ?_
                                refine q_i hC hx hb A_139 dL_law_410 (j := p_) (by omega) (by omega) ?_
                                refine lv_tn (w := nI (lt_ cB k p_)) rfl ?_
                                refine lv_icmp_eq (tgt := 416) hx hb dL_law_411 (by decide) (fun c_411 => ?_) (fun c_411 => ?_)
                                · skip
                                  refine lv_aload hx hb dL_law_416 (lv_at hl 7 rfl) ?_
                                  refine lv_iload hx hb dL_law_418 (lv_at hl 0 rfl) ?_
                                  refine lv_dup2_11 hx hb dL_law_420 rfl rfl ?_
                                  refine q_i hC hx hb A_88 dL_law_421 (j := p_) (by omega) (by omega) ?_
                                  refine lv_tn (w := nI (qs_ (fun l => lt_ cB l p_) k)) t2_r ?_
                                  refine lv_aload hx hb dL_law_422 (lv_at hl 1 rfl) ?_
                                  refine lv_iload hx hb dL_law_424 (lv_at hl 0 rfl) ?_
                                  refine q_i hC hx hb A_139 dL_law_426 (j := p_) (by omega) (by omega) ?_
                                  refine lv_tn (w := nI (lt_ cB k p_)) rfl ?_
                                  refine lv_iadd hx hb dL_law_427 ?_
                                  refine lv_tn (nI_add _ _) ?_
                                  refine u_i hC hB hS hx hb A_88 dL_law_428 (j := p_) (v := nI ((qs_ (fun l => lt_ cB l p_) k) + (lt_ cB k p_))) (by omega) (by omega) (fun m_428 H locs pu_428 A_428 hC hS => ?_)
                                  have A_139 := A_139.pu pu_428 d_130_88.symm
                                  have hE := hE.pu fb_88 pu_428
                                  have A_428 : AI_ ct m_428 q_88 5 (fun j => if j < (p_ + 1) then nI (qs_ (fun l => lt_ cB l j) (k + 1)) else nI (qs_ (fun l => lt_ cB l j) k)) := A_428.to (fun j hj => t2_s)
                                  refine lv_iinc (v := nI (p_ + 1)) (lv' := [(13, .int (nI (p_ + 1))), (12, .ref q_130), (11, .int (nI (ss cB k))), (10, .int (nI k)), (9, .int bi), (8, .int (nI hd)), (7, .int (nI yr)), (6, .ref q_88), (5, .int (nI (sn cB))), (4, .int (v_30 + (nI (239 * tm)))), (3, .int (nI tm)), (2, .ref o), (1, .ref (ad 0)), (0, .ref b)]) hx hb dL_law_429 hl (k := 0) rfl (nI_1 _) (by decide) rfl (fun ls hl => ?_)
                                  refine lv_goto (tgt := 392) hx hb dL_law_432 (by decide) ?_
                                  refine W.widen (k := 181 + 21 * tm + 9 + k + 1) (n := 10568 + 129 * tm + 69 + 5 * k + 5) (by omega) (by omega) ?_
                                  exact ih_392 (p_ + 1) m_428 xL (by omega) (by omega) hE (A_428.to (fun j hj => rfl)) A_139 H locs hC hS ls (lv_sub hl [0, 1, 2, 3, 4, 5, 6, 7, 8, 9, 10, 11, 12, 13] rfl)
                                · skip
                                  exact absurd rfl c_411
                          refine W.widen (k := 181 + 21 * tm + 9 + k + 1) (n := 10568 + 129 * tm + 69 + 5 * k + 5) (by omega) (by omega) ?_
                          exact LP_392 _ 0 mL xL (Nat.lt_succ_self _) (by omega) hE (A_88.to (fun j hj => t2_0)) A_139 H locs hC hS ls (lv_sub hl [0, 1, 2, 3, 4, 5, 6, 7, 8, 9, 10, 11, 12, 13] rfl)
                        · skip
                          have n_147 : ¬ ss cB k ≤ w := fun q__ => c_147 ((nI_leI (a := ss cB k) (b := w) (by omega) (by omega)).mpr q__)
                          have hww := hI.2.2.2.1 (10 * k + w)
                          have hiw := hZB.2 k w (by omega) (by omega)
                          have hND := ND_.of hiw
                          have h6 := ln_le hww
                          have hwb := ws_le hI.1 hww
                          have hwc9 := wc_b (sw cB (10 * k + w)) (sk cB (10 * k + w))
                          have hwm9 := wm_b (so cB) (sw cB (10 * k + w)) (sk cB (10 * k + w))
                          have hz0 := wm_0 (m := sk cB (10 * k + w)) hI.1 hND
                          have hz1 := wm_1 (m := sk cB (10 * k + w)) hI.1 hND
                          refine lv_aload_n hx hb dL_law_150 rfl (lv_at hl 12 rfl) ?_
                          refine lv_iload hx hb dL_law_151 (lv_at hl 3 rfl) ?_
                          refine lv_iload hx hb dL_law_153 (lv_at hl 0 rfl) ?_
                          refine lv_iconst (v := nI 0) hx hb dL_law_155 (by decide) ?_
                          refine k_rV (As := [.int (nI k), .int (nI w), .int (nI 0)]) (rest := []) (c_X0_word l B0 g ct ad cB mL xL k w 0 (by omega) (by omega) (by omega)) hC ⟨hx, hb, hml, hown, hts⟩ (cwV 3 hts gL_law_X0_word rfl rfl rfl (by decide +kernel) ⟨Nat.le_of_ble_eq_true rfl, Nat.le_of_ble_eq_true rfl⟩) (rc0 hC) rfl hl.1 rfl (Nat.le_of_ble_eq_true rfl) dL_law_156 ⟨(by show _ ≤ 600130; omega), (by show _ ≤ 7301080; omega)⟩ ?_
                          refine lv_tn (w := nI (sw cB (10 * k + w))) rfl ?_
                          refine lv_istore (lv' := [(14, .int (nI (sw cB (10 * k + w)))), (13, .int (nI w)), (12, .ref q_130), (11, .int (nI (ss cB k))), (10, .int (nI k)), (9, .int bi), (8, .int (nI hd)), (7, .int (nI yr)), (6, .ref q_88), (5, .int (nI (sn cB))), (4, .int (v_30 + (nI (239 * tm)))), (3, .int (nI tm)), (2, .ref o), (1, .ref (ad 0)), (0, .ref b)]) hx hb dL_law_159 hl (by decide) rfl (fun ls hl => ?_)
                          refine lv_iconst (v := nI 0) hx hb dL_law_161 (by decide) ?_
                          refine lv_istore (lv' := [(15, .int (nI 0)), (14, .int (nI (sw cB (10 * k + w)))), (13, .int (nI w)), (12, .ref q_130), (11, .int (nI (ss cB k))), (10, .int (nI k)), (9, .int bi), (8, .int (nI hd)), (7, .int (nI yr)), (6, .ref q_88), (5, .int (nI (sn cB))), (4, .int (v_30 + (nI (239 * tm)))), (3, .int (nI tm)), (2, .ref o), (1, .ref (ad 0)), (0, .ref b)]) hx hb dL_law_162 hl (by decide) rfl (fun ls hl => ?_)
                          refine lv_iconst (v := nI 0) hx hb dL_law_164 (by decide) ?_
                          refine lv_istore (lv' := [(16, .int (nI 0)), (15, .int (nI 0)), (14, .int (nI (sw cB (10 * k + w)))), (13, .int (nI w)), (12, .ref q_130), (11, .int (nI (ss cB k))), (10, .int (nI k)), (9, .int bi), (8, .int (nI hd)), (7, .int (nI yr)), (6, .ref q_88), (5, .int (nI (sn cB))), (4, .int (v_30 + (nI (239 * tm)))), (3, .int (nI tm)), (2, .ref o), (1, .ref (ad 0)), (0, .ref b)]) hx hb dL_law_165 hl (by decide) rfl (fun ls hl => ?_)
                          refine lv_iload hx hb dL_law_167 (lv_at hl 2 rfl) ?_
                          refine lv_istore (lv' := [(17, .int (nI (sw cB (10 * k + w)))), (16, .int (nI 0)), (15, .int (nI 0)), (14, .int (nI (sw cB (10 * k + w)))), (13, .int (nI w)), (12, .ref q_130), (11, .int (nI (ss cB k))), (10, .int (nI k)), (9, .int bi), (8, .int (nI hd)), (7, .int (nI yr)), (6, .ref q_88), (5, .int (nI (sn cB))), (4, .int (v_30 + (nI (239 * tm)))), (3, .int (nI tm)), (2, .ref o), (1, .ref (ad 0)), (0, .ref b)]) hx hb dL_law_169 hl (by decide) rfl (fun ls hl => ?_)
                          have LP_171 : ∀ (n_ : Nat) (sz : Nat) (sm : Nat) (lf : Nat), lf < n_ → (sz + ln_ lf = ln_ (sw cB (10 * k + w))) → (sm + ws0 (so cB) lf = ws0 (so cB) (sw cB (10 * k + w))) → (lf ≤ sw cB (10 * k + w)) → (ND_ lf) → ∀ ls : Array Slot, lv_has ls 18 [(17, .int (nI lf)), (16, .int (nI sm)), (15, .int (nI sz)), (14, .int (nI (sw cB (10 * k + w)))), (13, .int (nI w)), (12, .ref q_130), (11, .int (nI (ss cB k))), (10, .int (nI k)), (9, .int bi), (8, .int (nI hd)), (7, .int (nI yr)), (6, .ref q_88), (5, .int (nI (sn cB))), (4, .int (v_30 + (nI (239 * tm)))), (3, .int (nI tm)), (2, .ref o), (1, .ref (ad 0)), (0, .ref b)] → W p l e room_1 s m #[Value.ref b] below meth c H locs (181 + 21 * tm + 9 + k + 1) (10568 + 129 * tm + 69 + 5 * k + 5) Q (F0 m 171 ls []) := by
                            intro n_
                            induction n_ with
                            | zero => intro sz sm lf hm; exact absurd hm (Nat.not_lt_zero _)
                            | succ n_ ih_171 =>
                              intro sz sm lf hm f1 f2 f3 f4 ls hl
                              refine lv_iload hx hb dL_law_171 (lv_at hl 0 rfl) ?_
                              refine lv_if_le (tgt := 203) hx hb dL_law_173 (by decide) (fun c_173 => ?_) (fun c_173 => ?_)
                              · skip
                                have n_173 : lf = 0 := (nle0_ (by omega)).mp c_173
                                have e_sz : sz = ln_ (sw cB (10 * k + w)) := by rw [n_173, ln_0] at f1; omega
                                have e_sm : sm = ws0 (so cB) (sw cB (10 * k + w)) := by rw [n_173, ws_0] at f2; omega
                                have hl : lv_has ls 18 [(17, .int (nI lf)), (16, .int (nI (ws0 (so cB) (sw cB (10 * k + w))))), (15, .int (nI (ln_ (sw cB (10 * k + w))))), (14, .int (nI (sw cB (10 * k + w)))), (13, .int (nI w)), (12, .ref q_130), (11, .int (nI (ss cB k))), (10, .int (nI k)), (9, .int bi), (8, .int (nI hd)), (7, .int (nI yr)), (6, .ref q_88), (5, .int (nI (sn cB))), (4, .int (v_30 + (nI (239 * tm)))), (3, .int (nI tm)), (2, .ref o), (1, .ref (ad 0)), (0, .ref b)] := (by rw [e_sz, e_sm] at hl; exact hl)
                                have K_350 : ∀ ls : Array Slot, lv_has ls 18 [(13, .int (nI w)), (12, .ref q_130), (11, .int (nI (ss cB k))), (10, .int (nI k)), (9, .int bi), (8, .int (nI hd)), (7, .int (nI yr)), (6, .ref q_88), (5, .int (nI (sn cB))), (4, .int (v_30 + (nI (239 * tm)))), (3, .int (nI tm)), (2, .ref o), (1, .ref (ad 0)), (0, .ref b)] → W p l e room_1 s m #[Value.ref b] below meth c H locs (181 + 21 * tm + 9 + k + 1) (10568 + 129 * tm + 69 + 5 * k + 5) Q (F0 m 350 ls []) := by
                                  intro ls hl
                                  refine lv_iconst (v := nI 1) hx hb dL_law_350 (by decide) ?_
                                  refine lv_istore (lv' := [(17, .int (nI 1)), (13, .int (nI w)), (12, .ref q_130), (11, .int (nI (ss cB k))), (10, .int (nI k)), (9, .int bi), (8, .int (nI hd)), (7, .int (nI yr)), (6, .ref q_88), (5, .int (nI (sn cB))), (4, .int (v_30 + (nI (239 * tm)))), (3, .int (nI tm)), (2, .ref o), (1, .ref (ad 0)), (0, .ref b)]) hx hb dL_law_351 hl (by decide) rfl (fun ls hl => ?_)
                                  have LP_353 : ∀ (n_ : Nat) (p_ : Nat) (mL : Pl_) (xL : Ax_), 5 - p_ < n_ → (1 ≤ p_ ∧ p_ ≤ 5) → Ex_ mB mL → AI_ ct mL q_88 5 (fun j => nI (qs_ (fun l => lt_ cB l j) k)) → AI_ ct mL q_130 5 (fun j => if j = 0 then nI (ss cB k) else if j < p_ then nI (qs_ (fun w => wt_ cB k w j) (w + 1)) else nI (qs_ (fun w => wt_ cB k w j) w)) → ∀ (H : Heap) (locs : List Loc), CX B0 g ct ad cB mL xL s H → va_S (AA B0) s.heap H locs → ∀ ls : Array Slot, lv_has ls 18 [(17, .int (nI p_)), (13, .int (nI w)), (12, .ref q_130), (11, .int (nI (ss cB k))), (10, .int (nI k)), (9, .int bi), (8, .int (nI hd)), (7, .int (nI yr)), (6, .ref q_88), (5, .int (nI (sn cB))), (4, .int (v_30 + (nI (239 * tm)))), (3, .int (nI tm)), (2, .ref o), (1, .ref (ad 0)), (0, .ref b)] → W p l e room_1 s m #[Value.ref b] below meth c H locs (181 + 21 * tm + 9 + k + 1) (10568 + 129 * tm + 69 + 5 * k + 5) Q (F0 m 353 ls []) := by
                                    intro n_
                                    induction n_ with
                                    | zero => intro p_ mL xL hm; exact absurd hm (Nat.not_lt_zero _)
                                    | succ n_ ih_353 =>
                                      intro p_ mL xL hm hp hE A_88 A_139 H locs hC hS ls hl
                                      refine lv_iload hx hb dL_law_353 (lv_at hl 0 rfl) ?_
                                      refine lv_iconst (v := nI 5) hx hb dL_law_355 (by decide) ?_
                                      refine lv_icmp_ge (tgt := 383) hx hb dL_law_356 (by decide) (fun c_356 => ?_) (fun c_356 => ?_)
                                      · skip
                                        have n_356 : 5 ≤ p_ := (nI_leI (a := 5) (b := p_) (by omega) (by omega)).mp c_356
                                        have hp5 : p_ = 5 := by omega
                                        refine lv_iinc (v := nI (w + 1)) (lv' := [(13, .int (nI (w + 1))), (17, .int (nI p_)), (12, .ref q_130), (11, .int (nI (ss cB k))), (10, .int (nI k)), (9, .int bi), (8, .int (nI hd)), (7, .int (nI yr)), (6, .ref q_88), (5, .int (nI (sn cB))), (4, .int (v_30 + (nI (239 * tm)))), (3, .int (nI tm)), (2, .ref o), (1, .ref (ad 0)), (0, .ref b)]) hx hb dL_law_383 hl (k := 1) rfl (nI_1 _) (by decide) rfl (fun ls hl => ?_)
                                        refine lv_goto (tgt := 143) hx hb dL_law_386 (by decide) ?_
                                        refine W.widen (k := 181 + 21 * tm + 9 + k + 1) (n := 10568 + 129 * tm + 69 + 5 * k + 5) (by omega) (by omega) ?_
                                        exact ih_143 (w + 1) mL xL (by omega) (by omega) hE A_88 (A_139.to (fun j hj => l5_e hj (by omega))) H locs hC hS ls (lv_sub hl [0, 2, 3, 4, 5, 6, 7, 8, 9, 10, 11, 12, 13, 14] rfl)
                                      · skip
                                        have n_356 : ¬ 5 ≤ p_ := fun q__ => c_356 ((nI_leI (a := 5) (b := p_) (by omega) (by omega)).mpr q__)
                                        refine lv_aload hx hb dL_law_359 (lv_at hl 2 rfl) ?_
                                        refine lv_iload hx hb dL_law_361 (lv_at hl 0 rfl) ?_
                                        refine lv_dup2_11 hx hb dL_law_363 rfl rfl ?_
                                        refine q_i hC hx hb A_139 dL_law_364 (j := p_) (by omega) (by omega) ?_
                                        refine lv_tn (w := nI (qs_ (fun w => wt_ cB k w p_) w)) (l5_r (by omega)) ?_
                                        refine lv_aload_n hx hb dL_law_365 rfl (lv_at hl 13 rfl) ?_
                                        refine lv_iload hx hb dL_law_366 (lv_at hl 4 rfl) ?_
                                        refine lv_iload hx hb dL_law_368 (lv_at hl 1 rfl) ?_
                                        refine lv_iload hx hb dL_law_370 (lv_at hl 0 rfl) ?_
                                        refine k_rV (As := [.int (nI k), .int (nI w), .int (nI p_)]) (rest := [.int (nI (qs_ (fun w => wt_ cB k w p_) w)), .int (nI p_), .ref q_130]) (c_X0_word l B0 g ct ad cB mL xL k w p_ (by omega) (by omega) (by omega)) hC ⟨hx, hb, hml, hown, hts⟩ (cwV 3 hts gL_law_X0_word rfl rfl rfl (by decide +kernel) ⟨Nat.le_of_ble_eq_true rfl, Nat.le_of_ble_eq_true rfl⟩) (rc0 hC) rfl hl.1 rfl (Nat.le_of_ble_eq_true rfl) dL_law_372 ⟨(by show _ ≤ 600130; omega), (by show _ ≤ 7301080; omega)⟩ ?_
                                        refine lv_iadd hx hb dL_law_375 ?_
                                        refine lv_tn (nI_add _ _) ?_
                                        refine u_i hC hB hS hx hb A_139 dL_law_376 (j := p_) (v := nI ((qs_ (fun w => wt_ cB k w p_) w) + (wt_ cB k w p_))) (by omega) (by omega) (fun m_376 H locs pu_376 A_376 hC hS => ?_)
                                        have A_88 := A_88.pu pu_376 d_130_88
                                        have hE := hE.pu fb_130 pu_376
                                        have A_376 : AI_ ct m_376 q_130 5 (fun j => if j = 0 then nI (ss cB k) else if j < (p_ + 1) then nI (qs_ (fun w => wt_ cB k w j) (w + 1)) else nI (qs_ (fun w => wt_ cB k w j) w)) := A_376.to (fun j hj => l5_s (by omega))
                                        refine lv_iinc (v := nI (p_ + 1)) (lv' := [(17, .int (nI (p_ + 1))), (13, .int (nI w)), (12, .ref q_130), (11, .int (nI (ss cB k))), (10, .int (nI k)), (9, .int bi), (8, .int (nI hd)), (7, .int (nI yr)), (6, .ref q_88), (5, .int (nI (sn cB))), (4, .int (v_30 + (nI (239 * tm)))), (3, .int (nI tm)), (2, .ref o), (1, .ref (ad 0)), (0, .ref b)]) hx hb dL_law_377 hl (k := 0) rfl (nI_1 _) (by decide) rfl (fun ls hl => ?_)
                                        refine lv_goto (tgt := 353) hx hb dL_law_380 (by decide) ?_
                                        refine W.widen (k := 181 + 21 * tm + 9 + k + 1) (n := 10568 + 129 * tm + 69 + 5 * k + 5) (by omega) (by omega) ?_
                                        exact ih_353 (p_ + 1) m_376 xL (by omega) (by omega) hE A_88 (A_376.to (fun j hj => rfl)) H locs hC hS ls (lv_sub hl [0, 1, 2, 3, 4, 5, 6, 7, 8, 9, 10, 11, 12, 13, 14] rfl)
                                  refine W.widen (k := 181 + 21 * tm + 9 + k + 1) (n := 10568 + 129 * tm + 69 + 5 * k + 5) (by omega) (by omega) ?_
                                  exact LP_353 _ 1 mL xL (Nat.lt_succ_self _) (by omega) hE A_88 (A_139.to (fun j hj => l5_a)) H locs hC hS ls (lv_sub hl [0, 1, 2, 3, 4, 5, 6, 7, 8, 9, 10, 11, 12, 13, 14] rfl)
                                refine lv_aload_n hx hb dL_law_203 rfl (lv_at hl 16 rfl) ?_
                                refine lv_iload hx hb dL_law_204 (lv_at hl 7 rfl) ?_
                                refine lv_iload hx hb dL_law_206 (lv_at hl 4 rfl) ?_
                                refine lv_iconst (v := nI 1) hx hb dL_law_208 (by decide) ?_
                                refine k_rV (As := [.int (nI k), .int (nI w), .int (nI 1)]) (rest := []) (c_X0_word l B0 g ct ad cB mL xL k w 1 (by omega) (by omega) (by omega)) hC ⟨hx, hb, hml, hown, hts⟩ (cwV 3 hts gL_law_X0_word rfl rfl rfl (by decide +kernel) ⟨Nat.le_of_ble_eq_true rfl, Nat.le_of_ble_eq_true rfl⟩) (rc0 hC) rfl hl.1 rfl (Nat.le_of_ble_eq_true rfl) dL_law_209 ⟨(by show _ ≤ 600130; omega), (by show _ ≤ 7301080; omega)⟩ ?_
                                refine lv_tn (w := nI (ln_ (sw cB (10 * k + w)))) rfl ?_
                                refine lv_iload hx hb dL_law_212 (lv_at hl 2 rfl) ?_
                                refine lv_icmp_ne (tgt := 348) hx hb dL_law_214 (by decide) (fun c_214 => ?_) (fun c_214 => ?_)
                                · skip
                                  exact absurd rfl c_214
                                · skip
                                  refine lv_aload_n hx hb dL_law_217 rfl (lv_at hl 16 rfl) ?_
                                  refine lv_iload hx hb dL_law_218 (lv_at hl 7 rfl) ?_
                                  refine lv_iload hx hb dL_law_220 (lv_at hl 4 rfl) ?_
                                  refine lv_iconst (v := nI 2) hx hb dL_law_222 (by decide) ?_
                                  refine k_rV (As := [.int (nI k), .int (nI w), .int (nI 2)]) (rest := []) (c_X0_word l B0 g ct ad cB mL xL k w 2 (by omega) (by omega) (by omega)) hC ⟨hx, hb, hml, hown, hts⟩ (cwV 3 hts gL_law_X0_word rfl rfl rfl (by decide +kernel) ⟨Nat.le_of_ble_eq_true rfl, Nat.le_of_ble_eq_true rfl⟩) (rc0 hC) rfl hl.1 rfl (Nat.le_of_ble_eq_true rfl) dL_law_223 ⟨(by show _ ≤ 600130; omega), (by show _ ≤ 7301080; omega)⟩ ?_
                                  refine lv_tn (w := nI (ws0 (so cB) (sw cB (10 * k + w)))) rfl ?_
                                  refine lv_iload hx hb dL_law_226 (lv_at hl 1 rfl) ?_
                                  refine lv_icmp_ne (tgt := 348) hx hb dL_law_228 (by decide) (fun c_228 => ?_) (fun c_228 => ?_)
                                  · skip
                                    exact absurd rfl c_228
                                  · skip
                                    refine lv_aload_n hx hb dL_law_231 rfl (lv_at hl 16 rfl) ?_
                                    refine lv_iload hx hb dL_law_232 (lv_at hl 3 rfl) ?_
                                    refine k_rV (As := [.int (nI (sw cB (10 * k + w)))]) (rest := []) (c_X0_value l B0 g ct ad cB mL xL (sw cB (10 * k + w)) hww (by rw [wd_n (by omega)]; exact hiw)) hC ⟨hx, hb, hml, hown, hts⟩ (cwV 1 hts gL_law_X0_value rfl rfl rfl (by decide +kernel) ⟨Nat.le_of_ble_eq_true rfl, Nat.le_of_ble_eq_true rfl⟩) (rc0 hC) rfl hl.1 rfl (Nat.le_of_ble_eq_true rfl) dL_law_234 ⟨(by show _ ≤ 600130; omega), (by show _ ≤ 7301080; omega)⟩ ?_
                                    refine lv_iload hx hb dL_law_237 (lv_at hl 1 rfl) ?_
                                    refine lv_icmp_ne (tgt := 348) hx hb dL_law_239 (by decide) (fun c_239 => ?_) (fun c_239 => ?_)
                                    · skip
                                      exact absurd rfl c_239
                                    · skip
                                      refine lv_aload_n hx hb dL_law_242 rfl (lv_at hl 16 rfl) ?_
                                      refine lv_iload hx hb dL_law_243 (lv_at hl 7 rfl) ?_
                                      refine lv_iload hx hb dL_law_245 (lv_at hl 4 rfl) ?_
                                      refine lv_iconst (v := nI 3) hx hb dL_law_247 (by decide) ?_
                                      refine k_rV (As := [.int (nI k), .int (nI w), .int (nI 3)]) (rest := []) (c_X0_word l B0 g ct ad cB mL xL k w 3 (by omega) (by omega) (by omega)) hC ⟨hx, hb, hml, hown, hts⟩ (cwV 3 hts gL_law_X0_word rfl rfl rfl (by decide +kernel) ⟨Nat.le_of_ble_eq_true rfl, Nat.le_of_ble_eq_true rfl⟩) (rc0 hC) rfl hl.1 rfl (Nat.le_of_ble_eq_true rfl) dL_law_248 ⟨(by show _ ≤ 600130; omega), (by show _ ≤ 7301080; omega)⟩ ?_
                                      refine lv_tn (w := nI (wc_ (sw cB (10 * k + w)) (sk cB (10 * k + w)))) rfl ?_
                                      refine lv_iload hx hb dL_law_251 (lv_at hl 2 rfl) ?_
                                      refine lv_icmp_gt (tgt := 348) hx hb dL_law_253 (by decide) (fun c_253 => ?_) (fun c_253 => ?_)
                                      · skip
                                        have n_253 : ln_ (sw cB (10 * k + w)) < wc_ (sw cB (10 * k + w)) (sk cB (10 * k + w)) := (nI_ltI (a := ln_ (sw cB (10 * k + w))) (b := wc_ (sw cB (10 * k + w)) (sk cB (10 * k + w))) (by omega) (by omega)).mp c_253
                                        exact absurd hwc9 (by omega)
                                      · skip
                                        have n_253 : ¬ ln_ (sw cB (10 * k + w)) < wc_ (sw cB (10 * k + w)) (sk cB (10 * k + w)) := fun q__ => c_253 ((nI_ltI (a := ln_ (sw cB (10 * k + w))) (b := wc_ (sw cB (10 * k + w)) (sk cB (10 * k + w))) (by omega) (by omega)).mpr q__)
                                        refine lv_aload_n hx hb dL_law_256 rfl (lv_at hl 16 rfl) ?_
                                        refine lv_iload hx hb dL_law_257 (lv_at hl 7 rfl) ?_
                                        refine lv_iload hx hb dL_law_259 (lv_at hl 4 rfl) ?_
                                        refine lv_iconst (v := nI 4) hx hb dL_law_261 (by decide) ?_
                                        refine k_rV (As := [.int (nI k), .int (nI w), .int (nI 4)]) (rest := []) (c_X0_word l B0 g ct ad cB mL xL k w 4 (by omega) (by omega) (by omega)) hC ⟨hx, hb, hml, hown, hts⟩ (cwV 3 hts gL_law_X0_word rfl rfl rfl (by decide +kernel) ⟨Nat.le_of_ble_eq_true rfl, Nat.le_of_ble_eq_true rfl⟩) (rc0 hC) rfl hl.1 rfl (Nat.le_of_ble_eq_true rfl) dL_law_262 ⟨(by show _ ≤ 600130; omega), (by show _ ≤ 7301080; omega)⟩ ?_
                                        refine lv_tn (w := nI (wm_ (so cB) (sw cB (10 * k + w)) (sk cB (10 * k + w)))) rfl ?_
                                        refine lv_iload hx hb dL_law_265 (lv_at hl 1 rfl) ?_
                                        refine lv_icmp_gt (tgt := 348) hx hb dL_law_267 (by decide) (fun c_267 => ?_) (fun c_267 => ?_)
                                        · skip
                                          have n_267 : ws0 (so cB) (sw cB (10 * k + w)) < wm_ (so cB) (sw cB (10 * k + w)) (sk cB (10 * k + w)) := (nI_ltI (a := ws0 (so cB) (sw cB (10 * k + w))) (b := wm_ (so cB) (sw cB (10 * k + w)) (sk cB (10 * k + w))) (by omega) (by omega)).mp c_267
                                          exact absurd hwm9 (by omega)
                                        · skip
                                          have n_267 : ¬ ws0 (so cB) (sw cB (10 * k + w)) < wm_ (so cB) (sw cB (10 * k + w)) (sk cB (10 * k + w)) := fun q__ => c_267 ((nI_ltI (a := ws0 (so cB) (sw cB (10 * k + w))) (b := wm_ (so cB) (sw cB (10 * k + w)) (sk cB (10 * k + w))) (by omega) (by omega)).mpr q__)
                                          refine lv_aload_n hx hb dL_law_270 rfl (lv_at hl 16 rfl) ?_
                                          refine lv_iload hx hb dL_law_271 (lv_at hl 7 rfl) ?_
                                          refine lv_iload hx hb dL_law_273 (lv_at hl 4 rfl) ?_
                                          refine lv_iconst (v := nI 3) hx hb dL_law_275 (by decide) ?_
                                          refine k_rV (As := [.int (nI k), .int (nI w), .int (nI 3)]) (rest := []) (c_X0_word l B0 g ct ad cB mL xL k w 3 (by omega) (by omega) (by omega)) hC ⟨hx, hb, hml, hown, hts⟩ (cwV 3 hts gL_law_X0_word rfl rfl rfl (by decide +kernel) ⟨Nat.le_of_ble_eq_true rfl, Nat.le_of_ble_eq_true rfl⟩) (rc0 hC) rfl hl.1 rfl (Nat.le_of_ble_eq_true rfl) dL_law_276 ⟨(by show _ ≤ 600130; omega), (by show _ ≤ 7301080; omega)⟩ ?_
                                          refine lv_tn (w := nI (wc_ (sw cB (10 * k + w)) (sk cB (10 * k + w)))) rfl ?_
                                          refine lv_if_ne (tgt := 286) hx hb dL_law_279 (by decide) (fun c_279 => ?_) (fun c_279 => ?_)
                                          · skip
                                            have n_279 : ¬ wc_ (sw cB (10 * k + w)) (sk cB (10 * k + w)) = 0 := fun q__ => c_279 ((eq0_ (by omega)).mpr q__)
                                            refine lv_iconst (v := nI 0) hx hb dL_law_286 (by decide) ?_
                                            refine lv_aload_n hx hb dL_law_287 rfl (lv_at hl 16 rfl) ?_
                                            refine lv_iload hx hb dL_law_288 (lv_at hl 7 rfl) ?_
                                            refine lv_iload hx hb dL_law_290 (lv_at hl 4 rfl) ?_
                                            refine lv_iconst (v := nI 4) hx hb dL_law_292 (by decide) ?_
                                            refine k_rV (As := [.int (nI k), .int (nI w), .int (nI 4)]) (rest := [.int (nI 0)]) (c_X0_word l B0 g ct ad cB mL xL k w 4 (by omega) (by omega) (by omega)) hC ⟨hx, hb, hml, hown, hts⟩ (cwV 3 hts gL_law_X0_word rfl rfl rfl (by decide +kernel) ⟨Nat.le_of_ble_eq_true rfl, Nat.le_of_ble_eq_true rfl⟩) (rc0 hC) rfl hl.1 rfl (Nat.le_of_ble_eq_true rfl) dL_law_293 ⟨(by show _ ≤ 600130; omega), (by show _ ≤ 7301080; omega)⟩ ?_
                                            refine lv_tn (w := nI (wm_ (so cB) (sw cB (10 * k + w)) (sk cB (10 * k + w)))) rfl ?_
                                            refine lv_if_ne (tgt := 303) hx hb dL_law_296 (by decide) (fun c_296 => ?_) (fun c_296 => ?_)
                                            · skip
                                              have n_296 : ¬ wm_ (so cB) (sw cB (10 * k + w)) (sk cB (10 * k + w)) = 0 := fun q__ => c_296 ((eq0_ (by omega)).mpr q__)
                                              refine lv_iconst (v := nI 0) hx hb dL_law_303 (by decide) ?_
                                              refine lv_icmp_ne (tgt := 348) hx hb dL_law_304 (by decide) (fun c_304 => ?_) (fun c_304 => ?_)
                                              · skip
                                                have n_304 : ¬ 0 = 0 := fun q__ => c_304 ((nI_eq (a := 0) (b := 0) (by omega) (by omega)).mpr q__)
                                                exact absurd rfl n_304
                                              · skip
                                                have n_304 : 0 = 0 := (nI_eq (a := 0) (b := 0) (by omega) (by omega)).mp c_304
                                                refine lv_aload_n hx hb dL_law_307 rfl (lv_at hl 16 rfl) ?_
                                                refine lv_iload hx hb dL_law_308 (lv_at hl 7 rfl) ?_
                                                refine lv_iload hx hb dL_law_310 (lv_at hl 4 rfl) ?_
                                                refine lv_iconst (v := nI 3) hx hb dL_law_312 (by decide) ?_
                                                refine k_rV (As := [.int (nI k), .int (nI w), .int (nI 3)]) (rest := []) (c_X0_word l B0 g ct ad cB mL xL k w 3 (by omega) (by omega) (by omega)) hC ⟨hx, hb, hml, hown, hts⟩ (cwV 3 hts gL_law_X0_word rfl rfl rfl (by decide +kernel) ⟨Nat.le_of_ble_eq_true rfl, Nat.le_of_ble_eq_true rfl⟩) (rc0 hC) rfl hl.1 rfl (Nat.le_of_ble_eq_true rfl) dL_law_313 ⟨(by show _ ≤ 600130; omega), (by show _ ≤ 7301080; omega)⟩ ?_
                                                refine lv_tn (w := nI (wc_ (sw cB (10 * k + w)) (sk cB (10 * k + w)))) rfl ?_
                                                refine lv_iload hx hb dL_law_316 (lv_at hl 2 rfl) ?_
                                                refine lv_icmp_ne (tgt := 325) hx hb dL_law_318 (by decide) (fun c_318 => ?_) (fun c_318 => ?_)
                                                · skip
                                                  have n_318 : ¬ wc_ (sw cB (10 * k + w)) (sk cB (10 * k + w)) = ln_ (sw cB (10 * k + w)) := fun q__ => c_318 ((nI_eq (a := wc_ (sw cB (10 * k + w)) (sk cB (10 * k + w))) (b := ln_ (sw cB (10 * k + w))) (by omega) (by omega)).mpr q__)
                                                  refine lv_iconst (v := nI 0) hx hb dL_law_325 (by decide) ?_
                                                  refine lv_aload_n hx hb dL_law_326 rfl (lv_at hl 16 rfl) ?_
                                                  refine lv_iload hx hb dL_law_327 (lv_at hl 7 rfl) ?_
                                                  refine lv_iload hx hb dL_law_329 (lv_at hl 4 rfl) ?_
                                                  refine lv_iconst (v := nI 4) hx hb dL_law_331 (by decide) ?_
                                                  refine k_rV (As := [.int (nI k), .int (nI w), .int (nI 4)]) (rest := [.int (nI 0)]) (c_X0_word l B0 g ct ad cB mL xL k w 4 (by omega) (by omega) (by omega)) hC ⟨hx, hb, hml, hown, hts⟩ (cwV 3 hts gL_law_X0_word rfl rfl rfl (by decide +kernel) ⟨Nat.le_of_ble_eq_true rfl, Nat.le_of_ble_eq_true rfl⟩) (rc0 hC) rfl hl.1 rfl (Nat.le_of_ble_eq_true rfl) dL_law_332 ⟨(by show _ ≤ 600130; omega), (by show _ ≤ 7301080; omega)⟩ ?_
                                                  refine lv_tn (w := nI (wm_ (so cB) (sw cB (10 * k + w)) (sk cB (10 * k + w)))) rfl ?_
                                                  refine lv_iload hx hb dL_law_335 (lv_at hl 1 rfl) ?_
                                                  refine lv_icmp_ne (tgt := 344) hx hb dL_law_337 (by decide) (fun c_337 => ?_) (fun c_337 => ?_)
                                                  · skip
                                                    have n_337 : ¬ wm_ (so cB) (sw cB (10 * k + w)) (sk cB (10 * k + w)) = ws0 (so cB) (sw cB (10 * k + w)) := fun q__ => c_337 ((nI_eq (a := wm_ (so cB) (sw cB (10 * k + w)) (sk cB (10 * k + w))) (b := ws0 (so cB) (sw cB (10 * k + w))) (by omega) (by omega)).mpr q__)
                                                    refine lv_iconst (v := nI 0) hx hb dL_law_344 (by decide) ?_
                                                    refine lv_icmp_eq (tgt := 350) hx hb dL_law_345 (by decide) (fun c_345 => ?_) (fun c_345 => ?_)
                                                    · skip
                                                      have n_345 : 0 = 0 := (nI_eq (a := 0) (b := 0) (by omega) (by omega)).mp c_345
                                                      exact K_350 ls (lv_sub hl [4, 5, 6, 7, 8, 9, 10, 11, 12, 13, 14, 15, 16, 17] rfl)
                                                    · skip
                                                      have n_345 : ¬ 0 = 0 := fun q__ => c_345 ((nI_eq (a := 0) (b := 0) (by omega) (by omega)).mpr q__)
                                                      exact absurd rfl n_345
                                                  · skip
                                                    have n_337 : wm_ (so cB) (sw cB (10 * k + w)) (sk cB (10 * k + w)) = ws0 (so cB) (sw cB (10 * k + w)) := (nI_eq (a := wm_ (so cB) (sw cB (10 * k + w)) (sk cB (10 * k + w))) (b := ws0 (so cB) (sw cB (10 * k + w))) (by omega) (by omega)).mp c_337
                                                    exact absurd (hz1.mp n_337) n_318
                                                · skip
                                                  have n_318 : wc_ (sw cB (10 * k + w)) (sk cB (10 * k + w)) = ln_ (sw cB (10 * k + w)) := (nI_eq (a := wc_ (sw cB (10 * k + w)) (sk cB (10 * k + w))) (b := ln_ (sw cB (10 * k + w))) (by omega) (by omega)).mp c_318
                                                  refine lv_iconst (v := nI 1) hx hb dL_law_321 (by decide) ?_
                                                  refine lv_goto (tgt := 326) hx hb dL_law_322 (by decide) ?_
                                                  refine lv_aload_n hx hb dL_law_326 rfl (lv_at hl 16 rfl) ?_
                                                  refine lv_iload hx hb dL_law_327 (lv_at hl 7 rfl) ?_
                                                  refine lv_iload hx hb dL_law_329 (lv_at hl 4 rfl) ?_
                                                  refine lv_iconst (v := nI 4) hx hb dL_law_331 (by decide) ?_
                                                  refine k_rV (As := [.int (nI k), .int (nI w), .int (nI 4)]) (rest := [.int (nI 1)]) (c_X0_word l B0 g ct ad cB mL xL k w 4 (by omega) (by omega) (by omega)) hC ⟨hx, hb, hml, hown, hts⟩ (cwV 3 hts gL_law_X0_word rfl rfl rfl (by decide +kernel) ⟨Nat.le_of_ble_eq_true rfl, Nat.le_of_ble_eq_true rfl⟩) (rc0 hC) rfl hl.1 rfl (Nat.le_of_ble_eq_true rfl) dL_law_332 ⟨(by show _ ≤ 600130; omega), (by show _ ≤ 7301080; omega)⟩ ?_
                                                  refine lv_tn (w := nI (wm_ (so cB) (sw cB (10 * k + w)) (sk cB (10 * k + w)))) rfl ?_
                                                  refine lv_iload hx hb dL_law_335 (lv_at hl 1 rfl) ?_
                                                  refine lv_icmp_ne (tgt := 344) hx hb dL_law_337 (by decide) (fun c_337 => ?_) (fun c_337 => ?_)
                                                  · skip
                                                    have n_337 : ¬ wm_ (so cB) (sw cB (10 * k + w)) (sk cB (10 * k + w)) = ws0 (so cB) (sw cB (10 * k + w)) := fun q__ => c_337 ((nI_eq (a := wm_ (so cB) (sw cB (10 * k + w)) (sk cB (10 * k + w))) (b := ws0 (so cB) (sw cB (10 * k + w))) (by omega) (by omega)).mpr q__)
                                                    exact absurd (hz1.mpr n_318) n_337
                                                  · skip
                                                    have n_337 : wm_ (so cB) (sw cB (10 * k + w)) (sk cB (10 * k + w)) = ws0 (so cB) (sw cB (10 * k + w)) := (nI_eq (a := wm_ (so cB) (sw cB (10 * k + w)) (sk cB (10 * k + w))) (b := ws0 (so cB) (sw cB (10 * k + w))) (by omega) (by omega)).mp c_337
                                                    refine lv_iconst (v := nI 1) hx hb dL_law_340 (by decide) ?_
                                                    refine lv_goto (tgt := 345) hx hb dL_law_341 (by decide) ?_
                                                    refine lv_icmp_eq (tgt := 350) hx hb dL_law_345 (by decide) (fun c_345 => ?_) (fun c_345 => ?_)
                                                    · skip
                                                      have n_345 : 1 = 1 := (nI_eq (a := 1) (b := 1) (by omega) (by omega)).mp c_345
                                                      exact K_350 ls (lv_sub hl [4, 5, 6, 7, 8, 9, 10, 11, 12, 13, 14, 15, 16, 17] rfl)
                                                    · skip
                                                      have n_345 : ¬ 1 = 1 := fun q__ => c_345 ((nI_eq (a := 1) (b := 1) (by omega) (by omega)).mpr q__)
                                                      exact absurd rfl n_345
                                            · skip
                                              have n_296 : wm_ (so cB) (sw cB (10 * k + w)) (sk cB (10 * k + w)) = 0 := (eq0_ (by omega)).mp c_296
                                              exact absurd (hz0.mp n_296) n_279
                                          · skip
                                            have n_279 : wc_ (sw cB (10 * k + w)) (sk cB (10 * k + w)) = 0 := (eq0_ (by omega)).mp c_279
                                            refine lv_iconst (v := nI 1) hx hb dL_law_282 (by decide) ?_
                                            refine lv_goto (tgt := 287) hx hb dL_law_283 (by decide) ?_
                                            refine lv_aload_n hx hb dL_law_287 rfl (lv_at hl 16 rfl) ?_
                                            refine lv_iload hx hb dL_law_288 (lv_at hl 7 rfl) ?_
                                            refine lv_iload hx hb dL_law_290 (lv_at hl 4 rfl) ?_
                                            refine lv_iconst (v := nI 4) hx hb dL_law_292 (by decide) ?_
                                            refine k_rV (As := [.int (nI k), .int (nI w), .int (nI 4)]) (rest := [.int (nI 1)]) (c_X0_word l B0 g ct ad cB mL xL k w 4 (by omega) (by omega) (by omega)) hC ⟨hx, hb, hml, hown, hts⟩ (cwV 3 hts gL_law_X0_word rfl rfl rfl (by decide +kernel) ⟨Nat.le_of_ble_eq_true rfl, Nat.le_of_ble_eq_true rfl⟩) (rc0 hC) rfl hl.1 rfl (Nat.le_of_ble_eq_true rfl) dL_law_293 ⟨(by show _ ≤ 600130; omega), (by show _ ≤ 7301080; omega)⟩ ?_
                                            refine lv_tn (w := nI (wm_ (so cB) (sw cB (10 * k + w)) (sk cB (10 * k + w)))) rfl ?_
                                            refine lv_if_ne (tgt := 303) hx hb dL_law_296 (by decide) (fun c_296 => ?_) (fun c_296 => ?_)
                                            · skip
                                              have n_296 : ¬ wm_ (so cB) (sw cB (10 * k + w)) (sk cB (10 * k + w)) = 0 := fun q__ => c_296 ((eq0_ (by omega)).mpr q__)
                                              exact absurd (hz0.mpr n_279) n_296
                                            · skip
                                              have n_296 : wm_ (so cB) (sw cB (10 * k + w)) (sk cB (10 * k + w)) = 0 := (eq0_ (by omega)).mp c_296
                                              refine lv_iconst (v := nI 1) hx hb dL_law_299 (by decide) ?_
                                              refine lv_goto (tgt := 304) hx hb dL_law_300 (by decide) ?_
                                              refine lv_icmp_ne (tgt := 348) hx hb dL_law_304 (by decide) (fun c_304 => ?_) (fun c_304 => ?_)
                                              · skip
                                                have n_304 : ¬ 1 = 1 := fun q__ => c_304 ((nI_eq (a := 1) (b := 1) (by omega) (by omega)).mpr q__)
                                                exact absurd rfl n_304
                                              · skip
                                                have n_304 : 1 = 1 := (nI_eq (a := 1) (b := 1) (by omega) (by omega)).mp c_304
                                                refine lv_aload_n hx hb dL_law_307 rfl (lv_at hl 16 rfl) ?_
                                                refine lv_iload hx hb dL_law_308 (lv_at hl 7 rfl) ?_
                                                refine lv_iload hx hb dL_law_310 (lv_at hl 4 rfl) ?_
                                                refine lv_iconst (v := nI 3) hx hb dL_law_312 (by decide) ?_
                                                refine k_rV (As := [.int (nI k), .int (nI w), .int (nI 3)]) (rest := []) (c_X0_word l B0 g ct ad cB mL xL k w 3 (by omega) (by omega) (by omega)) hC ⟨hx, hb, hml, hown, hts⟩ (cwV 3 hts gL_law_X0_word rfl rfl rfl (by decide +kernel) ⟨Nat.le_of_ble_eq_true rfl, Nat.le_of_ble_eq_true rfl⟩) (rc0 hC) rfl hl.1 rfl (Nat.le_of_ble_eq_true rfl) dL_law_313 ⟨(by show _ ≤ 600130; omega), (by show _ ≤ 7301080; omega)⟩ ?_
                                                refine lv_tn (w := nI (wc_ (sw cB (10 * k + w)) (sk cB (10 * k + w)))) rfl ?_
                                                refine lv_iload hx hb dL_law_316 (lv_at hl 2 rfl) ?_
                                                refine lv_icmp_ne (tgt := 325) hx hb dL_law_318 (by decide) (fun c_318 => ?_) (fun c_318 => ?_)
                                                · skip
                                                  have n_318 : ¬ wc_ (sw cB (10 * k + w)) (sk cB (10 * k + w)) = ln_ (sw cB (10 * k + w)) := fun q__ => c_318 ((nI_eq (a := wc_ (sw cB (10 * k + w)) (sk cB (10 * k + w))) (b := ln_ (sw cB (10 * k + w))) (by omega) (by omega)).mpr q__)
                                                  refine lv_iconst (v := nI 0) hx hb dL_law_325 (by decide) ?_
                                                  refine lv_aload_n hx hb dL_law_326 rfl (lv_at hl 16 rfl) ?_
                                                  refine lv_iload hx hb dL_law_327 (lv_at hl 7 rfl) ?_
                                                  refine lv_iload hx hb dL_law_329 (lv_at hl 4 rfl) ?_
                                                  refine lv_iconst (v := nI 4) hx hb dL_law_331 (by decide) ?_
                                                  refine k_rV (As := [.int (nI k), .int (nI w), .int (nI 4)]) (rest := [.int (nI 0)]) (c_X0_word l B0 g ct ad cB mL xL k w 4 (by omega) (by omega) (by omega)) hC ⟨hx, hb, hml, hown, hts⟩ (cwV 3 hts gL_law_X0_word rfl rfl rfl (by decide +kernel) ⟨Nat.le_of_ble_eq_true rfl, Nat.le_of_ble_eq_true rfl⟩) (rc0 hC) rfl hl.1 rfl (Nat.le_of_ble_eq_true rfl) dL_law_332 ⟨(by show _ ≤ 600130; omega), (by show _ ≤ 7301080; omega)⟩ ?_
                                                  refine lv_tn (w := nI (wm_ (so cB) (sw cB (10 * k + w)) (sk cB (10 * k + w)))) rfl ?_
                                                  refine lv_iload hx hb dL_law_335 (lv_at hl 1 rfl) ?_
                                                  refine lv_icmp_ne (tgt := 344) hx hb dL_law_337 (by decide) (fun c_337 => ?_) (fun c_337 => ?_)
                                                  · skip
                                                    have n_337 : ¬ wm_ (so cB) (sw cB (10 * k + w)) (sk cB (10 * k + w)) = ws0 (so cB) (sw cB (10 * k + w)) := fun q__ => c_337 ((nI_eq (a := wm_ (so cB) (sw cB (10 * k + w)) (sk cB (10 * k + w))) (b := ws0 (so cB) (sw cB (10 * k + w))) (by omega) (by omega)).mpr q__)
                                                    refine lv_iconst (v := nI 0) hx hb dL_law_344 (by decide) ?_
                                                    refine lv_icmp_eq (tgt := 350) hx hb dL_law_345 (by decide) (fun c_345 => ?_) (fun c_345 => ?_)
                                                    · skip
                                                      have n_345 : 0 = 0 := (nI_eq (a := 0) (b := 0) (by omega) (by omega)).mp c_345
                                                      exact K_350 ls (lv_sub hl [4, 5, 6, 7, 8, 9, 10, 11, 12, 13, 14, 15, 16, 17] rfl)
                                                    · skip
                                                      have n_345 : ¬ 0 = 0 := fun q__ => c_345 ((nI_eq (a := 0) (b := 0) (by omega) (by omega)).mpr q__)
                                                      exact absurd rfl n_345
                                                  · skip
                                                    have n_337 : wm_ (so cB) (sw cB (10 * k + w)) (sk cB (10 * k + w)) = ws0 (so cB) (sw cB (10 * k + w)) := (nI_eq (a := wm_ (so cB) (sw cB (10 * k + w)) (sk cB (10 * k + w))) (b := ws0 (so cB) (sw cB (10 * k + w))) (by omega) (by omega)).mp c_337
                                                    exact absurd (hz1.mp n_337) n_318
                                                · skip
                                                  have n_318 : wc_ (sw cB (10 * k + w)) (sk cB (10 * k + w)) = ln_ (sw cB (10 * k + w)) := (nI_eq (a := wc_ (sw cB (10 * k + w)) (sk cB (10 * k + w))) (b := ln_ (sw cB (10 * k + w))) (by omega) (by omega)).mp c_318
                                                  refine lv_iconst (v := nI 1) hx hb dL_law_321 (by decide) ?_
                                                  refine lv_goto (tgt := 326) hx hb dL_law_322 (by decide) ?_
                                                  refine lv_aload_n hx hb dL_law_326 rfl (lv_at hl 16 rfl) ?_
                                                  refine lv_iload hx hb dL_law_327 (lv_at hl 7 rfl) ?_
                                                  refine lv_iload hx hb dL_law_329 (lv_at hl 4 rfl) ?_
                                                  refine lv_iconst (v := nI 4) hx hb dL_law_331 (by decide) ?_
                                                  refine k_rV (As := [.int (nI k), .int (nI w), .int (nI 4)]) (rest := [.int (nI 1)]) (c_X0_word l B0 g ct ad cB mL xL k w 4 (by omega) (by omega) (by omega)) hC ⟨hx, hb, hml, hown, hts⟩ (cwV 3 hts gL_law_X0_word rfl rfl rfl (by decide +kernel) ⟨Nat.le_of_ble_eq_true rfl, Nat.le_of_ble_eq_true rfl⟩) (rc0 hC) rfl hl.1 rfl (Nat.le_of_ble_eq_true rfl) dL_law_332 ⟨(by show _ ≤ 600130; omega), (by show _ ≤ 7301080; omega)⟩ ?_
                                                  refine lv_tn (w := nI (wm_ (so cB) (sw cB (10 * k + w)) (sk cB (10 * k + w)))) rfl ?_
                                                  refine lv_iload hx hb dL_law_335 (lv_at hl 1 rfl) ?_
                                                  refine lv_icmp_ne (tgt := 344) hx hb dL_law_337 (by decide) (fun c_337 => ?_) (fun c_337 => ?_)
                                                  · skip
                                                    have n_337 : ¬ wm_ (so cB) (sw cB (10 * k + w)) (sk cB (10 * k + w)) = ws0 (so cB) (sw cB (10 * k + w)) := fun q__ => c_337 ((nI_eq (a := wm_ (so cB) (sw cB (10 * k + w)) (sk cB (10 * k + w))) (b := ws0 (so cB) (sw cB (10 * k + w))) (by omega) (by omega)).mpr q__)
                                                    exact absurd (hz1.mpr n_318) n_337
                                                  · skip
                                                    have n_337 : wm_ (so cB) (sw cB (10 * k + w)) (sk cB (10 * k + w)) = ws0 (so cB) (sw cB (10 * k + w)) := (nI_eq (a := wm_ (so cB) (sw cB (10 * k + w)) (sk cB (10 * k + w))) (b := ws0 (so cB) (sw cB (10 * k + w))) (by omega) (by omega)).mp c_337
                                                    refine lv_iconst (v := nI 1) hx hb dL_law_340 (by decide) ?_
                                                    refine lv_goto (tgt := 345) hx hb dL_law_341 (by decide) ?_
                                                    refine lv_icmp_eq (tgt := 350) hx hb dL_law_345 (by decide) (fun c_345 => ?_) (fun c_345 => ?_)
                                                    · skip
                                                      have n_345 : 1 = 1 := (nI_eq (a := 1) (b := 1) (by omega) (by omega)).mp c_345
                                                      exact K_350 ls (lv_sub hl [4, 5, 6, 7, 8, 9, 10, 11, 12, 13, 14, 15, 16, 17] rfl)
                                                    · skip
                                                      have n_345 : ¬ 1 = 1 := fun q__ => c_345 ((nI_eq (a := 1) (b := 1) (by omega) (by omega)).mpr q__)
                                                      exact absurd rfl n_345
                              · skip
                                have n_173 : 0 < lf := Nat.pos_of_ne_zero (fun q__ => c_173 ((nle0_ (by omega)).mpr q__))
                                refine lv_iload hx hb dL_law_176 (lv_at hl 1 rfl) ?_
                                refine lv_aload_n hx hb dL_law_178 rfl (lv_at hl 16 rfl) ?_
                                refine lv_iload hx hb dL_law_179 (lv_at hl 0 rfl) ?_
                                refine lv_bipush (v := nI 27) hx hb dL_law_181 (by decide) ?_
                                refine lv_irem hx hb dL_law_183 (by decide) ?_
                                refine lv_tn (pk_rem (by omega) (by decide) (by decide)) ?_
                                refine k_rV (As := [.int (nI (lf % 27))]) (rest := [.int (nI sm)]) (c_X0_letter l B0 g ct ad cB mL xL (lf % 27) (f4.d n_173 (by omega)) (by omega)) hC ⟨hx, hb, hml, hown, hts⟩ (cwV 1 hts gL_law_X0_letter rfl rfl rfl (by decide +kernel) ⟨Nat.le_of_ble_eq_true rfl, Nat.le_of_ble_eq_true rfl⟩) (rc0 hC) rfl hl.1 rfl (Nat.le_of_ble_eq_true rfl) dL_law_184 ⟨(by show _ ≤ 600130; omega), (by show _ ≤ 7301080; omega)⟩ ?_
                                refine lv_iadd hx hb dL_law_187 ?_
                                refine lv_tn (nI_add _ _) ?_
                                refine lv_istore (lv' := [(16, .int (nI (sm + (vl_ (so cB) (lf % 27))))), (17, .int (nI lf)), (15, .int (nI sz)), (14, .int (nI (sw cB (10 * k + w)))), (13, .int (nI w)), (12, .ref q_130), (11, .int (nI (ss cB k))), (10, .int (nI k)), (9, .int bi), (8, .int (nI hd)), (7, .int (nI yr)), (6, .ref q_88), (5, .int (nI (sn cB))), (4, .int (v_30 + (nI (239 * tm)))), (3, .int (nI tm)), (2, .ref o), (1, .ref (ad 0)), (0, .ref b)]) hx hb dL_law_188 hl (by decide) rfl (fun ls hl => ?_)
                                refine lv_iinc (v := nI (sz + 1)) (lv' := [(15, .int (nI (sz + 1))), (16, .int (nI (sm + (vl_ (so cB) (lf % 27))))), (17, .int (nI lf)), (14, .int (nI (sw cB (10 * k + w)))), (13, .int (nI w)), (12, .ref q_130), (11, .int (nI (ss cB k))), (10, .int (nI k)), (9, .int bi), (8, .int (nI hd)), (7, .int (nI yr)), (6, .ref q_88), (5, .int (nI (sn cB))), (4, .int (v_30 + (nI (239 * tm)))), (3, .int (nI tm)), (2, .ref o), (1, .ref (ad 0)), (0, .ref b)]) hx hb dL_law_190 hl (k := 2) rfl (nI_1 _) (by decide) rfl (fun ls hl => ?_)
                                refine lv_iload hx hb dL_law_193 (lv_at hl 2 rfl) ?_
                                refine lv_bipush (v := nI 27) hx hb dL_law_195 (by decide) ?_
                                refine lv_idiv hx hb dL_law_197 (by decide) ?_
                                refine lv_tn (pk_div (by omega) (by decide) (by decide)) ?_
                                refine lv_istore (lv' := [(17, .int (nI (lf / 27))), (15, .int (nI (sz + 1))), (16, .int (nI (sm + (vl_ (so cB) (lf % 27))))), (14, .int (nI (sw cB (10 * k + w)))), (13, .int (nI w)), (12, .ref q_130), (11, .int (nI (ss cB k))), (10, .int (nI k)), (9, .int bi), (8, .int (nI hd)), (7, .int (nI yr)), (6, .ref q_88), (5, .int (nI (sn cB))), (4, .int (v_30 + (nI (239 * tm)))), (3, .int (nI tm)), (2, .ref o), (1, .ref (ad 0)), (0, .ref b)]) hx hb dL_law_198 hl (by decide) rfl (fun ls hl => ?_)
                                refine lv_goto (tgt := 171) hx hb dL_law_200 (by decide) ?_
                                exact ih_171 (sz + 1) (sm + (vl_ (so cB) (lf % 27))) (lf / 27) (by omega) (by rw [ln_s n_173 (by omega)] at f1; omega) (by rw [ws_s n_173 (by omega)] at f2; omega) (by omega) (f4.s n_173 (by omega)) ls (lv_sub hl [0, 2, 1, 3, 4, 5, 6, 7, 8, 9, 10, 11, 12, 13, 14, 15, 16, 17] rfl)
                          exact LP_171 _ 0 0 (sw cB (10 * k + w)) (Nat.lt_succ_self _) (Nat.zero_add _) (Nat.zero_add _) (Nat.le_refl _) hND ls (lv_sub hl [0, 1, 2, 3, 4, 5, 6, 7, 8, 9, 10, 11, 12, 13, 14, 15, 16, 17] rfl)
                    refine W.widen (k := 181 + 21 * tm + 9 + k + 1) (n := 10568 + 129 * tm + 69 + 5 * k + 5) (by omega) (by omega) ?_
                    exact LP_143 _ 0 m_139 xL (Nat.lt_succ_self _) (Nat.zero_le _) hE A_88 (A_139.to (fun j hj => rfl)) H locs hC hS ls (lv_sub hl [0, 1, 2, 3, 4, 5, 6, 7, 8, 9, 10, 11, 12, 13] rfl)
              refine W.widen (k := 181 + 21 * tm + 9 + 0) (n := 10568 + 129 * tm + 69 + 5 * 0) (by omega) (by omega) ?_
              exact LP_113 _ 0 0 (-1) m_88 u_82 (Nat.lt_succ_self _) rfl rfl (Nat.zero_le _) hE (A_88.to (fun j hj => rfl)) H locs hC hS ls (lv_sub hl [0, 1, 2, 3, 4, 5, 6, 7, 8, 9, 10] rfl)
            · skip
              have n_47 : ¬ 2 ≤ kk := fun q__ => c_47 ((nI_leI (a := 2) (b := kk) (by omega) (by omega)).mpr q__)
              refine lv_aload_n hx hb dL_law_50 rfl (lv_at hl 4 rfl) ?_
              refine lv_aload_n hx hb dL_law_51 rfl (lv_at hl 3 rfl) ?_
              refine lv_iload hx hb dL_law_52 (lv_at hl 1 rfl) ?_
              refine lv_iconst (v := nI 2) hx hb dL_law_54 (by decide) ?_
              refine lv_iload hx hb dL_law_55 (lv_at hl 0 rfl) ?_
              refine lv_imul hx hb dL_law_57 ?_
              refine lv_tn (pk_mul _ _) ?_
              refine lv_ishr hx hb dL_law_58 ?_
              refine lv_sipush (v := nI 163) hx hb dL_law_59 (by decide) ?_
              refine lv_iload hx hb dL_law_62 (lv_at hl 0 rfl) ?_
              refine lv_imul hx hb dL_law_64 ?_
              refine lv_tn (pk_mul _ _) ?_
              refine lv_iadd hx hb dL_law_65 ?_
              refine k_act (rest := []) (c_L_act l B0 g ct ad cL mL xL o hSI hZI (((v_30 + (nI (239 * tm))) >>> (nI (2 * kk) &&& 31)) + (nI (163 * kk)))) hC hS ⟨hx, hb, hml, hown, hts⟩ (va_cwS 3 hts gL_law_L_act rfl rfl rfl (by decide +kernel) ⟨Nat.le_of_ble_eq_true rfl, Nat.le_of_ble_eq_true rfl⟩) hl.1 rfl (Nat.le_of_ble_eq_true rfl) dL_law_66 ⟨(by show _ ≤ 600130; omega), (by show _ ≤ 7301080; omega)⟩ (fun c_a66 m_a66 x_a66 H locs hJ_66 hZ_66 hC hS => ?_)
              refine lv_if_ne (tgt := 74) hx hb dL_law_69 (by decide) (fun c_69 => ?_) (fun c_69 => ?_)
              · skip
                have n_69 : ¬ 1 = 0 := fun q__ => c_69 ((eq0_ (by omega)).mpr q__)
                refine lv_iinc (v := nI (kk + 1)) (lv' := [(5, .int (nI (kk + 1))), (4, .int (v_30 + (nI (239 * tm)))), (3, .int (nI tm)), (2, .ref o), (1, .ref (ad 0)), (0, .ref b)]) hx hb dL_law_74 hl (k := 0) rfl (nI_1 _) (by decide) rfl (fun ls hl => ?_)
                refine lv_goto (tgt := 44) hx hb dL_law_77 (by decide) ?_
                refine W.widen (k := 181 + 21 * tm + 4 * (kk + 1)) (n := 10568 + 129 * tm + 32 * (kk + 1)) (by omega) (by omega) ?_
                exact ih_44 (kk + 1) c_a66 m_a66 x_a66 (by omega) (by omega) hJ_66 hZ_66 H locs hC hS ls (lv_sub hl [0, 1, 2, 3, 4, 5] rfl)
              · skip
                have n_69 : 1 = 0 := (eq0_ (by omega)).mp c_69
                exact absurd n_69 (by decide)
        refine W.widen (k := 181 + 21 * tm + 4 * 0) (n := 10568 + 129 * tm + 32 * 0) (by omega) (by omega) ?_
        exact LP_44 _ 0 cL mL xL (Nat.lt_succ_self _) (Nat.zero_le _) hSI hZI H locs hC hS ls (lv_sub hl [0, 1, 2, 3, 4, 5] rfl)
  refine W.widen (k := 181 + 21 * 0) (n := 10568 + 129 * 0) (by omega) (by omega) ?_
  exact LP_22 _ 0 cS mS x (Nat.lt_succ_self _) (Nat.zero_le _) hJ hZ H locs hC hS ls (lv_sub hl [0, 1, 2, 3] rfl)
