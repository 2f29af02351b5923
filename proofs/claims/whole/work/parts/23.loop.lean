set_option maxHeartbeats 4000000 in
set_option maxRecDepth 100000 in
theorem l_loop {p : Program} {l : Launch} {e : Env} {s : State} {m : MethodId} {b : Nat} {below : List Frame} {meth : Method} {c : Code} {Q : State → Prop} {L : Nat} {xs : Nat → Int32} {g : va_G} {ct ad : Nat → Nat} (h : LF p l s m b c L xs)
    (kend : ∀ (d0 : Drawn) (H : Heap) (locs : List Loc) (ls : Array Slot) (cells slots : Nat), s.drawn.sameBut d0 lw_cs → va_S (AA s.heap.size) s.heap H locs → cells ≤ 601024 → slots ≤ 7293034 → W p l e room_1 (s.setDrawn d0) m #[Value.ref b] below meth c H locs cells slots Q (F0 m 1202 ls [.int (nI 1)])) :
    ∀ (n_ i : Nat) (cS : St_) (x : Ax_) (d0 : Drawn) (H : Heap) (locs : List Loc) (cells slots : Nat) (ls : Array Slot), L < i + 4 * n_ → i ≤ L → s.drawn.sameBut d0 lw_cs → CX s.heap.size g ct ad cS cS x (s.setDrawn d0) H → va_S (AA s.heap.size) s.heap H locs → cells + 2 * n_ ≤ 601024 ∧ slots + 3010 * n_ ≤ 7293034 → lv_has ls 9 (lvB ad b i) →
      W p l e room_1 (s.setDrawn d0) m #[Value.ref b] below meth c H locs cells slots Q (F0 m 23 ls []) := by
  intro n_
  induction n_ with
  | zero => intro i cS x d0 H locs cells slots ls h1 h2; exact absurd h2 (by omega)
  | succ n_ ih =>
    intro i cS x d0 H locs cells slots ls h1 h2 hd0 hC hS hcl hl
    have hcl2 : cells + 2 ≤ 601024 ∧ slots + 3010 ≤ 7293034 := by omega
    obtain ⟨hx, hb, hml, hown, hts0, hX, hbl, hflags, hL⟩ := id h
    have hX : va_X b L xs (s.setDrawn d0) s.heap := hX
    have hbA : ¬ AA s.heap.size b := Nat.not_le.mpr hbl
    refine lv_iload hx hb dL_law_23 (lv_at hl 0 rfl) ?_
    refine lv_aload_n hx hb dL_law_25 rfl (lv_at hl 4 rfl) ?_
    refine va_slen hx hb hX hbl hbA hS dL_law_26 ?_
    refine lv_iconst (v := nI 4) hx hb dL_law_27 (by decide) ?_
    refine lv_isub hx hb dL_law_28 ?_
    have hv : (Int32.ofNat L - nI 4).toInt = (L : Int) - 4 := pk_sub_toInt (a := L) (b := 4) (by omega) (by omega)
    have hvi : (nI i).toInt = (i : Int) := nI_toInt (by omega)
    refine lv_icmp_gt (tgt := 1201) hx hb dL_law_29 (by decide) (fun hg => ?_) (fun hg => ?_)
    · refine lv_iconst (v := nI 1) hx hb dL_law_1201 (by decide) ?_
      exact kend d0 H locs ls cells slots hd0 hS (by omega) (by omega)
    · have hi : i + 4 ≤ L := by
        rw [Int32.lt_iff_toInt_lt, hv, hvi] at hg
        omega
      have hnx : NX p l e s m b below meth c Q g ct ad i cells slots := by
        intro c2 x2 d2 H2 locs2 ls2 hd2 hC2 hS2 hl2
        have hl2 : lv_has ls2 9 [(4, .int (nI i)), (3, .ref (ad 11)), (2, .ref (ad 7)), (1, .ref (ad 0)), (0, .ref b)] := hl2
        refine lv_iinc (v := nI (i + 4)) (lv' := [(4, .int (nI (i + 4))), (3, .ref (ad 11)), (2, .ref (ad 7)), (1, .ref (ad 0)), (0, .ref b)]) hx hb dL_law_1195 hl2 (k := 0) rfl (nI_add _ 4) (by decide) rfl (fun ls hl => ?_)
        refine lv_goto (tgt := 23) hx hb dL_law_1198 (by decide) ?_
        exact ih (i + 4) c2 x2 d2 H2 locs2 (cells + 2) (slots + 3010) ls (by omega) hi hd2 hC2 hS2 (by omega) hl
      have hl : lv_has ls 9 [(4, .int (nI i)), (3, .ref (ad 11)), (2, .ref (ad 7)), (1, .ref (ad 0)), (0, .ref b)] := hl
      refine lv_aload_n hx hb dL_law_32 rfl (lv_at hl 4 rfl) ?_
      refine lv_iload hx hb dL_law_33 (lv_at hl 0 rfl) ?_
      refine va_sld hx hb hX hbl hbA hS (i := nI i) (vp_in_nI (show i < L by omega) (by omega)) dL_law_35 ?_
      refine lv_bipush (v := nI 31) hx hb dL_law_36 (by decide) ?_
      refine lv_iand hx hb dL_law_38 ?_
      obtain ⟨y, hy⟩ : ∃ y, y = xs (nI i).toNatClampNeg &&& nI 31 := ⟨_, rfl⟩
      rw [← hy]
      have hlB : lv_has ls 9 (lvB ad b i) := hl
      rcases ix_x y (n := 19) (by omega) with hy2 | ⟨j, hj, rfl⟩
      · refine lv_tableOut (tgt := 1195) hx hb dL_law_39 ?_ (by decide) ?_
        · rcases hy2 with q | q
          · left; rw [Int32.lt_iff_toInt_lt] at q; exact q
          · right; rw [Int32.le_iff_toInt_le, nI_toInt (by omega)] at q; omega
        · exact W.widen (k := cells + 2) (n := slots + 3010) (by omega) (by omega) (hnx cS x d0 H locs ls hd0 hC hS hlB)
      · match j, hj with
        | 0, _ => exact lv_tableIn (off := 89) (tgt := 128) hx hb dL_law_39 (by decide) (by decide) (by decide) (by decide) (l_count h hi hd0 hC hS hcl2 hlB hnx)
        | 1, _ => exact lv_tableIn (off := 145) (tgt := 184) hx hb dL_law_39 (by decide) (by decide) (by decide) (by decide) (l_letter h hi hd0 hC hS hcl2 hlB hnx)
        | 2, _ => exact lv_tableIn (off := 201) (tgt := 240) hx hb dL_law_39 (by decide) (by decide) (by decide) (by decide) (l_value h hi hd0 hC hS hcl2 hlB hnx)
        | 3, _ => exact lv_tableIn (off := 257) (tgt := 296) hx hb dL_law_39 (by decide) (by decide) (by decide) (by decide) (l_alike h hi hd0 hC hS hcl2 hlB hnx)
        | 4, _ => exact lv_tableIn (off := 332) (tgt := 371) hx hb dL_law_39 (by decide) (by decide) (by decide) (by decide) (l_write h hi hd0 hC hS hcl2 hlB hnx)
        | 5, _ => exact lv_tableIn (off := 376) (tgt := 415) hx hb dL_law_39 (by decide) (by decide) (by decide) (by decide) (l_add h hi hd0 hC hS hcl2 hlB hnx)
        | 6, _ => exact lv_tableIn (off := 444) (tgt := 483) hx hb dL_law_39 (by decide) (by decide) (by decide) (by decide) (l_cut h hi hd0 hC hS hcl2 hlB hnx)
        | 7, _ => exact lv_tableIn (off := 500) (tgt := 539) hx hb dL_law_39 (by decide) (by decide) (by decide) (by decide) (l_mark h hi hd0 hC hS hcl2 hlB hnx)
        | 8, _ => exact lv_tableIn (off := 587) (tgt := 626) hx hb dL_law_39 (by decide) (by decide) (by decide) (by decide) (l_word h hi hd0 hC hS hcl2 hlB hnx)
        | 9, _ => exact lv_tableIn (off := 667) (tgt := 706) hx hb dL_law_39 (by decide) (by decide) (by decide) (by decide) (l_line h hi hd0 hC hS hcl2 hlB hnx)
        | 10, _ => exact lv_tableIn (off := 735) (tgt := 774) hx hb dL_law_39 (by decide) (by decide) (by decide) (by decide) (l_told h hi hd0 hC hS hcl2 hlB hnx)
        | 11, _ => exact lv_tableIn (off := 791) (tgt := 830) hx hb dL_law_39 (by decide) (by decide) (by decide) (by decide) (l_hidden h hi hd0 hC hS hcl2 hlB hnx)
        | 12, _ => exact lv_tableIn (off := 859) (tgt := 898) hx hb dL_law_39 (by decide) (by decide) (by decide) (by decide) (l_hides h hi hd0 hC hS hcl2 hlB hnx)
        | 13, _ => exact lv_tableIn (off := 884) (tgt := 923) hx hb dL_law_39 (by decide) (by decide) (by decide) (by decide) (l_lacks h hi hd0 hC hS hcl2 hlB hnx)
        | 14, _ => exact lv_tableIn (off := 952) (tgt := 991) hx hb dL_law_39 (by decide) (by decide) (by decide) (by decide) (l_nearest h hi hd0 hC hS hcl2 hlB hnx)
        | 15, _ => exact lv_tableIn (off := 977) (tgt := 1016) hx hb dL_law_39 (by decide) (by decide) (by decide) (by decide) (l_letters h hi hd0 hC hS hcl2 hlB hnx)
        | 16, _ => exact lv_tableIn (off := 1033) (tgt := 1072) hx hb dL_law_39 (by decide) (by decide) (by decide) (by decide) (l_spell h hi hd0 hC hS hcl2 hlB hnx)
        | 17, _ => exact lv_tableIn (off := 1101) (tgt := 1140) hx hb dL_law_39 (by decide) (by decide) (by decide) (by decide) (l_mean h hi hd0 hC hS hcl2 hlB hnx)
        | 18, _ => exact lv_tableIn (off := 1142) (tgt := 1181) hx hb dL_law_39 (by decide) (by decide) (by decide) (by decide) (l_digest h hi hd0 hC hS hcl2 hlB hnx)
        | j + 19, hj => exact absurd hj (by omega)
