/-! ===== the world and one int row more ===== -/
def wy_ (ct ad : Nat → Nat) (c m : St_) (x : Ax_) (q : Nat) (cA n : Nat) (f : Nat → Int32) : va_W := wl_ ct ad c m x ++ [(q, .inl (cA, n, .inl f))]
def CY (B0 : Nat) (g : va_G) (ct ad : Nat → Nat) (c m : St_) (x : Ax_) (q : Nat) (cA n : Nat) (f : Nat → Int32) (s : State) (H : Heap) : Prop :=
  va_P g vwCl (wy_ ct ad c m x q cA n f) H ∧ va_D (AA B0) (wy_ ct ad c m x q cA n f) ∧ va_K g vwCl (ty_ ct ++ [(cA, .int)]) s ∧ (B0 ≤ H.size ∧ Iv_ c ∧ Iv_ m ∧ FI_ x) ∧ CK B0 g ct s H
theorem wl_len {ct ad : Nat → Nat} {c m : St_} {x : Ax_} : (wl_ ct ad c m x).length = 39 := by simp [wl_, wl_a, wl_w, wl_k, wl_f]
theorem wy_at {ct ad : Nat → Nat} {c m : St_} {x : Ax_} {q cA n : Nat} {f : Nat → Int32} : (wy_ ct ad c m x q cA n f)[39]? = some (q, .inl (cA, n, .inl f)) := by
  unfold wy_
  rw [List.getElem?_append_right (by rw [wl_len]; omega), wl_len]
  rfl
theorem wy_in {ct ad : Nat → Nat} {c m : St_} {x : Ax_} {q cA n : Nat} {f : Nat → Int32} {k : Nat} {z : Nat × va_E} (h : (wl_ ct ad c m x)[k]? = some z) : (wy_ ct ad c m x q cA n f)[k]? = some z := by
  unfold wy_
  rw [List.getElem?_append_left (List.getElem?_eq_some_iff.mp h).1]
  exact h
theorem wy_set {ct ad : Nat → Nat} {c m : St_} {x : Ax_} {q cA n : Nat} {f f' : Nat → Int32} : (wy_ ct ad c m x q cA n f).set 39 (q, .inl (cA, n, .inl f')) = wy_ ct ad c m x q cA n f' := by
  unfold wy_
  rw [List.set_append_right _ _ (by rw [wl_len]; omega), wl_len]
  rfl
theorem CY.cx {B0 : Nat} {g : va_G} {ct ad : Nat → Nat} {c m : St_} {x : Ax_} {q cA n : Nat} {f : Nat → Int32} {s : State} {H : Heap} (h : CY B0 g ct ad c m x q cA n f s H) : CX B0 g ct ad c m x s H :=
  ⟨⟨fun k z hz => h.1 k z (wy_in hz), ⟨fun i j a b hi hj e => h.2.1.1 i j a b (wy_in hi) (wy_in hj) e, fun k z hz => h.2.1.2 k z (wy_in hz)⟩, h.2.2.2.1⟩, h.2.2.2.2⟩
section RW6
variable {p : Program} {l : Launch} {e : Env} {R : Room} {s : State} {m : MethodId} {args : Array Value} {below : List Frame} {meth : Method} {c : Code} {H : Heap} {locs : List Loc} {cells slots : Nat} {Q : State → Prop}
variable {cc : ByteArray} {pc : Nat} {ls : Array Slot} {rest : List Value} {B0 : Nat} {g : va_G} {ct ad : Nat → Nat} {cS mS : St_} {x : Ax_} {Ts : List Cond} {q cA n : Nat} {f : Nat → Int32}
theorem n_new (hC : CX B0 g ct ad cS mS x s H) (hB : B0 ≤ s.heap.size) (hS : va_S (AA B0) s.heap H locs) (hexec : p.tables.exec = Jvm.exec) (hb : c.code = cc) (harr : (Cond.arrayClass .int).before args s = true) {j : Nat} (hj : j ≤ 3001) (hcells : cells + 1 ≤ R.cells) (hslots : slots + j ≤ R.slots) (hdg : decode cc pc = .ok (.newarray .int, 2))
    (kk : ∀ (q cA : Nat) (H1 : Heap), CY B0 g ct ad cS mS x q cA j (fun _ => 0) s H1 → va_S (AA B0) s.heap H1 locs → W p l e R s m args below meth c H1 locs (cells + 1) (slots + j) Q (F0 m (pc + 2) ls (.ref q :: rest))) : W p l e R s m args below meth c H locs cells slots Q (F0 m pc ls (.int (nI j) :: rest)) := by
  refine va_newa (atype := .int) (ty := .int) (N' := j) (a0 := (j, .inl (fun _ => 0))) hexec hb harr rfl hC.2.1 hC.1.1 hC.1.2.1 hS (fun q h => Nat.le_trans hB h) (fun cA => rfl) (nI_pos (by omega)) (nI_clamp (by omega)) (by show j * 4 ≤ _; omega) hcells hslots hdg (fun q cA H1 hK hP hD hS1 => kk q cA H1 ⟨hP, hD, hK, ⟨Nat.le_trans hB hS1.1, hC.1.2.2.2⟩, CK.next hC.2 hB hS hS1⟩ hS1)
theorem r_na (hY : CY B0 g ct ad cS mS x q cA n f s H) (hexec : p.tables.exec = Jvm.exec) (hb : c.code = cc) (hdg : decode cc pc = .ok (.iaload, 1)) {j : Nat} (hj : j < n) (hn : n < 2 ^ 31)
    (kk : W p l e R s m args below meth c H locs cells slots Q (F0 m (pc + 1) ls (.int (f j) :: rest))) : W p l e R s m args below meth c H locs cells slots Q (F0 m pc ls (.int (nI j) :: .ref q :: rest)) := by
  refine va_iald hexec hb hY.2.2.1 hY.1 39 4 wy_at rfl (vp_in_nI hj hn) hdg ?_
  rw [nI_clamp (by omega)]
  exact kk
theorem w_na (hY : CY B0 g ct ad cS mS x q cA n f s H) (hB : B0 ≤ s.heap.size) (hS : va_S (AA B0) s.heap H locs) (hexec : p.tables.exec = Jvm.exec) (hb : c.code = cc) (hdg : decode cc pc = .ok (.iastore, 1)) {j : Nat} {v : Int32} (hj : j < n) (hn : n < 2 ^ 31)
    (kk : ∀ (H1 : Heap) (locs1 : List Loc), CY B0 g ct ad cS mS x q cA n (upd f j v) s H1 → va_S (AA B0) s.heap H1 locs1 → W p l e R s m args below meth c H1 locs1 cells slots Q (F0 m (pc + 1) ls rest)) : W p l e R s m args below meth c H locs cells slots Q (F0 m pc ls (.int v :: .int (nI j) :: .ref q :: rest)) := by
  refine va_iast hexec hb hY.2.2.1 hY.1 hY.2.1 hS 39 4 wy_at rfl (vp_in_nI hj hn) hdg (fun H1 locs1 hP hD hS1 => kk H1 locs1 ?_ hS1)
  rw [nI_clamp (by omega), wy_set] at hP hD
  exact ⟨hP, hD, hY.2.2.1, ⟨Nat.le_trans hB hS1.1, hY.2.2.2.1.2⟩, CK.next hY.2.2.2.2 hB hS hS1⟩
/-- a method that makes such a row, of the fewest letters up to y -/
abbrev FW (l : Launch) (y : MethodName) (ws : List Cond) (B0 : Nat) (g : va_G) (ct ad : Nat → Nat) (c m : St_) (x : Ax_) (av : List Value) (yr : Nat) : Prop := Met l y ws (rm_ 1 1 3001) (PX B0 g ct ad c m x av) (va_Qr (fun (u : Nat × (Nat → Int32)) => ∀ j, j ≤ yr → u.2 j = nI (fe_ (so m) j)) (fun u ra t => (va_P g vwCl (wy_ ct ad c m x ra u.1 (yr + 1) u.2) t.heap ∧ va_D (AA B0) (wy_ ct ad c m x ra u.1 (yr + 1) u.2) ∧ B0 ≤ t.heap.size) ∧ va_K g vwCl (ty_ ct ++ [(u.1, .int)]) t) (AA B0)) 1 3001 (AA B0)
theorem k_few {own C : String} {y : MethodName} {bytes : ByteArray} {maxL nL na index : Nat} {ret : Option FieldType} {ws : List Cond} {a : Nat} {As st : List Value} {yr : Nat} (hM : FW l y ws B0 g ct ad cS mS x (.ref a :: As) yr) (hC : CX B0 g ct ad cS mS x s H) (hB : B0 ≤ s.heap.size) (hS : va_S (AA B0) s.heap H locs) (S : CallFix p m c cc nL s args Ts own) (cw : CallW R s args own C index y bytes maxL ret ws (rm_ 1 1 3001) 1 3001 na) (hrec : ∃ cellB : Cell, H[a]? = some cellB ∧ cellB.vm.isStatics = false ∧ s.vm.findClass C = some cellB.cls) (hn : As.length = na) (hsize : ls.size = nL) (hst : st = As.reverse ++ .ref a :: rest) (hW : (rest.map fun v => v.category).sum ≤ 8) (hdg : decode cc pc = .ok (.invokevirtual index, 3)) (hf : cells + 1 ≤ R.cells ∧ slots + 3001 ≤ R.slots)
    (kk : ∀ (q cA : Nat) (f : Nat → Int32) (H1 : Heap) (locs1 : List Loc), (∀ j, j ≤ yr → f j = nI (fe_ (so mS) j)) → CY B0 g ct ad cS mS x q cA (yr + 1) f s H1 → va_S (AA B0) s.heap H1 locs1 → W p l e R s m args below meth c H1 locs1 (cells + 1) (slots + 3001) Q (F0 m (pc + 3) ls (.ref q :: rest))) : W p l e R s m args below meth c H locs cells slots Q (F0 m pc ls st) :=
  va_callr (va_runV S hM cw ⟨CX.blind, hrec, fun U hU hW => ⟨rfl, hC.warm hU hW⟩⟩ rfl hn hsize hst (lv_room hW) hdg hf) hS (fun q _ h => h) (fun q h => h) (fun u ra t H1 locs1 ht hvm hw hB1 hz hk hS1 => by
    obtain ⟨⟨p1, p2, p3⟩, p4⟩ := hB1
    rw [ht] at p1
    exact kk ra u.1 u.2 H1 locs1 hw ⟨p1, p2, va_K.moved hvm.symm p4, ⟨Nat.le_trans hB hS1.1, hC.1.2.2.2⟩, CK.next hC.2 hB hS hS1⟩ hS1)
end RW6
theorem mn_ {o y k : Nat} (ho : o < 3) (hk : 0 < k) (h : vl_ o k ≤ y) : (if nI (fe_ o (y - vl_ o k) + 1) < nI (bs_ o (fe_ o) y (k - 1)) then nI (fe_ o (y - vl_ o k) + 1) else nI (bs_ o (fe_ o) y (k - 1))) = nI (bs_ o (fe_ o) y k) := by
  have h1 := fe_le o (y - vl_ o k) ho
  have h2 := bs_le o (fe_ o) y (k - 1)
  by_cases e : bs_ o (fe_ o) y (k - 1) ≤ fe_ o (y - vl_ o k) + 1
  · rw [bs_1 hk h e, if_neg (by rw [nI_ltI (by omega) (by omega)]; omega)]
  · rw [bs_2 hk h e, if_pos (by rw [nI_ltI (by omega) (by omega)]; omega)]
theorem fe_d {o y : Nat} (ho : o < 3) (h : 0 < y) {f : Nat → Int32} (h1 : ∀ j, j < y → f j = nI (fe_ o j)) (h2 : f y = nI (bs_ o (fe_ o) y 26)) (j : Nat) (hj : j < y + 1) : f j = nI (fe_ o j) := by
  by_cases e : j = y
  · subst e; rw [h2, fe_s ho h]
  · exact h1 j (by omega)
theorem ud_n {f : Nat → Int32} {y : Nat} {v : Int32} {P : Nat → Int32} (h : ∀ j, j < y → f j = P j) (j : Nat) (hj : j < y) : upd f y v j = P j := by
  unfold upd; rw [if_neg (by omega)]; exact h j hj
theorem ud_y {f : Nat → Int32} {y : Nat} {v : Int32} : upd f y v y = v := by simp [upd]
