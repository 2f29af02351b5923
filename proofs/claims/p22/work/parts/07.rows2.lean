/-! ===== rows that change the heap: writes, calls of writers ===== -/
section RW2
variable {p : Program} {l : Launch} {e : Env} {R : Room} {s : State} {m : MethodId} {args : Array Value} {below : List Frame} {meth : Method} {c : Code} {H : Heap} {locs : List Loc} {cells slots : Nat} {Q : State → Prop}
variable {cc : ByteArray} {pc : Nat} {ls : Array Slot} {rest : List Value} {B0 : Nat} {g : va_G} {ct ad : Nat → Nat} {cS c' : St_} {mS m' : Pl_} {x x' : Ax_} {Ts : List Cond}
theorem CX.next {H1 : Heap} {l0 l1 : List Loc} {ws : va_W} (h : CX B0 g ct ad cS mS x s H) (hB : B0 ≤ s.heap.size) (hS : va_S (AA B0) s.heap H l0) (hS1 : va_S (AA B0) s.heap H1 l1) (hP : va_P g vwCl ws H1) (hD : va_D (AA B0) ws) (e : ws = wl_ ct ad c' m' x') (I1 : Iv_ c') : CX B0 g ct ad c' m' x' s H1 := by
  subst e
  exact ⟨⟨hP, hD, Nat.le_trans hB hS1.1, I1⟩, h.2⟩
theorem CX.nextW {H1 : Heap} (h : CX B0 g ct ad cS mS x s H) (hW : CW B0 g ct ad c' m' x' H1) : CX B0 g ct ad c' m' x' s H1 := ⟨hW, h.2⟩
/-- field writes -/
theorem w_f0 (hC : CX B0 g ct ad cS mS x s H) (hB : B0 ≤ s.heap.size) (hS : va_S (AA B0) s.heap H locs) (hexec : p.tables.exec = Jvm.exec) (hb : c.code = cc) (hts : ∀ w ∈ Ts, w.before args s = true) (hin : ∀ w ∈ wsX00, w ∈ Ts) (hown : s.vm.findClass RX0 = some m.cls) {index : Nat} (k : Nat) (hk : k < 2) (hlink : (Cond.fieldLink RX0 index RX0 (TX0 k).2.1 (TX0 k).2.2.1).before args s = true) {v : Int32} (hv : (f0_ ad cS).set k (.int v) = f0_ ad c') (hss : c'.2.2 = cS.2.2) (I1 : Iv_ c') (hdg : decode cc pc = .ok (.putfield index, 3))
    (kk : ∀ (H1 : Heap) (locs1 : List Loc), CX B0 g ct ad c' mS x s H1 → va_S (AA B0) s.heap H1 locs1 → W p l e R s m args below meth c H1 locs1 cells slots Q (F0 m (pc + 3) ls rest)) : W p l e R s m args below meth c H locs cells slots Q (F0 m pc ls (.int v :: .ref (ad 0) :: rest)) := by
  have hd : parseFieldDescriptor (TX0 k).2.2.1 = some .int := by
    rcases (show k = 0 ∨ k = 1 by omega) with rfl | rfl <;> decide +kernel
  have hf : (TX0 k).2.2.2 = false := by rcases (show k = 0 ∨ k = 1 by omega) with rfl | rfl <;> rfl
  refine va_put (D := g) (ci := 0) (C := RX0) (T := TX0) (N := 8) (ref := RX0) (fs := f0_ ad cS) hexec hb hts hin tyX0 tyX0_ok nmX0 hown hC.2.1 hC.1.1 hC.1.2.1 hS 0 ((wl_0 (k := 0) (by omega)).trans rfl) rfl k (by omega) hlink (fun y h => by rw [tx0_own] at h; exact h) hf hd rfl rfl (by show k < 8; omega) hdg (fun H1 locs1 hP hD hS1 => kk H1 locs1 (CX.next hC hB hS hS1 hP hD ?_ I1) hS1)
  rw [hv]
  obtain ⟨o, n, z⟩ := cS
  obtain ⟨o', n', z'⟩ := c'
  simp only at hss
  subst hss
  rfl
theorem w_ia (hC : CX B0 g ct ad cS mS x s H) (hB : B0 ≤ s.heap.size) (hS : va_S (AA B0) s.heap H locs) (hexec : p.tables.exec = Jvm.exec) (hb : c.code = cc) (q : Nat) {a n : Nat} {f : Nat → Int32} (hq : (wl_ ct ad cS mS x)[q]? = some (a, e_i ct n f)) (hdg : decode cc pc = .ok (.iastore, 1)) {j : Nat} {v : Int32} (hj : j < n) (hn : n < 2 ^ 31)
    (he : (wl_ ct ad cS mS x).set q (a, e_i ct n (upd f j v)) = wl_ ct ad c' m' x') (I1 : Iv_ c')
    (kk : ∀ (H1 : Heap) (locs1 : List Loc), CX B0 g ct ad c' m' x' s H1 → va_S (AA B0) s.heap H1 locs1 → W p l e R s m args below meth c H1 locs1 cells slots Q (F0 m (pc + 1) ls rest)) : W p l e R s m args below meth c H locs cells slots Q (F0 m pc ls (.int v :: .int (nI j) :: .ref a :: rest)) := by
  refine va_iast hexec hb hC.2.1 hC.1.1 hC.1.2.1 hS q 0 hq rfl (vp_in_nI hj hn) hdg (fun H1 locs1 hP hD hS1 => kk H1 locs1 (CX.next hC hB hS hS1 hP hD ?_ I1) hS1)
  rw [nI_clamp (by omega)]
  exact he
end RW2
