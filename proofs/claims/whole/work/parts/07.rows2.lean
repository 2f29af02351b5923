/-! ===== rows that change the heap: writes, calls of writers, throws ===== -/
section RW2
variable {p : Program} {l : Launch} {e : Env} {R : Room} {s : State} {m : MethodId} {args : Array Value} {below : List Frame} {meth : Method} {c : Code} {H : Heap} {locs : List Loc} {cells slots : Nat} {Q : State → Prop}
variable {cc : ByteArray} {pc : Nat} {ls : Array Slot} {rest : List Value} {B0 : Nat} {g : va_G} {ct ad : Nat → Nat} {cS mS : St_} {x : Ax_} {Ts : List Cond}
theorem CK.next {H1 : Heap} {l0 l1 : List Loc} (h : CK B0 g ct s H) (hB : B0 ≤ s.heap.size) (hS : va_S (AA B0) s.heap H l0) (hS1 : va_S (AA B0) s.heap H1 l1) : CK B0 g ct s H1 :=
  CK.kept (fun a _ ha => by
    have h1 : a < s.heap.size := Nat.lt_of_lt_of_le (Nat.lt_of_not_le ha) hB
    rw [hS1.2.1 a h1 ha, hS.2.1 a h1 ha]) h
theorem CX.next {H1 : Heap} {l0 l1 : List Loc} {c' m' : St_} {x' : Ax_} {ws : va_W} (h : CX B0 g ct ad cS mS x s H) (hB : B0 ≤ s.heap.size) (hS : va_S (AA B0) s.heap H l0) (hS1 : va_S (AA B0) s.heap H1 l1) (hP : va_P g vwCl ws H1) (hD : va_D (AA B0) ws) (e : ws = wl_ ct ad c' m' x') (I1 : Iv_ c') (I2 : Iv_ m') (I3 : FI_ x') : CX B0 g ct ad c' m' x' s H1 := by
  subst e
  exact ⟨⟨hP, hD, Nat.le_trans hB hS1.1, I1, I2, I3⟩, CK.next h.2 hB hS hS1⟩
theorem CX.nextW {H1 : Heap} {l0 l1 : List Loc} {c' m' : St_} {x' : Ax_} (h : CX B0 g ct ad cS mS x s H) (hB : B0 ≤ s.heap.size) (hS : va_S (AA B0) s.heap H l0) (hS1 : va_S (AA B0) s.heap H1 l1) (hW : CW B0 g ct ad c' m' x' H1) : CX B0 g ct ad c' m' x' s H1 := ⟨hW, CK.next h.2 hB hS hS1⟩
/-- field writes -/
theorem w_f0 {c' : St_} (hC : CX B0 g ct ad cS mS x s H) (hB : B0 ≤ s.heap.size) (hS : va_S (AA B0) s.heap H locs) (hexec : p.tables.exec = Jvm.exec) (hb : c.code = cc) (hts : ∀ w ∈ Ts, w.before args s = true) (hin : ∀ w ∈ wsX00, w ∈ Ts) (hown : s.vm.findClass RX0 = some m.cls) {index : Nat} (k : Nat) (hk : k < 2) (hlink : (Cond.fieldLink RX0 index RX0 (TX0 k).2.1 (TX0 k).2.2.1).before args s = true) {v : Int32} (hv : (f0_ ad cS).set k (.int v) = f0_ ad c') (hss : c'.2.2 = cS.2.2) (I1 : Iv_ c') (hdg : decode cc pc = .ok (.putfield index, 3))
    (kk : ∀ (H1 : Heap) (locs1 : List Loc), CX B0 g ct ad c' mS x s H1 → va_S (AA B0) s.heap H1 locs1 → W p l e R s m args below meth c H1 locs1 cells slots Q (F0 m (pc + 3) ls rest)) : W p l e R s m args below meth c H locs cells slots Q (F0 m pc ls (.int v :: .ref (ad 0) :: rest)) := by
  have hd : parseFieldDescriptor (TX0 k).2.2.1 = some .int := by
    rcases (show k = 0 ∨ k = 1 by omega) with rfl | rfl <;> decide +kernel
  have hf : (TX0 k).2.2.2 = false := by rcases (show k = 0 ∨ k = 1 by omega) with rfl | rfl <;> rfl
  refine va_put (D := g) (ci := 0) (C := RX0) (T := TX0) (N := 8) (ref := RX0) (fs := f0_ ad cS) hexec hb hts hin tyX0 tyX0_ok nmX0 hown hC.2.1 hC.1.1 hC.1.2.1 hS 0 ((wl_0 (k := 0) (by omega)).trans rfl) rfl k (by omega) hlink (fun y h => by rw [tx0_own] at h; exact h) hf hd rfl rfl (by show k < 8; omega) hdg (fun H1 locs1 hP hD hS1 => kk H1 locs1 (CX.next hC hB hS hS1 hP hD ?_ I1 hC.1.2.2.2.2.1 hC.1.2.2.2.2.2) hS1)
  rw [hv]
  obtain ⟨o, n, z⟩ := cS
  obtain ⟨o', n', z'⟩ := c'
  simp only at hss
  subst hss
  rfl
theorem w_f1 {m' : St_} {x' : Ax_} (hC : CX B0 g ct ad cS mS x s H) (hB : B0 ≤ s.heap.size) (hS : va_S (AA B0) s.heap H locs) (hexec : p.tables.exec = Jvm.exec) (hb : c.code = cc) (hts : ∀ w ∈ Ts, w.before args s = true) (hin : ∀ w ∈ wsX10, w ∈ Ts) (hown : s.vm.findClass RX1 = some m.cls) {index : Nat} (k : Nat) (hk : k < 3) (hlink : (Cond.fieldLink RX1 index RX1 (TX1 k).2.1 (TX1 k).2.2.1).before args s = true) {v : Int32} (hv : (f1_ ad mS x).set k (.int v) = f1_ ad m' x') (hss : m'.2.2 = mS.2.2) (hx1 : (xw x', xf x', xg x', xo x') = (xw x, xf x, xg x, xo x)) (I2 : Iv_ m') (hdg : decode cc pc = .ok (.putfield index, 3))
    (kk : ∀ (H1 : Heap) (locs1 : List Loc), CX B0 g ct ad cS m' x' s H1 → va_S (AA B0) s.heap H1 locs1 → W p l e R s m args below meth c H1 locs1 cells slots Q (F0 m (pc + 3) ls rest)) : W p l e R s m args below meth c H locs cells slots Q (F0 m pc ls (.int v :: .ref (ad 7) :: rest)) := by
  have hd : parseFieldDescriptor (TX1 k).2.2.1 = some .int := by
    rcases (show k = 0 ∨ k = 1 ∨ k = 2 by omega) with rfl | rfl | rfl <;> decide +kernel
  have hf : (TX1 k).2.2.2 = false := by rcases (show k = 0 ∨ k = 1 ∨ k = 2 by omega) with rfl | rfl | rfl <;> rfl
  obtain ⟨a1, a2, a3, a4, a5⟩ := x
  obtain ⟨b1, b2, b3, b4, b5⟩ := x'
  simp only [xw, xf, xg, xo, Prod.mk.injEq] at hx1
  obtain ⟨rfl, rfl, rfl, rfl⟩ := hx1
  refine va_put (D := g) (ci := 1) (C := RX1) (T := TX1) (N := 6) (ref := RX1) (fs := f1_ ad mS _) hexec hb hts hin tyX1 tyX1_ok nmX1 hown hC.2.1 hC.1.1 hC.1.2.1 hS 7 ((wl_0 (k := 7) (by omega)).trans rfl) rfl k (by omega) hlink (fun y h => by rw [tx1_own] at h; exact h) hf hd rfl rfl (by show k < 6; omega) hdg (fun H1 locs1 hP hD hS1 => kk H1 locs1 (CX.next hC hB hS hS1 hP hD ?_ hC.1.2.2.2.1 I2 hC.1.2.2.2.2.2) hS1)
  rw [hv]
  obtain ⟨o, n, z⟩ := mS
  obtain ⟨o', n', z'⟩ := m'
  simp only at hss
  subst hss
  rfl
theorem w_ia {c' m' : St_} {x' : Ax_} (hC : CX B0 g ct ad cS mS x s H) (hB : B0 ≤ s.heap.size) (hS : va_S (AA B0) s.heap H locs) (hexec : p.tables.exec = Jvm.exec) (hb : c.code = cc) (q : Nat) {a n : Nat} {f : Nat → Int32} (hq : (wl_ ct ad cS mS x)[q]? = some (a, e_i ct n f)) (hdg : decode cc pc = .ok (.iastore, 1)) {j : Nat} {v : Int32} (hj : j < n) (hn : n < 2 ^ 31)
    (he : (wl_ ct ad cS mS x).set q (a, e_i ct n (upd f j v)) = wl_ ct ad c' m' x') (I1 : Iv_ c') (I2 : Iv_ m') (I3 : FI_ x')
    (kk : ∀ (H1 : Heap) (locs1 : List Loc), CX B0 g ct ad c' m' x' s H1 → va_S (AA B0) s.heap H1 locs1 → W p l e R s m args below meth c H1 locs1 cells slots Q (F0 m (pc + 1) ls rest)) : W p l e R s m args below meth c H locs cells slots Q (F0 m pc ls (.int v :: .int (nI j) :: .ref a :: rest)) := by
  refine va_iast hexec hb hC.2.1 hC.1.1 hC.1.2.1 hS q 0 hq rfl (vp_in_nI hj hn) hdg (fun H1 locs1 hP hD hS1 => kk H1 locs1 (CX.next hC hB hS hS1 hP hD ?_ I1 I2 I3) hS1)
  rw [nI_clamp (by omega)]
  exact he
theorem w_za {c' m' : St_} {x' : Ax_} (hC : CX B0 g ct ad cS mS x s H) (hB : B0 ≤ s.heap.size) (hS : va_S (AA B0) s.heap H locs) (hexec : p.tables.exec = Jvm.exec) (hb : c.code = cc) (q : Nat) {a n : Nat} {f : Nat → Int32} (hq : (wl_ ct ad cS mS x)[q]? = some (a, e_z ct n f)) (hdg : decode cc pc = .ok (.bastore, 1)) {j : Nat} {v : Int32} (hj : j < n) (hn : n < 2 ^ 31)
    (he : (wl_ ct ad cS mS x).set q (a, e_z ct n (upd f j (vp_nar .boolean v))) = wl_ ct ad c' m' x') (I1 : Iv_ c') (I2 : Iv_ m') (I3 : FI_ x')
    (kk : ∀ (H1 : Heap) (locs1 : List Loc), CX B0 g ct ad c' m' x' s H1 → va_S (AA B0) s.heap H1 locs1 → W p l e R s m args below meth c H1 locs1 cells slots Q (F0 m (pc + 1) ls rest)) : W p l e R s m args below meth c H locs cells slots Q (F0 m pc ls (.int v :: .int (nI j) :: .ref a :: rest)) := by
  refine va_zast hexec hb hC.2.1 hC.1.1 hC.1.2.1 hS q 2 hq rfl (vp_in_nI hj hn) hdg (fun H1 locs1 hP hD hS1 => kk H1 locs1 (CX.next hC hB hS hS1 hP hD ?_ I1 I2 I3) hS1)
  rw [nI_clamp (by omega)]
  exact he
theorem w_lo (hC : CX B0 g ct ad cS mS x s H) (hB : B0 ≤ s.heap.size) (hS : va_S (AA B0) s.heap H locs) (hexec : p.tables.exec = Jvm.exec) (hb : c.code = cc) (hdg : decode cc pc = .ok (.lastore, 1)) {v : Int64}
    (kk : ∀ (H1 : Heap) (locs1 : List Loc), CX B0 g ct ad cS mS (ax_o x v) s H1 → va_S (AA B0) s.heap H1 locs1 → W p l e R s m args below meth c H1 locs1 cells slots Q (F0 m (pc + 1) ls rest)) : W p l e R s m args below meth c H locs cells slots Q (F0 m pc ls (.long v :: .int (nI 0) :: .ref (ad 11) :: rest)) := by
  refine va_last hexec hb hC.2.1 hC.1.1 hC.1.2.1 hS 11 3 (cA := ct 3) (n := 1) (f := xo x) ((wl_0 (k := 11) (by omega)).trans rfl) rfl (vp_in_nI (by omega) (by omega)) hdg (fun H1 locs1 hP hD hS1 => kk H1 locs1 (CX.next hC hB hS hS1 hP hD ?_ hC.1.2.2.2.1 hC.1.2.2.2.2.1 hC.1.2.2.2.2.2) hS1)
  rw [nI_clamp (by omega)]
  rfl
end RW2
