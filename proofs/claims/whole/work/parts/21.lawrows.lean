/-! ===== the law: rows, and what holds all through it ===== -/
section LR
variable {p : Program} {l : Launch} {e : Env} {R : Room} {s : State} {m : MethodId} {args : Array Value} {below : List Frame} {meth : Method} {c : Code} {H : Heap} {locs : List Loc} {cells slots : Nat} {Q : State → Prop}
variable {cc : ByteArray} {pc : Nat} {ls : Array Slot} {rest : List Value} {B0 : Nat} {g : va_G} {ct ad : Nat → Nat} {cS mS c' m' : St_} {x : Ax_} {Ts : List Cond}
variable {own C : String} {y : MethodName} {bytes : ByteArray} {maxL nL n index d k0 n0 : Nat} {ret : Option FieldType} {ws : List Cond} {a : Nat} {As st : List Value} {px : Ax_ → Prop}
theorem lv_lcmp_eq (hexec : p.tables.exec = Jvm.exec) (hb : c.code = cc) {x y : Int64} (h : x = y) (hdg : decode cc pc = .ok (.lcmp, 1))
    (k : W p l e R s m args below meth c H locs cells slots Q (F0 m (pc + 1) ls (.int (nI 0) :: rest))) : W p l e R s m args below meth c H locs cells slots Q (F0 m pc ls (.long y :: .long x :: rest)) := by
  subst h
  intro T hT X
  obtain ⟨t, a, b⟩ := k T hT X
  refine ⟨t, ?_, b⟩
  jvm_step X.here [X.here.top, hexec, hb, hdg, (Int64.lt_irrefl : ¬ x < x)]
  exact a
theorem r_lo (hC : CX B0 g ct ad cS mS x s H) (hexec : p.tables.exec = Jvm.exec) (hb : c.code = cc) (hdg : decode cc pc = .ok (.laload, 1)) (kk : W p l e R s m args below meth c H locs cells slots Q (F0 m (pc + 1) ls (.long (xo x 0) :: rest))) : W p l e R s m args below meth c H locs cells slots Q (F0 m pc ls (.int (nI 0) :: .ref (ad 11) :: rest)) := by
  refine va_lald hexec hb hC.2.1 hC.1.1 11 3 (cA := ct 3) (n := 1) (f := xo x) ((wl_0 (k := 11) (by omega)).trans rfl) rfl (vp_in_nI (by omega) (by omega)) hdg ?_
  rw [nI_clamp (by omega)]
  exact kk
theorem k_wS {v : Int32} {hh : List (Nat × Nat × Nat × Nat)} (hM : WI l y ws d k0 n0 B0 g ct ad cS mS x As v c' m' px) (hC : CX B0 g ct ad cS mS x s H) (hB : B0 ≤ s.heap.size) (hS : va_S (AA B0) s.heap H locs) (S : CallFix p m c cc nL s args Ts own) (cw : vx_CSW R s args own index y bytes maxL ret hh ws (rm_ d k0 n0) k0 n0 n) (hn : As.length = n) (hsize : ls.size = nL) (hst : st = As.reverse ++ rest) (hW : (rest.map fun v => v.category).sum ≤ 8) (hdg : decode cc pc = .ok (.invokestatic index, 3)) (hf : cells + k0 ≤ R.cells ∧ slots + n0 ≤ R.slots)
    (kk : ∀ (u : Ax_) (H1 : Heap) (locs1 : List Loc), px u → CX B0 g ct ad c' m' u s H1 → va_S (AA B0) s.heap H1 locs1 → W p l e R s m args below meth c H1 locs1 (cells + k0) (slots + n0) Q (F0 m (pc + 3) ls (.int v :: rest))) : W p l e R s m args below meth c H locs cells slots Q (F0 m pc ls st) :=
  va_calli (vx_runSW S hM cw ⟨CX.blind, fun U hU hW => ⟨rfl, hC.warm hU hW⟩⟩ rfl hn hsize hst (lv_room hW) hdg hf) hS (fun q _ h => h) (fun q h => h) (fun r u t H1 locs1 ht hvm hw hB1 hz hk hS1 => by
    obtain ⟨rfl, hp⟩ := hw
    rw [ht] at hB1
    exact kk u H1 locs1 hp (CX.nextW hC hB hS hS1 hB1) hS1)
theorem CX.redrawn {d0 : Drawn} (d : Drawn) (h : CX B0 g ct ad cS mS x (s.setDrawn d0) H) : CX B0 g ct ad cS mS x (s.setDrawn d) H := by
  obtain ⟨h1, h3, h4, h5, h6, h7⟩ := h
  exact ⟨h1, va_K.moved (u := s.setDrawn d0) (U := s.setDrawn d) (Vm.Alike.refl s.vm) h3, vx_Zq.moved (u := s.setDrawn d0) (U := s.setDrawn d) (Vm.Alike.refl s.vm) h4, vx_Zq.moved (u := s.setDrawn d0) (U := s.setDrawn d) (Vm.Alike.refl s.vm) h5, KS.same (u := s.setDrawn d0) (U := s.setDrawn d) rfl h6, KX.same (u := s.setDrawn d0) (U := s.setDrawn d) rfl h7⟩
theorem k_dV {d0 : Drawn} {post : UInt64 → Ax_ → Prop} (hd0 : s.drawn.sameBut d0 lw_cs) (hM : MetD lw_cs l y ws (rm_ d 0 0) (PX B0 g ct ad cS mS x (.ref a :: As)) (va_Qd post (fun u t => CW B0 g ct ad cS mS u t.heap) (AA B0)) 0 0 (AA B0)) (hC : CX B0 g ct ad cS mS x (s.setDrawn d0) H) (hB : B0 ≤ s.heap.size) (hS : va_S (AA B0) s.heap H locs) (S : CallFix p m c cc nL (s.setDrawn d0) args Ts own) (cw : CallW R (s.setDrawn d0) args own C index y bytes maxL ret ws (rm_ d 0 0) 0 0 n) (hrec : ∃ cellB : Cell, H[a]? = some cellB ∧ cellB.vm.isStatics = false ∧ (s.setDrawn d0).vm.findClass C = some cellB.cls) (hn : As.length = n) (hsize : ls.size = nL) (hst : st = As.reverse ++ .ref a :: rest) (hW : (rest.map fun v => v.category).sum ≤ 8) (hdg : decode cc pc = .ok (.invokevirtual index, 3)) (hf : cells + 0 ≤ R.cells ∧ slots + 0 ≤ R.slots)
    (kk : ∀ (r : UInt64) (u : Ax_) (d1 : Drawn) (H1 : Heap) (locs1 : List Loc), post r u → s.drawn.sameBut d1 lw_cs → CX B0 g ct ad cS mS u (s.setDrawn d1) H1 → va_S (AA B0) s.heap H1 locs1 → W p l e R (s.setDrawn d1) m args below meth c H1 locs1 (cells + 0) (slots + 0) Q (F0 m (pc + 3) ls (.double r :: rest))) : W p l e R (s.setDrawn d0) m args below meth c H locs cells slots Q (F0 m pc ls st) :=
  va_calldD hd0 (va_runV_D S hM cw ⟨CX.blind, hrec, fun U hU hW => ⟨rfl, hC.warm hU hW⟩⟩ rfl hn hsize hst (lv_room hW) hdg hf) hS (fun q _ h => h) (fun q h => h) (fun r u t H1 locs1 ht hvm hw hB1 hz hk hS1 d1 hd1 => by
    rw [ht] at hB1
    exact kk r u d1 H1 locs1 hw hd1 ((CX.nextW (s := s.setDrawn d0) hC hB hS hS1 hB1).redrawn d1) hS1)
end LR
/-- what holds all through the law -/
def LF (p : Program) (l : Launch) (s : State) (m : MethodId) (b : Nat) (c : Code) (L : Nat) (xs : Nat → Int32) : Prop :=
  p.tables.exec = Jvm.exec ∧ c.code = cL_law ∧ c.maxLocals = 9 ∧ s.vm.findClass RL = some m.cls ∧ (∀ w ∈ wsL_law, w.before #[Value.ref b] s = true) ∧ va_X b L xs s s.heap ∧ b < s.heap.size ∧ l.stackTraces = false ∧ L ≤ 2048
abbrev lvB (ad : Nat → Nat) (b i : Nat) : List (Nat × Value) := [(4, .int (nI i)), (3, .ref (ad 11)), (2, .ref (ad 7)), (1, .ref (ad 0)), (0, .ref b)]
/-- the law goes on behind the switch -/
def NX (p : Program) (l : Launch) (e : Env) (s : State) (m : MethodId) (b : Nat) (below : List Frame) (meth : Method) (c : Code) (Q : State → Prop) (g : va_G) (ct ad : Nat → Nat) (i cells slots : Nat) : Prop :=
  ∀ (c2 : St_) (x : Ax_) (d0 : Drawn) (H : Heap) (locs : List Loc) (ls : Array Slot), s.drawn.sameBut d0 lw_cs → CX s.heap.size g ct ad c2 c2 x (s.setDrawn d0) H → va_S (AA s.heap.size) s.heap H locs → lv_has ls 9 (lvB ad b i) →
    W p l e room_1 (s.setDrawn d0) m #[Value.ref b] below meth c H locs (cells + 2) (slots + 3010) Q (F0 m 1195 ls [])
