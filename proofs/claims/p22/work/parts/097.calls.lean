/-! ===== methods that make cells in the pool ===== -/
abbrev Qu_ : Type := Pl_ × Ax_
abbrev WQ (l : Launch) (y : MethodName) (ws : List Cond) (d k n : Nat) (B0 : Nat) (g : va_G) (ct ad : Nat → Nat) (c : St_) (m : Pl_) (x : Ax_) (av : List Value) (v : Int32) (c' : St_) (pm : Pl_ → Prop) : Prop := Met l y ws (rm_ d k n) (PX B0 g ct ad c m x av) (va_Qi (fun r (u : Qu_) => r = v ∧ pm u.1) (fun u t => CW B0 g ct ad c' u.1 u.2 t.heap) (AA B0)) k n (AA B0)
abbrev WN (l : Launch) (y : MethodName) (ws : List Cond) (d k n : Nat) (B0 : Nat) (g : va_G) (ct ad : Nat → Nat) (c : St_) (m : Pl_) (x : Ax_) (av : List Value) (c' : St_) (pm : Pl_ → Prop) : Prop := Met l y ws (rm_ d k n) (PX B0 g ct ad c m x av) (va_Qv (fun (u : Qu_) => pm u.1) (fun u t => CW B0 g ct ad c' u.1 u.2 t.heap) (AA B0)) k n (AA B0)
abbrev WR (l : Launch) (y : MethodName) (ws : List Cond) (d k n : Nat) (B0 : Nat) (g : va_G) (ct ad : Nat → Nat) (c : St_) (m : Pl_) (x : Ax_) (av : List Value) (c' : St_) (pr : Nat → Pl_ → Prop) : Prop := Met l y ws (rm_ d k n) (PX B0 g ct ad c m x av) (va_Qr (fun (_ : Qu_) => True) (fun u r t => pr r u.1 ∧ CW B0 g ct ad c' u.1 u.2 t.heap) (AA B0)) k n (AA B0)
/-- a function of its arguments alone -/
abbrev PF (l : Launch) (y : MethodName) (ws : List Cond) (d : Nat) (av : List Value) (v : Int32) : Prop := Met l y ws (rm_ d 0 0) (va_Pc av (fun _ => True)) (va_Qi (fun r (_ : Unit) => r = v) (fun _ _ => True) (fun _ => False)) 0 0 (fun _ => False)
section RW9
variable {p : Program} {l : Launch} {e : Env} {R : Room} {s : State} {m : MethodId} {args : Array Value} {below : List Frame} {meth : Method} {c : Code} {H : Heap} {locs : List Loc} {cells slots : Nat} {Q : State → Prop}
variable {cc : ByteArray} {pc : Nat} {ls : Array Slot} {rest : List Value} {B0 : Nat} {g : va_G} {ct ad : Nat → Nat} {cS c' : St_} {mS m' : Pl_} {x x' : Ax_} {Ts : List Cond}
variable {own C : String} {y : MethodName} {bytes : ByteArray} {maxL nL n index d k0 n0 : Nat} {ret : Option FieldType} {ws : List Cond} {a : Nat} {As st : List Value} {pm : Pl_ → Prop} {pr : Nat → Pl_ → Prop}

theorem k_qV {v : Int32} (hM : WQ l y ws d k0 n0 B0 g ct ad cS mS x (.ref a :: As) v c' pm) (hC : CX B0 g ct ad cS mS x s H) (hS : va_S (AA B0) s.heap H locs) (S : CallFix p m c cc nL s args Ts own) (cw : CallW R s args own C index y bytes maxL ret ws (rm_ d k0 n0) k0 n0 n) (hrec : ∃ cellB : Cell, H[a]? = some cellB ∧ cellB.vm.isStatics = false ∧ s.vm.findClass C = some cellB.cls) (hn : As.length = n) (hsize : ls.size = nL) (hst : st = As.reverse ++ .ref a :: rest) (hW : (rest.map fun v => v.category).sum ≤ 8) (hdg : decode cc pc = .ok (.invokevirtual index, 3)) (hf : cells + k0 ≤ R.cells ∧ slots + n0 ≤ R.slots)
    (kk : ∀ (m1 : Pl_) (x1 : Ax_) (H1 : Heap) (locs1 : List Loc), pm m1 → CX B0 g ct ad c' m1 x1 s H1 → va_S (AA B0) s.heap H1 locs1 → W p l e R s m args below meth c H1 locs1 (cells + k0) (slots + n0) Q (F0 m (pc + 3) ls (.int v :: rest))) : W p l e R s m args below meth c H locs cells slots Q (F0 m pc ls st) :=
  va_calli (va_runV S hM cw ⟨CX.blind, hrec, fun U hU hW => ⟨rfl, hC.warm hU hW⟩⟩ rfl hn hsize hst (lv_room hW) hdg hf) hS (fun q _ h => h) (fun q h => h) (fun r u t H1 locs1 ht hvm hw hB1 hz hk hS1 => by
    obtain ⟨rfl, hp⟩ := hw
    rw [ht] at hB1
    exact kk u.1 u.2 H1 locs1 hp (CX.nextW hC hB1) hS1)
theorem k_qS {v : Int32} (hM : WQ l y ws d k0 n0 B0 g ct ad cS mS x As v c' pm) (hC : CX B0 g ct ad cS mS x s H) (hS : va_S (AA B0) s.heap H locs) (S : CallFix p m c cc nL s args Ts own) (cw : CallB R s args own index y bytes maxL ret ws (rm_ d k0 n0) k0 n0 n ∧ (Cond.static y).before args s = true) (hn : As.length = n) (hsize : ls.size = nL) (hst : st = As.reverse ++ rest) (hW : (rest.map fun v => v.category).sum ≤ 8) (hdg : decode cc pc = .ok (.invokestatic index, 3)) (hf : cells + k0 ≤ R.cells ∧ slots + n0 ≤ R.slots)
    (kk : ∀ (m1 : Pl_) (x1 : Ax_) (H1 : Heap) (locs1 : List Loc), pm m1 → CX B0 g ct ad c' m1 x1 s H1 → va_S (AA B0) s.heap H1 locs1 → W p l e R s m args below meth c H1 locs1 (cells + k0) (slots + n0) Q (F0 m (pc + 3) ls (.int v :: rest))) : W p l e R s m args below meth c H locs cells slots Q (F0 m pc ls st) :=
  va_calli (va_runS S hM cw ⟨CX.blind, fun U hU hW => ⟨rfl, hC.warm hU hW⟩⟩ rfl hn hsize hst (lv_room hW) hdg hf) hS (fun q _ h => h) (fun q h => h) (fun r u t H1 locs1 ht hvm hw hB1 hz hk hS1 => by
    obtain ⟨rfl, hp⟩ := hw
    rw [ht] at hB1
    exact kk u.1 u.2 H1 locs1 hp (CX.nextW hC hB1) hS1)
theorem k_nV (hM : WN l y ws d k0 n0 B0 g ct ad cS mS x (.ref a :: As) c' pm) (hC : CX B0 g ct ad cS mS x s H) (hS : va_S (AA B0) s.heap H locs) (S : CallFix p m c cc nL s args Ts own) (cw : CallW R s args own C index y bytes maxL ret ws (rm_ d k0 n0) k0 n0 n) (hrec : ∃ cellB : Cell, H[a]? = some cellB ∧ cellB.vm.isStatics = false ∧ s.vm.findClass C = some cellB.cls) (hn : As.length = n) (hsize : ls.size = nL) (hst : st = As.reverse ++ .ref a :: rest) (hW : (rest.map fun v => v.category).sum ≤ 8) (hdg : decode cc pc = .ok (.invokevirtual index, 3)) (hf : cells + k0 ≤ R.cells ∧ slots + n0 ≤ R.slots)
    (kk : ∀ (m1 : Pl_) (x1 : Ax_) (H1 : Heap) (locs1 : List Loc), pm m1 → CX B0 g ct ad c' m1 x1 s H1 → va_S (AA B0) s.heap H1 locs1 → W p l e R s m args below meth c H1 locs1 (cells + k0) (slots + n0) Q (F0 m (pc + 3) ls (rest))) : W p l e R s m args below meth c H locs cells slots Q (F0 m pc ls st) :=
  va_callv (va_runV S hM cw ⟨CX.blind, hrec, fun U hU hW => ⟨rfl, hC.warm hU hW⟩⟩ rfl hn hsize hst (lv_room hW) hdg hf) hS (fun q _ h => h) (fun q h => h) (fun u t H1 locs1 ht hvm hw hB1 hz hk hS1 => by
    rw [ht] at hB1
    exact kk u.1 u.2 H1 locs1 hw (CX.nextW hC hB1) hS1)
theorem k_nI (hM : WN l y ws d k0 n0 B0 g ct ad cS mS x (.ref a :: As) c' pm) (hC : CX B0 g ct ad cS mS x s H) (hS : va_S (AA B0) s.heap H locs) (S : CallFix p m c cc nL s args Ts own) {host : String} (cw : va_CN R s args own index y host bytes maxL none ws (rm_ d k0 n0) k0 n0 n ∧ y.name = "<init>" ∧ (Cond.instanceMethod y).before args s = true) (hn : As.length = n) (hsize : ls.size = nL) (hst : st = As.reverse ++ .ref a :: rest) (hW : (rest.map fun v => v.category).sum ≤ 8) (hdg : decode cc pc = .ok (.invokespecial index, 3)) (hf : cells + k0 ≤ R.cells ∧ slots + n0 ≤ R.slots)
    (kk : ∀ (m1 : Pl_) (x1 : Ax_) (H1 : Heap) (locs1 : List Loc), pm m1 → CX B0 g ct ad c' m1 x1 s H1 → va_S (AA B0) s.heap H1 locs1 → W p l e R s m args below meth c H1 locs1 (cells + k0) (slots + n0) Q (F0 m (pc + 3) ls (rest))) : W p l e R s m args below meth c H locs cells slots Q (F0 m pc ls st) :=
  va_callv (va_runIN S hM cw ⟨CX.blind, fun U hU hW => ⟨rfl, hC.warm hU hW⟩⟩ rfl hn hsize hst (lv_room hW) hdg hf) hS (fun q _ h => h) (fun q h => h) (fun u t H1 locs1 ht hvm hw hB1 hz hk hS1 => by
    rw [ht] at hB1
    exact kk u.1 u.2 H1 locs1 hw (CX.nextW hC hB1) hS1)
theorem k_RV (hM : WR l y ws d k0 n0 B0 g ct ad cS mS x (.ref a :: As) c' pr) (hC : CX B0 g ct ad cS mS x s H) (hS : va_S (AA B0) s.heap H locs) (S : CallFix p m c cc nL s args Ts own) (cw : CallW R s args own C index y bytes maxL ret ws (rm_ d k0 n0) k0 n0 n) (hrec : ∃ cellB : Cell, H[a]? = some cellB ∧ cellB.vm.isStatics = false ∧ s.vm.findClass C = some cellB.cls) (hn : As.length = n) (hsize : ls.size = nL) (hst : st = As.reverse ++ .ref a :: rest) (hW : (rest.map fun v => v.category).sum ≤ 8) (hdg : decode cc pc = .ok (.invokevirtual index, 3)) (hf : cells + k0 ≤ R.cells ∧ slots + n0 ≤ R.slots)
    (kk : ∀ (m1 : Pl_) (x1 : Ax_) (ra : Nat) (H1 : Heap) (locs1 : List Loc), pr ra m1 → CX B0 g ct ad c' m1 x1 s H1 → va_S (AA B0) s.heap H1 locs1 → W p l e R s m args below meth c H1 locs1 (cells + k0) (slots + n0) Q (F0 m (pc + 3) ls (.ref ra :: rest))) : W p l e R s m args below meth c H locs cells slots Q (F0 m pc ls st) :=
  va_callr (va_runV S hM cw ⟨CX.blind, hrec, fun U hU hW => ⟨rfl, hC.warm hU hW⟩⟩ rfl hn hsize hst (lv_room hW) hdg hf) hS (fun q _ h => h) (fun q h => h) (fun u ra t H1 locs1 ht hvm hw hB1 hz hk hS1 => by
    obtain ⟨hp, hB2⟩ := hB1
    rw [ht] at hB2
    exact kk u.1 u.2 ra H1 locs1 hp (CX.nextW hC hB2) hS1)
theorem k_RS (hM : WR l y ws d k0 n0 B0 g ct ad cS mS x As c' pr) (hC : CX B0 g ct ad cS mS x s H) (hS : va_S (AA B0) s.heap H locs) (S : CallFix p m c cc nL s args Ts own) (cw : CallB R s args own index y bytes maxL ret ws (rm_ d k0 n0) k0 n0 n ∧ (Cond.static y).before args s = true) (hn : As.length = n) (hsize : ls.size = nL) (hst : st = As.reverse ++ rest) (hW : (rest.map fun v => v.category).sum ≤ 8) (hdg : decode cc pc = .ok (.invokestatic index, 3)) (hf : cells + k0 ≤ R.cells ∧ slots + n0 ≤ R.slots)
    (kk : ∀ (m1 : Pl_) (x1 : Ax_) (ra : Nat) (H1 : Heap) (locs1 : List Loc), pr ra m1 → CX B0 g ct ad c' m1 x1 s H1 → va_S (AA B0) s.heap H1 locs1 → W p l e R s m args below meth c H1 locs1 (cells + k0) (slots + n0) Q (F0 m (pc + 3) ls (.ref ra :: rest))) : W p l e R s m args below meth c H locs cells slots Q (F0 m pc ls st) :=
  va_callr (va_runS S hM cw ⟨CX.blind, fun U hU hW => ⟨rfl, hC.warm hU hW⟩⟩ rfl hn hsize hst (lv_room hW) hdg hf) hS (fun q _ h => h) (fun q h => h) (fun u ra t H1 locs1 ht hvm hw hB1 hz hk hS1 => by
    obtain ⟨hp, hB2⟩ := hB1
    rw [ht] at hB2
    exact kk u.1 u.2 ra H1 locs1 hp (CX.nextW hC hB2) hS1)
theorem k_RN (hM : WR l y ws d k0 n0 B0 g ct ad cS mS x As c' pr) (hC : CX B0 g ct ad cS mS x s H) (hS : va_S (AA B0) s.heap H locs) (S : CallFix p m c cc nL s args Ts own) {host : String} (cw : va_CN R s args own index y host bytes maxL ret ws (rm_ d k0 n0) k0 n0 n ∧ (Cond.static y).before args s = true ∧ True) (hn : As.length = n) (hsize : ls.size = nL) (hst : st = As.reverse ++ rest) (hW : (rest.map fun v => v.category).sum ≤ 8) (hdg : decode cc pc = .ok (.invokestatic index, 3)) (hf : cells + k0 ≤ R.cells ∧ slots + n0 ≤ R.slots)
    (kk : ∀ (m1 : Pl_) (x1 : Ax_) (ra : Nat) (H1 : Heap) (locs1 : List Loc), pr ra m1 → CX B0 g ct ad c' m1 x1 s H1 → va_S (AA B0) s.heap H1 locs1 → W p l e R s m args below meth c H1 locs1 (cells + k0) (slots + n0) Q (F0 m (pc + 3) ls (.ref ra :: rest))) : W p l e R s m args below meth c H locs cells slots Q (F0 m pc ls st) :=
  va_callr (va_runSN S hM cw ⟨CX.blind, fun U hU hW => ⟨rfl, hC.warm hU hW⟩⟩ rfl hn hsize hst (lv_room hW) hdg hf) hS (fun q _ h => h) (fun q h => h) (fun u ra t H1 locs1 ht hvm hw hB1 hz hk hS1 => by
    obtain ⟨hp, hB2⟩ := hB1
    rw [ht] at hB2
    exact kk u.1 u.2 ra H1 locs1 hp (CX.nextW hC hB2) hS1)
theorem k_fS {v : Int32} (hM : PF l y ws d As v) (hC : CX B0 g ct ad cS mS x s H) (hS : va_S (AA B0) s.heap H locs) (S : CallFix p m c cc nL s args Ts own) (cw : CallB R s args own index y bytes maxL ret ws (rm_ d 0 0) 0 0 n ∧ (Cond.static y).before args s = true) (hn : As.length = n) (hsize : ls.size = nL) (hst : st = As.reverse ++ rest) (hW : (rest.map fun v => v.category).sum ≤ 8) (hdg : decode cc pc = .ok (.invokestatic index, 3)) (hf : cells + 0 ≤ R.cells ∧ slots + 0 ≤ R.slots)
    (kk : ∀ (H1 : Heap) (locs1 : List Loc), CX B0 g ct ad cS mS x s H1 → va_S (AA B0) s.heap H1 locs1 → W p l e R s m args below meth c H1 locs1 (cells + 0) (slots + 0) Q (F0 m (pc + 3) ls (.int v :: rest))) : W p l e R s m args below meth c H locs cells slots Q (F0 m pc ls st) :=
  va_calli (va_runS S hM cw ⟨tr_blind, fun U hU hW => ⟨rfl, trivial⟩⟩ rfl hn hsize hst (lv_room hW) hdg hf) hS (fun q _ h => h.elim) (fun q h => h.elim) (fun r u t H1 locs1 ht hvm hw hB1 hz hk hS1 => by
    have hw : r = v := hw
    subst hw
    exact kk H1 locs1 ⟨⟨hC.1.1.kept (fun k q hq => hk q.1 (hC.1.1 k q hq).lt (fun z => z)), hC.1.2.1, Nat.le_trans hC.1.2.2.1 hz, hC.1.2.2.2⟩, hC.2⟩ hS1)
theorem k_fN {v : Int32} (hM : PF l y ws d As v) (hC : CX B0 g ct ad cS mS x s H) (hS : va_S (AA B0) s.heap H locs) (S : CallFix p m c cc nL s args Ts own) {host : String} (cw : va_CN R s args own index y host bytes maxL ret ws (rm_ d 0 0) 0 0 n ∧ (Cond.static y).before args s = true ∧ True) (hn : As.length = n) (hsize : ls.size = nL) (hst : st = As.reverse ++ rest) (hW : (rest.map fun v => v.category).sum ≤ 8) (hdg : decode cc pc = .ok (.invokestatic index, 3)) (hf : cells + 0 ≤ R.cells ∧ slots + 0 ≤ R.slots)
    (kk : ∀ (H1 : Heap) (locs1 : List Loc), CX B0 g ct ad cS mS x s H1 → va_S (AA B0) s.heap H1 locs1 → W p l e R s m args below meth c H1 locs1 (cells + 0) (slots + 0) Q (F0 m (pc + 3) ls (.int v :: rest))) : W p l e R s m args below meth c H locs cells slots Q (F0 m pc ls st) :=
  va_calli (va_runSN S hM cw ⟨tr_blind, fun U hU hW => ⟨rfl, trivial⟩⟩ rfl hn hsize hst (lv_room hW) hdg hf) hS (fun q _ h => h.elim) (fun q h => h.elim) (fun r u t H1 locs1 ht hvm hw hB1 hz hk hS1 => by
    have hw : r = v := hw
    subst hw
    exact kk H1 locs1 ⟨⟨hC.1.1.kept (fun k q hq => hk q.1 (hC.1.1 k q hq).lt (fun z => z)), hC.1.2.1, Nat.le_trans hC.1.2.2.1 hz, hC.1.2.2.2⟩, hC.2⟩ hS1)
end RW9
