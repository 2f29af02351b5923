section RW3
variable {p : Program} {l : Launch} {e : Env} {R : Room} {s : State} {m : MethodId} {args : Array Value} {below : List Frame} {meth : Method} {c : Code} {H : Heap} {locs : List Loc} {cells slots : Nat} {Q : State → Prop}
variable {cc : ByteArray} {pc : Nat} {ls : Array Slot} {rest : List Value} {B0 : Nat} {g : va_G} {ct ad : Nat → Nat} {cS c' : St_} {mS m' : Pl_} {x x' : Ax_} {Ts : List Cond}
variable {own C : String} {y : MethodName} {bytes : ByteArray} {maxL nL n index d k0 n0 : Nat} {ret : Option FieldType} {ws : List Cond} {a : Nat} {As st : List Value} {px : Ax_ → Prop}
/-- calls of writers -/
theorem k_wV {v : Int32} (hM : WI l y ws d k0 n0 B0 g ct ad cS mS x (.ref a :: As) v c' m' px) (hC : CX B0 g ct ad cS mS x s H) (hB : B0 ≤ s.heap.size) (hS : va_S (AA B0) s.heap H locs) (S : CallFix p m c cc nL s args Ts own) (cw : CallW R s args own C index y bytes maxL ret ws (rm_ d k0 n0) k0 n0 n) (hrec : ∃ cellB : Cell, H[a]? = some cellB ∧ cellB.vm.isStatics = false ∧ s.vm.findClass C = some cellB.cls) (hn : As.length = n) (hsize : ls.size = nL) (hst : st = As.reverse ++ .ref a :: rest) (hW : (rest.map fun v => v.category).sum ≤ 8) (hdg : decode cc pc = .ok (.invokevirtual index, 3)) (hf : cells + k0 ≤ R.cells ∧ slots + n0 ≤ R.slots)
    (kk : ∀ (u : Ax_) (H1 : Heap) (locs1 : List Loc), px u → CX B0 g ct ad c' m' u s H1 → va_S (AA B0) s.heap H1 locs1 → W p l e R s m args below meth c H1 locs1 (cells + k0) (slots + n0) Q (F0 m (pc + 3) ls (.int v :: rest))) : W p l e R s m args below meth c H locs cells slots Q (F0 m pc ls st) :=
  va_calli (va_runV S hM cw ⟨CX.blind, hrec, fun U hU hW => ⟨rfl, hC.warm hU hW⟩⟩ rfl hn hsize hst (lv_room hW) hdg hf) hS (fun q _ h => h) (fun q h => h) (fun r u t H1 locs1 ht hvm hw hB1 hz hk hS1 => by
    obtain ⟨rfl, hp⟩ := hw
    rw [ht] at hB1
    exact kk u H1 locs1 hp (CX.nextW hC hB1) hS1)
theorem k_wVv (hM : WV l y ws d k0 n0 B0 g ct ad cS mS x (.ref a :: As) c' m' px) (hC : CX B0 g ct ad cS mS x s H) (hB : B0 ≤ s.heap.size) (hS : va_S (AA B0) s.heap H locs) (S : CallFix p m c cc nL s args Ts own) (cw : CallW R s args own C index y bytes maxL ret ws (rm_ d k0 n0) k0 n0 n) (hrec : ∃ cellB : Cell, H[a]? = some cellB ∧ cellB.vm.isStatics = false ∧ s.vm.findClass C = some cellB.cls) (hn : As.length = n) (hsize : ls.size = nL) (hst : st = As.reverse ++ .ref a :: rest) (hW : (rest.map fun v => v.category).sum ≤ 8) (hdg : decode cc pc = .ok (.invokevirtual index, 3)) (hf : cells + k0 ≤ R.cells ∧ slots + n0 ≤ R.slots)
    (kk : ∀ (u : Ax_) (H1 : Heap) (locs1 : List Loc), px u → CX B0 g ct ad c' m' u s H1 → va_S (AA B0) s.heap H1 locs1 → W p l e R s m args below meth c H1 locs1 (cells + k0) (slots + n0) Q (F0 m (pc + 3) ls rest)) : W p l e R s m args below meth c H locs cells slots Q (F0 m pc ls st) :=
  va_callv (va_runV S hM cw ⟨CX.blind, hrec, fun U hU hW => ⟨rfl, hC.warm hU hW⟩⟩ rfl hn hsize hst (lv_room hW) hdg hf) hS (fun q _ h => h) (fun q h => h) (fun u t H1 locs1 ht hvm hw hB1 hz hk hS1 => by
    rw [ht] at hB1
    exact kk u H1 locs1 hw (CX.nextW hC hB1) hS1)
end RW3
