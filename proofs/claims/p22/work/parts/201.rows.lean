section RW10
variable {p : Program} {l : Launch} {e : Env} {R : Room} {s : State} {m : MethodId} {args : Array Value} {below : List Frame} {meth : Method} {c : Code} {H : Heap} {locs : List Loc} {cells slots : Nat} {Q : State → Prop}
variable {cc : ByteArray} {pc : Nat} {ls : Array Slot} {rest : List Value} {B0 : Nat} {g : va_G} {ct ad : Nat → Nat} {cS c' : St_} {mS m' : Pl_} {x x' : Ax_} {Ts : List Cond}
theorem n_s (hC : CX B0 g ct ad cS mS x s H) (hB : B0 ≤ s.heap.size) (hS : va_S (AA B0) s.heap H locs) (hexec : p.tables.exec = Jvm.exec) (hb : c.code = cc) (hts : ∀ w ∈ Ts, w.before args s = true) (hin : ∀ w ∈ wsX10, w ∈ Ts) {own : String} {index : Nat} (hown : s.vm.findClass own = some m.cls) (hcl : (Cond.classLink own index RX1).before args s = true) (hinst : (Cond.instantiable RX1 3).before args s = true) (hini : (Cond.initialized RX1).before args s = true) (hcells : cells + 1 ≤ R.cells) (hslots : slots + 3 ≤ R.slots) (hdg : decode cc pc = .ok (.new index, 3))
    (kk : ∀ (q : Nat) (m1 : Pl_) (H1 : Heap), q ∉ mS.1 → Ex_ mS m1 → OB_ m1 q 0 none none → CX B0 g ct ad cS m1 x s H1 → va_S (AA B0) s.heap H1 locs → W p l e R s m args below meth c H1 locs (cells + 1) (slots + 3) Q (F0 m (pc + 3) ls (.ref q :: rest))) : W p l e R s m args below meth c H locs cells slots Q (F0 m pc ls rest) := by
  refine va_new (D := g) (cl := vwCl) (ci := 1) (fs := ob_ 0 none none) (C := RX1) (T := TX1) (N := 3) hexec hb hts hin tyX1 tyX1_ok hown hcl hinst hini hC.2.1 hC.1.1 hC.1.2.1 hS (fun q h => Nat.le_trans hB h) rfl (fun j hj => by rcases (show j = 0 ∨ j = 1 ∨ j = 2 by omega) with rfl | rfl | rfl <;> rfl) hcells hslots hdg (fun q H1 hP hD hS1 => ?_)
  obtain ⟨m1, h1, h2, h3, h4, h5⟩ := pl_new hC.1.2.2.2 (Nat.le_trans hB hS1.1) hP hD
  exact kk q m1 H1 h1 h2 ⟨h3, h4⟩ ⟨h5, hC.2⟩ hS1
theorem X_blind {av : List Value} {b L : Nat} {xs : Nat → Int32} : FrameBlind (va_Pc av (fun U => va_X b L xs U U.heap)) := by
  intro a U f mk h
  exact ⟨h.1, va_X.moved (u := U) (U := U.calling f mk a) (Vm.Alike.refl U.vm) h.2⟩
/-- a cell of the script is read -/
theorem k_cell {own : String} {y : MethodName} {bytes : ByteArray} {maxL nL n index d b L : Nat} {xs : Nat → Int32} {ret : Option FieldType} {ws : List Cond} {As st : List Value} (hM : Met l y ws (rm_ d 0 0) (va_Pc As (fun U => va_X b L xs U U.heap)) (vp_Si (fun _ => True)) 0 0 (fun _ => False)) (hX : va_X b L xs s s.heap) (hbl : b < s.heap.size) (hbA : ¬ AA B0 b) (hS : va_S (AA B0) s.heap H locs) (S : CallFix p m c cc nL s args Ts own) (cw : CallB R s args own index y bytes maxL ret ws (rm_ d 0 0) 0 0 n ∧ (Cond.static y).before args s = true) (hn : As.length = n) (hsize : ls.size = nL) (hst : st = As.reverse ++ rest) (hW : (rest.map fun v => v.category).sum ≤ 8) (hdg : decode cc pc = .ok (.invokestatic index, 3)) (hf : cells ≤ R.cells ∧ slots ≤ R.slots)
    (kk : ∀ v : Int32, W p l e R s m args below meth c H locs cells slots Q (F0 m (pc + 3) ls (.int v :: rest))) : W p l e R s m args below meth c H locs cells slots Q (F0 m pc ls st) :=
  vp_callSi (W.runS S hM cw ⟨X_blind, fun U hU hW => ⟨rfl, va_X.moved hW.alike (by rw [hU]; exact hX.kept (hS.2.1 b hbl hbA))⟩⟩ rfl hn hsize hst (lv_room hW) hdg ⟨hf.1, hf.2⟩) (fun r _ => kk r)
/-- an act of the law -/
theorem k_act {own : String} {nL index o : Nat} {v : Int32} {st : List Value} (hM : WA l B0 g ct ad cS mS x o v) (hC : CX B0 g ct ad cS mS x s H) (hS : va_S (AA B0) s.heap H locs) (S : CallFix p m c cc nL s args Ts own) (cw : CallB R s args own index yL_act cL_act 10 (some .boolean) wsL_act (rm_ 3 4 32) 4 32 3 ∧ (Cond.static yL_act).before args s = true) (hsize : ls.size = nL) (hst : st = .int v :: .ref o :: .ref (ad 0) :: rest) (hW : (rest.map fun v => v.category).sum ≤ 8) (hdg : decode cc pc = .ok (.invokestatic index, 3)) (hf : cells + 4 ≤ R.cells ∧ slots + 32 ≤ R.slots)
    (kk : ∀ (c1 : St_) (m1 : Pl_) (x1 : Ax_) (H1 : Heap) (locs1 : List Loc), SI_ ct m1 o c1 → IZ_ c1 → CX B0 g ct ad c1 m1 x1 s H1 → va_S (AA B0) s.heap H1 locs1 → W p l e R s m args below meth c H1 locs1 (cells + 4) (slots + 32) Q (F0 m (pc + 3) ls (.int (nI 1) :: rest))) : W p l e R s m args below meth c H locs cells slots Q (F0 m pc ls st) :=
  va_calli (va_runS (As := [.ref (ad 0), .ref o, .int v]) S hM cw ⟨CX.blind, fun U hU hW => ⟨rfl, hC.warm hU hW⟩⟩ rfl rfl hsize hst (lv_room hW) hdg hf) hS (fun q _ h => h) (fun q h => h) (fun r u t H1 locs1 ht hvm hw hB1 hz hk hS1 => by
    obtain ⟨rfl, h1, h2⟩ := hw
    rw [ht] at hB1
    exact kk u.1 u.2.1 u.2.2 H1 locs1 h1 h2 (CX.nextW hC hB1) hS1)
end RW10
