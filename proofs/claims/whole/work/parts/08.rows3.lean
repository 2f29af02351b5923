section RW3
variable {p : Program} {l : Launch} {e : Env} {R : Room} {s : State} {m : MethodId} {args : Array Value} {below : List Frame} {meth : Method} {c : Code} {H : Heap} {locs : List Loc} {cells slots : Nat} {Q : State → Prop}
variable {cc : ByteArray} {pc : Nat} {ls : Array Slot} {rest : List Value} {B0 : Nat} {g : va_G} {ct ad : Nat → Nat} {cS mS c' m' : St_} {x : Ax_} {Ts : List Cond}
variable {own C : String} {y : MethodName} {bytes : ByteArray} {maxL nL n index d k0 n0 : Nat} {ret : Option FieldType} {ws : List Cond} {a : Nat} {As st : List Value} {px : Ax_ → Prop}
/-- calls of writers -/
theorem k_wV {v : Int32} (hM : WI l y ws d k0 n0 B0 g ct ad cS mS x (.ref a :: As) v c' m' px) (hC : CX B0 g ct ad cS mS x s H) (hB : B0 ≤ s.heap.size) (hS : va_S (AA B0) s.heap H locs) (S : CallFix p m c cc nL s args Ts own) (cw : CallW R s args own C index y bytes maxL ret ws (rm_ d k0 n0) k0 n0 n) (hrec : ∃ cellB : Cell, H[a]? = some cellB ∧ cellB.vm.isStatics = false ∧ s.vm.findClass C = some cellB.cls) (hn : As.length = n) (hsize : ls.size = nL) (hst : st = As.reverse ++ .ref a :: rest) (hW : (rest.map fun v => v.category).sum ≤ 8) (hdg : decode cc pc = .ok (.invokevirtual index, 3)) (hf : cells + k0 ≤ R.cells ∧ slots + n0 ≤ R.slots)
    (kk : ∀ (u : Ax_) (H1 : Heap) (locs1 : List Loc), px u → CX B0 g ct ad c' m' u s H1 → va_S (AA B0) s.heap H1 locs1 → W p l e R s m args below meth c H1 locs1 (cells + k0) (slots + n0) Q (F0 m (pc + 3) ls (.int v :: rest))) : W p l e R s m args below meth c H locs cells slots Q (F0 m pc ls st) :=
  va_calli (va_runV S hM cw ⟨CX.blind, hrec, fun U hU hW => ⟨rfl, hC.warm hU hW⟩⟩ rfl hn hsize hst (lv_room hW) hdg hf) hS (fun q _ h => h) (fun q h => h) (fun r u t H1 locs1 ht hvm hw hB1 hz hk hS1 => by
    obtain ⟨rfl, hp⟩ := hw
    rw [ht] at hB1
    exact kk u H1 locs1 hp (CX.nextW hC hB hS hS1 hB1) hS1)
theorem k_wL {v : Int64} (hM : WL l y ws d k0 n0 B0 g ct ad cS mS x (.ref a :: As) v c' m' px) (hC : CX B0 g ct ad cS mS x s H) (hB : B0 ≤ s.heap.size) (hS : va_S (AA B0) s.heap H locs) (S : CallFix p m c cc nL s args Ts own) (cw : CallW R s args own C index y bytes maxL ret ws (rm_ d k0 n0) k0 n0 n) (hrec : ∃ cellB : Cell, H[a]? = some cellB ∧ cellB.vm.isStatics = false ∧ s.vm.findClass C = some cellB.cls) (hn : As.length = n) (hsize : ls.size = nL) (hst : st = As.reverse ++ .ref a :: rest) (hW : (rest.map fun v => v.category).sum ≤ 8) (hdg : decode cc pc = .ok (.invokevirtual index, 3)) (hf : cells + k0 ≤ R.cells ∧ slots + n0 ≤ R.slots)
    (kk : ∀ (u : Ax_) (H1 : Heap) (locs1 : List Loc), px u → CX B0 g ct ad c' m' u s H1 → va_S (AA B0) s.heap H1 locs1 → W p l e R s m args below meth c H1 locs1 (cells + k0) (slots + n0) Q (F0 m (pc + 3) ls (.long v :: rest))) : W p l e R s m args below meth c H locs cells slots Q (F0 m pc ls st) :=
  va_calll (va_runV S hM cw ⟨CX.blind, hrec, fun U hU hW => ⟨rfl, hC.warm hU hW⟩⟩ rfl hn hsize hst (lv_room hW) hdg hf) hS (fun q _ h => h) (fun q h => h) (fun r u t H1 locs1 ht hvm hw hB1 hz hk hS1 => by
    obtain ⟨rfl, hp⟩ := hw
    rw [ht] at hB1
    exact kk u H1 locs1 hp (CX.nextW hC hB hS hS1 hB1) hS1)
theorem k_wVv (hM : WV l y ws d k0 n0 B0 g ct ad cS mS x (.ref a :: As) c' m' px) (hC : CX B0 g ct ad cS mS x s H) (hB : B0 ≤ s.heap.size) (hS : va_S (AA B0) s.heap H locs) (S : CallFix p m c cc nL s args Ts own) (cw : CallW R s args own C index y bytes maxL ret ws (rm_ d k0 n0) k0 n0 n) (hrec : ∃ cellB : Cell, H[a]? = some cellB ∧ cellB.vm.isStatics = false ∧ s.vm.findClass C = some cellB.cls) (hn : As.length = n) (hsize : ls.size = nL) (hst : st = As.reverse ++ .ref a :: rest) (hW : (rest.map fun v => v.category).sum ≤ 8) (hdg : decode cc pc = .ok (.invokevirtual index, 3)) (hf : cells + k0 ≤ R.cells ∧ slots + n0 ≤ R.slots)
    (kk : ∀ (u : Ax_) (H1 : Heap) (locs1 : List Loc), px u → CX B0 g ct ad c' m' u s H1 → va_S (AA B0) s.heap H1 locs1 → W p l e R s m args below meth c H1 locs1 (cells + k0) (slots + n0) Q (F0 m (pc + 3) ls rest)) : W p l e R s m args below meth c H locs cells slots Q (F0 m pc ls st) :=
  va_callv (va_runV S hM cw ⟨CX.blind, hrec, fun U hU hW => ⟨rfl, hC.warm hU hW⟩⟩ rfl hn hsize hst (lv_room hW) hdg hf) hS (fun q _ h => h) (fun q h => h) (fun u t H1 locs1 ht hvm hw hB1 hz hk hS1 => by
    rw [ht] at hB1
    exact kk u H1 locs1 hw (CX.nextW hC hB hS hS1 hB1) hS1)
/-- calls that throw for sure -/
theorem k_tq {st0 : List Value} {aa : Array Value} {E : String} (hr : vx_Run p l e R s m args below meth c H locs cells slots 1 6 (F0 m pc ls st0) rest (QF aa) (XB E B0 g ct ad cS mS x) (AA B0)) (hC : CX B0 g ct ad cS mS x s H) (hB : B0 ≤ s.heap.size) (hS : va_S (AA B0) s.heap H locs)
    (kx : ∀ (ce : Cell) (q9 : Addr) (H1 : Heap) (locs1 : List Loc), CX B0 g ct ad cS mS x s H1 → va_S (AA B0) s.heap H1 locs1 → H1[q9]? = some ce → ce.vm = .none → s.vm.findClass E = some ce.cls → vx_W p l e R s m args below meth c H1 locs1 (cells + 1) (slots + 6) Q (F0 m pc ls rest) q9) : W p l e R s m args below meth c H locs cells slots Q (F0 m pc ls st0) := by
  intro T hT X
  rcases hr T hT X with ⟨v, st₀, t, T', L, h0, X', hL, e1, e2, hq, st⟩ | ⟨q, st₀, t, T', L, E', ce, h0, X', hL, e1, e2, ⟨u, hp, ⟨rfl, hb⟩, hF⟩, hce, hcv, hcl, st⟩
  · exact hq.elim
  · obtain ⟨k1, k2, k3⟩ := vx_keep h0 e1 hS (fun q _ h => h) (fun q h => h) hL hF
    rw [← e1] at hb hce
    obtain ⟨t2, a1, b1⟩ := kx ce q T'.heap (locs ++ L) (CX.nextW hC hB hS k3 hb) k3 hce hcv hcl T' rfl X'
    exact ⟨t2, st.trans a1, b1⟩
theorem k_tV {E : String} (hM : TX l y ws d B0 g ct ad cS mS x (.ref a :: As) E) (hC : CX B0 g ct ad cS mS x s H) (hB : B0 ≤ s.heap.size) (hS : va_S (AA B0) s.heap H locs) (S : CallFix p m c cc nL s args Ts own) (cw : CallW R s args own C index y bytes maxL ret ws (rm_ d 1 6) 1 6 n) (hrec : ∃ cellB : Cell, H[a]? = some cellB ∧ cellB.vm.isStatics = false ∧ s.vm.findClass C = some cellB.cls) (hn : As.length = n) (hsize : ls.size = nL) (hst : st = As.reverse ++ .ref a :: rest) (hW : (rest.map fun v => v.category).sum ≤ 8) (hdg : decode cc pc = .ok (.invokevirtual index, 3)) (hf : cells + 1 ≤ R.cells ∧ slots + 6 ≤ R.slots)
    (kx : ∀ (ce : Cell) (q9 : Addr) (H1 : Heap) (locs1 : List Loc), CX B0 g ct ad cS mS x s H1 → va_S (AA B0) s.heap H1 locs1 → H1[q9]? = some ce → ce.vm = .none → s.vm.findClass E = some ce.cls → vx_W p l e R s m args below meth c H1 locs1 (cells + 1) (slots + 6) Q (F0 m pc ls rest) q9) : W p l e R s m args below meth c H locs cells slots Q (F0 m pc ls st) :=
  k_tq (vx_runV S hM cw ⟨CX.blind, hrec, fun U hU hW => ⟨rfl, hC.warm hU hW⟩⟩ rfl hn hsize hst (lv_room hW) hdg hf) hC hB hS kx
theorem k_tS {E : String} (hM : TX l y ws d B0 g ct ad cS mS x As E) (hC : CX B0 g ct ad cS mS x s H) (hB : B0 ≤ s.heap.size) (hS : va_S (AA B0) s.heap H locs) (S : CallFix p m c cc nL s args Ts own) (cw : CallB R s args own index y bytes maxL ret ws (rm_ d 1 6) 1 6 n ∧ (Cond.static y).before args s = true) (hn : As.length = n) (hsize : ls.size = nL) (hst : st = As.reverse ++ rest) (hW : (rest.map fun v => v.category).sum ≤ 8) (hdg : decode cc pc = .ok (.invokestatic index, 3)) (hf : cells + 1 ≤ R.cells ∧ slots + 6 ≤ R.slots)
    (kx : ∀ (ce : Cell) (q9 : Addr) (H1 : Heap) (locs1 : List Loc), CX B0 g ct ad cS mS x s H1 → va_S (AA B0) s.heap H1 locs1 → H1[q9]? = some ce → ce.vm = .none → s.vm.findClass E = some ce.cls → vx_W p l e R s m args below meth c H1 locs1 (cells + 1) (slots + 6) Q (F0 m pc ls rest) q9) : W p l e R s m args below meth c H locs cells slots Q (F0 m pc ls st) :=
  k_tq (vx_runS S hM cw ⟨CX.blind, fun U hU hW => ⟨rfl, hC.warm hU hW⟩⟩ rfl hn hsize hst (lv_room hW) hdg hf) hC hB hS kx
end RW3
abbrev NM_ : List String := ["java/lang/RuntimeException", "java/lang/Exception"]
def BW_ (E : String) : List Cond := [.castable E E, .declares (Bundle.initS "java/lang/RuntimeException"), .declares (Bundle.initS "java/lang/Exception"), .declares (Bundle.initS "java/lang/Throwable")]
theorem gb_42 : ∀ w ∈ (vx_atS RX0 42 EI_ NM_).filter (fun w => !goodWord w), w ∈ BW_ EI_ := by decide +kernel
theorem go_42 : ∀ w ∈ Cond.classLink RX0 38 EI_ :: Cond.initialized EI_ :: vx_atS RX0 42 EI_ NM_, vx_ot w = true := List.all_eq_true.mp (by decide +kernel)
theorem gb_66 : ∀ w ∈ (vx_atS RX0 66 ES_ NM_).filter (fun w => !goodWord w), w ∈ BW_ ES_ := by decide +kernel
theorem go_66 : ∀ w ∈ Cond.classLink RX0 62 ES_ :: Cond.initialized ES_ :: vx_atS RX0 66 ES_ NM_, vx_ot w = true := List.all_eq_true.mp (by decide +kernel)
theorem gb_147 : ∀ w ∈ (vx_atS RX0 147 EA_ NM_).filter (fun w => !goodWord w), w ∈ BW_ EA_ := by decide +kernel
theorem go_147 : ∀ w ∈ Cond.classLink RX0 143 EA_ :: Cond.initialized EA_ :: vx_atS RX0 147 EA_ NM_, vx_ot w = true := List.all_eq_true.mp (by decide +kernel)
theorem bw_h {E : String} {args : Array Value} {s : State} (h : KX s) (hE : E ∈ [EI_, ES_, EA_]) : ∀ w ∈ BW_ E, w.before args s = true := by
  intro w hw
  simp only [BW_, List.mem_cons, List.not_mem_nil, or_false] at hw
  rcases hw with rfl | rfl | rfl | rfl
  · exact va_Nw.use rfl (h.1 E hE)
  · exact va_Nw.use rfl (h.2.1 _ (by decide))
  · exact va_Nw.use rfl (h.2.1 _ (by decide))
  · exact va_Nw.use rfl (h.2.1 _ (by decide))
section RW4
variable {p : Program} {l : Launch} {e : Env} {R : Room} {s : State} {m : MethodId} {args : Array Value} {below : List Frame} {meth : Method} {c : Code} {H : Heap} {locs : List Loc} {cells slots : Nat} {Q : State → Prop}
variable {cc : ByteArray} {pc : Nat} {ls : Array Slot} {rest : List Value} {B0 : Nat} {g : va_G} {ct ad : Nat → Nat} {cS mS c' m' : St_} {x : Ax_} {Ts : List Cond}
/-- 'throw new E("..")' at the end of a walk -/
theorem x_thr {E text : String} {ik ic is : Nat} (hC : CX B0 g ct ad cS mS x s H) (hS : va_S (AA B0) s.heap H locs) (h0 : CK B0 g ct s s.heap) (hexec : p.tables.exec = Jvm.exec) (hb : c.code = cc) (hl : l.stackTraces = false) (hown : s.vm.findClass RX0 = some m.cls) (hfit : Bundle.fit E = true) (hts : ∀ w ∈ Ts, w.before args s = true) (hk : Cond.classLink RX0 ik E ∈ Ts) (hini : Cond.initialized E ∈ Ts) (hE : E ∈ [EI_, ES_, EA_]) (hat : ∀ w ∈ (vx_atS RX0 ic E NM_).filter goodWord, w ∈ Ts) (hbad : ∀ w ∈ (vx_atS RX0 ic E NM_).filter (fun w => !goodWord w), w ∈ BW_ E) (hgood : ∀ w ∈ Cond.classLink RX0 ik E :: Cond.initialized E :: vx_atS RX0 ic E NM_, vx_ot w = true) (hstr : (is, text) ∈ ([(40, "no such order"), (45, "no such letter"), (64, "the poem is full"), (70, "the line is full"), (72, "the line has no word"), (81, "no such place"), (133, "no such line"), (135, "no such word"), (137, "nothing such is told"), (145, "no word"), (148, "no year that can be spelled")] : List (Nat × String)))
    (hsize : ls.size = c.maxLocals) (d0 : decode cc pc = .ok (.new ik, 3)) (d3 : decode cc (pc + 3) = .ok (.dup, 1)) (d4 : decode cc (pc + 4) = .ok (.ldc is, 2)) (d6 : decode cc (pc + 6) = .ok (.invokespecial ic, 3)) (d9 : decode cc (pc + 9) = .ok (.athrow, 1))
    (hxt : ∀ x ∈ c.exceptionTable.toList, False) (hRf : 5 < R.frames) (hRl : (rest.map fun v => v.category).sum + 82 ≤ R.locals) (hRc : cells + 1 ≤ R.cells) (hRs : slots + 6 ≤ R.slots) (hlocks : meth.locks = false) (hc : cells + 1 ≤ 1) (hs : slots + 6 ≤ 6) :
    W p l e R s m args below meth c H locs cells slots (vx_MQ below QF (XB E B0 g ct ad cS mS x) args s 1 6 (AA B0)) (F0 m pc ls rest) := by
  obtain ⟨sa, hsa⟩ := h0.2.2.2.1 (is, text) hstr
  refine vx_throwS hexec hb hl hown hfit (by decide) (hts _ hk) (hts _ hini) hsa (vx_hat (fun w h => hts w (hat w h)) hbad (bw_h h0.2.2.2.2 hE)) hgood h0.2.1 h0.2.2.1 hS hsize d0 d3 d4 d6 d9 (fun x hx => (hxt x hx).elim) hRf hRl hRc hRs hlocks (fun t hA hz hq => ⟨(), trivial, ⟨rfl, ?_⟩, ?_⟩) hS.2.2 hc hs
  · obtain ⟨p1, p2, p3, p4⟩ := hC.1
    exact ⟨p1.kept (fun k q hk => hq q.1 (p1 k q hk).lt), p2, Nat.le_trans p3 hz, p4⟩
  · refine ⟨Nat.le_trans hS.1 hz, fun q h1 h2 => ?_⟩
    rw [hq q (Nat.lt_of_lt_of_le h1 hS.1)]
    exact hS.2.1 q h1 h2
end RW4
