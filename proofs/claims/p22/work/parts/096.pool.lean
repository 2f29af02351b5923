/-! ===== rows over the pool: reads, writes, what is made ===== -/
/-- a pool goes on: no old cell is changed -/
def Ex_ (m m' : Pl_) : Prop := ∀ a, a ∈ m.1 → a ∈ m'.1 ∧ m'.2 a = m.2 a
theorem Ex_r (m : Pl_) : Ex_ m m := fun _ h => ⟨h, rfl⟩
theorem Ex_t {m m1 m2 : Pl_} (h : Ex_ m m1) (h2 : Ex_ m1 m2) : Ex_ m m2 := fun a ha => ⟨(h2 a (h a ha).1).1, ((h2 a (h a ha).1).2).trans (h a ha).2⟩
/-- one cell is changed -/
def PU_ (m : Pl_) (a : Nat) (m' : Pl_) : Prop := m'.1 = m.1 ∧ ∀ b, b ≠ a → m'.2 b = m.2 b
theorem Ex_.pu {m0 m m' : Pl_} {a : Nat} (h : Ex_ m0 m) (ha : a ∉ m0.1) (h2 : PU_ m a m') : Ex_ m0 m' := fun b hb => ⟨by rw [h2.1]; exact (h b hb).1, by rw [h2.2 b (fun e => ha (e ▸ hb))]; exact (h b hb).2⟩
theorem Ex_.nin {m m' : Pl_} {a : Nat} (h : Ex_ m m') (ha : a ∉ m'.1) : a ∉ m.1 := fun q => ha (h a q).1
/-- what a cell holds: ints, booleans, references; the poem by hand -/
def AI_ (ct : Nat → Nat) (m : Pl_) (a n : Nat) (P : Nat → Int32) : Prop := a ∈ m.1 ∧ ∃ f, m.2 a = e_i ct n f ∧ ∀ k, k < n → f k = P k
def AZ_ (ct : Nat → Nat) (m : Pl_) (a n : Nat) (P : Nat → Int32) : Prop := a ∈ m.1 ∧ ∃ f, m.2 a = e_z ct n f ∧ ∀ k, k < n → f k = P k
def AO_ (ct : Nat → Nat) (t : Nat) (m : Pl_) (a n : Nat) (P : Nat → Option Nat) : Prop := a ∈ m.1 ∧ ∃ f, m.2 a = e_o ct t n f ∧ ∀ k, k < n → f k = P k
def ob_ (o : Int32) (lo mo : Option Nat) : List Value := [.int o, va_rf lo, va_rf mo]
def OB_ (m : Pl_) (a : Nat) (o : Int32) (lo mo : Option Nat) : Prop := a ∈ m.1 ∧ m.2 a = .inr (1, ob_ o lo mo)
theorem AI_.to {ct : Nat → Nat} {m : Pl_} {a n : Nat} {P P' : Nat → Int32} (h : AI_ ct m a n P) (hp : ∀ k, k < n → P k = P' k) : AI_ ct m a n P' := by
  obtain ⟨h1, f, h2, h3⟩ := h
  exact ⟨h1, f, h2, fun k hk => (h3 k hk).trans (hp k hk)⟩
theorem AZ_.to {ct : Nat → Nat} {m : Pl_} {a n : Nat} {P P' : Nat → Int32} (h : AZ_ ct m a n P) (hp : ∀ k, k < n → P k = P' k) : AZ_ ct m a n P' := by
  obtain ⟨h1, f, h2, h3⟩ := h
  exact ⟨h1, f, h2, fun k hk => (h3 k hk).trans (hp k hk)⟩
theorem AO_.to {ct : Nat → Nat} {t : Nat} {m : Pl_} {a n : Nat} {P P' : Nat → Option Nat} (h : AO_ ct t m a n P) (hp : ∀ k, k < n → P k = P' k) : AO_ ct t m a n P' := by
  obtain ⟨h1, f, h2, h3⟩ := h
  exact ⟨h1, f, h2, fun k hk => (h3 k hk).trans (hp k hk)⟩
theorem AI_.ex {ct : Nat → Nat} {m m' : Pl_} {a n : Nat} {P : Nat → Int32} (h : AI_ ct m a n P) (hx : Ex_ m m') : AI_ ct m' a n P := by
  obtain ⟨h1, f, h2, h3⟩ := h
  exact ⟨(hx a h1).1, f, (hx a h1).2.trans h2, h3⟩
theorem AZ_.ex {ct : Nat → Nat} {m m' : Pl_} {a n : Nat} {P : Nat → Int32} (h : AZ_ ct m a n P) (hx : Ex_ m m') : AZ_ ct m' a n P := by
  obtain ⟨h1, f, h2, h3⟩ := h
  exact ⟨(hx a h1).1, f, (hx a h1).2.trans h2, h3⟩
theorem AO_.ex {ct : Nat → Nat} {t : Nat} {m m' : Pl_} {a n : Nat} {P : Nat → Option Nat} (h : AO_ ct t m a n P) (hx : Ex_ m m') : AO_ ct t m' a n P := by
  obtain ⟨h1, f, h2, h3⟩ := h
  exact ⟨(hx a h1).1, f, (hx a h1).2.trans h2, h3⟩
theorem OB_.ex {m m' : Pl_} {a : Nat} {o : Int32} {lo mo : Option Nat} (h : OB_ m a o lo mo) (hx : Ex_ m m') : OB_ m' a o lo mo := ⟨(hx a h.1).1, (hx a h.1).2.trans h.2⟩
theorem AI_.pu {ct : Nat → Nat} {m m' : Pl_} {a b n : Nat} {P : Nat → Int32} (h : AI_ ct m a n P) (hx : PU_ m b m') (hn : a ≠ b) : AI_ ct m' a n P := by
  obtain ⟨h1, f, h2, h3⟩ := h
  exact ⟨by rw [hx.1]; exact h1, f, (hx.2 a hn).trans h2, h3⟩
theorem AZ_.pu {ct : Nat → Nat} {m m' : Pl_} {a b n : Nat} {P : Nat → Int32} (h : AZ_ ct m a n P) (hx : PU_ m b m') (hn : a ≠ b) : AZ_ ct m' a n P := by
  obtain ⟨h1, f, h2, h3⟩ := h
  exact ⟨by rw [hx.1]; exact h1, f, (hx.2 a hn).trans h2, h3⟩
theorem AO_.pu {ct : Nat → Nat} {t : Nat} {m m' : Pl_} {a b n : Nat} {P : Nat → Option Nat} (h : AO_ ct t m a n P) (hx : PU_ m b m') (hn : a ≠ b) : AO_ ct t m' a n P := by
  obtain ⟨h1, f, h2, h3⟩ := h
  exact ⟨by rw [hx.1]; exact h1, f, (hx.2 a hn).trans h2, h3⟩
theorem OB_.pu {m m' : Pl_} {a b : Nat} {o : Int32} {lo mo : Option Nat} (h : OB_ m a o lo mo) (hx : PU_ m b m') (hn : a ≠ b) : OB_ m' a o lo mo := ⟨by rw [hx.1]; exact h.1, (hx.2 a hn).trans h.2⟩
theorem K_eq {g : va_G} {tys : List (ClassId × FieldType)} {s : State} {i j : Nat} {a b : ClassId} {t : FieldType} (hK : va_K g vwCl tys s) (ht : ∀ C, t ≠ .object C) (hi : tys[i]? = some (a, t)) (hj : tys[j]? = some (b, t)) : a = b := by
  have h1 := (hK.2 i _ hi).2
  have h2 := (hK.2 j _ hj).2
  cases t with
  | object C => exact absurd rfl (ht C)
  | _ => exact Option.some.inj (h1.symm.trans h2)
/-- the classes of the rows of the poem by hand -/
theorem ct_1 {g : va_G} {ct : Nat → Nat} {s : State} (h : CK g ct s) {i t : Nat} {ty : FieldType} (hi : (ty_ ct)[i]? = some (ct i, ty)) (ht : (ty_ ct)[t]? = some (ct t, .array ty)) (ho : ∀ C, ty ≠ .object C) (ha : va_AOA ty s) : ∃ k kc, s.vm.classes[ct t]? = some k ∧ k.kind = .array (ct i) (.array ty) ∧ s.vm.classes[ct i]? = some kc ∧ s.vm.findClass (FieldType.array ty).toString = some (ct i) := by
  obtain ⟨comp, c, k, h1, h2, h3, h4, h5⟩ := arrayOverA_spec ha
  have e1 : c = ct t := Option.some.inj (h5.symm.trans (h.1.2 t _ ht).2)
  have e2 : comp = ct i := by
    have := (h.1.2 i _ hi).2
    cases ty with
    | object C => exact absurd rfl (ho C)
    | _ => exact Option.some.inj (h1.symm.trans this)
  subst e1
  subst e2
  obtain ⟨kc, hkc, -⟩ := Vm.findClass_spec h1
  exact ⟨k, kc, h3, h4, hkc, h1⟩
section RW8
variable {p : Program} {l : Launch} {e : Env} {R : Room} {s : State} {m : MethodId} {args : Array Value} {below : List Frame} {meth : Method} {c : Code} {H : Heap} {locs : List Loc} {cells slots : Nat} {Q : State → Prop}
variable {cc : ByteArray} {pc : Nat} {ls : Array Slot} {rest : List Value} {B0 : Nat} {g : va_G} {ct ad : Nat → Nat} {cS c' : St_} {mS m' : Pl_} {x x' : Ax_} {Ts : List Cond}
/-- a cell more in the pool -/
theorem pl_new {q : Nat} {ev : va_E} {H1 : Heap} (hI : Iv_ cS) (hB : B0 ≤ H1.size) (hP : va_P g vwCl (wl_ ct ad cS mS x ++ [(q, ev)]) H1) (hD : va_D (AA B0) (wl_ ct ad cS mS x ++ [(q, ev)])) : ∃ m1 : Pl_, q ∉ mS.1 ∧ Ex_ mS m1 ∧ q ∈ m1.1 ∧ m1.2 q = ev ∧ CW B0 g ct ad cS m1 x H1 := by
  have hq : q ∉ mS.1 := va_pl_fresh2 (X := wl_c ct ad cS x) hD
  have e1 : wl_ ct ad cS mS x ++ [(q, ev)] = wl_ ct ad cS (mS.1 ++ [q], va_up mS.2 q ev) x := by
    unfold wl_
    rw [List.append_assoc, va_pl_push hq]
  refine ⟨(mS.1 ++ [q], va_up mS.2 q ev), hq, fun a ha => ⟨List.mem_append_left _ ha, ?_⟩, List.mem_append_right _ List.mem_cons_self, ?_, by rw [← e1]; exact hP, by rw [← e1]; exact hD, hB, hI⟩
  · exact if_neg (fun z : a = q => hq (z ▸ ha))
  · exact if_pos rfl
/-- a cell of the pool changed -/
theorem pl_set {a k : Nat} {ev : va_E} {H1 : Heap} (hC : CW B0 g ct ad cS mS x H) (hB : B0 ≤ H1.size) (ha : a ∈ mS.1) (hk : (wl_c ct ad cS x ++ va_pl mS.1 mS.2)[k]? = some (a, mS.2 a)) (hP : va_P g vwCl ((wl_ ct ad cS mS x).set k (a, ev)) H1) (hD : va_D (AA B0) ((wl_ ct ad cS mS x).set k (a, ev))) : ∃ m1 : Pl_, PU_ mS a m1 ∧ a ∈ m1.1 ∧ m1.2 a = ev ∧ CW B0 g ct ad cS m1 x H1 := by
  have e1 : (wl_ ct ad cS mS x).set k (a, ev) = wl_ ct ad cS (mS.1, va_up mS.2 a ev) x := va_pl_set (A := AA B0) (X := wl_c ct ad cS x) hC.2.1 ha hk
  refine ⟨(mS.1, va_up mS.2 a ev), ⟨rfl, fun b hb => ?_⟩, ha, ?_, by rw [← e1]; exact hP, by rw [← e1]; exact hD, hB, hC.2.2.2⟩
  · exact if_neg hb
  · exact if_pos rfl
theorem pl_at {a : Nat} (ha : a ∈ mS.1) : ∃ k : Nat, (wl_ ct ad cS mS x)[k]? = some (a, mS.2 a) := va_pl_get (X := wl_c ct ad cS x) ha
/-- new rows -/
theorem n_i (hC : CX B0 g ct ad cS mS x s H) (hB : B0 ≤ s.heap.size) (hS : va_S (AA B0) s.heap H locs) (hexec : p.tables.exec = Jvm.exec) (hb : c.code = cc) (harr : (Cond.arrayClass .int).before args s = true) {j : Nat} (hj : j ≤ 3001) (hcells : cells + 1 ≤ R.cells) (hslots : slots + j ≤ R.slots) (hdg : decode cc pc = .ok (.newarray .int, 2))
    (kk : ∀ (q : Nat) (m1 : Pl_) (H1 : Heap), q ∉ mS.1 → Ex_ mS m1 → AI_ ct m1 q j (fun _ => 0) → CX B0 g ct ad cS m1 x s H1 → va_S (AA B0) s.heap H1 locs → W p l e R s m args below meth c H1 locs (cells + 1) (slots + j) Q (F0 m (pc + 2) ls (.ref q :: rest))) : W p l e R s m args below meth c H locs cells slots Q (F0 m pc ls (.int (nI j) :: rest)) := by
  refine va_newa (atype := .int) (ty := .int) (N' := j) (a0 := (j, .inl (fun _ => 0))) hexec hb harr rfl hC.2.1 hC.1.1 hC.1.2.1 hS (fun q h => Nat.le_trans hB h) (fun cA => rfl) (nI_pos (by omega)) (nI_clamp (by omega)) (by show j * 4 ≤ _; omega) hcells hslots hdg (fun q cA H1 hK hP hD hS1 => ?_)
  have e1 : cA = ct 0 := K_eq (i := 5) (j := 0) hK (fun C h => by cases h) rfl rfl
  subst e1
  obtain ⟨m1, h1, h2, h3, h4, h5⟩ := pl_new hC.1.2.2.2 (Nat.le_trans hB hS1.1) hP hD
  exact kk q m1 H1 h1 h2 ⟨h3, _, h4, fun _ _ => rfl⟩ ⟨h5, hC.2⟩ hS1
theorem n_z (hC : CX B0 g ct ad cS mS x s H) (hB : B0 ≤ s.heap.size) (hS : va_S (AA B0) s.heap H locs) (hexec : p.tables.exec = Jvm.exec) (hb : c.code = cc) (harr : (Cond.arrayClass .boolean).before args s = true) {j : Nat} (hj : j ≤ 3001) (hcells : cells + 1 ≤ R.cells) (hslots : slots + j ≤ R.slots) (hdg : decode cc pc = .ok (.newarray .boolean, 2))
    (kk : ∀ (q : Nat) (m1 : Pl_) (H1 : Heap), q ∉ mS.1 → Ex_ mS m1 → AZ_ ct m1 q j (fun _ => 0) → CX B0 g ct ad cS m1 x s H1 → va_S (AA B0) s.heap H1 locs → W p l e R s m args below meth c H1 locs (cells + 1) (slots + j) Q (F0 m (pc + 2) ls (.ref q :: rest))) : W p l e R s m args below meth c H locs cells slots Q (F0 m pc ls (.int (nI j) :: rest)) := by
  refine va_newa (atype := .boolean) (ty := .boolean) (N' := j) (a0 := (j, .inl (fun _ => 0))) hexec hb harr rfl hC.2.1 hC.1.1 hC.1.2.1 hS (fun q h => Nat.le_trans hB h) (fun cA => rfl) (nI_pos (by omega)) (nI_clamp (by omega)) (by show j * 1 ≤ _; omega) hcells hslots hdg (fun q cA H1 hK hP hD hS1 => ?_)
  have e1 : cA = ct 2 := K_eq (i := 5) (j := 2) hK (fun C h => by cases h) rfl rfl
  subst e1
  obtain ⟨m1, h1, h2, h3, h4, h5⟩ := pl_new hC.1.2.2.2 (Nat.le_trans hB hS1.1) hP hD
  exact kk q m1 H1 h1 h2 ⟨h3, _, h4, fun _ _ => rfl⟩ ⟨h5, hC.2⟩ hS1
theorem n_o (hC : CX B0 g ct ad cS mS x s H) (hB : B0 ≤ s.heap.size) (hS : va_S (AA B0) s.heap H locs) (hexec : p.tables.exec = Jvm.exec) (hb : c.code = cc) {own C : String} {index t : Nat} {ty : FieldType} (hown : s.vm.findClass own = some m.cls) (hlink : (Cond.classLink own index C).before args s = true) (hC2 : (FieldType.array ty).toString = C) (ht : (ty_ ct)[t]? = some (ct t, .array ty)) (ha : va_AOA ty s) {j : Nat} (hj : j ≤ 3001) (hcells : cells + 1 ≤ R.cells) (hslots : slots + j ≤ R.slots) (hdg : decode cc pc = .ok (.anewarray index, 3))
    (kk : ∀ (q : Nat) (m1 : Pl_) (H1 : Heap), q ∉ mS.1 → Ex_ mS m1 → AO_ ct t m1 q j (fun _ => none) → CX B0 g ct ad cS m1 x s H1 → va_S (AA B0) s.heap H1 locs → W p l e R s m args below meth c H1 locs (cells + 1) (slots + j) Q (F0 m (pc + 3) ls (.ref q :: rest))) : W p l e R s m args below meth c H locs cells slots Q (F0 m pc ls (.int (nI j) :: rest)) := by
  subst hC2
  have hn : (nI j).toNatClampNeg = j := nI_clamp (by omega)
  refine W.anewA hexec hb hown hlink (va_AOA.use ha) rfl hdg rfl (nI_pos (by omega)) (by rw [hn]; omega) hcells (by rw [hn]; exact hslots) fun cA kA comp f1 f2 f3 f4 => ?_
  rw [hn]
  have ecA : cA = ct t := Option.some.inj (f1.symm.trans (hC.2.1.2 t _ ht).2)
  subst ecA
  generalize hH1 : H.push ({ cls := ct t, slots := Array.replicate j .null, vm := .none } : Cell) = H1
  have z1 : H1.size = H.size + 1 := by rw [← hH1, Array.size_push]
  have e1 : H1[H.size]? = some (arrV (ct t) j (fun _ => .null)) := by rw [← hH1, Array.getElem?_push_size, ← arrV_new]
  have o1 : ∀ q : Nat, q < H.size → H1[q]? = H[q]? := fun q hq => by rw [← hH1, Array.getElem?_push, if_neg (Nat.ne_of_lt hq)]
  have hk : ∀ (k : Nat) (y : Nat × va_E), (wl_ ct ad cS mS x)[k]? = some y → H1[y.1]? = H[y.1]? := fun k y hy => o1 y.1 ((hC.1.1 k y hy).lt)
  have hS1 : va_S (AA B0) s.heap H1 locs := ⟨Nat.le_trans hS.1 (by omega), fun y h1 h2 => (o1 y (Nat.lt_of_lt_of_le h1 hS.1)).trans (hS.2.1 y h1 h2), hS.2.2⟩
  have hP : va_P g vwCl (wl_ ct ad cS mS x ++ [(H.size, e_o ct t j (fun _ => none))]) H1 := (hC.1.1.kept hk).app (fun k y hy => by
    have hz : k < 1 := (List.getElem?_eq_some_iff.mp hy).1
    rw [show k = 0 by omega] at hy
    cases hy
    show H1[H.size]? = some (vp_cell _ _)
    rw [vp_cell_q]
    exact e1)
  have hD : va_D (AA B0) (wl_ ct ad cS mS x ++ [(H.size, e_o ct t j (fun _ => none))]) := hC.1.2.1.push hC.1.1 rfl (Nat.le_trans hB hS.1)
  obtain ⟨m1, h1, h2, h3, h4, h5⟩ := pl_new hC.1.2.2.2 (Nat.le_trans hB hS1.1) hP hD
  exact kk _ m1 H1 h1 h2 ⟨h3, _, h4, fun _ _ => rfl⟩ ⟨h5, hC.2⟩ hS1
/-- reads -/
theorem q_i (hC : CX B0 g ct ad cS mS x s H) (hexec : p.tables.exec = Jvm.exec) (hb : c.code = cc) {a n : Nat} {P : Nat → Int32} (hA : AI_ ct mS a n P) (hdg : decode cc pc = .ok (.iaload, 1)) {j : Nat} (hj : j < n) (hn : n < 2 ^ 31)
    (kk : W p l e R s m args below meth c H locs cells slots Q (F0 m (pc + 1) ls (.int (P j) :: rest))) : W p l e R s m args below meth c H locs cells slots Q (F0 m pc ls (.int (nI j) :: .ref a :: rest)) := by
  obtain ⟨h1, f, h2, h3⟩ := hA
  obtain ⟨k, hk⟩ := pl_at (ct := ct) (ad := ad) (cS := cS) (x := x) h1
  rw [h2] at hk
  refine va_iald hexec hb hC.2.1 hC.1.1 k 0 hk rfl (vp_in_nI hj hn) hdg ?_
  rw [nI_clamp (by omega), h3 j hj]
  exact kk
theorem q_z (hC : CX B0 g ct ad cS mS x s H) (hexec : p.tables.exec = Jvm.exec) (hb : c.code = cc) {a n : Nat} {P : Nat → Int32} (hA : AZ_ ct mS a n P) (hdg : decode cc pc = .ok (.baload, 1)) {j : Nat} (hj : j < n) (hn : n < 2 ^ 31)
    (kk : W p l e R s m args below meth c H locs cells slots Q (F0 m (pc + 1) ls (.int (P j) :: rest))) : W p l e R s m args below meth c H locs cells slots Q (F0 m pc ls (.int (nI j) :: .ref a :: rest)) := by
  obtain ⟨h1, f, h2, h3⟩ := hA
  obtain ⟨k, hk⟩ := pl_at (ct := ct) (ad := ad) (cS := cS) (x := x) h1
  rw [h2] at hk
  refine va_zald hexec hb hC.2.1 hC.1.1 k 2 hk rfl (vp_in_nI hj hn) hdg ?_
  rw [nI_clamp (by omega), h3 j hj]
  exact kk
theorem q_o (hC : CX B0 g ct ad cS mS x s H) (hexec : p.tables.exec = Jvm.exec) (hb : c.code = cc) {a n t : Nat} {ty : FieldType} {P : Nat → Option Nat} (hA : AO_ ct t mS a n P) (ht : (ty_ ct)[t]? = some (ct t, ty)) (hty : ty.isReference = true) (hdg : decode cc pc = .ok (.aaload, 1)) {j v : Nat} (hj : j < n) (hn : n < 2 ^ 31) (hv : P j = some v)
    (kk : W p l e R s m args below meth c H locs cells slots Q (F0 m (pc + 1) ls (.ref v :: rest))) : W p l e R s m args below meth c H locs cells slots Q (F0 m pc ls (.int (nI j) :: .ref a :: rest)) := by
  obtain ⟨h1, f, h2, h3⟩ := hA
  obtain ⟨k, hk⟩ := pl_at (ct := ct) (ad := ad) (cS := cS) (x := x) h1
  rw [h2] at hk
  have hc : (nI j).toNatClampNeg = j := nI_clamp (by omega)
  refine W.aald (v := .ref v) (ty := ty) hexec hb (hC.1.1 k _ hk) ((hC.2.1.2 t _ ht).1 n (fun j => va_rf (f j))) hty (fun q => by cases q) (by show ¬ (nI j < 0 ∨ (arrV _ _ _).slots.size ≤ _); rw [arrV_size]; exact vp_in_nI hj hn) (by show (arrV _ _ _).slots[_]? = _; rw [arrV_read _ _ (by rw [hc]; exact hj), hc, h3 j hj, hv]; rfl) rfl rfl hdg kk
theorem q_l {t : Nat} {ty : FieldType} {a n : Nat} {d} (hC : CX B0 g ct ad cS mS x s H) (hexec : p.tables.exec = Jvm.exec) (hb : c.code = cc) (ha : a ∈ mS.1) (hd : mS.2 a = .inl (ct t, n, d)) (ht : (ty_ ct)[t]? = some (ct t, ty)) (hdg : decode cc pc = .ok (.arraylength, 1))
    (kk : W p l e R s m args below meth c H locs cells slots Q (F0 m (pc + 1) ls (.int (nI n) :: rest))) : W p l e R s m args below meth c H locs cells slots Q (F0 m pc ls (.ref a :: rest)) := by
  obtain ⟨k, hk⟩ := pl_at (ct := ct) (ad := ad) (cS := cS) (x := x) ha
  rw [hd] at hk
  exact va_alen hexec hb hC.2.1 hC.1.1 k t hk ht rfl hdg kk
theorem q_il {a n : Nat} {P : Nat → Int32} (hC : CX B0 g ct ad cS mS x s H) (hexec : p.tables.exec = Jvm.exec) (hb : c.code = cc) (hA : AI_ ct mS a n P) (hdg : decode cc pc = .ok (.arraylength, 1))
    (kk : W p l e R s m args below meth c H locs cells slots Q (F0 m (pc + 1) ls (.int (nI n) :: rest))) : W p l e R s m args below meth c H locs cells slots Q (F0 m pc ls (.ref a :: rest)) := by
  obtain ⟨h1, f, h2, h3⟩ := hA
  exact q_l hC hexec hb h1 (t := 0) h2 rfl hdg kk
theorem q_zl {a n : Nat} {P : Nat → Int32} (hC : CX B0 g ct ad cS mS x s H) (hexec : p.tables.exec = Jvm.exec) (hb : c.code = cc) (hA : AZ_ ct mS a n P) (hdg : decode cc pc = .ok (.arraylength, 1))
    (kk : W p l e R s m args below meth c H locs cells slots Q (F0 m (pc + 1) ls (.int (nI n) :: rest))) : W p l e R s m args below meth c H locs cells slots Q (F0 m pc ls (.ref a :: rest)) := by
  obtain ⟨h1, f, h2, h3⟩ := hA
  exact q_l hC hexec hb h1 (t := 2) h2 rfl hdg kk
theorem q_ol {a n t : Nat} {ty : FieldType} {P : Nat → Option Nat} (hC : CX B0 g ct ad cS mS x s H) (hexec : p.tables.exec = Jvm.exec) (hb : c.code = cc) (hA : AO_ ct t mS a n P) (ht : (ty_ ct)[t]? = some (ct t, ty)) (hdg : decode cc pc = .ok (.arraylength, 1))
    (kk : W p l e R s m args below meth c H locs cells slots Q (F0 m (pc + 1) ls (.int (nI n) :: rest))) : W p l e R s m args below meth c H locs cells slots Q (F0 m pc ls (.ref a :: rest)) := by
  obtain ⟨h1, f, h2, h3⟩ := hA
  exact q_l hC hexec hb h1 (t := t) h2 ht hdg kk
/-- writes -/
theorem u_i (hC : CX B0 g ct ad cS mS x s H) (hB : B0 ≤ s.heap.size) (hS : va_S (AA B0) s.heap H locs) (hexec : p.tables.exec = Jvm.exec) (hb : c.code = cc) {a n : Nat} {P : Nat → Int32} (hA : AI_ ct mS a n P) (hdg : decode cc pc = .ok (.iastore, 1)) {j : Nat} {v : Int32} (hj : j < n) (hn : n < 2 ^ 31)
    (kk : ∀ (m1 : Pl_) (H1 : Heap) (locs1 : List Loc), PU_ mS a m1 → AI_ ct m1 a n (upd P j v) → CX B0 g ct ad cS m1 x s H1 → va_S (AA B0) s.heap H1 locs1 → W p l e R s m args below meth c H1 locs1 cells slots Q (F0 m (pc + 1) ls rest)) : W p l e R s m args below meth c H locs cells slots Q (F0 m pc ls (.int v :: .int (nI j) :: .ref a :: rest)) := by
  obtain ⟨h1, f, h2, h3⟩ := hA
  obtain ⟨k, hk⟩ := pl_at (ct := ct) (ad := ad) (cS := cS) (x := x) h1
  have hk2 := hk
  rw [h2] at hk
  refine va_iast hexec hb hC.2.1 hC.1.1 hC.1.2.1 hS k 0 hk rfl (vp_in_nI hj hn) hdg (fun H1 locs1 hP hD hS1 => ?_)
  rw [nI_clamp (by omega)] at hP hD
  obtain ⟨m1, p1, p2, p3, p4⟩ := pl_set hC.1 (Nat.le_trans hB hS1.1) h1 hk2 hP hD
  refine kk m1 H1 locs1 p1 ⟨p2, _, p3, fun i hi => ?_⟩ ⟨p4, hC.2⟩ hS1
  unfold upd
  split
  · rfl
  · exact h3 i hi
theorem u_z (hC : CX B0 g ct ad cS mS x s H) (hB : B0 ≤ s.heap.size) (hS : va_S (AA B0) s.heap H locs) (hexec : p.tables.exec = Jvm.exec) (hb : c.code = cc) {a n : Nat} {P : Nat → Int32} (hA : AZ_ ct mS a n P) (hdg : decode cc pc = .ok (.bastore, 1)) {j : Nat} {v : Int32} (hj : j < n) (hn : n < 2 ^ 31) (hv : vp_nar .boolean v = v)
    (kk : ∀ (m1 : Pl_) (H1 : Heap) (locs1 : List Loc), PU_ mS a m1 → AZ_ ct m1 a n (upd P j v) → CX B0 g ct ad cS m1 x s H1 → va_S (AA B0) s.heap H1 locs1 → W p l e R s m args below meth c H1 locs1 cells slots Q (F0 m (pc + 1) ls rest)) : W p l e R s m args below meth c H locs cells slots Q (F0 m pc ls (.int v :: .int (nI j) :: .ref a :: rest)) := by
  obtain ⟨h1, f, h2, h3⟩ := hA
  obtain ⟨k, hk⟩ := pl_at (ct := ct) (ad := ad) (cS := cS) (x := x) h1
  have hk2 := hk
  rw [h2] at hk
  refine va_zast hexec hb hC.2.1 hC.1.1 hC.1.2.1 hS k 2 hk rfl (vp_in_nI hj hn) hdg (fun H1 locs1 hP hD hS1 => ?_)
  rw [nI_clamp (by omega), hv] at hP hD
  obtain ⟨m1, p1, p2, p3, p4⟩ := pl_set hC.1 (Nat.le_trans hB hS1.1) h1 hk2 hP hD
  refine kk m1 H1 locs1 p1 ⟨p2, _, p3, fun i hi => ?_⟩ ⟨p4, hC.2⟩ hS1
  unfold upd
  split
  · rfl
  · exact h3 i hi
theorem u_o (hC : CX B0 g ct ad cS mS x s H) (hB : B0 ≤ s.heap.size) (hS : va_S (AA B0) s.heap H locs) (hexec : p.tables.exec = Jvm.exec) (hb : c.code = cc) {a n t i nv : Nat} {ty : FieldType} {dv} {P : Nat → Option Nat} (hA : AO_ ct t mS a n P) (hi : (ty_ ct)[i]? = some (ct i, ty)) (ht : (ty_ ct)[t]? = some (ct t, .array ty)) (ho : ∀ C, ty ≠ .object C) (ha : va_AOA ty s) (hdg : decode cc pc = .ok (.aastore, 1)) {j v : Nat} (hj : j < n) (hn : n < 2 ^ 31) (hvm : v ∈ mS.1) (hvd : mS.2 v = .inl (ct i, nv, dv))
    (kk : ∀ (m1 : Pl_) (H1 : Heap) (locs1 : List Loc), PU_ mS a m1 → AO_ ct t m1 a n (va_up P j (some v)) → CX B0 g ct ad cS m1 x s H1 → va_S (AA B0) s.heap H1 locs1 → W p l e R s m args below meth c H1 locs1 cells slots Q (F0 m (pc + 1) ls rest)) : W p l e R s m args below meth c H locs cells slots Q (F0 m pc ls (.ref v :: .int (nI j) :: .ref a :: rest)) := by
  obtain ⟨h1, f, h2, h3⟩ := hA
  obtain ⟨k, hk⟩ := pl_at (ct := ct) (ad := ad) (cS := cS) (x := x) h1
  have hk2 := hk
  rw [h2] at hk
  obtain ⟨kv, hkv⟩ := pl_at (ct := ct) (ad := ad) (cS := cS) (x := x) hvm
  rw [hvd] at hkv
  have hc : (nI j).toNatClampNeg = j := nI_clamp (by omega)
  obtain ⟨kA, kI, k1, k2, k3, -⟩ := ct_1 hC.2 hi ht ho ha
  have hvc : H[v]? = some (vp_cell (ct i) (nv, dv)) := hC.1.1 kv _ hkv
  have hcl : (vp_cell (ct i) (nv, dv)).cls = ct i := by unfold vp_cell; split <;> rfl
  have hvv : (vp_cell (ct i) (nv, dv)).vm = .none := by unfold vp_cell; split <;> rfl
  refine W.aast hexec hb (hC.1.1 k _ hk) (fun q h => by cases h) (fun h => by cases h) k1 k2 rfl k3 ⟨nI_pos (by omega), by show _ < (arrV _ _ _).slots.size; rw [arrV_size, hc]; exact hj⟩ hvc (fun q h => by rw [hvv] at h; cases h) (by rw [hcl]; exact k3) (by rw [hcl]; exact Vm.assignable_self _ _) rfl rfl hdg fun H1 e z oq => ?_
  have hS1 : va_S (AA B0) s.heap H1 (locs ++ [⟨a, (nI j).toNatClampNeg⟩]) := hS.put z oq (hC.1.2.1.2 k _ hk)
  have hP : va_P g vwCl ((wl_ ct ad cS mS x).set k (a, e_o ct t n (va_up f j (some v)))) H1 := hC.1.1.set hC.1.2.1 hk (by
    show H1[a]? = some (vp_cell _ _)
    rw [e, hc]
    rw [vp_cell_q, vp_cell_q, arrV_store]
    congr 2
    funext q
    by_cases hq : q = j
    · subst hq
      simp [updV, va_up, va_rf]
    · simp [updV, va_up, hq]) oq
  have hD : va_D (AA B0) ((wl_ ct ad cS mS x).set k (a, e_o ct t n (va_up f j (some v)))) := hC.1.2.1.set hk
  obtain ⟨m1, p1, p2, p3, p4⟩ := pl_set hC.1 (Nat.le_trans hB hS1.1) h1 hk2 hP hD
  refine kk m1 H1 _ p1 ⟨p2, _, p3, fun q hq => ?_⟩ ⟨p4, hC.2⟩ hS1
  unfold va_up
  split
  · rfl
  · exact h3 q hq
/-- the poem by hand: its fields -/
theorem tx1_own {k : Nat} (hk : k < 3) : (TX1 k).1 = RX1 := by
  rcases (show k = 0 ∨ k = 1 ∨ k = 2 by omega) with rfl | rfl | rfl <;> rfl
theorem q_f (hC : CX B0 g ct ad cS mS x s H) (hexec : p.tables.exec = Jvm.exec) (hb : c.code = cc) (hts : ∀ w ∈ Ts, w.before args s = true) (hin : ∀ w ∈ wsX10, w ∈ Ts) {own : String} (hown : s.vm.findClass own = some m.cls) {index a : Nat} {o : Int32} {lo mo : Option Nat} (hA : OB_ mS a o lo mo) (k : Nat) (hk : k < 3) (hlink : (Cond.fieldLink own index RX1 (TX1 k).2.1 (TX1 k).2.2.1).before args s = true) {v : Value} (hv : (ob_ o lo mo)[k]? = some v) (hdg : decode cc pc = .ok (.getfield index, 3))
    (kk : W p l e R s m args below meth c H locs cells slots Q (F0 m (pc + 3) ls (v :: rest))) : W p l e R s m args below meth c H locs cells slots Q (F0 m pc ls (.ref a :: rest)) := by
  obtain ⟨q, hq⟩ := pl_at (ct := ct) (ad := ad) (cS := cS) (x := x) hA.1
  rw [hA.2] at hq
  exact va_get (D := g) (ci := 1) (C := RX1) (T := TX1) (N := 3) (ref := RX1) (fs := ob_ o lo mo) hexec hb hts hin hown hC.2.1 hC.1.1 q hq rfl k hk hlink (fun y h => by rw [tx1_own hk] at h; exact h) hv hdg kk
theorem u_f (hC : CX B0 g ct ad cS mS x s H) (hB : B0 ≤ s.heap.size) (hS : va_S (AA B0) s.heap H locs) (hexec : p.tables.exec = Jvm.exec) (hb : c.code = cc) (hts : ∀ w ∈ Ts, w.before args s = true) (hin : ∀ w ∈ wsX10, w ∈ Ts) {own : String} (hown : s.vm.findClass own = some m.cls) {index a : Nat} {o o' : Int32} {lo mo lo' mo' : Option Nat} (hA : OB_ mS a o lo mo) (k : Nat) (hk : k < 3) (hlink : (Cond.fieldLink own index RX1 (TX1 k).2.1 (TX1 k).2.2.1).before args s = true) {v : Value} {ty : FieldType} (hd : parseFieldDescriptor (TX1 k).2.2.1 = some ty) (hn : narrow ty v = v) (hfit : fits ty v = true) (hv : (ob_ o lo mo).set k v = ob_ o' lo' mo') (hdg : decode cc pc = .ok (.putfield index, 3))
    (kk : ∀ (m1 : Pl_) (H1 : Heap) (locs1 : List Loc), PU_ mS a m1 → OB_ m1 a o' lo' mo' → CX B0 g ct ad cS m1 x s H1 → va_S (AA B0) s.heap H1 locs1 → W p l e R s m args below meth c H1 locs1 cells slots Q (F0 m (pc + 3) ls rest)) : W p l e R s m args below meth c H locs cells slots Q (F0 m pc ls (v :: .ref a :: rest)) := by
  obtain ⟨q, hq⟩ := pl_at (ct := ct) (ad := ad) (cS := cS) (x := x) hA.1
  have hq2 := hq
  rw [hA.2] at hq
  have hf : (TX1 k).2.2.2 = false := by rcases (show k = 0 ∨ k = 1 ∨ k = 2 by omega) with rfl | rfl | rfl <;> rfl
  refine va_put (D := g) (ci := 1) (C := RX1) (T := TX1) (N := 3) (ref := RX1) (fs := ob_ o lo mo) hexec hb hts hin tyX1 tyX1_ok nmX1 hown hC.2.1 hC.1.1 hC.1.2.1 hS q hq rfl k hk hlink (fun y h => by rw [tx1_own hk] at h; exact h) hf hd hn hfit (by show k < 3; exact hk) hdg (fun H1 locs1 hP hD hS1 => ?_)
  rw [hv] at hP hD
  obtain ⟨m1, p1, p2, p3, p4⟩ := pl_set hC.1 (Nat.le_trans hB hS1.1) hA.1 hq2 hP hD
  exact kk m1 H1 locs1 p1 ⟨p2, p3⟩ ⟨p4, hC.2⟩ hS1
theorem rc1 {a : Nat} {o : Int32} {lo mo : Option Nat} (hC : CX B0 g ct ad cS mS x s H) (hA : OB_ mS a o lo mo) : ∃ cell : Cell, H[a]? = some cell ∧ cell.vm.isStatics = false ∧ s.vm.findClass RX1 = some cell.cls := by
  obtain ⟨q, hq⟩ := pl_at (ct := ct) (ad := ad) (cS := cS) (x := x) hA.1
  rw [hA.2] at hq
  exact va_recv hC.2.1 hC.1.1 (ci := 1) (q0 := q) rfl hq
end RW8
