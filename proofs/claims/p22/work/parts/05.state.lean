/-! ===== the world: the class's cells, and all others in one pool ===== -/
/-- a pool: its addresses, and what each holds -/
abbrev Pl_ : Type := List Nat × (Nat → va_E)
/-- the row worths -/
abbrev Ax_ : Type := Nat → Int32
def xw (x : Ax_) : Nat → Int32 := x
def ax_w (_ : Ax_) (v : Nat → Int32) : Ax_ := v
/-- a mark's bit, as a row of booleans holds it -/
def mb_ (f : Nat → Nat) (j : Nat) : Int32 := if (f (j / 6)).testBit (j % 6) then 1 else 0
def e_o (ct : Nat → Nat) (t n : Nat) (f : Nat → Option Nat) : va_E := .inl (ct t, n, .inr (.inr (.inr (.inr f))))
def e_q (ct : Nat → Nat) (n : Nat) (f : Nat → Nat) : va_E := .inl (ct 1, n, .inr (.inr (.inr (.inr (fun i => some (f i))))))
def e_i (ct : Nat → Nat) (n : Nat) (f : Nat → Int32) : va_E := .inl (ct 0, n, .inl f)
def e_z (ct : Nat → Nat) (n : Nat) (f : Nat → Int32) : va_E := .inl (ct 2, n, .inl f)
def wl_a (ct ad : Nat → Nat) (c : St_) (x : Ax_) : va_W :=
  [(ad 0, .inr (0, [.int (nI (so c)), .int (nI (sn c)), .ref (ad 1), .ref (ad 2), .ref (ad 3), .ref (ad 4), .ref (ad 5), .ref (ad 6)])),
   (ad 1, e_i ct 12 (fun l => nI (ss c l))),
   (ad 2, e_q ct 12 (fun i => ad (12 + i))),
   (ad 3, e_q ct 12 (fun i => ad (24 + i))),
   (ad 4, e_i ct 120 (xw x))]
def gd_ (f : Nat → Nat) (i w : Nat) : Nat := if w < 10 then f (10 * i + w) else 0
theorem gd_t {f : Nat → Nat} {i w : Nat} (h : w < 10) : gd_ f i w = f (10 * i + w) := if_pos h
def wl_w (ct ad : Nat → Nat) (c : St_) : va_W := (List.range 12).map (fun i => (ad (12 + i), e_i ct 10 (fun w => nI (gd_ (sw c) i w))))
def wl_k (ct ad : Nat → Nat) (c : St_) : va_W := (List.range 12).map (fun i => (ad (24 + i), e_i ct 10 (fun w => nI (gd_ (sk c) i w))))
def wl_c (ct ad : Nat → Nat) (c : St_) (x : Ax_) : va_W := wl_a ct ad c x ++ (wl_w ct ad c ++ wl_k ct ad c)
def wl_ (ct ad : Nat → Nat) (c : St_) (m : Pl_) (x : Ax_) : va_W := wl_c ct ad c x ++ va_pl m.1 m.2
theorem wl_len {ct ad : Nat → Nat} {c : St_} {x : Ax_} : (wl_c ct ad c x).length = 29 := by simp [wl_c, wl_a, wl_w, wl_k]
theorem wl_in {ct ad : Nat → Nat} {c : St_} {m : Pl_} {x : Ax_} {k : Nat} {q : Nat × va_E} (h : (wl_c ct ad c x)[k]? = some q) : (wl_ ct ad c m x)[k]? = some q := by
  unfold wl_
  rw [List.getElem?_append_left (List.getElem?_eq_some_iff.mp h).1]
  exact h
theorem wl_0 {ct ad : Nat → Nat} {c : St_} {m : Pl_} {x : Ax_} {k : Nat} (h : k < 5) : (wl_ ct ad c m x)[k]? = (wl_a ct ad c x)[k]? := by
  unfold wl_
  rw [List.getElem?_append_left (by rw [wl_len]; omega)]
  exact List.getElem?_append_left h
theorem wl_1 {ct ad : Nat → Nat} {c : St_} {m : Pl_} {x : Ax_} {i : Nat} (h : i < 12) : (wl_ ct ad c m x)[5 + i]? = some (ad (12 + i), e_i ct 10 (fun w => nI (gd_ (sw c) i w))) := by
  refine wl_in ?_
  unfold wl_c
  rw [List.getElem?_append_right (by show 5 ≤ 5 + i; omega)]
  show (wl_w ct ad c ++ _)[5 + i - 5]? = _
  rw [show 5 + i - 5 = i by omega, List.getElem?_append_left (by simp [wl_w]; omega)]
  simp [wl_w, h]
theorem wl_2 {ct ad : Nat → Nat} {c : St_} {m : Pl_} {x : Ax_} {i : Nat} (h : i < 12) : (wl_ ct ad c m x)[17 + i]? = some (ad (24 + i), e_i ct 10 (fun w => nI (gd_ (sk c) i w))) := by
  refine wl_in ?_
  unfold wl_c
  rw [List.getElem?_append_right (by show 5 ≤ 17 + i; omega)]
  show (wl_w ct ad c ++ _)[17 + i - 5]? = _
  rw [List.getElem?_append_right (by simp [wl_w]; omega), show 17 + i - 5 - (wl_w ct ad c).length = i by simp [wl_w]; omega]
  simp [wl_k, h]
theorem wl_cs {ct ad : Nat → Nat} {c c' : St_} {m : Pl_} {x x' : Ax_} {k : Nat} {q : Nat × va_E} (hk : k < 29) (h : (wl_c ct ad c x).set k q = wl_c ct ad c' x') : (wl_ ct ad c m x).set k q = wl_ ct ad c' m x' := by
  unfold wl_
  rw [List.set_append_left _ _ (by rw [wl_len]; exact hk), h]
theorem mp_set {α : Type} (n l : Nat) (f f' : Nat → α) (h : ∀ i, i < n → i ≠ l → f i = f' i) : ((List.range n).map f).set l (f' l) = (List.range n).map f' := by
  apply List.ext_getElem?
  intro i
  rw [List.getElem?_set]
  by_cases hi : i < n
  · by_cases e : l = i
    · subst e; simp [hi]
    · simp [e, hi, h i hi (Ne.symm e)]
  · have h1 : ((List.range n).map f)[i]? = none := List.getElem?_eq_none (by simp; omega)
    have h2 : ((List.range n).map f')[i]? = none := List.getElem?_eq_none (by simp; omega)
    rw [h1, h2]
    by_cases e : l = i
    · rw [if_pos e, if_neg (by simp; omega)]
    · rw [if_neg e]
theorem wl_s1 {ct ad : Nat → Nat} {c c' : St_} {m : Pl_} {x : Ax_} {l : Nat} (hl : l < 12) (ha : wl_a ct ad c x = wl_a ct ad c' x) (hk : sk c = sk c') (h : ∀ i w, i ≠ l → w < 10 → sw c (10 * i + w) = sw c' (10 * i + w)) {e : va_E} (he : e = e_i ct 10 (fun w => nI (gd_ (sw c') l w))) : (wl_ ct ad c m x).set (5 + l) (ad (12 + l), e) = wl_ ct ad c' m x := by
  subst he
  refine wl_cs (by omega) ?_
  unfold wl_c
  rw [List.set_append_right _ _ (by show 5 ≤ 5 + l; omega), ha]
  show _ ++ (wl_w ct ad c ++ _).set (5 + l - 5) _ = _
  rw [show 5 + l - 5 = l by omega, List.set_append_left _ _ (by simp [wl_w]; omega)]
  have hw : (wl_w ct ad c).set l (ad (12 + l), e_i ct 10 (fun w => nI (gd_ (sw c') l w))) = wl_w ct ad c' := mp_set 12 l _ (fun i => (ad (12 + i), e_i ct 10 (fun w => nI (gd_ (sw c') i w)))) (fun i _ hne => by
    have : (fun w => nI (gd_ (sw c) i w)) = (fun w => nI (gd_ (sw c') i w)) := funext fun w => by
      unfold gd_
      by_cases hw9 : w < 10
      · rw [if_pos hw9, if_pos hw9, h i w hne hw9]
      · rw [if_neg hw9, if_neg hw9]
    simp only [this])
  rw [hw]
  simp only [wl_k, hk]
theorem wl_s2 {ct ad : Nat → Nat} {c c' : St_} {m : Pl_} {x : Ax_} {l : Nat} (hl : l < 12) (ha : wl_a ct ad c x = wl_a ct ad c' x) (hw : sw c = sw c') (h : ∀ i w, i ≠ l → w < 10 → sk c (10 * i + w) = sk c' (10 * i + w)) {e : va_E} (he : e = e_i ct 10 (fun w => nI (gd_ (sk c') l w))) : (wl_ ct ad c m x).set (17 + l) (ad (24 + l), e) = wl_ ct ad c' m x := by
  subst he
  refine wl_cs (by omega) ?_
  unfold wl_c
  rw [List.set_append_right _ _ (by show 5 ≤ 17 + l; omega), ha]
  show _ ++ (wl_w ct ad c ++ _).set (17 + l - 5) _ = _
  rw [List.set_append_right _ _ (by simp [wl_w]; omega), show 17 + l - 5 - (wl_w ct ad c).length = l by simp [wl_w]; omega]
  have hk : (wl_k ct ad c).set l (ad (24 + l), e_i ct 10 (fun w => nI (gd_ (sk c') l w))) = wl_k ct ad c' := mp_set 12 l _ (fun i => (ad (24 + i), e_i ct 10 (fun w => nI (gd_ (sk c') i w)))) (fun i _ hne => by
    have : (fun w => nI (gd_ (sk c) i w)) = (fun w => nI (gd_ (sk c') i w)) := funext fun w => by
      unfold gd_
      by_cases hw9 : w < 10
      · rw [if_pos hw9, if_pos hw9, h i w hne hw9]
      · rw [if_neg hw9, if_neg hw9]
    simp only [this])
  rw [hk]
  simp only [wl_w, hw]
/-- cells of the world lie from B0 on -/
def AA (B0 : Nat) : Nat → Prop := fun q => B0 ≤ q
def ty_ (ct : Nat → Nat) : List (ClassId × FieldType) := [(ct 0, .int), (ct 1, .array .int), (ct 2, .boolean), (ct 3, .array .boolean), (ct 4, .array (.array .boolean))]
/-- the heap's part -/
def CW (B0 : Nat) (g : va_G) (ct ad : Nat → Nat) (c : St_) (m : Pl_) (x : Ax_) (H : Heap) : Prop :=
  va_P g vwCl (wl_ ct ad c m x) H ∧ va_D (AA B0) (wl_ ct ad c m x) ∧ B0 ≤ H.size ∧ Iv_ c
theorem va_AOA.moved {t : FieldType} {u U : State} (hvm : u.vm.Alike U.vm) (h : va_AOA t u) : va_AOA t U := by
  obtain ⟨comp, c, k, h1, h2, h3, h4, h5⟩ := arrayOverA_spec h
  obtain ⟨k', hk', he⟩ := hvm.2.2 _ _ h3
  have hi : (U.vm.classes.findIdx? fun (x : Class) => match x.kind with | .array component _ => component == comp | _ => false) = some c := by
    have b1 := va_idx_bare U.vm comp
    have b2 := va_idx_bare u.vm comp
    rw [hvm.bare_eq] at b1
    exact (b1.symm.trans b2).trans h2
  have hkind : k'.kind = .array comp (.array t) := by rw [he]; exact h4
  have f1 : U.vm.findClass (FieldType.array t).toString = some comp := by rw [hvm.findClass]; exact h1
  have f2 : U.vm.findClass ("[" ++ (FieldType.array t).toString) = some c := by rw [hvm.findClass]; exact h5
  unfold va_AOA Cond.before Cond.holds
  simp only [Cond.value]
  rw [f1, Option.bind_some]
  refine (congrArg (fun o : Option Nat => (o.bind (fun c => (U.vm.classes[c]?).map fun (k : Class) => match k.kind with | .array _ ty => decide (ty = FieldType.array t) && decide (U.vm.findClass ("[" ++ (FieldType.array t).toString) = some c) | _ => false) == some true)) hi).trans ?_
  simp [hk', hkind, f2]
/-- the links between nest mates -/
def CN (s : State) : Prop := va_Nw (.methodLinkNest RX1 21 yL_letters RL) s ∧ va_Nw (.methodLinkNest RX1 31 yL_value RL) s ∧ va_Nw (.methodLinkNest RL 58 yX1_init RL) s ∧ va_Nw (.classLink RX1 15 "[[Z") s
/-- the tables' part -/
def CK (g : va_G) (ct : Nat → Nat) (s : State) : Prop :=
  va_K g vwCl (ty_ ct) s ∧ va_AOA .int s ∧ va_AOA .boolean s ∧ va_AOA (.array .boolean) s ∧ CN s
def CX (B0 : Nat) (g : va_G) (ct ad : Nat → Nat) (c : St_) (m : Pl_) (x : Ax_) (s : State) (H : Heap) : Prop := CW B0 g ct ad c m x H ∧ CK g ct s
theorem CN.warm {s U : State} (hW : s.WarmedH U.vm) (h : CN s) : CN U := ⟨va_Nw.warmM hW h.1, va_Nw.warmM hW h.2.1, va_Nw.warmM hW h.2.2.1, word_at hW (good_of_word (by decide)) h.2.2.2⟩
theorem CN.same {s U : State} (hv : s.vm = U.vm) (h : CN s) : CN U := ⟨va_Nw.same rfl hv h.1, va_Nw.same rfl hv h.2.1, va_Nw.same rfl hv h.2.2.1, va_Nw.same rfl hv h.2.2.2⟩
theorem CK.warm {g : va_G} {ct : Nat → Nat} {s U : State} (hW : s.WarmedH U.vm) (h : CK g ct s) : CK g ct U :=
  ⟨va_K.moved hW.alike h.1, h.2.1.moved hW.alike, h.2.2.1.moved hW.alike, h.2.2.2.1.moved hW.alike, h.2.2.2.2.warm hW⟩
theorem CK.same {g : va_G} {ct : Nat → Nat} {s U : State} (hv : s.vm = U.vm) (h : CK g ct s) : CK g ct U :=
  have hal : s.vm.Alike U.vm := by rw [hv]; exact Vm.Alike.refl _
  ⟨va_K.moved hal h.1, h.2.1.moved hal, h.2.2.1.moved hal, h.2.2.2.1.moved hal, h.2.2.2.2.same hv⟩
theorem CX.warm {B0 : Nat} {g : va_G} {ct ad : Nat → Nat} {c : St_} {m : Pl_} {x : Ax_} {s U : State} {H : Heap} (h : CX B0 g ct ad c m x s H) (hU : U.heap = H) (hW : s.WarmedH U.vm) : CX B0 g ct ad c m x U U.heap := by
  rw [hU]
  exact ⟨h.1, CK.warm hW h.2⟩
theorem CX.blind {B0 : Nat} {g : va_G} {ct ad : Nat → Nat} {c : St_} {m : Pl_} {x : Ax_} {av : List Value} : FrameBlind (va_Pc av (fun U => CX B0 g ct ad c m x U U.heap)) := by
  intro a U f mk h
  obtain ⟨h1, h2, h3⟩ := h
  exact ⟨h1, h2, CK.same (s := U) (U := U.calling f mk a) rfl h3⟩
theorem tr_blind {av : List Value} : FrameBlind (va_Pc av (fun _ => True)) := fun _ _ _ _ h => h
