/-! ===== the world: the poem, the model, the law's row of one long, in one list ===== -/
/-- worths, rows of fewest letters, which are filled, what the model threw, the law's long -/
abbrev Ax_ : Type := (Nat → Int32) × (Nat → Nat → Int32) × (Nat → Int32) × Int32 × (Nat → Int64)
def xw (x : Ax_) : Nat → Int32 := x.1
def xf (x : Ax_) : Nat → Nat → Int32 := x.2.1
def xg (x : Ax_) : Nat → Int32 := x.2.2.1
def xh (x : Ax_) : Int32 := x.2.2.2.1
def xo (x : Ax_) : Nat → Int64 := x.2.2.2.2
def ax_h (x : Ax_) (v : Int32) : Ax_ := (xw x, xf x, xg x, v, xo x)
def ax_o (x : Ax_) (v : Int64) : Ax_ := (xw x, xf x, xg x, xh x, vp_updL (xo x) 0 v)
def ax_w (x : Ax_) (v : Nat → Int32) : Ax_ := (v, xf x, xg x, xh x, xo x)
def ax_f (x : Ax_) (f : Nat → Nat → Int32) : Ax_ := (xw x, f, xg x, xh x, xo x)
def ax_g (x : Ax_) (f : Nat → Int32) : Ax_ := (xw x, xf x, f, xh x, xo x)
/-- a filled row holds the fewest letters -/
def FI_ (x : Ax_) : Prop := ∀ o, o < 3 → ¬ xg x o = 0 → ∀ y, y ≤ 3000 → xf x o y = en_ (fe_ o y)
/-- a mark's bit, as the model holds it -/
def mb_ (f : Nat → Nat) (j : Nat) : Int32 := if (f (j / 6)).testBit (j % 6) then 1 else 0
def e_q (ct : Nat → Nat) (n : Nat) (f : Nat → Nat) : va_E := .inl (ct 1, n, .inr (.inr (.inr (.inr (fun i => some (f i))))))
def e_i (ct : Nat → Nat) (n : Nat) (f : Nat → Int32) : va_E := .inl (ct 0, n, .inl f)
def e_z (ct : Nat → Nat) (n : Nat) (f : Nat → Int32) : va_E := .inl (ct 2, n, .inl f)
def wl_a (ct ad : Nat → Nat) (c m : St_) (x : Ax_) : va_W :=
  [(ad 0, .inr (0, [.int (nI (so c)), .int (nI (sn c)), .ref (ad 1), .ref (ad 2), .ref (ad 3), .ref (ad 4), .ref (ad 5), .ref (ad 6)])),
   (ad 1, e_i ct 12 (fun l => nI (ss c l))),
   (ad 2, e_q ct 12 (fun i => ad (12 + i))),
   (ad 3, e_q ct 12 (fun i => ad (24 + i))),
   (ad 4, e_i ct 120 (xw x)),
   (ad 5, e_q ct 3 (fun i => ad (36 + i))),
   (ad 6, e_z ct 3 (xg x)),
   (ad 7, .inr (1, [.int (xh x), .int (nI (so m)), .int (nI (sn m)), .ref (ad 8), .ref (ad 9), .ref (ad 10)])),
   (ad 8, e_i ct 12 (fun l => nI (ss m l))),
   (ad 9, e_i ct 120 (fun i => nI (sw m i))),
   (ad 10, e_z ct 720 (mb_ (sk m))),
   (ad 11, .inl (ct 3, 1, .inr (.inl (xo x))))]
def gd_ (f : Nat → Nat) (i w : Nat) : Nat := if w < 10 then f (10 * i + w) else 0
theorem gd_t {f : Nat → Nat} {i w : Nat} (h : w < 10) : gd_ f i w = f (10 * i + w) := if_pos h
def wl_w (ct ad : Nat → Nat) (c : St_) : va_W := (List.range 12).map (fun i => (ad (12 + i), e_i ct 10 (fun w => nI (gd_ (sw c) i w))))
def wl_k (ct ad : Nat → Nat) (c : St_) : va_W := (List.range 12).map (fun i => (ad (24 + i), e_i ct 10 (fun w => nI (gd_ (sk c) i w))))
def wl_f (ct ad : Nat → Nat) (x : Ax_) : va_W := (List.range 3).map (fun i => (ad (36 + i), e_i ct 3001 (xf x i)))
def wl_ (ct ad : Nat → Nat) (c m : St_) (x : Ax_) : va_W := wl_a ct ad c m x ++ (wl_w ct ad c ++ (wl_k ct ad c ++ wl_f ct ad x))
theorem wl_0 {ct ad : Nat → Nat} {c m : St_} {x : Ax_} {k : Nat} (h : k < 12) : (wl_ ct ad c m x)[k]? = (wl_a ct ad c m x)[k]? := List.getElem?_append_left h
theorem wl_1 {ct ad : Nat → Nat} {c m : St_} {x : Ax_} {i : Nat} (h : i < 12) : (wl_ ct ad c m x)[12 + i]? = some (ad (12 + i), e_i ct 10 (fun w => nI (gd_ (sw c) i w))) := by
  unfold wl_
  rw [List.getElem?_append_right (by show 12 ≤ 12 + i; omega)]
  show (wl_w ct ad c ++ _)[12 + i - 12]? = _
  rw [show 12 + i - 12 = i by omega, List.getElem?_append_left (by simp [wl_w]; omega)]
  simp [wl_w, h]
theorem wl_2 {ct ad : Nat → Nat} {c m : St_} {x : Ax_} {i : Nat} (h : i < 12) : (wl_ ct ad c m x)[24 + i]? = some (ad (24 + i), e_i ct 10 (fun w => nI (gd_ (sk c) i w))) := by
  unfold wl_
  rw [List.getElem?_append_right (by show 12 ≤ 24 + i; omega)]
  show (wl_w ct ad c ++ _)[24 + i - 12]? = _
  rw [List.getElem?_append_right (by simp [wl_w]; omega), show 24 + i - 12 - (wl_w ct ad c).length = i by simp [wl_w]; omega, List.getElem?_append_left (by simp [wl_k]; omega)]
  simp [wl_k, h]
theorem wl_3 {ct ad : Nat → Nat} {c m : St_} {x : Ax_} {i : Nat} (h : i < 3) : (wl_ ct ad c m x)[36 + i]? = some (ad (36 + i), e_i ct 3001 (xf x i)) := by
  unfold wl_
  rw [List.getElem?_append_right (by show 12 ≤ 36 + i; omega)]
  show (wl_w ct ad c ++ _)[36 + i - 12]? = _
  rw [List.getElem?_append_right (by simp [wl_w]; omega), show 36 + i - 12 - (wl_w ct ad c).length = 12 + i by simp [wl_w]; omega, List.getElem?_append_right (by simp [wl_k]), show 12 + i - (wl_k ct ad c).length = i by simp [wl_k]]
  simp [wl_f, h]
theorem mp_set {α : Type} (n l : Nat) (f f' : Nat → α) (h : ∀ i, i < n → i ≠ l → f i = f' i) : ((List.range n).map f).set l (f' l) = (List.range n).map f' := by
  apply List.ext_getElem?
  intro i
  rw [List.getElem?_set]
  by_cases hi : i < n
  · by_cases e : l = i
    · subst e; simp [hi]
    · simp [e, hi, h i hi (Ne.symm e)]
  · have h1 : ((List.range n).map f)[i]? = none := List.getElem?_eq_none (by simp; omega)
    have h2 : ((List.range n).map f')[i]? = none := List.getElem?_eq_none (by simp; omega)
    rw [h1, h2]
    by_cases e : l = i
    · rw [if_pos e, if_neg (by simp; omega)]
    · rw [if_neg e]
theorem wl_s1 {ct ad : Nat → Nat} {c c' m : St_} {x : Ax_} {l : Nat} (hl : l < 12) (ha : wl_a ct ad c m x = wl_a ct ad c' m x) (hk : sk c = sk c') (h : ∀ i w, i ≠ l → w < 10 → sw c (10 * i + w) = sw c' (10 * i + w)) {e : va_E} (he : e = e_i ct 10 (fun w => nI (gd_ (sw c') l w))) : (wl_ ct ad c m x).set (12 + l) (ad (12 + l), e) = wl_ ct ad c' m x := by
  subst he
  unfold wl_
  rw [List.set_append_right _ _ (by show 12 ≤ 12 + l; omega), ha]
  show _ ++ (wl_w ct ad c ++ _).set (12 + l - 12) _ = _
  rw [show 12 + l - 12 = l by omega, List.set_append_left _ _ (by simp [wl_w]; omega)]
  have hw : (wl_w ct ad c).set l (ad (12 + l), e_i ct 10 (fun w => nI (gd_ (sw c') l w))) = wl_w ct ad c' := mp_set 12 l _ (fun i => (ad (12 + i), e_i ct 10 (fun w => nI (gd_ (sw c') i w)))) (fun i _ hne => by
    have : (fun w => nI (gd_ (sw c) i w)) = (fun w => nI (gd_ (sw c') i w)) := funext fun w => by
      unfold gd_
      by_cases hw9 : w < 10
      · rw [if_pos hw9, if_pos hw9, h i w hne hw9]
      · rw [if_neg hw9, if_neg hw9]
    simp only [this])
  rw [hw]
  simp only [wl_k, hk]
theorem wl_s2 {ct ad : Nat → Nat} {c c' m : St_} {x : Ax_} {l : Nat} (hl : l < 12) (ha : wl_a ct ad c m x = wl_a ct ad c' m x) (hw : sw c = sw c') (h : ∀ i w, i ≠ l → w < 10 → sk c (10 * i + w) = sk c' (10 * i + w)) {e : va_E} (he : e = e_i ct 10 (fun w => nI (gd_ (sk c') l w))) : (wl_ ct ad c m x).set (24 + l) (ad (24 + l), e) = wl_ ct ad c' m x := by
  subst he
  unfold wl_
  rw [List.set_append_right _ _ (by show 12 ≤ 24 + l; omega), ha]
  show _ ++ (wl_w ct ad c ++ _).set (24 + l - 12) _ = _
  rw [List.set_append_right _ _ (by simp [wl_w]; omega), show 24 + l - 12 - (wl_w ct ad c).length = l by simp [wl_w]; omega, List.set_append_left _ _ (by simp [wl_k]; omega)]
  have hk : (wl_k ct ad c).set l (ad (24 + l), e_i ct 10 (fun w => nI (gd_ (sk c') l w))) = wl_k ct ad c' := mp_set 12 l _ (fun i => (ad (24 + i), e_i ct 10 (fun w => nI (gd_ (sk c') i w)))) (fun i _ hne => by
    have : (fun w => nI (gd_ (sk c) i w)) = (fun w => nI (gd_ (sk c') i w)) := funext fun w => by
      unfold gd_
      by_cases hw9 : w < 10
      · rw [if_pos hw9, if_pos hw9, h i w hne hw9]
      · rw [if_neg hw9, if_neg hw9]
    simp only [this])
  rw [hk]
  simp only [wl_w, hw]
theorem wl_s3 {ct ad : Nat → Nat} {c m : St_} {x : Ax_} {o : Nat} (ho : o < 3) {f : Nat → Int32} {e : va_E} (he : e = e_i ct 3001 f) : (wl_ ct ad c m x).set (36 + o) (ad (36 + o), e) = wl_ ct ad c m (ax_f x (fun i => if i = o then f else xf x i)) := by
  subst he
  unfold wl_
  rw [List.set_append_right _ _ (by show 12 ≤ 36 + o; omega)]
  show wl_a ct ad c m x ++ (wl_w ct ad c ++ _).set (36 + o - 12) _ = _
  rw [List.set_append_right _ _ (by simp [wl_w]; omega), show 36 + o - 12 - (wl_w ct ad c).length = 12 + o by simp [wl_w]; omega, List.set_append_right _ _ (by simp [wl_k]), show 12 + o - (wl_k ct ad c).length = o by simp [wl_k]]
  have hf : (wl_f ct ad x).set o (ad (36 + o), e_i ct 3001 f) = wl_f ct ad (ax_f x (fun i => if i = o then f else xf x i)) := by
    have := mp_set 3 o (fun i => (ad (36 + i), e_i ct 3001 (xf x i))) (fun i => (ad (36 + i), e_i ct 3001 (if i = o then f else xf x i))) (fun i _ hne => by simp only [if_neg hne])
    simp only [if_true] at this
    exact this
  rw [hf]
  rfl
/-- cells of the world lie from B0 on -/
def AA (B0 : Nat) : Nat → Prop := fun q => B0 ≤ q
def ty_ (ct : Nat → Nat) : List (ClassId × FieldType) := [(ct 0, .int), (ct 1, .array .int), (ct 2, .boolean), (ct 3, .long)]
/-- the heap's part -/
def CW (B0 : Nat) (g : va_G) (ct ad : Nat → Nat) (c m : St_) (x : Ax_) (H : Heap) : Prop :=
  va_P g vwCl (wl_ ct ad c m x) H ∧ va_D (AA B0) (wl_ ct ad c m x) ∧ B0 ≤ H.size ∧ Iv_ c ∧ Iv_ m ∧ FI_ x
def KS (s : State) : Prop := ∀ q ∈ ([(40, "no such order"), (45, "no such letter"), (64, "the poem is full"), (70, "the line is full"), (72, "the line has no word"), (81, "no such place"), (133, "no such line"), (135, "no such word"), (137, "nothing such is told"), (145, "no word"), (148, "no year that can be spelled")] : List (Nat × String)), ∃ a, vk_R RX0 q.1 q.2 a s
abbrev EI_ : String := "java/lang/IndexOutOfBoundsException"
abbrev ES_ : String := "java/lang/IllegalStateException"
abbrev EA_ : String := "java/lang/IllegalArgumentException"
/-- what the tables say of the exceptions beside good words -/
def KX (s : State) : Prop := (∀ E ∈ [EI_, ES_, EA_], va_Nw (.castable E E) s) ∧ (∀ C ∈ ["java/lang/RuntimeException", "java/lang/Exception", "java/lang/Throwable"], va_Nw (.declares (Bundle.initS C)) s) ∧ ∀ E ∈ [EI_, ES_, EA_], ∀ F ∈ [EI_, ES_, EA_], E ≠ F → va_Nc E F s
theorem KX.warm {s U : State} (hW : s.WarmedH U.vm) (h : KX s) : KX U := ⟨fun E hE => va_Nw.warmC hW (h.1 E hE), fun C hC => va_Nw.warmD hW (h.2.1 C hC), fun E hE F hF ne => va_Nc.moved hW.alike (h.2.2 E hE F hF ne)⟩
theorem KX.same {u U : State} (hv : u.vm = U.vm) (h : KX u) : KX U := ⟨fun E hE => va_Nw.same rfl hv (h.1 E hE), fun C hC => va_Nw.same rfl hv (h.2.1 C hC), fun E hE F hF ne => va_Nc.moved (by rw [hv]; exact Vm.Alike.refl _) (h.2.2 E hE F hF ne)⟩
/-- the tables' part -/
def CK (B0 : Nat) (g : va_G) (ct : Nat → Nat) (s : State) (H : Heap) : Prop :=
  va_K g vwCl (ty_ ct) s ∧ vx_Zq Bundle.tN "UNASSIGNED_STACK" Bundle.steD (AA B0) s H ∧ vx_Zq Bundle.tN "SUPPRESSED_SENTINEL" Bundle.listD (AA B0) s H ∧ KS s ∧ KX s
def CX (B0 : Nat) (g : va_G) (ct ad : Nat → Nat) (c m : St_) (x : Ax_) (s : State) (H : Heap) : Prop := CW B0 g ct ad c m x H ∧ CK B0 g ct s H
theorem CK.warm {B0 : Nat} {g : va_G} {ct : Nat → Nat} {s U : State} {H : Heap} (hW : s.WarmedH U.vm) (h : CK B0 g ct s H) : CK B0 g ct U H :=
  ⟨va_K.moved hW.alike h.1, vx_Zq.moved hW.alike h.2.1, vx_Zq.moved hW.alike h.2.2.1, fun q hq => by
    obtain ⟨a, ha⟩ := h.2.2.2.1 q hq
    exact ⟨a, vk_R.warm hW ha⟩, h.2.2.2.2.warm hW⟩
theorem CK.kept {B0 : Nat} {g : va_G} {ct : Nat → Nat} {s : State} {H H1 : Heap} (hq : ∀ a : Nat, a < H.size → ¬ AA B0 a → H1[a]? = H[a]?) (h : CK B0 g ct s H) : CK B0 g ct s H1 :=
  ⟨h.1, vx_Zq.kept h.2.1 hq, vx_Zq.kept h.2.2.1 hq, h.2.2.2⟩
theorem CX.warm {B0 : Nat} {g : va_G} {ct ad : Nat → Nat} {c m : St_} {x : Ax_} {s U : State} {H : Heap} (h : CX B0 g ct ad c m x s H) (hU : U.heap = H) (hW : s.WarmedH U.vm) : CX B0 g ct ad c m x U U.heap := by
  rw [hU]
  exact ⟨h.1, CK.warm hW h.2⟩
theorem KS.same {u U : State} (hv : U.vm = u.vm) (h : KS u) : KS U := fun q hq => by
  obtain ⟨a, ha⟩ := h q hq
  exact ⟨a, vk_R.same hv ha⟩
theorem CX.blind {B0 : Nat} {g : va_G} {ct ad : Nat → Nat} {c m : St_} {x : Ax_} {av : List Value} : FrameBlind (va_Pc av (fun U => CX B0 g ct ad c m x U U.heap)) := by
  intro a U f mk h
  obtain ⟨h1, h2, h3, h4, h5, h6, h7⟩ := h
  exact ⟨h1, h2, va_K.moved (u := U) (U := U.calling f mk a) (Vm.Alike.refl U.vm) h3, vx_Zq.moved (u := U) (U := U.calling f mk a) (Vm.Alike.refl U.vm) h4, vx_Zq.moved (u := U) (U := U.calling f mk a) (Vm.Alike.refl U.vm) h5, KS.same (u := U) (U := U.calling f mk a) rfl h6, KX.same (u := U) (U := U.calling f mk a) rfl h7⟩
theorem tr_blind {av : List Value} : FrameBlind (va_Pc av (fun _ => True)) := fun _ _ _ _ h => h
