section
-- ===== PART A: goes FIRST, ahead of the names: the tables' words, and 'selects' of the private methods out of them =====
/-- a private method of a class that the tables say can be made, by its rows of tables_1 -/
def lw_okq (q : MethodName × Nat) : Prop := (q.1.cls ≠ "java/lang/invoke/MethodHandle" ∧ q.1.cls ≠ "java/lang/invoke/VarHandle") ∧ Cond.instantiable q.1.cls q.2 ∈ tables_1 ∧ Cond.privateMethod q.1 ∈ tables_1 ∧ Cond.instanceMethod q.1 ∈ tables_1
theorem lw_p0 : lw_okq (⟨"java/lang/Throwable", "fillInStackTrace", "(I)Ljava/lang/Throwable;"⟩, 6) := ⟨⟨by decide +kernel, by decide +kernel⟩, List.mem_of_getElem? (i := 91) (by decide +kernel), List.mem_of_getElem? (i := 89) (by decide +kernel), List.mem_of_getElem? (i := 90) (by decide +kernel)⟩
theorem lw_p1 : lw_okq (⟨"AbjadPoems", "worthOfLetter", "(I)I"⟩, 8) := ⟨⟨by decide +kernel, by decide +kernel⟩, List.mem_of_getElem? (i := 12) (by decide +kernel), List.mem_of_getElem? (i := 121) (by decide +kernel), List.mem_of_getElem? (i := 122) (by decide +kernel)⟩
theorem lw_p2 : lw_okq (⟨"AbjadPoems", "worthOfPlaces", "(II)I"⟩, 8) := ⟨⟨by decide +kernel, by decide +kernel⟩, List.mem_of_getElem? (i := 12) (by decide +kernel), List.mem_of_getElem? (i := 152) (by decide +kernel), List.mem_of_getElem? (i := 153) (by decide +kernel)⟩
theorem lw_p3 : lw_okq (⟨"AbjadPoems", "checkWordOfLine", "(II)V"⟩, 8) := ⟨⟨by decide +kernel, by decide +kernel⟩, List.mem_of_getElem? (i := 12) (by decide +kernel), List.mem_of_getElem? (i := 166) (by decide +kernel), List.mem_of_getElem? (i := 167) (by decide +kernel)⟩
theorem lw_p4 : lw_okq (⟨"AbjadPoems", "checkLine", "(I)V"⟩, 8) := ⟨⟨by decide +kernel, by decide +kernel⟩, List.mem_of_getElem? (i := 12) (by decide +kernel), List.mem_of_getElem? (i := 170) (by decide +kernel), List.mem_of_getElem? (i := 171) (by decide +kernel)⟩
theorem lw_p5 : lw_okq (⟨"AbjadPoems", "figureOfWord", "(III)I"⟩, 8) := ⟨⟨by decide +kernel, by decide +kernel⟩, List.mem_of_getElem? (i := 12) (by decide +kernel), List.mem_of_getElem? (i := 180) (by decide +kernel), List.mem_of_getElem? (i := 181) (by decide +kernel)⟩
theorem lw_p6 : lw_okq (⟨"AbjadPoems", "figureOfLine", "(II)I"⟩, 8) := ⟨⟨by decide +kernel, by decide +kernel⟩, List.mem_of_getElem? (i := 12) (by decide +kernel), List.mem_of_getElem? (i := 194) (by decide +kernel), List.mem_of_getElem? (i := 195) (by decide +kernel)⟩
theorem lw_p7 : lw_okq (⟨"AbjadPoems", "pairsOfSameWorth", "()I"⟩, 8) := ⟨⟨by decide +kernel, by decide +kernel⟩, List.mem_of_getElem? (i := 12) (by decide +kernel), List.mem_of_getElem? (i := 202) (by decide +kernel), List.mem_of_getElem? (i := 203) (by decide +kernel)⟩
theorem lw_p8 : lw_okq (⟨"AbjadPoems", "timesAmongWorths", "(II)I"⟩, 8) := ⟨⟨by decide +kernel, by decide +kernel⟩, List.mem_of_getElem? (i := 12) (by decide +kernel), List.mem_of_getElem? (i := 206) (by decide +kernel), List.mem_of_getElem? (i := 207) (by decide +kernel)⟩
theorem lw_p9 : lw_okq (⟨"AbjadPoems", "sumOverLines", "(I)I"⟩, 8) := ⟨⟨by decide +kernel, by decide +kernel⟩, List.mem_of_getElem? (i := 12) (by decide +kernel), List.mem_of_getElem? (i := 210) (by decide +kernel), List.mem_of_getElem? (i := 211) (by decide +kernel)⟩
theorem lw_p10 : lw_okq (⟨"AbjadPoems", "lastOfRun", "(III)I"⟩, 8) := ⟨⟨by decide +kernel, by decide +kernel⟩, List.mem_of_getElem? (i := 12) (by decide +kernel), List.mem_of_getElem? (i := 218) (by decide +kernel), List.mem_of_getElem? (i := 219) (by decide +kernel)⟩
def lw_privs_1 : List (MethodName × Nat) := [(⟨"java/lang/Throwable", "fillInStackTrace", "(I)Ljava/lang/Throwable;"⟩, 6), (⟨"AbjadPoems", "worthOfLetter", "(I)I"⟩, 8), (⟨"AbjadPoems", "worthOfPlaces", "(II)I"⟩, 8), (⟨"AbjadPoems", "checkWordOfLine", "(II)V"⟩, 8), (⟨"AbjadPoems", "checkLine", "(I)V"⟩, 8), (⟨"AbjadPoems", "figureOfWord", "(III)I"⟩, 8), (⟨"AbjadPoems", "figureOfLine", "(II)I"⟩, 8), (⟨"AbjadPoems", "pairsOfSameWorth", "()I"⟩, 8), (⟨"AbjadPoems", "timesAmongWorths", "(II)I"⟩, 8), (⟨"AbjadPoems", "sumOverLines", "(I)I"⟩, 8), (⟨"AbjadPoems", "lastOfRun", "(III)I"⟩, 8)]
theorem lw_r1 : ∀ q ∈ lw_privs_1, lw_okq q := List.forall_mem_cons.mpr ⟨lw_p0, List.forall_mem_cons.mpr ⟨lw_p1, List.forall_mem_cons.mpr ⟨lw_p2, List.forall_mem_cons.mpr ⟨lw_p3, List.forall_mem_cons.mpr ⟨lw_p4, List.forall_mem_cons.mpr ⟨lw_p5, List.forall_mem_cons.mpr ⟨lw_p6, List.forall_mem_cons.mpr ⟨lw_p7, List.forall_mem_cons.mpr ⟨lw_p8, List.forall_mem_cons.mpr ⟨lw_p9, List.forall_mem_cons.mpr ⟨lw_p10, fun _ h => absurd h List.not_mem_nil⟩⟩⟩⟩⟩⟩⟩⟩⟩⟩⟩
def lw_privs : List (MethodName × Nat) := lw_privs_1
def lw_tbl : List Cond := k2_sels lw_privs ++ tables_1
theorem lw_privs_ok : ∀ q ∈ lw_privs, lw_okq q := lw_r1
/-- the streams that the claim lets the run draw from -/
abbrev lw_cs : List Choice := [Jvm.Choice.named "NaN.bits"]
theorem lw_bits : nanBits ∈ lw_cs := by first | decide | exact List.mem_cons_self | simp [lw_cs, nanBits]
-- ===== end of PART A; then your names; then what follows =====
/-! ===== BEGIN words of one list among another's, by their places ===== -/
theorem goodIn_r {big : List Cond} (ws : List Cond) (ps : List Nat) (hp : ws = ps.filterMap (fun i => big[i]?)) (h : ws.all goodWord = true) : GoodIn big ws := by
  intro w hw
  have h1 := List.all_eq_true.mp h w hw
  rw [hp] at hw
  obtain ⟨i, -, hi⟩ := List.mem_filterMap.mp hw
  have hm : w ∈ big := by first | exact List.mem_of_getElem? hi | exact List.getElem?_mem hi
  exact ⟨hm, good_of_word h1⟩
theorem goodIn_app {big a b : List Cond} (ha : GoodIn big a) (hb : GoodIn big b) : GoodIn big (a ++ b) := fun w h => (List.mem_append.mp h).elim (ha w) (hb w)
theorem goodIn_ca {big a b : List Cond} {c : Cond} (ha : GoodIn big (c :: a)) (hb : GoodIn big b) : GoodIn big (c :: (a ++ b)) := fun w h => (List.mem_cons.mp h).elim (fun e => ha w (List.mem_cons.mpr (Or.inl e))) (fun h => (List.mem_append.mp h).elim (fun h => ha w (List.mem_cons.mpr (Or.inr h))) (hb w))
theorem goodIn_sub {big ws : List Cond} (hm : ∀ w ∈ ws, w ∈ big) (h : ws.all goodWord = true) : GoodIn big ws := fun w hw => ⟨hm w hw, good_of_word (List.all_eq_true.mp h w hw)⟩
/-! ===== END ===== -/

/-- wanted by va_mna below: what the tables say of an array over arrays -/
def va_AOA (t : FieldType) (U : State) : Prop := (Cond.arrayOver (.array t)).before #[] U = true
theorem va_AOA.of {t : FieldType} {A : Array Value} {U : State} (h : (Cond.arrayOver (.array t)).before A U = true) : va_AOA t U := h
theorem va_AOA.use {t : FieldType} {A : Array Value} {U : State} (h : va_AOA t U) : (Cond.arrayOver (.array t)).before A U = true := h
/-! ===== BEGIN new T[n][m]: the outer array a place, the inner ones among the pooled ===== -/
/-- f, but v at every address of l -/
def vr_up {α : Type} (f : Nat → α) (l : List Nat) (v : α) : Nat → α := fun a => if a ∈ l then v else f a
theorem vr_up_in {α : Type} {f : Nat → α} {l : List Nat} {v : α} {a : Nat} (h : a ∈ l) : vr_up f l v a = v := if_pos h
theorem vr_up_ne {α : Type} {f : Nat → α} {l : List Nat} {v : α} {a : Nat} (h : a ∉ l) : vr_up f l v a = f a := if_neg h
theorem vr_rows {L l : List Nat} {f : Nat → va_E} {e : va_E} (h : ∀ a, a ∈ l → a ∉ L) : va_pl L f ++ l.map (fun a => (a, e)) = va_pl (L ++ l) (vr_up f l e) := by
  unfold va_pl
  rw [List.map_append]
  congr 1
  · apply List.map_congr_left
    intro a ha
    rw [vr_up_ne (fun q => h a q ha)]
  · apply List.map_congr_left
    intro a ha
    rw [vr_up_in ha]
theorem vr_lay {X rows : va_W} {x : Nat × va_E} {pl : va_W} {D : va_G} {cl : List vw_C} {H : Heap} (hP : va_P D cl (((X ++ pl) ++ [x]) ++ rows) H) : va_P D cl ((X ++ [x]) ++ (pl ++ rows)) H := by
  rw [List.append_assoc (X ++ pl)] at hP
  have h := va_P.swap hP
  rw [← List.append_assoc X] at h
  have h2 := va_P.swap h
  rw [List.append_assoc (X ++ [x])] at h2
  exact h2
theorem vr_layD {X rows : va_W} {x : Nat × va_E} {pl : va_W} {A : Nat → Prop} (hD : va_D A (((X ++ pl) ++ [x]) ++ rows)) : va_D A ((X ++ [x]) ++ (pl ++ rows)) := by
  rw [List.append_assoc (X ++ pl)] at hD
  have h := va_D.swap hD
  rw [← List.append_assoc X] at h
  have h2 := va_D.swap h
  rw [List.append_assoc (X ++ [x])] at h2
  exact h2
theorem vr_outer (c : ClassId) (N h0 : Nat) : ∀ i : Nat, Jvm.Free.Multi.outerC c N h0 i = arrV c N (fun j => va_rf (if j < i then some (h0 + 1 + j) else none))
  | 0 => by
    show ({ cls := c, slots := Array.replicate N .null, vm := .none } : Cell) = _
    rw [arrV_new]
    refine congrArg (arrV c N) (funext fun j => ?_)
    simp [va_rf]
  | i + 1 => by
    show (Jvm.Free.Multi.outerC c N h0 i).setSlot i (.ref (h0 + 1 + i)) = _
    rw [vr_outer c N h0 i, arrV_store]
    refine congrArg (arrV c N) (funext fun j => ?_)
    by_cases e : j = i
    · subst e
      simp [updV, va_rf]
    · by_cases h : j < i
      · simp [updV, e, h, Nat.lt_succ_of_lt h]
      · simp [updV, e, h, show ¬ j < i + 1 by omega]
section VGM
variable {p : Program} {l : Launch} {e : Env} {R : Room} {s : State} {m : MethodId} {args : Array Value} {below : List Frame} {meth : Method} {c : Code} {H : Heap} {locs : List Loc} {cells slots : Nat} {Q : State → Prop}
variable {cc : ByteArray} {pc : Nat} {ls : Array Slot} {rest : List Value} {D : va_G} {cl : List vw_C} {A : Nat → Prop} {a : Nat} {tys : List (ClassId × FieldType)} {ws : va_W} {H0 : Heap}
theorem va_mna {X : va_W} {L : List Nat} {f : Nat → va_E} {cc : ByteArray} (hexec : p.tables.exec = Jvm.exec) (hb : c.code = cc) {own : String} {index : Nat} {ty : FieldType} {cy : ClassId} (hown : s.vm.findClass own = some m.cls) (hclink : (Cond.classLink own index ("[" ++ (FieldType.array ty).toString)).before args s = true) (hover : va_AOA ty s) (harr : (Cond.arrayClass ty).before args s = true) (hcy : s.vm.findClass (FieldType.array ty).toString = some cy)
    (hK : va_K D cl tys s) (hP : va_P D cl (X ++ va_pl L f) H) (hD : va_D A (X ++ va_pl L f)) (hS : va_S A H0 H locs) (hA : ∀ q, H0.size ≤ q → A q) {n k : Int32} {N' K' : Nat} {z : vp_A} (hn : ¬ n < 0) (hk : ¬ k < 0) (hN : n.toNatClampNeg = N') (hM : k.toNatClampNeg = K')
    (hb1 : N' * 4 ≤ 536870912) (hb2 : K' * componentBytes ty ≤ 536870912) (hb3 : K' ≤ 536870912) (hdf : fits ty (defaultValue ty) = true) (hdd : (defaultValue ty).isDefault = true) (hcells : cells + (1 + N') ≤ R.cells) (hslots : slots + (N' + N' * K') ≤ R.slots) (hz : ∀ c : ClassId, Jvm.Free.Multi.innerC c K' (defaultValue ty) = vp_cell c z) (hdg : decode cc pc = .ok (.multianewarray index 2, 4))
    (kk : ∀ (q : Nat) (r : Nat → Nat) (cA : ClassId) (H1 : Heap), (∀ i j : Nat, i < N' → j < N' → r i = r j → i = j) → (∀ i : Nat, i < N' → r i ∉ L) → va_K D cl (tys ++ [(cA, .array ty)]) s →
      va_P D cl ((X ++ [(q, .inl (cA, N', .inr (.inr (.inr (.inr (fun i => if i < N' then some (r i) else none))))))]) ++ va_pl (L ++ (List.range N').map r) (vr_up f ((List.range N').map r) (.inl (cy, z)))) H1 → va_D A ((X ++ [(q, .inl (cA, N', .inr (.inr (.inr (.inr (fun i => if i < N' then some (r i) else none))))))]) ++ va_pl (L ++ (List.range N').map r) (vr_up f ((List.range N').map r) (.inl (cy, z)))) → va_S A H0 H1 locs →
      W p l e R s m args below meth c H1 locs (cells + 1 + N') (slots + N' + N' * K') Q (F0 m (pc + 4) ls (.ref q :: rest))) : W p l e R s m args below meth c H locs cells slots Q (F0 m pc ls (.int k :: .int n :: rest)) := by
  subst hN
  subst hM
  intro T hT Xs
  obtain ⟨vm₁, cA, comp, -, fA, fC, hO, -, X', step⟩ := Xs.multianewarray2F hexec hown hclink (va_AOA.use hover) harr (g := F0 m pc ls (.int k :: .int n :: rest)) rfl (by rw [hb]; exact hdg) rfl hn hk hb1 hb2 hb3 hdf hdd hcells hslots
  have ec : some cy = some comp := hcy.symm.trans fC
  cases ec
  generalize hF : Jvm.Free.Multi.fill (T.setVm vm₁) cA cy n.toNatClampNeg k.toNatClampNeg (defaultValue ty) n.toNatClampNeg = F at X' step
  have hTh : (T.setVm vm₁).heap = H := hT
  obtain ⟨f1, f2, -, -⟩ := Jvm.Free.Multi.fill_facts (T.setVm vm₁) cA cy n.toNatClampNeg k.toNatClampNeg (defaultValue ty) n.toNatClampNeg
  rw [hF, hTh] at f1 f2
  have hold : ∀ x : Nat, x < H.size → F.heap[x]? = H[x]? := fun x hx => by
    have := Jvm.Free.Multi.fill_old (T.setVm vm₁) cA cy n.toNatClampNeg k.toNatClampNeg (defaultValue ty) (a := x) (by rw [hTh]; exact hx) n.toNatClampNeg
    rw [hF, hTh] at this
    exact this
  have hrow : ∀ j : Nat, j < n.toNatClampNeg → F.heap[H.size + 1 + j]? = some (vp_cell cy z) := fun j hj => by
    have := Jvm.Free.Multi.fill_inner (T.setVm vm₁) cA cy n.toNatClampNeg k.toNatClampNeg (defaultValue ty) n.toNatClampNeg j hj
    rw [hF, hTh, hz] at this
    exact this
  have hout : Jvm.Free.Multi.outerC cA n.toNatClampNeg H.size n.toNatClampNeg = vp_cell cA (n.toNatClampNeg, .inr (.inr (.inr (.inr (fun i => if i < n.toNatClampNeg then some (H.size + 1 + i) else none))))) := by
    rw [vp_cell_q]
    exact vr_outer cA n.toNatClampNeg H.size n.toNatClampNeg
  rw [hout] at f2
  have hlt : ∀ a, a ∈ L → a < H.size := fun a ha => by
    obtain ⟨k9, hk9⟩ := va_pl_get (X := X) (f := f) ha
    exact (hP k9 _ hk9).lt
  have hnl : ∀ i : Nat, i < n.toNatClampNeg → H.size + 1 + i ∉ L := fun i _ h => by
    have := hlt _ h
    omega
  have hnm : ∀ a, a ∈ (List.range n.toNatClampNeg).map (fun i => H.size + 1 + i) → a ∉ L := fun a ha h => by
    obtain ⟨i, -, rfl⟩ := List.mem_map.mp ha
    have := hlt _ h
    omega
  have hP0 : va_P D cl (X ++ va_pl L f) F.heap := hP.kept (fun k9 x hx => hold x.1 ((hP k9 x hx).lt))
  have hP1 : va_P D cl ((X ++ va_pl L f) ++ [(H.size, .inl (cA, n.toNatClampNeg, .inr (.inr (.inr (.inr (fun i => if i < n.toNatClampNeg then some (H.size + 1 + i) else none))))))]) F.heap := hP0.app (fun k9 x hx => by
    have h0 : k9 < 1 := (List.getElem?_eq_some_iff.mp hx).1
    rw [show k9 = 0 by omega] at hx
    cases hx
    exact f2)
  have hP2 : va_P D cl (((X ++ va_pl L f) ++ [(H.size, .inl (cA, n.toNatClampNeg, .inr (.inr (.inr (.inr (fun i => if i < n.toNatClampNeg then some (H.size + 1 + i) else none))))))]) ++ ((List.range n.toNatClampNeg).map (fun i => H.size + 1 + i)).map (fun a => (a, .inl (cy, z)))) F.heap := hP1.app (fun k9 x hx => by
    obtain ⟨a, ha, rfl⟩ := List.mem_map.mp (List.mem_of_getElem? hx)
    obtain ⟨i, hi, rfl⟩ := List.mem_map.mp ha
    exact hrow i (List.mem_range.mp hi))
  have hD2 : va_D A (((X ++ va_pl L f) ++ [(H.size, .inl (cA, n.toNatClampNeg, .inr (.inr (.inr (.inr (fun i => if i < n.toNatClampNeg then some (H.size + 1 + i) else none))))))]) ++ ((List.range n.toNatClampNeg).map (fun i => H.size + 1 + i)).map (fun a => (a, .inl (cy, z)))) := by
    have hD1 := hD.push (e := .inl (cA, n.toNatClampNeg, .inr (.inr (.inr (.inr (fun i => if i < n.toNatClampNeg then some (H.size + 1 + i) else none)))))) hP rfl (hA _ hS.1)
    generalize hW1 : (X ++ va_pl L f) ++ [(H.size, .inl (cA, n.toNatClampNeg, .inr (.inr (.inr (.inr (fun i => if i < n.toNatClampNeg then some (H.size + 1 + i) else none))))))] = W1 at hD1 hP1 ⊢
    have hle : ∀ (k9 : Nat) (x : Nat × va_E), W1[k9]? = some x → x.1 ≤ H.size := fun k9 x hx => by
      rw [← hW1] at hx
      by_cases hl : k9 < (X ++ va_pl L f).length
      · rw [List.getElem?_append_left hl] at hx
        exact Nat.le_of_lt ((hP k9 x hx).lt)
      · rw [List.getElem?_append_right (by omega)] at hx
        have h0 : k9 - (X ++ va_pl L f).length < 1 := (List.getElem?_eq_some_iff.mp hx).1
        rw [show k9 - (X ++ va_pl L f).length = 0 by omega] at hx
        cases hx
        exact Nat.le_refl _
    have hr : ∀ (k9 : Nat) (x : Nat × va_E), (((List.range n.toNatClampNeg).map (fun i => H.size + 1 + i)).map (fun a => ((a, .inl (cy, z)) : Nat × va_E)))[k9]? = some x → x.1 = H.size + 1 + k9 := fun k9 x hx => by
      rw [List.getElem?_map, List.getElem?_map] at hx
      by_cases h9 : k9 < n.toNatClampNeg
      · rw [List.getElem?_range h9] at hx
        cases hx
        rfl
      · have hn0 : (List.range n.toNatClampNeg)[k9]? = none := List.getElem?_eq_none (by rw [List.length_range]; omega)
        rw [hn0] at hx
        cases hx
    refine ⟨fun i j x y hi hj hxy => ?_, fun k9 x hx => ?_⟩
    · by_cases h1 : i < W1.length <;> by_cases h2 : j < W1.length
      · rw [List.getElem?_append_left h1] at hi
        rw [List.getElem?_append_left h2] at hj
        exact hD1.1 i j x y hi hj hxy
      · rw [List.getElem?_append_left h1] at hi
        rw [List.getElem?_append_right (by omega)] at hj
        have := hle _ _ hi
        have := hr _ _ hj
        omega
      · rw [List.getElem?_append_right (by omega)] at hi
        rw [List.getElem?_append_left h2] at hj
        have := hle _ _ hj
        have := hr _ _ hi
        omega
      · rw [List.getElem?_append_right (by omega)] at hi hj
        have := hr _ _ hi
        have := hr _ _ hj
        omega
    · by_cases h1 : k9 < W1.length
      · rw [List.getElem?_append_left h1] at hx
        exact hD1.2 k9 x hx
      · rw [List.getElem?_append_right (by omega)] at hx
        have := hr _ _ hx
        exact hA _ (by have := hS.1; omega)
  have hAr : ArrOfT s cA (.array ty) := fun N9 z9 => by
    obtain ⟨-, k9, hk9, cm9, hkk9⟩ := (hO 0 0 0).1
    exact ⟨(fun q hq => by cases hq), k9, hk9, cm9, hkk9⟩
  have hK2 : va_K D cl (tys ++ [(cA, .array ty)]) s := ⟨hK.1, fun k9 x hx => by
    by_cases hl : k9 < tys.length
    · rw [List.getElem?_append_left hl] at hx
      exact hK.2 k9 x hx
    · rw [List.getElem?_append_right (by omega)] at hx
      have h0 : k9 - tys.length < 1 := (List.getElem?_eq_some_iff.mp hx).1
      rw [show k9 - tys.length = 0 by omega] at hx
      cases hx
      exact ⟨hAr, fA⟩⟩
  obtain ⟨t, a1, b1⟩ := kk H.size (fun i => H.size + 1 + i) cA F.heap (fun i j _ _ h => by have h9 : H.size + 1 + i = H.size + 1 + j := h; omega) hnl hK2 (by rw [← vr_rows hnm]; exact vr_lay hP2) (by rw [← vr_rows hnm]; exact vr_layD hD2) ⟨by rw [f1]; have := hS.1; omega, fun x h1 h2 => (hold x (Nat.lt_of_lt_of_le h1 hS.1)).trans (hS.2.1 x h1 h2), hS.2.2⟩ F rfl X'
  refine ⟨t, step t ?_, b1⟩
  have e : T.heap.size = H.size := by rw [hT]
  rw [e]
  exact a1
end VGM
/-! ===== END ===== -/

/-! ===== BEGIN exceptions that leave a method, and their catching by the caller (launches without stack traces) ===== -/
section VXA
/-! The laws vx_back, vx_callV, vx_callS, vx_callSW, vx_throw0, vx_throwS follow proofs of the library, with one case more: JvmDerived/Free/Laws.lean (Back.of_free), Shelf42/LK1.lean (callV, callS), Shelf/KitTraced.lean (throwNew0V, throwNewS). -/
/-- where a method has thrown q: the class by its name, the cell, what was written, the world -/
def vx_T (XC : String → State → State → Prop) (st : State) (q : Addr) (t : State) (mc ms : Nat) (free : Addr → Prop) : Prop :=
  ∃ (E : String) (ce : Cell) (L : List Loc), XC E st t ∧ t.heap[q]? = some ce ∧ ce.vm = .none ∧ st.vm.findClass E = some ce.cls ∧ st.WarmedH t.vm ∧ st.sameButNew ({ t with vm := st.vm } : State) L mc ms ∧ ∀ z ∈ L, free z.base
def vx_Q (Qc : Array Value → State → Outcome → State → Prop) (XC : String → State → State → Prop) (mc ms : Nat) (free : Addr → Prop) : Array Value → State → Outcome → State → Prop := fun a st o t =>
  (Qc a st o t ∧ ∃ L, FrameEnd st o t L mc ms ∧ ∀ q ∈ L, free q.base) ∨ ∃ q, o = .threw q ∧ vx_T XC st q t mc ms free
/-- a callee that returns or throws -/
def vx_Met (l : Launch) (y : MethodName) (ws : List Cond) (rm : Room) (Pc : Array Value → State → Prop) (Qc : Array Value → State → Outcome → State → Prop) (XC : String → State → State → Prop) (mc ms : Nat) (free : Addr → Prop) : Prop :=
  MetFree l y (headSpec ws rm) Pc (fun _ _ _ _ _ => True) (vx_Q Qc XC mc ms free)
def vx_Post (XC : String → State → State → Prop) (mc ms : Nat) (free : Addr → Prop) : Pt → Array Value → Addr → Pt → Prop := fun A a q B =>
  ∃ (g : JFrame) (mk : MethodId) (t : State) (L : List Loc) (E : String) (ce : Cell), B.U.heap = t.heap ∧ B.U.vm = t.vm ∧ XC E (A.U.calling g mk a) t ∧ t.heap[q]? = some ce ∧ ce.vm = .none ∧ A.U.vm.findClass E = some ce.cls ∧ B.locs = A.locs ++ L ∧ (∀ z ∈ L, free z.base) ∧ B.cells = A.cells + mc ∧ B.slots = A.slots + ms
def vx_Back (l : Launch) (R : Room) (p : Program) (e : Env) (below : List Frame) (s : State) (sargs : Array Value) (y : MethodName) (len W9 : Nat)
    (Pre : Pt → Array Value → Prop) (Post : Pt → Array Value → Option Value → Pt → Prop) (PostX : Pt → Array Value → Addr → Pt → Prop) : Prop :=
  ∀ (m : MethodId) (meth : Method) (c : Code) (A : Pt) (g : JFrame) (ig : Instr) (mk : MethodId) (a : Array Value),
    Stand p l e R s m sargs below meth c A.U A.locs A.cells A.slots → g.method = m → g.locals.size = c.maxLocals → decode c.code g.pc = .ok (ig, len) →
    2 * g.monitorRoom + (g.stack.map fun v => v.category).sum ≤ W9 → A.U.methodNamed? y = some mk → Pre A a →
    (∃ (v : Option Value) (B : Pt), Stand p l e R s m sargs below meth c B.U B.locs B.cells B.slots ∧ Post A a v B ∧
      Steps p.tables e below (doInvoke e (A.U.setTop g) [] mk a).1 (B.U.setTop { g with pc := g.pc + len, stack := v.toList ++ g.stack })) ∨
    (∃ (q : Addr) (B : Pt), Stand p l e R s m sargs below meth c B.U B.locs B.cells B.slots ∧ PostX A a q B ∧
      Steps p.tables e below (doInvoke e (A.U.setTop g) [] mk a).1 ((B.U.setTop g).pushFrame (.throwing q)))
section Payer
variable {l : Launch} {R : Room} {p : Program} {e : Env} {below : List Frame} {s : State} {sargs : Array Value} {y : MethodName} {len W9 : Nat}
theorem vx_back {ws : List Cond} {rm : Room} {Pc : Array Value → State → Prop} {Qc : Array Value → State → Outcome → State → Prop} {XC : String → State → State → Prop} {mc ms : Nat} {free : Addr → Prop} {bytes : ByteArray} {maxL : Nat} {ret : Option FieldType}
    (hM : vx_Met l y ws rm Pc Qc XC mc ms free) (hblind : FrameBlind Pc) (hrc : rm.cells = mc) (hrs : rm.slots = ms)
    (hframes : rm.frames + 1 ≤ R.frames) (hlocals : W9 + (maxL + 11) + rm.locals ≤ R.locals)
    (hws : ∀ w ∈ ws, ∀ a' U, s.WarmedH U.vm → w.before a' U = true) (hcode : Cond.code y bytes maxL ret ∈ ws) (hinit : ∀ a' U, s.WarmedH U.vm → (Cond.initialized y.cls).before a' U = true) :
    vx_Back l R p e below s sargs y len W9 (PreOf R mc ms Pc) (PostOf Qc mc ms free) (vx_Post XC mc ms free) := by
  intro m meth c A g ig mk a X hg hsize hdg hW hn hp
  have h1 : (headSpec ws rm).pre.before a A.U = true := atoms_intro fun w hw => hws w hw _ _ X.warmed
  have h2 : (Cond.code y bytes maxL ret).before a A.U = true := hws _ hcode _ _ X.warmed
  have h3 : (Cond.initialized y.cls).before a A.U = true := hinit _ _ X.warmed
  have h4 : A.cells + (headSpec ws rm).room.cells ≤ R.cells := by rw [show (headSpec ws rm).room.cells = mc from hrc]; exact hp.1
  have h5 : A.slots + (headSpec ws rm).room.slots ≤ R.slots := by rw [show (headSpec ws rm).room.slots = ms from hrs]; exact hp.2.1
  have hPc : Pc a (A.U.calling g mk a) := hblind _ _ _ _ hp.2.2
  obtain ⟨U, Ls, c0, s0⟩ := A
  dsimp only [Pt.U, Pt.locs, Pt.cells, Pt.slots] at h1 h2 h3 h4 h5 X hn hPc ⊢
  obtain ⟨methY, cY, hmY, hcY, -, hlY, -, -, -, -⟩ := Cond.code_spec hn h2
  obtain ⟨kY, hkY, -⟩ := className_of_methodNamed hn
  have hinitY : kY.init = .initialized := Cond.initialized_spec (findClass_of_methodNamed hn) hkY h3
  have h : At U g.method c below := by rw [hg]; exact X.here
  have hlocals9 : W9 + (maxL + 11) + (headSpec ws rm).room.locals ≤ R.locals := hlocals
  have happ : (headSpec ws rm).appliesLoose y e.platform (U.calling g mk a) = true :=
    Spec.appliesLoose_calling (g := g) h hdg hn hkY hinitY
      (X.room_calling (g := g) (R' := (headSpec ws rm).room) hsize hmY hcY hframes (by rw [hlY]; omega) h4 h5) h1
  obtain ⟨mid, hmid⟩ := h.above
  have hfr : (U.setTop g).frames = (.java g :: mid) ++ below := by rw [State.frames_setTop' g h.top, hmid]; rfl
  obtain ⟨o, s₂, hsteps, -, hend, hq⟩ := Steps.callFree hM p X.admits X.cas X.clock (acts := []) hfr happ hPc trivial
  have hq' : vx_Q Qc XC mc ms free a (U.calling g mk a) o s₂ := hq
  rw [State.frames_setTop' g h.top] at hend
  obtain ⟨g₀, hg0⟩ := Option.isSome_iff_exists.mp h.top
  obtain ⟨r, hr⟩ := State.topJava?_eq_some.mp hg0
  have hr' : (({ U with heap := s₂.heap, slotsUsed := s₂.slotsUsed } : State).setVm s₂.vm).frames = .java g₀ :: r := hr
  rcases hq' with ⟨hqc, L, hfe, hL⟩ | ⟨q, rfl, E, ce, L, hx, hce, hcv, hcl, hW₂, hsm, hL⟩
  · obtain ⟨⟨v, rfl⟩, hW₂, e2, q2, q3, q4, q5, q6⟩ := id hfe
    have e3 : s₂ = ({ (U.calling g mk a).setFrames s₂.frames with heap := s₂.heap, slotsUsed := s₂.slotsUsed } : State).setVm s₂.vm := by
      have : s₂ = ({ s₂ with vm := (U.calling g mk a).vm } : State).setVm s₂.vm := rfl
      rw [e2] at this
      exact this
    obtain ⟨c₂, i₂, len₂, hc₂, hd₂, hf₂⟩ := hend
    have hW' : U.WarmedH s₂.vm := hW₂
    have hcc : c₂ = c := by
      have h1 : s₂.code? g.method = U.code? g.method := by
        rw [State.code?_eq, State.code?_eq, hW'.alike.method?]
      exact Option.some.inj (hc₂.symm.trans (h1.trans h.code))
    subst hcc
    have hlen : len₂ = len := by rw [hdg] at hd₂; cases hd₂; rfl
    subst hlen
    have hs₂ : s₂ = (({ U with heap := s₂.heap, slotsUsed := s₂.slotsUsed } : State).setVm s₂.vm).setTop { g with pc := g.pc + len₂, stack := v.toList ++ g.stack } := by
      refine e3.trans ?_
      rw [hf₂, State.calling_eq h.top, State.setFrames_setFrames, State.setTop_of_frames _ hr', hr]
      rfl
    have hsame : U.sameButNew ({ U with heap := s₂.heap, slotsUsed := s₂.slotsUsed } : State) L mc ms := by
      refine ⟨?_, q2, q3, q4, q5, q6⟩
      obtain ⟨t, ht, -⟩ := State.frames_cons hr
      show ({ U with heap := s₂.heap, slotsUsed := s₂.slotsUsed } : State) = { U.setFrames U.frames with heap := s₂.heap, slotsUsed := s₂.slotsUsed }
      rw [State.setFrames_self ht]
    subst hg
    refine Or.inl ⟨v, ⟨(({ U with heap := s₂.heap, slotsUsed := s₂.slotsUsed } : State).setVm s₂.vm), Ls ++ L, c0 + mc, s0 + ms⟩,
      ⟨X.admits, X.cas, X.clock, X.frames, X.room, X.hears, X.method, X.code, (X.here.setHeapUsed s₂.heap s₂.slotsUsed).setVm hW'.alike, X.tail, State.WarmedH.trans X.warmed hW', X.limits, X.bytes, X.same.trans (hsame.setVm s.vm)⟩,
      ⟨g, mk, s₂, L, rfl, rfl, hqc, rfl, hL, rfl, rfl⟩, ?_⟩
    show Steps p.tables e below _ ((({ U with heap := s₂.heap, slotsUsed := s₂.slotsUsed } : State).setVm s₂.vm).setTop { g with pc := g.pc + len₂, stack := v.toList ++ g.stack })
    rw [← hs₂]
    exact hsteps
  · obtain ⟨e2, q2, q3, q4, q5, q6⟩ := id hsm
    have e3 : s₂ = ({ (U.calling g mk a).setFrames s₂.frames with heap := s₂.heap, slotsUsed := s₂.slotsUsed } : State).setVm s₂.vm := by
      have : s₂ = ({ s₂ with vm := (U.calling g mk a).vm } : State).setVm s₂.vm := rfl
      rw [e2] at this
      exact this
    have hf₂ : s₂.frames = .throwing q :: .java g :: U.frames.tail := hend
    have hW' : U.WarmedH s₂.vm := hW₂
    have hs₂ : s₂ = ((({ U with heap := s₂.heap, slotsUsed := s₂.slotsUsed } : State).setVm s₂.vm).setTop g).pushFrame (.throwing q) := by
      refine e3.trans ?_
      rw [hf₂, State.calling_eq h.top, State.setFrames_setFrames, State.pushFrame, State.frames_setTop _ hr', State.setTop_of_frames _ hr', State.setFrames_setFrames, hr]
      rfl
    have hsame : U.sameButNew ({ U with heap := s₂.heap, slotsUsed := s₂.slotsUsed } : State) L mc ms := by
      refine ⟨?_, q2, q3, q4, q5, q6⟩
      obtain ⟨t, ht, -⟩ := State.frames_cons hr
      show ({ U with heap := s₂.heap, slotsUsed := s₂.slotsUsed } : State) = { U.setFrames U.frames with heap := s₂.heap, slotsUsed := s₂.slotsUsed }
      rw [State.setFrames_self ht]
    subst hg
    refine Or.inr ⟨q, ⟨(({ U with heap := s₂.heap, slotsUsed := s₂.slotsUsed } : State).setVm s₂.vm), Ls ++ L, c0 + mc, s0 + ms⟩,
      ⟨X.admits, X.cas, X.clock, X.frames, X.room, X.hears, X.method, X.code, (X.here.setHeapUsed s₂.heap s₂.slotsUsed).setVm hW'.alike, X.tail, State.WarmedH.trans X.warmed hW', X.limits, X.bytes, X.same.trans (hsame.setVm s.vm)⟩,
      ⟨g, mk, s₂, L, E, ce, rfl, rfl, hx, hce, hcv, hcl, rfl, hL, rfl, rfl⟩, ?_⟩
    show Steps p.tables e below _ (((({ U with heap := s₂.heap, slotsUsed := s₂.slotsUsed } : State).setVm s₂.vm).setTop g).pushFrame (.throwing q))
    rw [← hs₂]
    exact hsteps
end Payer
section Calls
variable {p : Program} {l : Launch} {e : Env} {R : Room} {s : State} {m : MethodId} {args : Array Value} {below : List Frame} {meth : Method} {c : Code} {T : State} {locs : List Loc} {cells slots : Nat}
theorem vx_callV (X : Stand p l e R s m args below meth c T locs cells slots) (hexec : p.tables.exec = Jvm.exec) {own C : String} {index : Nat} {y : MethodName} {bytes : ByteArray} {maxL : Nat} {ret : Option FieldType}
    (hown : s.vm.findClass own = some m.cls) (hlink : (Cond.methodLink own index y).before args s = true) (hinst : (Cond.instanceMethod y).before args s = true) (hsel : (Cond.selects C y y).before args s = true)
    (hcode : (Cond.code y bytes maxL ret).before args s = true) (hy : y.cls ≠ "java/lang/invoke/MethodHandle" ∧ y.cls ≠ "java/lang/invoke/VarHandle")
    {W9 : Nat} {Pre : Pt → Array Value → Prop} {Post : Pt → Array Value → Option Value → Pt → Prop} {PostX : Pt → Array Value → Addr → Pt → Prop} (hK : vx_Back l R p e below s args y 3 W9 Pre Post PostX)
    {b : Addr} {cellB : Cell} (hcell : T.heap[b]? = some cellB) (hobj : cellB.vm.isStatics = false) (hcls : s.vm.findClass C = some cellB.cls)
    {g : JFrame} (hg : g.method = m) (hsize : g.locals.size = c.maxLocals) {argsL rest : List Value} (hlen : ∀ sig, parseMethodDescriptor y.desc = some sig → argsL.length = sig.parameters.length)
    (hstack : g.stack = argsL.reverse ++ .ref b :: rest) (hW : 2 * g.monitorRoom + (rest.map fun v => v.category).sum ≤ W9) (hdg : decode c.code g.pc = .ok (.invokevirtual index, 3))
    (hpre : ∀ vm₁, s.WarmedH vm₁ → Pre ⟨T.setVm vm₁, locs, cells, slots⟩ (Value.ref b :: argsL).toArray) :
    (∃ (v : Option Value) (vm₁ : Vm) (B : Pt), s.WarmedH vm₁ ∧ Stand p l e R s m args below meth c B.U B.locs B.cells B.slots ∧ Post ⟨T.setVm vm₁, locs, cells, slots⟩ (Value.ref b :: argsL).toArray v B ∧
      ∀ target, Steps p.tables e below (B.U.setTop { g with pc := g.pc + 3, stack := v.toList ++ rest }) target → Steps p.tables e below (T.setTop g) target) ∨
    (∃ (q : Addr) (vm₁ : Vm) (B : Pt), s.WarmedH vm₁ ∧ Stand p l e R s m args below meth c B.U B.locs B.cells B.slots ∧ PostX ⟨T.setVm vm₁, locs, cells, slots⟩ (Value.ref b :: argsL).toArray q B ∧
      Steps p.tables e below (T.setTop g) ((B.U.setTop { g with stack := rest }).pushFrame (.throwing q))) := by
  obtain ⟨mk, methM, hnamed, hmethM, hstM, habM⟩ := Cond.instanceMethod_spec hinst
  obtain ⟨methM', cM, hmethM', -, -, -, -, -, -, hsigM⟩ := Cond.code_spec hnamed hcode
  cases hmethM.symm.trans hmethM'
  obtain ⟨c2, r2, m2, q1, q2, q3, q4, kP, hkP, hkPi⟩ := Cond.selects_spec hsel
  cases hcls.symm.trans q1
  cases (State.methodFound?_of_named hnamed hy).symm.trans q2
  cases hnamed.symm.trans q3
  have hselP : selectMethod e.platform s.vm cellB.cls mk = .method mk := by rw [Launch.admits_selectMethod X.admits]; exact q4
  obtain ⟨vm₁, X₁, hstep₁⟩ := X.invokevirtual hexec hown hlink hnamed hmethM hstM hkP hkPi hy (a := b) (cell := cellB) hcell
    (fun z h => by rw [h] at hobj; cases hobj) hselP hmethM habM hkP hkPi (g := g) hg (argsL := argsL) (rest := rest) (hlen _ hsigM) hstack hdg
  rcases hK m meth c ⟨T.setVm vm₁, locs, cells, slots⟩ { g with stack := rest } (.invokevirtual index) mk (Value.ref b :: argsL).toArray X₁ hg hsize hdg hW (X₁.named hnamed) (hpre vm₁ X₁.warmed) with ⟨v, B, X', hpost, hsteps⟩ | ⟨q, B, X', hpost, hsteps⟩
  · exact Or.inl ⟨v, vm₁, B, X₁.warmed, X', hpost, fun target h => hstep₁ _ fun acts => by rw [doInvoke_state]; exact hsteps.trans h⟩
  · exact Or.inr ⟨q, vm₁, B, X₁.warmed, X', hpost, hstep₁ _ fun acts => by rw [doInvoke_state]; exact hsteps⟩
theorem vx_callS (X : Stand p l e R s m args below meth c T locs cells slots) (hexec : p.tables.exec = Jvm.exec) {own : String} {index : Nat} {y : MethodName} {bytes : ByteArray} {maxL : Nat} {ret : Option FieldType}
    (hown : s.vm.findClass own = some m.cls) (hlink : (Cond.methodLink own index y).before args s = true) (hstat : (Cond.static y).before args s = true) (hinit : (Cond.initialized y.cls).before args s = true)
    (hcode : (Cond.code y bytes maxL ret).before args s = true) (hy : y.cls ≠ "java/lang/invoke/MethodHandle" ∧ y.cls ≠ "java/lang/invoke/VarHandle")
    {W9 : Nat} {Pre : Pt → Array Value → Prop} {Post : Pt → Array Value → Option Value → Pt → Prop} {PostX : Pt → Array Value → Addr → Pt → Prop} (hK : vx_Back l R p e below s args y 3 W9 Pre Post PostX)
    {g : JFrame} (hg : g.method = m) (hsize : g.locals.size = c.maxLocals) {argsL rest : List Value} (hlen : ∀ sig, parseMethodDescriptor y.desc = some sig → argsL.length = sig.parameters.length)
    (hstack : g.stack = argsL.reverse ++ rest) (hW : 2 * g.monitorRoom + (rest.map fun v => v.category).sum ≤ W9) (hdg : decode c.code g.pc = .ok (.invokestatic index, 3))
    (hpre : ∀ vm₁, s.WarmedH vm₁ → Pre ⟨T.setVm vm₁, locs, cells, slots⟩ argsL.toArray) :
    (∃ (v : Option Value) (vm₁ : Vm) (B : Pt), s.WarmedH vm₁ ∧ Stand p l e R s m args below meth c B.U B.locs B.cells B.slots ∧ Post ⟨T.setVm vm₁, locs, cells, slots⟩ argsL.toArray v B ∧
      ∀ target, Steps p.tables e below (B.U.setTop { g with pc := g.pc + 3, stack := v.toList ++ rest }) target → Steps p.tables e below (T.setTop g) target) ∨
    (∃ (q : Addr) (vm₁ : Vm) (B : Pt), s.WarmedH vm₁ ∧ Stand p l e R s m args below meth c B.U B.locs B.cells B.slots ∧ PostX ⟨T.setVm vm₁, locs, cells, slots⟩ argsL.toArray q B ∧
      Steps p.tables e below (T.setTop g) ((B.U.setTop { g with stack := rest }).pushFrame (.throwing q))) := by
  obtain ⟨mk, hnamed⟩ := Cond.code_named hcode
  obtain ⟨methM, cM, hmethM, -, -, -, -, -, -, hsigM⟩ := Cond.code_spec hnamed hcode
  have hstatic : methM.isStatic = true := Cond.static_spec hnamed hmethM hstat
  obtain ⟨kP, hkP, -⟩ := className_of_methodNamed hnamed
  have hinitP : kP.init = .initialized := Cond.initialized_spec (findClass_of_methodNamed hnamed) hkP hinit
  obtain ⟨vm₁, X₁, hstep₁⟩ := X.invokestatic hexec hown hlink hnamed hmethM hstatic hkP hinitP hy (g := g) hg (argsL := argsL) (rest := rest) (hlen _ hsigM) hstack hdg
  rcases hK m meth c ⟨T.setVm vm₁, locs, cells, slots⟩ { g with stack := rest } (.invokestatic index) mk argsL.toArray X₁ hg hsize hdg hW (X₁.named hnamed) (hpre vm₁ X₁.warmed) with ⟨v, B, X', hpost, hsteps⟩ | ⟨q, B, X', hpost, hsteps⟩
  · exact Or.inl ⟨v, vm₁, B, X₁.warmed, X', hpost, fun target h => hstep₁ _ fun acts => by rw [doInvoke_state]; exact hsteps.trans h⟩
  · exact Or.inr ⟨q, vm₁, B, X₁.warmed, X', hpost, hstep₁ _ fun acts => by rw [doInvoke_state]; exact hsteps⟩
end Calls
theorem vx_cls {s : State} {T : State} {vm₁ : Vm} {E : String} {k : ClassId} (hW : s.WarmedH vm₁) (h : (T.setVm vm₁).vm.findClass E = some k) : s.vm.findClass E = some k := by
  have h1 : vm₁.findClass E = some k := h
  rw [hW.alike.findClass] at h1
  exact h1
/-- the method's frame g, with q thrown over it -/
def vx_W (p : Program) (l : Launch) (e : Env) (R : Room) (s : State) (m : MethodId) (args : Array Value) (below : List Frame) (meth : Method) (c : Code) (H : Heap) (locs : List Loc) (cells slots : Nat) (Q : State → Prop) (g : JFrame) (q : Addr) : Prop :=
  ∀ T : State, T.heap = H → Stand p l e R s m args below meth c T locs cells slots → ∃ t, Steps p.tables e below ((T.setTop g).pushFrame (.throwing q)) t ∧ Q t
def vx_Run (p : Program) (l : Launch) (e : Env) (R : Room) (s : State) (m : MethodId) (args : Array Value) (below : List Frame) (meth : Method) (c : Code) (H : Heap) (locs : List Loc) (cells slots mc ms : Nat) (g : JFrame) (rest : List Value) (Qa : State → Outcome → State → Prop) (XC : String → State → State → Prop) (free : Addr → Prop) : Prop :=
  ∀ T : State, T.heap = H → Stand p l e R s m args below meth c T locs cells slots →
    (∃ (v : Option Value) (st₀ t T' : State) (L : List Loc), st₀.heap = H ∧ Stand p l e R s m args below meth c T' (locs ++ L) (cells + mc) (slots + ms) ∧ (∀ q ∈ L, free q.base) ∧ T'.heap = t.heap ∧ T'.vm = t.vm ∧ Qa st₀ (.returned v) t ∧
      Goes p e below T g T' { g with pc := g.pc + 3, stack := v.toList ++ rest }) ∨
    (∃ (q : Addr) (st₀ t T' : State) (L : List Loc) (E : String) (ce : Cell), st₀.heap = H ∧ Stand p l e R s m args below meth c T' (locs ++ L) (cells + mc) (slots + ms) ∧ (∀ z ∈ L, free z.base) ∧ T'.heap = t.heap ∧ T'.vm = t.vm ∧ XC E st₀ t ∧ t.heap[q]? = some ce ∧ ce.vm = .none ∧ s.vm.findClass E = some ce.cls ∧
      Steps p.tables e below (T.setTop g) ((T'.setTop { g with stack := rest }).pushFrame (.throwing q)))
def vx_X {S : Type} (px : S → Prop) (B : String → S → State → Prop) (A : Nat → Prop) : String → State → State → Prop := fun E st t => ∃ u : S, px u ∧ B E u t ∧ va_F A st t
section Runs
variable {p : Program} {l : Launch} {e : Env} {R : Room} {s : State} {m : MethodId} {args : Array Value} {below : List Frame} {meth : Method} {c : Code} {H : Heap} {locs : List Loc} {cells slots : Nat}
variable {y : MethodName} {bytes cc : ByteArray} {maxL nL mc ms n index : Nat} {ret : Option FieldType} {ws : List Cond} {rm : Room} {Pc : Array Value → State → Prop} {Qc : Array Value → State → Outcome → State → Prop} {XC : String → State → State → Prop} {free : Addr → Prop} {Ts : List Cond} {own C : String} {b : Addr} {As rest : List Value} {g : JFrame}
theorem vx_callBack (cb : CallB R s args own index y bytes maxL ret ws rm mc ms n) (hM : vx_Met l y ws rm Pc Qc XC mc ms free) (hbl : FrameBlind Pc) : vx_Back l R p e below s args y 3 8 (PreOf R mc ms Pc) (PostOf Qc mc ms free) (vx_Post XC mc ms free) := by
  obtain ⟨hrc, hrs, hfr, hlo, hws, hcw, -, hini, -⟩ := cb
  exact vx_back (bytes := bytes) (maxL := maxL) (ret := ret) hM hbl hrc hrs hfr hlo hws hcw (fun a' U hW => word_at hW (Or.inl (by first | rfl | simp [Cond.onTables, Cond.keeps, Cond.steady])) hini)
theorem vx_runV (S : CallFix p m c cc nL s args Ts own) (hM : vx_Met l y ws rm Pc Qc XC mc ms free) (cw : CallW R s args own C index y bytes maxL ret ws rm mc ms n) (hp : PreV s H C b Pc As)
    (hg : g.method = m) (hn : As.length = n) (hsize : g.locals.size = nL) (hstack : g.stack = As.reverse ++ .ref b :: rest) (hW : 2 * g.monitorRoom + (rest.map fun v => v.category).sum ≤ 8) (hdg : decode cc g.pc = .ok (.invokevirtual index, 3)) (hf : cells + mc ≤ R.cells ∧ slots + ms ≤ R.slots) :
    vx_Run p l e R s m args below meth c H locs cells slots mc ms g rest (Qc (Value.ref b :: As).toArray) XC free := by
  have hK : vx_Back l R p e below s args y 3 8 (PreOf R mc ms Pc) (PostOf Qc mc ms free) (vx_Post XC mc ms free) := vx_callBack cw.1 hM hp.1
  obtain ⟨⟨-, -, -, -, -, -, hcode, -, hy, hlen, hl⟩, hin, hse⟩ := cw
  obtain ⟨hx, hb, hml, ho, -⟩ := S
  obtain ⟨-, ⟨cellB, hcB, hoB, hclB⟩, hPc⟩ := hp
  intro T hT X
  rcases vx_callV X hx (C := C) (bytes := bytes) (maxL := maxL) (ret := ret) ho hl hin hse hcode hy hK (by rw [hT]; exact hcB) hoB hclB hg (hsize.trans hml.symm) (argsL := As) (rest := rest) (fun sig h => hn.trans (hlen sig h)) hstack hW (by rw [hb]; exact hdg)
    (fun vm₁ hW₁ => ⟨hf.1, hf.2, hPc (T.setVm vm₁) hT hW₁⟩) with ⟨v, vm₁, ⟨U', l2, c2, s2⟩, hW₁, X', ⟨g', mk, t, L, e1, e2, hq, h1, hL, h2, h3⟩, st⟩ | ⟨q, vm₁, ⟨U', l2, c2, s2⟩, hW₁, X', ⟨g', mk, t, L, E, ce, e1, e2, hq, hce, hcv, hcl, h1, hL, h2, h3⟩, st⟩
  · dsimp only [Pt.U, Pt.locs, Pt.cells, Pt.slots] at X' e1 e2 h1 h2 h3 st
    subst h1; subst h2; subst h3
    exact Or.inl ⟨v, (T.setVm vm₁).calling g' mk (Value.ref b :: As).toArray, t, U', L, hT, X', hL, e1, e2, hq, st⟩
  · dsimp only [Pt.U, Pt.locs, Pt.cells, Pt.slots] at X' e1 e2 h1 h2 h3 st hcl
    subst h1; subst h2; subst h3
    exact Or.inr ⟨q, (T.setVm vm₁).calling g' mk (Value.ref b :: As).toArray, t, U', L, E, ce, hT, X', hL, e1, e2, hq, hce, hcv, vx_cls hW₁ hcl, st⟩
theorem vx_runS (S : CallFix p m c cc nL s args Ts own) (hM : vx_Met l y ws rm Pc Qc XC mc ms free) (cw : CallB R s args own index y bytes maxL ret ws rm mc ms n ∧ (Cond.static y).before args s = true) (hp : PreS s H Pc As)
    (hg : g.method = m) (hn : As.length = n) (hsize : g.locals.size = nL) (hstack : g.stack = As.reverse ++ rest) (hW : 2 * g.monitorRoom + (rest.map fun v => v.category).sum ≤ 8) (hdg : decode cc g.pc = .ok (.invokestatic index, 3)) (hf : cells + mc ≤ R.cells ∧ slots + ms ≤ R.slots) :
    vx_Run p l e R s m args below meth c H locs cells slots mc ms g rest (Qc As.toArray) XC free := by
  have hK : vx_Back l R p e below s args y 3 8 (PreOf R mc ms Pc) (PostOf Qc mc ms free) (vx_Post XC mc ms free) := vx_callBack cw.1 hM hp.1
  obtain ⟨⟨-, -, -, -, -, -, hcode, hini, hy, hlen, hl⟩, hstt⟩ := cw
  obtain ⟨hx, hb, hml, ho, -⟩ := S
  intro T hT X
  rcases vx_callS X hx (bytes := bytes) (maxL := maxL) (ret := ret) ho hl hstt hini hcode hy hK hg (hsize.trans hml.symm) (argsL := As) (rest := rest) (fun sig h => hn.trans (hlen sig h)) hstack hW (by rw [hb]; exact hdg)
    (fun vm₁ hW₁ => ⟨hf.1, hf.2, hp.2 (T.setVm vm₁) hT hW₁⟩) with ⟨v, vm₁, ⟨U', l2, c2, s2⟩, hW₁, X', ⟨g', mk, t, L, e1, e2, hq, h1, hL, h2, h3⟩, st⟩ | ⟨q, vm₁, ⟨U', l2, c2, s2⟩, hW₁, X', ⟨g', mk, t, L, E, ce, e1, e2, hq, hce, hcv, hcl, h1, hL, h2, h3⟩, st⟩
  · dsimp only [Pt.U, Pt.locs, Pt.cells, Pt.slots] at X' e1 e2 h1 h2 h3 st
    subst h1; subst h2; subst h3
    exact Or.inl ⟨v, (T.setVm vm₁).calling g' mk As.toArray, t, U', L, hT, X', hL, e1, e2, hq, st⟩
  · dsimp only [Pt.U, Pt.locs, Pt.cells, Pt.slots] at X' e1 e2 h1 h2 h3 st hcl
    subst h1; subst h2; subst h3
    exact Or.inr ⟨q, (T.setVm vm₁).calling g' mk As.toArray, t, U', L, E, ce, hT, X', hL, e1, e2, hq, hce, hcv, vx_cls hW₁ hcl, st⟩
end Runs
section Rows
variable {p : Program} {l : Launch} {e : Env} {R : Room} {s : State} {m : MethodId} {args : Array Value} {below : List Frame} {meth : Method} {c : Code} {H : Heap} {locs : List Loc} {cells slots : Nat} {Q : State → Prop}
variable {mc ms : Nat} {free : Addr → Prop} {A0 A1 : Nat → Prop} {H0 : Heap} {a : Array Value} {pc : Nat} {ls : Array Slot} {st0 rest : List Value}
theorem vx_keep {st₀ t T' : State} {L : List Loc} (h0 : st₀.heap = H) (e1 : T'.heap = t.heap) (hS : va_S A0 H0 H locs) (hA : ∀ q, q < H.size → A1 q → A0 q) (hf : ∀ q, free q → A0 q) (hL : ∀ q ∈ L, free q.base) (hF : va_F A1 st₀ t) :
    H.size ≤ T'.heap.size ∧ (∀ q : Nat, q < H.size → ¬ A1 q → T'.heap[q]? = H[q]?) ∧ va_S A0 H0 T'.heap (locs ++ L) := by
  obtain ⟨hz, hk⟩ := hF
  rw [h0] at hz hk
  exact ⟨by rw [e1]; exact hz, fun q h1 h2 => by rw [e1]; exact hk q h1 h2,
    ⟨Nat.le_trans hS.1 (by rw [e1]; exact hz), fun q h1 h2 => by rw [e1, hk q (Nat.lt_of_lt_of_le h1 hS.1) (fun z => h2 (hA q (Nat.lt_of_lt_of_le h1 hS.1) z))]; exact hS.2.1 q h1 h2, fun q hq => by
      rcases List.mem_append.mp hq with h | h
      · exact hS.2.2 q h
      · exact hf _ (hL q h)⟩⟩
theorem vx_calli {S SX : Type} {post : Int32 → S → Prop} {px : SX → Prop} {B : S → State → Prop} {BX : String → SX → State → Prop} {AX : Nat → Prop} (hr : vx_Run p l e R s m args below meth c H locs cells slots mc ms (F0 m pc ls st0) rest (va_Qi post B A1 a) (vx_X px BX AX) free) (hS : va_S A0 H0 H locs) (hA : ∀ q, q < H.size → A1 q → A0 q) (hf : ∀ q, free q → A0 q) (hAX : ∀ q, q < H.size → AX q → A0 q)
    (kx : ∀ (E : String) (ce : Cell) (q9 : Addr) (u : SX) (t : State) (H1 : Heap) (locs1 : List Loc), t.heap = H1 → s.vm.Alike t.vm → px u → BX E u t → H.size ≤ H1.size → (∀ q : Nat, q < H.size → ¬ AX q → H1[q]? = H[q]?) → va_S A0 H0 H1 locs1 → H1[q9]? = some ce → ce.vm = .none → s.vm.findClass E = some ce.cls → vx_W p l e R s m args below meth c H1 locs1 (cells + mc) (slots + ms) Q (F0 m pc ls rest) q9)
    (kk : ∀ (r : Int32) (u : S) (t : State) (H1 : Heap) (locs1 : List Loc), t.heap = H1 → s.vm.Alike t.vm → post r u → B u t → H.size ≤ H1.size → (∀ q : Nat, q < H.size → ¬ A1 q → H1[q]? = H[q]?) → va_S A0 H0 H1 locs1 → W p l e R s m args below meth c H1 locs1 (cells + mc) (slots + ms) Q (F0 m (pc + 3) ls (.int r :: rest))) : W p l e R s m args below meth c H locs cells slots Q (F0 m pc ls st0) := by
  intro T hT X
  rcases hr T hT X with ⟨v, st₀, t, T', L, h0, X', hL, e1, e2, ⟨⟨r, u, hv, hp, hb⟩, hF⟩, st⟩ | ⟨q, st₀, t, T', L, E, ce, h0, X', hL, e1, e2, ⟨u, hp, hb, hF⟩, hce, hcv, hcl, st⟩
  · cases hv
    obtain ⟨k1, k2, k3⟩ := vx_keep h0 e1 hS hA hf hL hF
    obtain ⟨t2, a1, b1⟩ := kk r u t T'.heap (locs ++ L) e1.symm (by rw [← e2]; exact X'.warmed.alike) hp hb k1 k2 k3 T' rfl X'
    exact ⟨t2, st t2 a1, b1⟩
  · obtain ⟨k1, k2, k3⟩ := vx_keep h0 e1 hS hAX hf hL hF
    obtain ⟨t2, a1, b1⟩ := kx E ce q u t T'.heap (locs ++ L) e1.symm (by rw [← e2]; exact X'.warmed.alike) hp hb k1 k2 k3 (by rw [e1]; exact hce) hcv hcl T' rfl X'
    exact ⟨t2, st.trans a1, b1⟩
theorem vx_calll {S SX : Type} {post : Int64 → S → Prop} {px : SX → Prop} {B : S → State → Prop} {BX : String → SX → State → Prop} {AX : Nat → Prop} (hr : vx_Run p l e R s m args below meth c H locs cells slots mc ms (F0 m pc ls st0) rest (va_Ql post B A1 a) (vx_X px BX AX) free) (hS : va_S A0 H0 H locs) (hA : ∀ q, q < H.size → A1 q → A0 q) (hf : ∀ q, free q → A0 q) (hAX : ∀ q, q < H.size → AX q → A0 q)
    (kx : ∀ (E : String) (ce : Cell) (q9 : Addr) (u : SX) (t : State) (H1 : Heap) (locs1 : List Loc), t.heap = H1 → s.vm.Alike t.vm → px u → BX E u t → H.size ≤ H1.size → (∀ q : Nat, q < H.size → ¬ AX q → H1[q]? = H[q]?) → va_S A0 H0 H1 locs1 → H1[q9]? = some ce → ce.vm = .none → s.vm.findClass E = some ce.cls → vx_W p l e R s m args below meth c H1 locs1 (cells + mc) (slots + ms) Q (F0 m pc ls rest) q9)
    (kk : ∀ (r : Int64) (u : S) (t : State) (H1 : Heap) (locs1 : List Loc), t.heap = H1 → s.vm.Alike t.vm → post r u → B u t → H.size ≤ H1.size → (∀ q : Nat, q < H.size → ¬ A1 q → H1[q]? = H[q]?) → va_S A0 H0 H1 locs1 → W p l e R s m args below meth c H1 locs1 (cells + mc) (slots + ms) Q (F0 m (pc + 3) ls (.long r :: rest))) : W p l e R s m args below meth c H locs cells slots Q (F0 m pc ls st0) := by
  intro T hT X
  rcases hr T hT X with ⟨v, st₀, t, T', L, h0, X', hL, e1, e2, ⟨⟨r, u, hv, hp, hb⟩, hF⟩, st⟩ | ⟨q, st₀, t, T', L, E, ce, h0, X', hL, e1, e2, ⟨u, hp, hb, hF⟩, hce, hcv, hcl, st⟩
  · cases hv
    obtain ⟨k1, k2, k3⟩ := vx_keep h0 e1 hS hA hf hL hF
    obtain ⟨t2, a1, b1⟩ := kk r u t T'.heap (locs ++ L) e1.symm (by rw [← e2]; exact X'.warmed.alike) hp hb k1 k2 k3 T' rfl X'
    exact ⟨t2, st t2 a1, b1⟩
  · obtain ⟨k1, k2, k3⟩ := vx_keep h0 e1 hS hAX hf hL hF
    obtain ⟨t2, a1, b1⟩ := kx E ce q u t T'.heap (locs ++ L) e1.symm (by rw [← e2]; exact X'.warmed.alike) hp hb k1 k2 k3 (by rw [e1]; exact hce) hcv hcl T' rfl X'
    exact ⟨t2, st.trans a1, b1⟩
theorem vx_callf {S SX : Type} {post : UInt32 → S → Prop} {px : SX → Prop} {B : S → State → Prop} {BX : String → SX → State → Prop} {AX : Nat → Prop} (hr : vx_Run p l e R s m args below meth c H locs cells slots mc ms (F0 m pc ls st0) rest (va_Qf post B A1 a) (vx_X px BX AX) free) (hS : va_S A0 H0 H locs) (hA : ∀ q, q < H.size → A1 q → A0 q) (hf : ∀ q, free q → A0 q) (hAX : ∀ q, q < H.size → AX q → A0 q)
    (kx : ∀ (E : String) (ce : Cell) (q9 : Addr) (u : SX) (t : State) (H1 : Heap) (locs1 : List Loc), t.heap = H1 → s.vm.Alike t.vm → px u → BX E u t → H.size ≤ H1.size → (∀ q : Nat, q < H.size → ¬ AX q → H1[q]? = H[q]?) → va_S A0 H0 H1 locs1 → H1[q9]? = some ce → ce.vm = .none → s.vm.findClass E = some ce.cls → vx_W p l e R s m args below meth c H1 locs1 (cells + mc) (slots + ms) Q (F0 m pc ls rest) q9)
    (kk : ∀ (r : UInt32) (u : S) (t : State) (H1 : Heap) (locs1 : List Loc), t.heap = H1 → s.vm.Alike t.vm → post r u → B u t → H.size ≤ H1.size → (∀ q : Nat, q < H.size → ¬ A1 q → H1[q]? = H[q]?) → va_S A0 H0 H1 locs1 → W p l e R s m args below meth c H1 locs1 (cells + mc) (slots + ms) Q (F0 m (pc + 3) ls (.float r :: rest))) : W p l e R s m args below meth c H locs cells slots Q (F0 m pc ls st0) := by
  intro T hT X
  rcases hr T hT X with ⟨v, st₀, t, T', L, h0, X', hL, e1, e2, ⟨⟨r, u, hv, hp, hb⟩, hF⟩, st⟩ | ⟨q, st₀, t, T', L, E, ce, h0, X', hL, e1, e2, ⟨u, hp, hb, hF⟩, hce, hcv, hcl, st⟩
  · cases hv
    obtain ⟨k1, k2, k3⟩ := vx_keep h0 e1 hS hA hf hL hF
    obtain ⟨t2, a1, b1⟩ := kk r u t T'.heap (locs ++ L) e1.symm (by rw [← e2]; exact X'.warmed.alike) hp hb k1 k2 k3 T' rfl X'
    exact ⟨t2, st t2 a1, b1⟩
  · obtain ⟨k1, k2, k3⟩ := vx_keep h0 e1 hS hAX hf hL hF
    obtain ⟨t2, a1, b1⟩ := kx E ce q u t T'.heap (locs ++ L) e1.symm (by rw [← e2]; exact X'.warmed.alike) hp hb k1 k2 k3 (by rw [e1]; exact hce) hcv hcl T' rfl X'
    exact ⟨t2, st.trans a1, b1⟩
theorem vx_calld {S SX : Type} {post : UInt64 → S → Prop} {px : SX → Prop} {B : S → State → Prop} {BX : String → SX → State → Prop} {AX : Nat → Prop} (hr : vx_Run p l e R s m args below meth c H locs cells slots mc ms (F0 m pc ls st0) rest (va_Qd post B A1 a) (vx_X px BX AX) free) (hS : va_S A0 H0 H locs) (hA : ∀ q, q < H.size → A1 q → A0 q) (hf : ∀ q, free q → A0 q) (hAX : ∀ q, q < H.size → AX q → A0 q)
    (kx : ∀ (E : String) (ce : Cell) (q9 : Addr) (u : SX) (t : State) (H1 : Heap) (locs1 : List Loc), t.heap = H1 → s.vm.Alike t.vm → px u → BX E u t → H.size ≤ H1.size → (∀ q : Nat, q < H.size → ¬ AX q → H1[q]? = H[q]?) → va_S A0 H0 H1 locs1 → H1[q9]? = some ce → ce.vm = .none → s.vm.findClass E = some ce.cls → vx_W p l e R s m args below meth c H1 locs1 (cells + mc) (slots + ms) Q (F0 m pc ls rest) q9)
    (kk : ∀ (r : UInt64) (u : S) (t : State) (H1 : Heap) (locs1 : List Loc), t.heap = H1 → s.vm.Alike t.vm → post r u → B u t → H.size ≤ H1.size → (∀ q : Nat, q < H.size → ¬ A1 q → H1[q]? = H[q]?) → va_S A0 H0 H1 locs1 → W p l e R s m args below meth c H1 locs1 (cells + mc) (slots + ms) Q (F0 m (pc + 3) ls (.double r :: rest))) : W p l e R s m args below meth c H locs cells slots Q (F0 m pc ls st0) := by
  intro T hT X
  rcases hr T hT X with ⟨v, st₀, t, T', L, h0, X', hL, e1, e2, ⟨⟨r, u, hv, hp, hb⟩, hF⟩, st⟩ | ⟨q, st₀, t, T', L, E, ce, h0, X', hL, e1, e2, ⟨u, hp, hb, hF⟩, hce, hcv, hcl, st⟩
  · cases hv
    obtain ⟨k1, k2, k3⟩ := vx_keep h0 e1 hS hA hf hL hF
    obtain ⟨t2, a1, b1⟩ := kk r u t T'.heap (locs ++ L) e1.symm (by rw [← e2]; exact X'.warmed.alike) hp hb k1 k2 k3 T' rfl X'
    exact ⟨t2, st t2 a1, b1⟩
  · obtain ⟨k1, k2, k3⟩ := vx_keep h0 e1 hS hAX hf hL hF
    obtain ⟨t2, a1, b1⟩ := kx E ce q u t T'.heap (locs ++ L) e1.symm (by rw [← e2]; exact X'.warmed.alike) hp hb k1 k2 k3 (by rw [e1]; exact hce) hcv hcl T' rfl X'
    exact ⟨t2, st.trans a1, b1⟩
theorem vx_callv {S SX : Type} {post : S → Prop} {px : SX → Prop} {B : S → State → Prop} {BX : String → SX → State → Prop} {AX : Nat → Prop} (hr : vx_Run p l e R s m args below meth c H locs cells slots mc ms (F0 m pc ls st0) rest (va_Qv post B A1 a) (vx_X px BX AX) free) (hS : va_S A0 H0 H locs) (hA : ∀ q, q < H.size → A1 q → A0 q) (hf : ∀ q, free q → A0 q) (hAX : ∀ q, q < H.size → AX q → A0 q)
    (kx : ∀ (E : String) (ce : Cell) (q9 : Addr) (u : SX) (t : State) (H1 : Heap) (locs1 : List Loc), t.heap = H1 → s.vm.Alike t.vm → px u → BX E u t → H.size ≤ H1.size → (∀ q : Nat, q < H.size → ¬ AX q → H1[q]? = H[q]?) → va_S A0 H0 H1 locs1 → H1[q9]? = some ce → ce.vm = .none → s.vm.findClass E = some ce.cls → vx_W p l e R s m args below meth c H1 locs1 (cells + mc) (slots + ms) Q (F0 m pc ls rest) q9)
    (kk : ∀ (u : S) (t : State) (H1 : Heap) (locs1 : List Loc), t.heap = H1 → s.vm.Alike t.vm → post u → B u t → H.size ≤ H1.size → (∀ q : Nat, q < H.size → ¬ A1 q → H1[q]? = H[q]?) → va_S A0 H0 H1 locs1 → W p l e R s m args below meth c H1 locs1 (cells + mc) (slots + ms) Q (F0 m (pc + 3) ls (rest))) : W p l e R s m args below meth c H locs cells slots Q (F0 m pc ls st0) := by
  intro T hT X
  rcases hr T hT X with ⟨v, st₀, t, T', L, h0, X', hL, e1, e2, ⟨⟨u, hv, hp, hb⟩, hF⟩, st⟩ | ⟨q, st₀, t, T', L, E, ce, h0, X', hL, e1, e2, ⟨u, hp, hb, hF⟩, hce, hcv, hcl, st⟩
  · cases hv
    obtain ⟨k1, k2, k3⟩ := vx_keep h0 e1 hS hA hf hL hF
    obtain ⟨t2, a1, b1⟩ := kk u t T'.heap (locs ++ L) e1.symm (by rw [← e2]; exact X'.warmed.alike) hp hb k1 k2 k3 T' rfl X'
    exact ⟨t2, st t2 a1, b1⟩
  · obtain ⟨k1, k2, k3⟩ := vx_keep h0 e1 hS hAX hf hL hF
    obtain ⟨t2, a1, b1⟩ := kx E ce q u t T'.heap (locs ++ L) e1.symm (by rw [← e2]; exact X'.warmed.alike) hp hb k1 k2 k3 (by rw [e1]; exact hce) hcv hcl T' rfl X'
    exact ⟨t2, st.trans a1, b1⟩
/-- caught by the row x of this method's table; the rows ahead don't take it -/
theorem vx_catch {own name : String} {E : String} {ce : Cell} {q : Addr} (hown : s.vm.findClass own = some m.cls) (pre : List ExceptionTableEntry) (x : ExceptionTableEntry) (suf : List ExceptionTableEntry) (hsplit : c.exceptionTable.toList = pre ++ x :: suf)
    (hpass : ∀ z ∈ pre, covers z pc = false ∨ (z.catchType ≠ 0 ∧ ∃ nm : String, (Cond.classLink own z.catchType nm).before args s = true ∧ va_Nc E nm s)) (hx : covers x pc = true) (h0 : x.catchType ≠ 0)
    (hlink : (Cond.classLink own x.catchType name).before args s = true) (hcast : (Cond.castable E name).before args s = true) (hcell : H[q]? = some ce) (hv : ce.vm = .none) (hcl : s.vm.findClass E = some ce.cls)
    (kk : W p l e R s m args below meth c H locs cells slots Q (F0 m x.handlerPc ls [.ref q])) : vx_W p l e R s m args below meth c H locs cells slots Q (F0 m pc ls rest) q := by
  intro T hT X
  have hpl : e.platform.magicAccessors = ({} : Platform).magicAccessors := by rw [X.admits.platform]
  obtain ⟨c3, c4, hc3, hc4, hasg⟩ := Cond.castable_spec hcast
  cases Option.some.inj (hc3.symm.trans hcl)
  obtain ⟨c5, hc5, hcl5⟩ := Cond.classLink_spec hown hlink e.platform hpl
  cases Option.some.inj (hc4.symm.trans hc5)
  obtain ⟨vm', X', st⟩ := X.thenCaughtThrough q (g := F0 m pc ls rest) rfl (Steps.refl _) (by rw [hT]; exact hcell) (by rw [hv]; rfl) (by obtain ⟨k9, h9, -⟩ := Vm.findClass_spec hcl; exact ⟨k9, h9⟩) pre x suf hsplit
    (fun z hz => by
      rcases hpass z hz with h | ⟨hz0, nm, hl1, hn1⟩
      · exact Or.inl h
      · obtain ⟨c6, hc6, hcl6⟩ := Cond.classLink_spec hown hl1 e.platform hpl
        obtain ⟨a8, b8, h1, h2, h3⟩ := hn1
        cases Option.some.inj (h1.symm.trans hcl)
        cases Option.some.inj (h2.symm.trans hc6)
        exact Or.inr ⟨hz0, _, hcl6, h3⟩) hx (Or.inr ⟨h0, c4, hcl5, hasg⟩)
  obtain ⟨t, a1, b1⟩ := kk (T.setVm vm') hT X'
  exact ⟨t, st.trans a1, b1⟩
end Rows
section Ends
variable {p : Program} {l : Launch} {e : Env} {R : Room} {s : State} {m : MethodId} {args : Array Value} {below : List Frame} {meth : Method} {c : Code} {H : Heap} {locs : List Loc} {cells slots : Nat} {Q : State → Prop}
variable {mc ms : Nat} {free : Addr → Prop} {A0 A1 : Nat → Prop} {H0 : Heap} {a : Array Value} {ls : Array Slot} {st0 rest : List Value}
variable {Qc : Array Value → State → Outcome → State → Prop} {XC : String → State → State → Prop}
/-- what a body that may throw owes at its end -/
def vx_MQ (below : List Frame) (Qc : Array Value → State → Outcome → State → Prop) (XC : String → State → State → Prop) (a : Array Value) (s : State) (mc ms : Nat) (free : Addr → Prop) : State → Prop := fun t =>
  ∃ o, t.status = .running ∧ Ended t below o ∧ vx_Q Qc XC mc ms free a s o t
theorem vx_ret {g : JFrame} {mc ms : Nat} (k : W p l e R s m args below meth c H locs cells slots (MQ below Qc args s mc ms free) g) : W p l e R s m args below meth c H locs cells slots (vx_MQ below Qc XC args s mc ms free) g := by
  intro T hT X
  obtain ⟨t, a1, o, b1, b2, b3, b4⟩ := k T hT X
  exact ⟨t, a1, o, b1, b2, Or.inl ⟨b3, b4⟩⟩
/-- not caught here: it goes on to the caller -/
theorem vx_widen {g : JFrame} {q : Addr} {k n : Nat} (h1 : cells ≤ k) (h2 : slots ≤ n) (kk : vx_W p l e R s m args below meth c H locs k n Q g q) : vx_W p l e R s m args below meth c H locs cells slots Q g q := fun T hT X => kk T hT (stand_widen X h1 h2)
theorem vx_out {pc : Nat} {E : String} {ce : Cell} {q : Addr} {mc ms : Nat} (hout : ∀ x ∈ c.exceptionTable.toList, covers x pc = false) (hlocks : meth.locks = false) (hcell : H[q]? = some ce) (hv : ce.vm = .none) (hcl : s.vm.findClass E = some ce.cls)
    (hx : ∀ t : State, t.heap = H → s.vm.Alike t.vm → XC E s t) (hf : ∀ z ∈ locs, free z.base) (hc : cells ≤ mc) (hs : slots ≤ ms) :
    vx_W p l e R s m args below meth c H locs cells slots (vx_MQ below Qc XC args s mc ms free) (F0 m pc ls rest) q := by
  intro T hT X
  obtain ⟨st1, hrun, hend, hW, hsm⟩ := X.leaveThrown q (g := F0 m pc ls rest) rfl rfl rfl hout hlocks
  have hcell9 : (T.setFrames (.throwing q :: below)).heap[q]? = some ce := by
    show T.heap[q]? = some ce
    rw [hT]; exact hcell
  exact ⟨_, st1, .threw q, hrun, hend, Or.inr ⟨q, rfl, E, ce, locs, hx _ hT hW.alike, hcell9, hv, hcl, hW, hsm.mono hc hs, hf⟩⟩
theorem vx_frame {U : State} {k n : Nat} (h : s.sameButNew ({ U with vm := s.vm } : State) locs k n) : s.heap.size ≤ U.heap.size ∧ ∀ q : Nat, q < s.heap.size → (∀ z ∈ locs, z.base ≠ q) → U.heap[q]? = s.heap[q]? := by
  obtain ⟨-, h2, -, -, -, h6⟩ := h
  refine ⟨h2, fun q hq hz => ?_⟩
  obtain ⟨c9, e1, e2, e3, e4⟩ := h6 q _ (Array.getElem?_eq_getElem hq)
  have hs : c9.slots = (s.heap[q]).slots := Array.ext_getElem? fun i => e4 i fun hm => hz _ hm rfl
  have h9 : c9 = s.heap[q] := by
    rw [hs] at e2
    exact e2
  have e5 : U.heap[q]? = some c9 := e1
  rw [e5, h9, Array.getElem?_eq_getElem hq]
/-- the words of a throw but the four that speak of the heap -/
def vx_no (w : Cond) : Bool := decide (w ≠ .isRef (.static Bundle.tN "UNASSIGNED_STACK" Bundle.steD)) && decide (w ≠ .isRef (.static Bundle.tN "SUPPRESSED_SENTINEL" Bundle.listD)) && decide (w ≠ .laysStatic Bundle.tN "UNASSIGNED_STACK" Bundle.steD) && decide (w ≠ .laysStatic Bundle.tN "SUPPRESSED_SENTINEL" Bundle.listD)
def vx_at0 (own : String) (ic : Nat) (X : String) (names : List String) : List Cond := (Bundle.ownAtoms0 own ic X names).filter vx_no
def vx_atS (own : String) (ic : Nat) (X : String) (names : List String) : List Cond := (Bundle.ownAtoms own ic X names).filter vx_no
/-- a word that the tables alone decide, or a good one -/
def vx_ot (w : Cond) : Bool := w.onTables || goodWord w
theorem vx_ot_at {args a' : Array Value} {s U : State} {w : Cond} (hW : s.WarmedH U.vm) (hvm : s.vm = U.vm) (hg : vx_ot w = true) (h : w.before args s = true) : w.before a' U = true := by
  simp only [vx_ot, Bool.or_eq_true] at hg
  rcases hg with hg | hg
  · exact va_tabs hg hvm h
  · exact word_at hW (good_of_word hg) h
/-- a list's words: the good ones out of the method's own list, the others by premises of their own -/
theorem vx_hat {args : Array Value} {s : State} {L B : List Cond} (h1 : ∀ w ∈ L.filter goodWord, w.before args s = true) (h2 : ∀ w ∈ L.filter (fun w => !goodWord w), w ∈ B) (h3 : ∀ w ∈ B, w.before args s = true) : ∀ w ∈ L, w.before args s = true := by
  intro w hw
  by_cases g : goodWord w = true
  · exact h1 w (List.mem_filter.mpr ⟨hw, g⟩)
  · refine h3 w (h2 w (List.mem_filter.mpr ⟨hw, ?_⟩))
    show (!goodWord w) = true
    cases hgw : goodWord w
    · rfl
    · exact absurd hgw g
theorem vx_c {args : Array Value} {s : State} {w : Cond} {B : List Cond} (h : w.before args s = true) (t : ∀ w ∈ B, w.before args s = true) : ∀ w' ∈ w :: B, w'.before args s = true := fun w' h' => (List.mem_cons.mp h').elim (fun e => by rw [e]; exact h) (t w')
theorem vx_n {args : Array Value} {s : State} : ∀ w ∈ ([] : List Cond), w.before args s = true := fun _ h => nomatch h
theorem vx_own {args : Array Value} {s : State} {L : List Cond} (h1 : ∀ w ∈ L.filter vx_no, w.before args s = true)
    (hU : (Cond.isRef (.static Bundle.tN "UNASSIGNED_STACK" Bundle.steD)).before args s = true) (hN : (Cond.isRef (.static Bundle.tN "SUPPRESSED_SENTINEL" Bundle.listD)).before args s = true)
    (lU : (Cond.laysStatic Bundle.tN "UNASSIGNED_STACK" Bundle.steD).before args s = true) (lN : (Cond.laysStatic Bundle.tN "SUPPRESSED_SENTINEL" Bundle.listD).before args s = true) : ∀ w ∈ L, w.before args s = true := by
  intro w hw
  by_cases e1 : w = .isRef (.static Bundle.tN "UNASSIGNED_STACK" Bundle.steD)
  · rw [e1]; exact hU
  · by_cases e2 : w = .isRef (.static Bundle.tN "SUPPRESSED_SENTINEL" Bundle.listD)
    · rw [e2]; exact hN
    · by_cases e3 : w = .laysStatic Bundle.tN "UNASSIGNED_STACK" Bundle.steD
      · rw [e3]; exact lU
      · by_cases e4 : w = .laysStatic Bundle.tN "SUPPRESSED_SENTINEL" Bundle.listD
        · rw [e4]; exact lN
        · exact h1 w (List.mem_filter.mpr ⟨hw, by unfold vx_no; rw [decide_eq_true e1, decide_eq_true e2, decide_eq_true e3, decide_eq_true e4]; rfl⟩)
/-- where a static field lies, its class's statics cell in H -/
def vx_L (C n d : String) (A : Nat → Prop) (U : State) (H : Heap) : Prop := ∃ (c : ClassId) (k : Class) (i : Nat) (f : Field) (a : Nat) (cell : Cell), U.vm.findClass C = some c ∧ U.fieldFound? C n d = some (c, k, i, f) ∧ f.isStatic = true ∧ k.statics = some a ∧ H[a]? = some cell ∧ cell.vm.isStatics = true ∧ cell.cls = c ∧ f.slot < cell.slots.size ∧ k.staticTypes[f.slot]? = some f.type ∧ ¬ A a
theorem vx_L.moved {C n d : String} {A : Nat → Prop} {u U : State} {H : Heap} (hvm : u.vm.Alike U.vm) (h : vx_L C n d A u H) : vx_L C n d A U H := by
  obtain ⟨c, k, i, f, a, cell, h1, h2, h3, h4, h5, h6, h7, h8, h9, h10⟩ := h
  obtain ⟨k', hi', he⟩ := State.fieldFound?_setVm hvm h2
  exact ⟨c, k', i, f, a, cell, by rw [hvm.findClass]; exact h1, hi', h3, by rw [he]; exact h4, h5, h6, h7, h8, by rw [he]; exact h9, h10⟩
theorem vx_L.kept {C n d : String} {A : Nat → Prop} {U : State} {H H1 : Heap} (h : vx_L C n d A U H) (hq : ∀ a : Nat, a < H.size → ¬ A a → H1[a]? = H[a]?) : vx_L C n d A U H1 := by
  obtain ⟨c, k, i, f, a, cell, h1, h2, h3, h4, h5, h6, h7, h8, h9, h10⟩ := h
  exact ⟨c, k, i, f, a, cell, h1, h2, h3, h4, by rw [hq a (Array.getElem?_eq_some_iff.mp h5).1 h10]; exact h5, h6, h7, h8, h9, h10⟩
theorem vx_L.narrow {C n d : String} {A B : Nat → Prop} {U : State} {H : Heap} (h : vx_L C n d A U H) (hAB : ∀ q, B q → A q) : vx_L C n d B U H := by
  obtain ⟨c, k, i, f, a, cell, h1, h2, h3, h4, h5, h6, h7, h8, h9, h10⟩ := h
  exact ⟨c, k, i, f, a, cell, h1, h2, h3, h4, h5, h6, h7, h8, h9, fun z => h10 (hAB _ z)⟩
theorem vx_L.word {C n d : String} {A : Nat → Prop} {s : State} {args : Array Value} (h : vx_L C n d A s s.heap) : (Cond.laysStatic C n d).before args s = true := by
  obtain ⟨c, k, i, f, a, cell, h1, h2, h3, h4, h5, h6, h7, h8, h9, -⟩ := h
  show (Cond.laysStatic C n d).holds args s none s [] = true
  exact Cond.laysStatic_of h1 h2 h3 h4 h5 h6 h7 h8 h9
/-- .. and what it holds: null or some reference -/
def vx_Zq (C n d : String) (A : Nat → Prop) (U : State) (H : Heap) : Prop := va_Zq C n d A U H ∧ vx_L C n d A U H
theorem vx_Zq.moved {C n d : String} {A : Nat → Prop} {u U : State} {H : Heap} (hvm : u.vm.Alike U.vm) (h : vx_Zq C n d A u H) : vx_Zq C n d A U H := ⟨va_Zq.moved hvm h.1, vx_L.moved hvm h.2⟩
theorem vx_Zq.kept {C n d : String} {A : Nat → Prop} {U : State} {H H1 : Heap} (h : vx_Zq C n d A U H) (hq : ∀ a : Nat, a < H.size → ¬ A a → H1[a]? = H[a]?) : vx_Zq C n d A U H1 := ⟨va_Zq.kept h.1 hq, vx_L.kept h.2 hq⟩
theorem vx_Zq.narrow {C n d : String} {A B : Nat → Prop} {U : State} {H : Heap} (h : vx_Zq C n d A U H) (hAB : ∀ q, B q → A q) : vx_Zq C n d B U H := ⟨va_Zq.narrow h.1 hAB, vx_L.narrow h.2 hAB⟩
theorem vx_Zqof {args : Array Value} {s : State} {C n d : String} {A : Nat → Prop} (hl : (Cond.laysStatic C n d).before args s = true) (hini : (Cond.initialized C).before args s = true) (h : (Cond.isRef (.static C n d)).before args s = true) (hA : ∀ a : Nat, a < s.heap.size → ¬ A a) : vx_Zq C n d A s s.heap := by
  refine ⟨va_Zqof hl hini h hA, ?_⟩
  obtain ⟨c, k, i, f, a, cell, h1, h2, h3, h4, h5, h6, h7, h8, h9⟩ := Cond.laysStatic_spec hl
  exact ⟨c, k, i, f, a, cell, h1, h2, h3, h4, h5, h6, h7, h8, h9, hA a (Array.getElem?_eq_some_iff.mp h5).1⟩
theorem vx_isRef {C n d : String} {v : Value} {A : Nat → Prop} {s : State} {args : Array Value} (h : va_Z C n d v A s s.heap) (hv : v.isRef = true) : (Cond.isRef (.static C n d)).before args s = true := by
  obtain ⟨cf, kf, fi, f, a, cell, h1, h2, h3, h4, h5, h6, h7, -⟩ := h
  have he : (Term.static C n d).eval args s none [] s = some v := by
    simp [Term.eval, State.fieldNamed?, h1, h2, h4, h5, h6, h7]
  simp only [Cond.before, Cond.holds, Cond.value, he]
  cases v <;> simp_all [Value.isRef]
theorem vx_isRefq {C n d : String} {A : Nat → Prop} {s : State} {args : Array Value} (h : va_Zq C n d A s s.heap) : (Cond.isRef (.static C n d)).before args s = true := by
  rcases h with h | ⟨t, h⟩
  · exact vx_isRef h rfl
  · exact vx_isRef h rfl
/-- the same frame, seen from here: as if the method were called anew in this heap -/
theorem vx_rebase {T : State} (X : Stand p l e R s m args below meth c T locs cells slots) {R' : Room} (hf : R'.frames ≤ R.frames) (hl : R'.locals ≤ R.locals) (hc : cells + R'.cells ≤ R.cells) (hs : slots + R'.slots ≤ R.slots) :
    Stand p l e R' ((T.setVm s.vm).setFrames (.invoking m args :: below)) m args below meth c T [] 0 0 := by
  have htop : (T.setVm s.vm).topJava?.isSome := X.here.top
  have hF : ((T.setVm s.vm).setFrames (.invoking m args :: below)).frames = .invoking m args :: below := State.frames_setFrames _ (State.cur_lt_of_top htop)
  obtain ⟨g₀, hg0⟩ := Option.isSome_iff_exists.mp htop
  obtain ⟨r, hr⟩ := State.topJava?_eq_some.mp hg0
  have hl9 : e.platform.stackLimits (T.setVm s.vm).me = e.platform.stackLimits s.me := X.limits
  have hb9 : (T.setVm s.vm).me.stackBytes = s.me.stackBytes := X.bytes
  refine ⟨X.admits, X.cas, X.clock, hF, ?_, X.hears, X.method, X.code, X.here, X.tail, X.warmed, ?_, ?_, ?_⟩
  · have h := X.room
    have hU : ((T.setVm s.vm).setFrames (.invoking m args :: below)).localsInUse = s.localsInUse := by
      rw [State.localsInUse_invoking hF (meth := meth) (c := c) X.method X.code, State.localsInUse_invoking X.frames X.method X.code]
    simp only [State.hasRoom, Bool.and_eq_true, decide_eq_true_eq] at h ⊢
    obtain ⟨⟨⟨⟨h1, h2, h3, h4, h5, h6⟩, h7⟩, h8⟩, h9⟩ := h
    rw [X.frames, List.length_cons] at h2 h3
    have q1 := X.heapSize
    have q2 := X.used
    simp only [hF, hU, List.length_cons, State.stackLimits_setFrames, State.stackBytes_setFrames, hl9, hb9]
    refine ⟨⟨⟨⟨by omega, by omega, by omega, by omega, by omega, h6⟩, ?_⟩, ?_⟩, X.book⟩
    · show T.heap.size + R'.cells ≤ e.platform.maxCells
      omega
    · show T.slotsUsed + R'.slots ≤ e.platform.maxSlots
      omega
  · rw [State.stackLimits_setFrames]; rfl
  · rw [State.stackBytes_setFrames]; rfl
  · refine ⟨?_, Nat.le_refl _, Nat.le_refl _, ?_, ?_, fun a c9 h9 => ⟨c9, h9, rfl, rfl, fun _ _ => rfl⟩⟩
    · obtain ⟨t, ht, -⟩ := State.frames_cons hr
      show T.setVm s.vm = { ((T.setVm s.vm).setFrames (.invoking m args :: below)).setFrames (T.setVm s.vm).frames with heap := T.heap, slotsUsed := T.slotsUsed }
      rw [State.setFrames_setFrames, State.setFrames_self ht]
      rfl
    · show T.slotsUsed = T.slotsUsed + ((T.heap.toList.drop T.heap.size).map (·.slots.size)).sum
      rw [List.drop_eq_nil_of_le (Nat.le_of_eq Array.length_toList)]
      rfl
    · show ((T.heap.toList.drop T.heap.size).map (·.slots.size)).sum ≤ 0
      rw [List.drop_eq_nil_of_le (Nat.le_of_eq Array.length_toList)]
      exact Nat.le_refl _
/-- 'throw new E()': new; dup; invokespecial; athrow -/
theorem vx_throw0 {cc : ByteArray} {pc : Nat} (hexec : p.tables.exec = Jvm.exec) (hb : c.code = cc) (hl : l.stackTraces = false) {own cls : String} {names : List String} {ik ic mc ms : Nat} {A : Nat → Prop}
    (hown : s.vm.findClass own = some m.cls) (hcls : Bundle.fit cls = true) (hnames : ∀ n ∈ names, Bundle.fit n = true)
    (hk : (Cond.classLink own ik cls).before args s = true) (hini : (Cond.initialized cls).before args s = true) (hat : ∀ w ∈ vx_at0 own ic cls names, w.before args s = true)
    (hgood : ∀ w ∈ Cond.classLink own ik cls :: Cond.initialized cls :: vx_at0 own ic cls names, vx_ot w = true)
    (hU : vx_Zq Bundle.tN "UNASSIGNED_STACK" Bundle.steD A s s.heap) (hN : vx_Zq Bundle.tN "SUPPRESSED_SENTINEL" Bundle.listD A s s.heap) (hS : va_S A s.heap H locs) (hsize : ls.size = c.maxLocals)
    (d0 : decode cc pc = .ok (.new ik, 3)) (d3 : decode cc (pc + 3) = .ok (.dup, 1)) (d4 : decode cc (pc + 4) = .ok (.invokespecial ic, 3)) (d7 : decode cc (pc + 7) = .ok (.athrow, 1))
    (hout : ∀ x ∈ c.exceptionTable.toList, covers x (pc + 7) = false)
    (hRframes : names.length + 3 < R.frames) (hRlocals : (rest.map fun v => v.category).sum + (13 * (names.length + 1) + 42) ≤ R.locals) (hRcells : cells + 1 ≤ R.cells) (hRslots : slots + 6 ≤ R.slots) (hlocks : meth.locks = false)
    (hx : ∀ t : State, s.vm.Alike t.vm → H.size ≤ t.heap.size → (∀ q : Nat, q < H.size → t.heap[q]? = H[q]?) → XC cls s t)
    (hf : ∀ z ∈ locs, free z.base) (hc : cells + 1 ≤ mc) (hs : slots + 6 ≤ ms) :
    W p l e R s m args below meth c H locs cells slots (vx_MQ below Qc XC args s mc ms free) (F0 m pc ls rest) := by
  intro T hT X
  have htr : e.platform.stackTraces = false := (show e.platform.stackTraces = l.stackTraces by rw [X.admits.platform]).trans hl
  have Y := vx_rebase X (R' := { frames := R.frames, locals := R.locals, cells := 1, slots := 6 }) (Nat.le_refl _) (Nat.le_refl _) hRcells hRslots
  obtain ⟨s', hA⟩ : ∃ z, z = (T.setVm s.vm).setFrames (.invoking m args :: below) := ⟨_, rfl⟩
  rw [← hA] at Y
  have hvm : s'.vm = s.vm := by rw [hA]; rfl
  have hhp : s'.heap = H := by rw [hA]; exact hT
  have hW0 : s.WarmedH s'.vm := by rw [hvm]; exact State.WarmedH.refl s
  have hat' : ∀ w ∈ vx_at0 own ic cls names, w.before args s' = true := fun w hw => vx_ot_at hW0 hvm.symm (hgood w (List.mem_cons_of_mem _ (List.mem_cons_of_mem _ hw))) (hat w hw)
  have hk' : (Cond.classLink own ik cls).before args s' = true := vx_ot_at hW0 hvm.symm (hgood _ List.mem_cons_self) hk
  have hini' : (Cond.initialized cls).before args s' = true := vx_ot_at hW0 hvm.symm (hgood _ (List.mem_cons_of_mem _ List.mem_cons_self)) hini
  have hU' : vx_Zq Bundle.tN "UNASSIGNED_STACK" Bundle.steD A s' s'.heap := by rw [hhp]; exact vx_Zq.moved hW0.alike (hU.kept hS.2.1)
  have hN' : vx_Zq Bundle.tN "SUPPRESSED_SENTINEL" Bundle.listD A s' s'.heap := by rw [hhp]; exact vx_Zq.moved hW0.alike (hN.kept hS.2.1)
  have h : ∀ w ∈ Bundle.ownAtoms0 own ic cls names, w.before args s' = true := vx_own hat' (vx_isRefq hU'.1) (vx_isRefq hN'.1) hU'.2.word hN'.2.word
  have hown' : s'.vm.findClass own = some m.cls := by rw [hvm]; exact hown
  have hins : (Cond.instantiable cls 6).before args s' = true := h _ (by simp [Bundle.ownAtoms0])
  obtain ⟨vm₁, cX, kX, hfX, hkX, -, -, X₁, st1⟩ := Y.newCold hexec (own := own) (C := cls) (index := ik) (n := 6) hown' hk' hins hini'
    (g := F0 m pc ls rest) rfl (by rw [hb]; exact d0) (Nat.le_refl _) (Nat.le_refl _)
  generalize hT1 : (T.setVm vm₁).pushCell { cls := cX, slots := kX.instanceTypes.map defaultValue, vm := .none } = T1 at X₁ st1
  have hcat : (Value.ref T.heap.size).category = 1 := rfl
  have hcellA : T1.heap[T.heap.size]? = some (freshCell cX kX) := by rw [← hT1]; exact State.heap_pushCell_size _ _
  have d3' : decode c.code (pc + 3) = .ok (.dup, 1) := by rw [hb]; exact d3
  obtain ⟨U, hsteps, hrun, hend, hW, hsame, ce, hce, hO⟩ := X₁.ctorThrow0 hexec htr (own := own) (cls := cls) (names := names) (ic := ic) hown' hcls hnames h (fun x hx => nomatch hx) hfX hkX hcellA (by rw [hhp, hT]; exact Nat.le_refl _)
    (g := { method := m, pc := pc + 4, locals := ls, stack := .ref T.heap.size :: .ref T.heap.size :: rest, locked := none }) rfl hsize rfl rfl (rest := rest) rfl
    (by rw [hb]; exact d4) (by rw [hb]; exact d7) hout hRframes (by simp only [List.map_cons, List.sum_cons, hcat]; omega) hlocks
  obtain ⟨f1, f2⟩ := vx_frame hsame
  rw [hhp] at f1 f2
  have hWs : s.WarmedH U.vm := State.WarmedH.trans hW0 hW
  have hcl : s.vm.findClass cls = some ce.cls := by
    have h9 := hO.cls
    rw [hvm] at h9
    exact h9
  have hall : s.sameButNew ({ U with vm := s.vm } : State) locs mc ms := by
    subst hA
    obtain ⟨e1, e2⟩ := hsame
    rw [State.setFrames_setFrames] at e1
    have h2 : (T.setVm s.vm).sameButNew ({ U with vm := s.vm } : State) [] (0 + 1) (0 + 6) := ⟨e1, e2⟩
    have h3 := X.same.trans h2
    rw [List.append_nil] at h3
    exact h3.mono hc hs
  refine ⟨U, ?_, .threw T.heap.size, hrun, hend, Or.inr ⟨T.heap.size, rfl, cls, ce, locs, hx U hWs.alike f1 (fun q hq => f2 q hq (fun z hz => nomatch hz)), hce, hO.vm, hcl, hWs, hall, hf⟩⟩
  refine st1 _ ?_
  show Steps p.tables e below (T1.setTop { method := m, pc := pc + 3, locals := ls, stack := .ref T.heap.size :: rest, locked := none }) _
  jvm_step X₁.here [X₁.here.top, hexec, d3', Value.category]
  exact hsteps
/-- 'throw new E("text")': new; dup; ldc; invokespecial; athrow -/
theorem vx_throwS {cc : ByteArray} {pc : Nat} (hexec : p.tables.exec = Jvm.exec) (hb : c.code = cc) (hl : l.stackTraces = false) {own cls text : String} {names : List String} {ik is ic mc ms sa : Nat} {A : Nat → Prop}
    (hown : s.vm.findClass own = some m.cls) (hcls : Bundle.fit cls = true) (hnames : ∀ n ∈ names, Bundle.fit n = true)
    (hk : (Cond.classLink own ik cls).before args s = true) (hini : (Cond.initialized cls).before args s = true) (hstr : vk_R own is text sa s) (hat : ∀ w ∈ vx_atS own ic cls names, w.before args s = true)
    (hgood : ∀ w ∈ Cond.classLink own ik cls :: Cond.initialized cls :: vx_atS own ic cls names, vx_ot w = true)
    (hU : vx_Zq Bundle.tN "UNASSIGNED_STACK" Bundle.steD A s s.heap) (hN : vx_Zq Bundle.tN "SUPPRESSED_SENTINEL" Bundle.listD A s s.heap) (hS : va_S A s.heap H locs) (hsize : ls.size = c.maxLocals)
    (d0 : decode cc pc = .ok (.new ik, 3)) (d3 : decode cc (pc + 3) = .ok (.dup, 1)) (d4 : decode cc (pc + 4) = .ok (.ldc is, 2)) (d6 : decode cc (pc + 6) = .ok (.invokespecial ic, 3)) (d9 : decode cc (pc + 9) = .ok (.athrow, 1))
    (hout : ∀ x ∈ c.exceptionTable.toList, covers x (pc + 9) = false)
    (hRframes : names.length + 3 < R.frames) (hRlocals : (rest.map fun v => v.category).sum + (13 * (names.length + 1) + 43) ≤ R.locals) (hRcells : cells + 1 ≤ R.cells) (hRslots : slots + 6 ≤ R.slots) (hlocks : meth.locks = false)
    (hx : ∀ t : State, s.vm.Alike t.vm → H.size ≤ t.heap.size → (∀ q : Nat, q < H.size → t.heap[q]? = H[q]?) → XC cls s t)
    (hf : ∀ z ∈ locs, free z.base) (hc : cells + 1 ≤ mc) (hs : slots + 6 ≤ ms) :
    W p l e R s m args below meth c H locs cells slots (vx_MQ below Qc XC args s mc ms free) (F0 m pc ls rest) := by
  intro T hT X
  have htr : e.platform.stackTraces = false := (show e.platform.stackTraces = l.stackTraces by rw [X.admits.platform]).trans hl
  have Y := vx_rebase X (R' := { frames := R.frames, locals := R.locals, cells := 1, slots := 6 }) (Nat.le_refl _) (Nat.le_refl _) hRcells hRslots
  obtain ⟨s', hA⟩ : ∃ z, z = (T.setVm s.vm).setFrames (.invoking m args :: below) := ⟨_, rfl⟩
  rw [← hA] at Y
  have hvm : s'.vm = s.vm := by rw [hA]; rfl
  have hhp : s'.heap = H := by rw [hA]; exact hT
  have hW0 : s.WarmedH s'.vm := by rw [hvm]; exact State.WarmedH.refl s
  have hat' : ∀ w ∈ vx_atS own ic cls names, w.before args s' = true := fun w hw => vx_ot_at hW0 hvm.symm (hgood w (List.mem_cons_of_mem _ (List.mem_cons_of_mem _ hw))) (hat w hw)
  have hk' : (Cond.classLink own ik cls).before args s' = true := vx_ot_at hW0 hvm.symm (hgood _ List.mem_cons_self) hk
  have hini' : (Cond.initialized cls).before args s' = true := vx_ot_at hW0 hvm.symm (hgood _ (List.mem_cons_of_mem _ List.mem_cons_self)) hini
  have hU' : vx_Zq Bundle.tN "UNASSIGNED_STACK" Bundle.steD A s' s'.heap := by rw [hhp]; exact vx_Zq.moved hW0.alike (hU.kept hS.2.1)
  have hN' : vx_Zq Bundle.tN "SUPPRESSED_SENTINEL" Bundle.listD A s' s'.heap := by rw [hhp]; exact vx_Zq.moved hW0.alike (hN.kept hS.2.1)
  have h : ∀ w ∈ Bundle.ownAtoms own ic cls names, w.before args s' = true := vx_own hat' (vx_isRefq hU'.1) (vx_isRefq hN'.1) hU'.2.word hN'.2.word
  have hown' : s'.vm.findClass own = some m.cls := by rw [hvm]; exact hown
  have hins : (Cond.instantiable cls 6).before args s' = true := h _ (by simp [Bundle.ownAtoms])
  obtain ⟨vm₁, cX, kX, hfX, hkX, -, -, X₁, st1⟩ := Y.newCold hexec (own := own) (C := cls) (index := ik) (n := 6) hown' hk' hins hini'
    (g := F0 m pc ls rest) rfl (by rw [hb]; exact d0) (Nat.le_refl _) (Nat.le_refl _)
  generalize hT1 : (T.setVm vm₁).pushCell { cls := cX, slots := kX.instanceTypes.map defaultValue, vm := .none } = T1 at X₁ st1
  have hcat : (Value.ref T.heap.size).category = 1 := rfl
  have hcellA : T1.heap[T.heap.size]? = some (freshCell cX kX) := by rw [← hT1]; exact State.heap_pushCell_size _ _
  have d3' : decode c.code (pc + 3) = .ok (.dup, 1) := by rw [hb]; exact d3
  have d4' : decode c.code (pc + 4) = .ok (.ldc is, 2) := by rw [hb]; exact d4
  have hstr' : vk_R own is text sa s' := vk_R.warm hW0 hstr
  obtain ⟨U, hsteps, hrun, hend, hW, hsame, ce, hce, hO⟩ := X₁.ctorThrowS hexec htr (own := own) (cls := cls) (names := names) (ic := ic) hown' hcls hnames h (fun x hx => nomatch hx) hfX hkX hcellA (by rw [hhp, hT]; exact Nat.le_refl _) (msg := .ref sa) rfl
    (g := { method := m, pc := pc + 6, locals := ls, stack := .ref sa :: .ref T.heap.size :: .ref T.heap.size :: rest, locked := none }) rfl hsize rfl rfl (rest := rest) rfl
    (by rw [hb]; exact d6) (by rw [hb]; exact d9) hout hRframes (by simp only [List.map_cons, List.sum_cons, hcat]; omega) hlocks
  obtain ⟨f1, f2⟩ := vx_frame hsame
  rw [hhp] at f1 f2
  have hWs : s.WarmedH U.vm := State.WarmedH.trans hW0 hW
  have hcl : s.vm.findClass cls = some ce.cls := by
    have h9 := hO.cls
    rw [hvm] at h9
    exact h9
  have hall : s.sameButNew ({ U with vm := s.vm } : State) locs mc ms := by
    subst hA
    obtain ⟨e1, e2⟩ := hsame
    rw [State.setFrames_setFrames] at e1
    have h2 : (T.setVm s.vm).sameButNew ({ U with vm := s.vm } : State) [] (0 + 1) (0 + 6) := ⟨e1, e2⟩
    have h3 := X.same.trans h2
    rw [List.append_nil] at h3
    exact h3.mono hc hs
  refine ⟨U, ?_, .threw T.heap.size, hrun, hend, Or.inr ⟨T.heap.size, rfl, cls, ce, locs, hx U hWs.alike f1 (fun q hq => f2 q hq (fun z hz => nomatch hz)), hce, hO.vm, hcl, hWs, hall, hf⟩⟩
  refine st1 _ ?_
  show Steps p.tables e below (T1.setTop { method := m, pc := pc + 3, locals := ls, stack := .ref T.heap.size :: rest, locked := none }) _
  jvm_step X₁.here [X₁.here.top, hexec, d3', Value.category]
  exact X₁.ldcString hexec (own := own) (text := text) (index := is) (a := sa) hown' hstr'.1 hstr'.2
    (g := { method := m, pc := pc + 4, locals := ls, stack := .ref T.heap.size :: .ref T.heap.size :: rest, locked := none }) rfl d4' _ hsteps
/-- 'throw new E("text")', the text by a wide index -/
theorem vx_throwSW {cc : ByteArray} {pc : Nat} (hexec : p.tables.exec = Jvm.exec) (hb : c.code = cc) (hl : l.stackTraces = false) {own cls text : String} {names : List String} {ik is ic mc ms sa : Nat} {A : Nat → Prop}
    (hown : s.vm.findClass own = some m.cls) (hcls : Bundle.fit cls = true) (hnames : ∀ n ∈ names, Bundle.fit n = true)
    (hk : (Cond.classLink own ik cls).before args s = true) (hini : (Cond.initialized cls).before args s = true) (hstr : vk_R own is text sa s) (hat : ∀ w ∈ vx_atS own ic cls names, w.before args s = true)
    (hgood : ∀ w ∈ Cond.classLink own ik cls :: Cond.initialized cls :: vx_atS own ic cls names, vx_ot w = true)
    (hU : vx_Zq Bundle.tN "UNASSIGNED_STACK" Bundle.steD A s s.heap) (hN : vx_Zq Bundle.tN "SUPPRESSED_SENTINEL" Bundle.listD A s s.heap) (hS : va_S A s.heap H locs) (hsize : ls.size = c.maxLocals)
    (d0 : decode cc pc = .ok (.new ik, 3)) (d3 : decode cc (pc + 3) = .ok (.dup, 1)) (d4 : decode cc (pc + 4) = .ok (.ldc_w is, 3)) (d7 : decode cc (pc + 7) = .ok (.invokespecial ic, 3)) (d10 : decode cc (pc + 10) = .ok (.athrow, 1))
    (hout : ∀ x ∈ c.exceptionTable.toList, covers x (pc + 10) = false)
    (hRframes : names.length + 3 < R.frames) (hRlocals : (rest.map fun v => v.category).sum + (13 * (names.length + 1) + 43) ≤ R.locals) (hRcells : cells + 1 ≤ R.cells) (hRslots : slots + 6 ≤ R.slots) (hlocks : meth.locks = false)
    (hx : ∀ t : State, s.vm.Alike t.vm → H.size ≤ t.heap.size → (∀ q : Nat, q < H.size → t.heap[q]? = H[q]?) → XC cls s t)
    (hf : ∀ z ∈ locs, free z.base) (hc : cells + 1 ≤ mc) (hs : slots + 6 ≤ ms) :
    W p l e R s m args below meth c H locs cells slots (vx_MQ below Qc XC args s mc ms free) (F0 m pc ls rest) := by
  intro T hT X
  have htr : e.platform.stackTraces = false := (show e.platform.stackTraces = l.stackTraces by rw [X.admits.platform]).trans hl
  have Y := vx_rebase X (R' := { frames := R.frames, locals := R.locals, cells := 1, slots := 6 }) (Nat.le_refl _) (Nat.le_refl _) hRcells hRslots
  obtain ⟨s', hA⟩ : ∃ z, z = (T.setVm s.vm).setFrames (.invoking m args :: below) := ⟨_, rfl⟩
  rw [← hA] at Y
  have hvm : s'.vm = s.vm := by rw [hA]; rfl
  have hhp : s'.heap = H := by rw [hA]; exact hT
  have hW0 : s.WarmedH s'.vm := by rw [hvm]; exact State.WarmedH.refl s
  have hat' : ∀ w ∈ vx_atS own ic cls names, w.before args s' = true := fun w hw => vx_ot_at hW0 hvm.symm (hgood w (List.mem_cons_of_mem _ (List.mem_cons_of_mem _ hw))) (hat w hw)
  have hk' : (Cond.classLink own ik cls).before args s' = true := vx_ot_at hW0 hvm.symm (hgood _ List.mem_cons_self) hk
  have hini' : (Cond.initialized cls).before args s' = true := vx_ot_at hW0 hvm.symm (hgood _ (List.mem_cons_of_mem _ List.mem_cons_self)) hini
  have hU' : vx_Zq Bundle.tN "UNASSIGNED_STACK" Bundle.steD A s' s'.heap := by rw [hhp]; exact vx_Zq.moved hW0.alike (hU.kept hS.2.1)
  have hN' : vx_Zq Bundle.tN "SUPPRESSED_SENTINEL" Bundle.listD A s' s'.heap := by rw [hhp]; exact vx_Zq.moved hW0.alike (hN.kept hS.2.1)
  have h : ∀ w ∈ Bundle.ownAtoms own ic cls names, w.before args s' = true := vx_own hat' (vx_isRefq hU'.1) (vx_isRefq hN'.1) hU'.2.word hN'.2.word
  have hown' : s'.vm.findClass own = some m.cls := by rw [hvm]; exact hown
  have hins : (Cond.instantiable cls 6).before args s' = true := h _ (by simp [Bundle.ownAtoms])
  obtain ⟨vm₁, cX, kX, hfX, hkX, -, -, X₁, st1⟩ := Y.newCold hexec (own := own) (C := cls) (index := ik) (n := 6) hown' hk' hins hini'
    (g := F0 m pc ls rest) rfl (by rw [hb]; exact d0) (Nat.le_refl _) (Nat.le_refl _)
  generalize hT1 : (T.setVm vm₁).pushCell { cls := cX, slots := kX.instanceTypes.map defaultValue, vm := .none } = T1 at X₁ st1
  have hcat : (Value.ref T.heap.size).category = 1 := rfl
  have hcellA : T1.heap[T.heap.size]? = some (freshCell cX kX) := by rw [← hT1]; exact State.heap_pushCell_size _ _
  have d3' : decode c.code (pc + 3) = .ok (.dup, 1) := by rw [hb]; exact d3
  have d4' : decode c.code (pc + 4) = .ok (.ldc_w is, 3) := by rw [hb]; exact d4
  have hstr' : vk_R own is text sa s' := vk_R.warm hW0 hstr
  obtain ⟨U, hsteps, hrun, hend, hW, hsame, ce, hce, hO⟩ := X₁.ctorThrowS hexec htr (own := own) (cls := cls) (names := names) (ic := ic) hown' hcls hnames h (fun x hx => nomatch hx) hfX hkX hcellA (by rw [hhp, hT]; exact Nat.le_refl _) (msg := .ref sa) rfl
    (g := { method := m, pc := pc + 7, locals := ls, stack := .ref sa :: .ref T.heap.size :: .ref T.heap.size :: rest, locked := none }) rfl hsize rfl rfl (rest := rest) rfl
    (by rw [hb]; exact d7) (by rw [hb]; exact d10) hout hRframes (by simp only [List.map_cons, List.sum_cons, hcat]; omega) hlocks
  obtain ⟨f1, f2⟩ := vx_frame hsame
  rw [hhp] at f1 f2
  have hWs : s.WarmedH U.vm := State.WarmedH.trans hW0 hW
  have hcl : s.vm.findClass cls = some ce.cls := by
    have h9 := hO.cls
    rw [hvm] at h9
    exact h9
  have hall : s.sameButNew ({ U with vm := s.vm } : State) locs mc ms := by
    subst hA
    obtain ⟨e1, e2⟩ := hsame
    rw [State.setFrames_setFrames] at e1
    have h2 : (T.setVm s.vm).sameButNew ({ U with vm := s.vm } : State) [] (0 + 1) (0 + 6) := ⟨e1, e2⟩
    have h3 := X.same.trans h2
    rw [List.append_nil] at h3
    exact h3.mono hc hs
  refine ⟨U, ?_, .threw T.heap.size, hrun, hend, Or.inr ⟨T.heap.size, rfl, cls, ce, locs, hx U hWs.alike f1 (fun q hq => f2 q hq (fun z hz => nomatch hz)), hce, hO.vm, hcl, hWs, hall, hf⟩⟩
  refine st1 _ ?_
  show Steps p.tables e below (T1.setTop { method := m, pc := pc + 3, locals := ls, stack := .ref T.heap.size :: rest, locked := none }) _
  jvm_step X₁.here [X₁.here.top, hexec, d3', Value.category]
  exact X₁.ldcStringW hexec (own := own) (text := text) (index := is) (a := sa) hown' hstr'.1 hstr'.2
    (g := { method := m, pc := pc + 4, locals := ls, stack := .ref T.heap.size :: .ref T.heap.size :: rest, locked := none }) rfl d4' _ hsteps
end Ends
section Bodies
variable {l : Launch}
theorem vx_ofW {y : MethodName} {ws ws' : List Cond} {rm : Room} {Pc : Array Value → State → Prop} {Qc : Array Value → State → Outcome → State → Prop} {XC : String → State → State → Prop} {mc ms : Nat} {free : Addr → Prop} {cc : ByteArray} {maxL : Nat} {ret : Option FieldType}
    (hy : plainName y.cls = true) (hw : ws = Cond.code y cc maxL ret :: ws')
    (body : ∀ p e s m args below meth c s₁, BodyLoose p l y (headSpec ws rm) cc maxL ret e s m args below meth c s₁ → c.maxLocals = maxL → (∀ x ∈ c.exceptionTable.toList, False) → Pc args s →
      W p l e (headSpec ws rm).room s m args below meth c s.heap [] 0 0 (vx_MQ below Qc XC args s mc ms free) (entryFrame m args maxL)) : vx_Met l y ws rm Pc Qc XC mc ms free := by
  refine MetFree.of_bodyS (code := cc) (maxLocals := maxL) (ret := ret) hy ?_ ?_
  · intro args s m h hn
    obtain ⟨meth, c, h1, h2, h3, h4, h5, h6, -, -⟩ := Cond.code_spec hn (atoms_spec (ws := ws) h _ (by rw [hw]; exact List.mem_cons_self))
    exact ⟨meth, c, h1, h2, h3, h4, h5, h6⟩
  · intro p e s m args below meth c s₁ B hml hP _
    have hh0 : s₁.heap = s.heap := by rw [B.state]; rfl
    have ht : ∀ x ∈ c.exceptionTable.toList, False := by
      obtain ⟨meth9, c9, h1, h2, -, -, -, -, h7, -⟩ := Cond.code_spec B.named (atoms_spec (ws := ws) B.pre _ (by rw [hw]; exact List.mem_cons_self))
      cases Option.some.inj (h1.symm.trans B.method)
      cases Option.some.inj (h2.symm.trans (Stand.of_body B).code)
      intro x hx
      rw [Array.isEmpty_iff.mp h7] at hx
      cases hx
    obtain ⟨t, a1, o, b1, b2, b3⟩ := body p e s m args below meth c s₁ B hml ht hP s₁ hh0 (Stand.of_body B)
    exact ⟨t, o, a1, b1, b2, b3⟩
/-- the table of a body with handlers -/
theorem vx_table {p : Program} {x y : MethodName} {S : Spec} {cc bytes : ByteArray} {maxL maxL' : Nat} {ret ret' : Option FieldType} {e : Env} {s s₁ : State} {m : MethodId} {args : Array Value} {below : List Frame} {meth : Method} {c : Code} {hh : List (Nat × Nat × Nat × Nat)}
    (B : BodyLoose p l y S cc maxL ret e s m args below meth c s₁) (h : (Cond.codeWith y bytes maxL' ret' hh).before args s = true) : c.exceptionTable.toList = tableOf hh := by
  obtain ⟨m9, meth9, c9, hn9, h1, h2, -, -, h6, -⟩ := Cond.codeWith_spec h
  cases Option.some.inj (hn9.symm.trans B.named)
  cases Option.some.inj (h1.symm.trans B.method)
  cases Option.some.inj (h2.symm.trans (Stand.of_body B).code)
  rw [← h6, table_eq]
end Bodies
end VXA
/-! ===== END ===== -/
/-! ===== BEGIN a static call of a method with an exception table ===== -/
section VXS
variable {p : Program} {l : Launch} {e : Env} {R : Room} {s : State} {m : MethodId} {args : Array Value} {below : List Frame} {meth : Method} {c : Code} {T : State} {H : Heap} {locs : List Loc} {cells slots : Nat}
abbrev vx_CSW (R : Room) (s : State) (args : Array Value) (own : String) (index : Nat) (y : MethodName) (bytes : ByteArray) (maxL : Nat) (ret : Option FieldType) (hh : List (Nat × Nat × Nat × Nat)) (ws : List Cond) (rm : Room) (mc ms n : Nat) : Prop :=
  (rm.cells = mc ∧ rm.slots = ms ∧ rm.frames + 1 ≤ R.frames ∧ 8 + (maxL + 11) + rm.locals ≤ R.locals ∧ (∀ w ∈ ws, ∀ (a' : Array Value) (U : State), s.WarmedH U.vm → w.before a' U = true) ∧ Cond.codeWith y bytes maxL ret hh ∈ ws) ∧
  (Cond.codeWith y bytes maxL ret hh).before args s = true ∧ (Cond.initialized y.cls).before args s = true ∧ (y.cls ≠ "java/lang/invoke/MethodHandle" ∧ y.cls ≠ "java/lang/invoke/VarHandle") ∧
  (∀ sig, parseMethodDescriptor y.desc = some sig → n = sig.parameters.length) ∧ (Cond.methodLink own index y).before args s = true ∧ (Cond.static y).before args s = true
theorem vx_cwSW {own : String} {index maxL mc ms : Nat} {y : MethodName} {bytes : ByteArray} {ret : Option FieldType} {hh : List (Nat × Nat × Nat × Nat)} {Ts ws ws' : List Cond} {rm : Room} (n : Nat) (ht : ∀ w ∈ Ts, w.before args s = true) (hT : GoodIn Ts (va_wsS own index y ws)) (hw : ws = Cond.codeWith y bytes maxL ret hh :: ws') (hrc : rm.cells = mc) (hrs : rm.slots = ms)
    (hd : y.cls ≠ "java/lang/invoke/MethodHandle" ∧ y.cls ≠ "java/lang/invoke/VarHandle" ∧ (parseMethodDescriptor y.desc).map (fun d => d.parameters.length) = some n) (hR : rm.frames + 1 ≤ R.frames ∧ 8 + (maxL + 11) + rm.locals ≤ R.locals) :
    vx_CSW R s args own index y bytes maxL ret hh ws rm mc ms n := by
  have ok : ∀ w ∈ va_wsS own index y ws, w.before args s = true := fun w h => ht w (hT w h).1
  have hG : GoodIn Ts ws := fun w h => hT w (by unfold va_wsS; exact List.mem_append_right _ h)
  have hc : Cond.codeWith y bytes maxL ret hh ∈ ws := by rw [hw]; exact List.mem_cons_self
  refine ⟨⟨hrc, hrs, hR.1, hR.2, pay_in ht hG, hc⟩, ht _ (hG _ hc).1, ok _ (by simp [va_wsS]), ⟨hd.1, hd.2.1⟩, fun sig h => ?_, ok _ (by simp [va_wsS]), ok _ (by simp [va_wsS])⟩
  have h2 := hd.2.2
  rw [h] at h2
  exact (Option.some.inj h2).symm
theorem vx_callSW (X : Stand p l e R s m args below meth c T locs cells slots) (hexec : p.tables.exec = Jvm.exec) {own : String} {index : Nat} {y : MethodName} {bytes : ByteArray} {maxL : Nat} {ret : Option FieldType} {hh : List (Nat × Nat × Nat × Nat)}
    (hown : s.vm.findClass own = some m.cls) (hlink : (Cond.methodLink own index y).before args s = true) (hstat : (Cond.static y).before args s = true) (hinit : (Cond.initialized y.cls).before args s = true)
    (hcode : (Cond.codeWith y bytes maxL ret hh).before args s = true) (hy : y.cls ≠ "java/lang/invoke/MethodHandle" ∧ y.cls ≠ "java/lang/invoke/VarHandle")
    {W9 : Nat} {Pre : Pt → Array Value → Prop} {Post : Pt → Array Value → Option Value → Pt → Prop} (hK : Back l R p e below s args y 3 W9 Pre Post)
    {g : JFrame} (hg : g.method = m) (hsize : g.locals.size = c.maxLocals) {argsL rest : List Value} (hlen : ∀ sig, parseMethodDescriptor y.desc = some sig → argsL.length = sig.parameters.length)
    (hstack : g.stack = argsL.reverse ++ rest) (hW : 2 * g.monitorRoom + (rest.map fun v => v.category).sum ≤ W9) (hdg : decode c.code g.pc = .ok (.invokestatic index, 3))
    (hpre : ∀ vm₁, s.WarmedH vm₁ → Pre ⟨T.setVm vm₁, locs, cells, slots⟩ argsL.toArray) :
    ∃ (v : Option Value) (vm₁ : Vm) (B : Pt), s.WarmedH vm₁ ∧ Stand p l e R s m args below meth c B.U B.locs B.cells B.slots ∧ Post ⟨T.setVm vm₁, locs, cells, slots⟩ argsL.toArray v B ∧
      ∀ target, Steps p.tables e below (B.U.setTop { g with pc := g.pc + 3, stack := v.toList ++ rest }) target → Steps p.tables e below (T.setTop g) target := by
  obtain ⟨mk, methM, cM, hnamed, hmethM, -, -, -, -, -, -, hsigM⟩ := Cond.codeWith_spec hcode
  have hstatic : methM.isStatic = true := Cond.static_spec hnamed hmethM hstat
  obtain ⟨kP, hkP, -⟩ := className_of_methodNamed hnamed
  have hinitP : kP.init = .initialized := Cond.initialized_spec (findClass_of_methodNamed hnamed) hkP hinit
  obtain ⟨vm₁, X₁, hstep₁⟩ := X.invokestatic hexec hown hlink hnamed hmethM hstatic hkP hinitP hy (g := g) hg (argsL := argsL) (rest := rest) (hlen _ hsigM) hstack hdg
  obtain ⟨v, B, X', hpost, hsteps⟩ := hK m meth c ⟨T.setVm vm₁, locs, cells, slots⟩ { g with stack := rest } (.invokestatic index) mk argsL.toArray X₁ hg hsize hdg hW (X₁.named hnamed) (hpre vm₁ X₁.warmed)
  exact ⟨v, vm₁, B, X₁.warmed, X', hpost, fun target h => hstep₁ _ fun acts => by rw [doInvoke_state]; exact hsteps.trans h⟩
theorem vx_runSW {y : MethodName} {bytes cc : ByteArray} {maxL nL mc ms n index : Nat} {ret : Option FieldType} {hh : List (Nat × Nat × Nat × Nat)} {ws : List Cond} {rm : Room} {Pc : Array Value → State → Prop} {Qc : Array Value → State → Outcome → State → Prop} {free : Addr → Prop} {Ts : List Cond} {own : String} {As rest : List Value} {g : JFrame}
    (S : CallFix p m c cc nL s args Ts own) (hM : Met l y ws rm Pc Qc mc ms free) (cw : vx_CSW R s args own index y bytes maxL ret hh ws rm mc ms n) (hp : PreS s H Pc As)
    (hg : g.method = m) (hn : As.length = n) (hsize : g.locals.size = nL) (hstack : g.stack = As.reverse ++ rest) (hW : 2 * g.monitorRoom + (rest.map fun v => v.category).sum ≤ 8) (hdg : decode cc g.pc = .ok (.invokestatic index, 3)) (hf : cells + mc ≤ R.cells ∧ slots + ms ≤ R.slots) :
    va_Run p l e R s m args below meth c H locs cells slots mc ms g rest (Qc As.toArray) (free) := by
  obtain ⟨⟨hrc, hrs, hfr, hlo, hws, hcw⟩, hcode, hini, hy, hlen, hl, hstt⟩ := cw
  have hK : Back l R p e below s args y 3 8 (PreOf R mc ms Pc) (PostOf Qc mc ms free) := va_backW (hh := hh) (bytes := bytes) (maxL := maxL) (ret := ret) hM hp.1 hrc hrs hfr hlo hws hcw (fun a' U hW => word_at hW (Or.inl (by first | rfl | simp [Cond.onTables, Cond.keeps, Cond.steady])) hini)
  obtain ⟨hx, hb, hml, ho, -⟩ := S
  intro T hT X
  obtain ⟨v, vm₁, ⟨U', l2, c2, s2⟩, hW₁, X', ⟨g', mk, t, L, e1, e2, hq, h1, hL, h2, h3⟩, st⟩ := vx_callSW X hx (hh := hh) (bytes := bytes) (maxL := maxL) (ret := ret) ho hl hstt hini hcode hy hK hg (hsize.trans hml.symm) (argsL := As) (rest := rest) (fun sig h => hn.trans (hlen sig h)) hstack hW (by rw [hb]; exact hdg)
    (fun vm₁ hW₁ => ⟨hf.1, hf.2, hp.2 (T.setVm vm₁) hT hW₁⟩)
  dsimp only [Pt.U, Pt.locs, Pt.cells, Pt.slots] at X' e1 e2 h1 h2 h3 st
  subst h1; subst h2; subst h3
  exact ⟨v, (T.setVm vm₁).calling g' mk As.toArray, t, U', L, hT, X', hL, e1, e2, hq, st⟩
/-- not caught here, past rows that name other classes: it goes on to the caller -/
theorem vx_outP {p : Program} {l : Launch} {e : Env} {R : Room} {s : State} {m : MethodId} {args : Array Value} {below : List Frame} {meth : Method} {c : Code} {H : Heap} {locs : List Loc} {cells slots : Nat} {free : Addr → Prop} {ls : Array Slot} {rest : List Value} {Qc : Array Value → State → Outcome → State → Prop} {XC : String → State → State → Prop}
    {pc : Nat} {own E : String} {ce : Cell} {q : Addr} {mc ms : Nat} (hown : s.vm.findClass own = some m.cls) (hlocks : meth.locks = false)
    (hpass : ∀ z ∈ c.exceptionTable.toList, covers z pc = false ∨ (z.catchType ≠ 0 ∧ ∃ nm : String, (Cond.classLink own z.catchType nm).before args s = true ∧ va_Nc E nm s)) (hcell : H[q]? = some ce) (hv : ce.vm = .none) (hcl : s.vm.findClass E = some ce.cls)
    (hx : ∀ t : State, t.heap = H → s.vm.Alike t.vm → XC E s t) (hf : ∀ z ∈ locs, free z.base) (hc : cells ≤ mc) (hs : slots ≤ ms) :
    vx_W p l e R s m args below meth c H locs cells slots (vx_MQ below Qc XC args s mc ms free) (F0 m pc ls rest) q := by
  intro T hT X
  have hpl : e.platform.magicAccessors = ({} : Platform).magicAccessors := by rw [X.admits.platform]
  obtain ⟨vm', hW', X', st⟩ := X.outThrough hlocks q (g := F0 m pc ls rest) rfl rfl rfl (cell := ce) (by rw [hT]; exact hcell) (by rw [hv]; rfl)
    (by obtain ⟨k9, h9, -⟩ := Vm.findClass_spec hcl; exact ⟨k9, h9⟩) (fun z hz => by
      rcases hpass z hz with h | ⟨hz0, nm, hl1, hn1⟩
      · exact Or.inl h
      · obtain ⟨c6, hc6, hcl6⟩ := Cond.classLink_spec hown hl1 e.platform hpl
        obtain ⟨a8, b8, h1, h2, h3⟩ := hn1
        cases Option.some.inj (h1.symm.trans hcl)
        cases Option.some.inj (h2.symm.trans hc6)
        exact Or.inr ⟨hz0, _, hcl6, h3⟩)
  obtain ⟨g₀, hfr⟩ := X'.frames_eq
  have hcell9 : ((T.setVm vm').setFrames (.throwing q :: below)).heap[q]? = some ce := by
    show T.heap[q]? = some ce
    rw [hT]; exact hcell
  have hend : Ended ((T.setVm vm').setFrames (.throwing q :: below)) below (.threw q) := State.frames_setFrames _ (State.cur_lt_of_frames hfr)
  refine ⟨(T.setVm vm').setFrames (.throwing q :: below), ?_, .threw q, X'.here.running, hend, Or.inr ⟨q, rfl, E, ce, locs, hx _ hT (X'.ends _).1.alike, hcell9, hv, hcl, (X'.ends _).1, (X'.ends _).2.mono hc hs, hf⟩⟩
  rw [X.pushThrowing_eq]
  exact st
/-- a thing of a world lies in the heap -/
theorem vx_lt {D : va_G} {cl : List vw_C} {ws : va_W} {H1 : Heap} (h : va_P D cl ws H1) {k : Nat} {q : Nat × va_E} (hk : ws[k]? = some q) : q.1 < H1.size := (h k q hk).lt
end VXS
/-! ===== END ===== -/
/-! ===== BEGIN methods with a table of their own: called by a name, returning or throwing ===== -/
section VXH
/-! vx_backW, vx_callVX, vx_callSX, vx_callVW, vx_runVW, vx_runVX, vx_runSX, vx_ofWH follow the same proofs as their sisters above (Free/Laws.lean, Shelf42/LK1.lean); vx_outP calls Shelf42/NT130.lean (outThrough). -/
section
variable {l : Launch} {R : Room} {p : Program} {e : Env} {below : List Frame} {s : State} {sargs : Array Value} {y : MethodName} {len W9 : Nat}
theorem vx_backW {ws : List Cond} {rm : Room} {Pc : Array Value → State → Prop} {Qc : Array Value → State → Outcome → State → Prop} {XC : String → State → State → Prop} {mc ms : Nat} {free : Addr → Prop} {bytes : ByteArray} {maxL : Nat} {ret : Option FieldType} {hh : List (Nat × Nat × Nat × Nat)}
    (hM : vx_Met l y ws rm Pc Qc XC mc ms free) (hblind : FrameBlind Pc) (hrc : rm.cells = mc) (hrs : rm.slots = ms)
    (hframes : rm.frames + 1 ≤ R.frames) (hlocals : W9 + (maxL + 11) + rm.locals ≤ R.locals)
    (hws : ∀ w ∈ ws, ∀ a' U, s.WarmedH U.vm → w.before a' U = true) (hcode : Cond.codeWith y bytes maxL ret hh ∈ ws) (hinit : ∀ a' U, s.WarmedH U.vm → (Cond.initialized y.cls).before a' U = true) :
    vx_Back l R p e below s sargs y len W9 (PreOf R mc ms Pc) (PostOf Qc mc ms free) (vx_Post XC mc ms free) := by
  intro m meth c A g ig mk a X hg hsize hdg hW hn hp
  have h1 : (headSpec ws rm).pre.before a A.U = true := atoms_intro fun w hw => hws w hw _ _ X.warmed
  have h2 : (Cond.codeWith y bytes maxL ret hh).before a A.U = true := hws _ hcode _ _ X.warmed
  have h3 : (Cond.initialized y.cls).before a A.U = true := hinit _ _ X.warmed
  have h4 : A.cells + (headSpec ws rm).room.cells ≤ R.cells := by rw [show (headSpec ws rm).room.cells = mc from hrc]; exact hp.1
  have h5 : A.slots + (headSpec ws rm).room.slots ≤ R.slots := by rw [show (headSpec ws rm).room.slots = ms from hrs]; exact hp.2.1
  have hPc : Pc a (A.U.calling g mk a) := hblind _ _ _ _ hp.2.2
  obtain ⟨U, Ls, c0, s0⟩ := A
  dsimp only [Pt.U, Pt.locs, Pt.cells, Pt.slots] at h1 h2 h3 h4 h5 X hn hPc ⊢
  obtain ⟨m9, methY, cY, hn9, hmY, hcY, -, hlY, -⟩ := Cond.codeWith_spec h2
  cases Option.some.inj (hn9.symm.trans hn)
  obtain ⟨kY, hkY, -⟩ := className_of_methodNamed hn
  have hinitY : kY.init = .initialized := Cond.initialized_spec (findClass_of_methodNamed hn) hkY h3
  have h : At U g.method c below := by rw [hg]; exact X.here
  have hlocals9 : W9 + (maxL + 11) + (headSpec ws rm).room.locals ≤ R.locals := hlocals
  have happ : (headSpec ws rm).appliesLoose y e.platform (U.calling g mk a) = true :=
    Spec.appliesLoose_calling (g := g) h hdg hn hkY hinitY
      (X.room_calling (g := g) (R' := (headSpec ws rm).room) hsize hmY hcY hframes (by rw [hlY]; omega) h4 h5) h1
  obtain ⟨mid, hmid⟩ := h.above
  have hfr : (U.setTop g).frames = (.java g :: mid) ++ below := by rw [State.frames_setTop' g h.top, hmid]; rfl
  obtain ⟨o, s₂, hsteps, -, hend, hq⟩ := Steps.callFree hM p X.admits X.cas X.clock (acts := []) hfr happ hPc trivial
  have hq' : vx_Q Qc XC mc ms free a (U.calling g mk a) o s₂ := hq
  rw [State.frames_setTop' g h.top] at hend
  obtain ⟨g₀, hg0⟩ := Option.isSome_iff_exists.mp h.top
  obtain ⟨r, hr⟩ := State.topJava?_eq_some.mp hg0
  have hr' : (({ U with heap := s₂.heap, slotsUsed := s₂.slotsUsed } : State).setVm s₂.vm).frames = .java g₀ :: r := hr
  rcases hq' with ⟨hqc, L, hfe, hL⟩ | ⟨q, rfl, E, ce, L, hx, hce, hcv, hcl, hW₂, hsm, hL⟩
  · obtain ⟨⟨v, rfl⟩, hW₂, e2, q2, q3, q4, q5, q6⟩ := id hfe
    have e3 : s₂ = ({ (U.calling g mk a).setFrames s₂.frames with heap := s₂.heap, slotsUsed := s₂.slotsUsed } : State).setVm s₂.vm := by
      have : s₂ = ({ s₂ with vm := (U.calling g mk a).vm } : State).setVm s₂.vm := rfl
      rw [e2] at this
      exact this
    obtain ⟨c₂, i₂, len₂, hc₂, hd₂, hf₂⟩ := hend
    have hW' : U.WarmedH s₂.vm := hW₂
    have hcc : c₂ = c := by
      have h1 : s₂.code? g.method = U.code? g.method := by
        rw [State.code?_eq, State.code?_eq, hW'.alike.method?]
      exact Option.some.inj (hc₂.symm.trans (h1.trans h.code))
    subst hcc
    have hlen : len₂ = len := by rw [hdg] at hd₂; cases hd₂; rfl
    subst hlen
    have hs₂ : s₂ = (({ U with heap := s₂.heap, slotsUsed := s₂.slotsUsed } : State).setVm s₂.vm).setTop { g with pc := g.pc + len₂, stack := v.toList ++ g.stack } := by
      refine e3.trans ?_
      rw [hf₂, State.calling_eq h.top, State.setFrames_setFrames, State.setTop_of_frames _ hr', hr]
      rfl
    have hsame : U.sameButNew ({ U with heap := s₂.heap, slotsUsed := s₂.slotsUsed } : State) L mc ms := by
      refine ⟨?_, q2, q3, q4, q5, q6⟩
      obtain ⟨t, ht, -⟩ := State.frames_cons hr
      show ({ U with heap := s₂.heap, slotsUsed := s₂.slotsUsed } : State) = { U.setFrames U.frames with heap := s₂.heap, slotsUsed := s₂.slotsUsed }
      rw [State.setFrames_self ht]
    subst hg
    refine Or.inl ⟨v, ⟨(({ U with heap := s₂.heap, slotsUsed := s₂.slotsUsed } : State).setVm s₂.vm), Ls ++ L, c0 + mc, s0 + ms⟩,
      ⟨X.admits, X.cas, X.clock, X.frames, X.room, X.hears, X.method, X.code, (X.here.setHeapUsed s₂.heap s₂.slotsUsed).setVm hW'.alike, X.tail, State.WarmedH.trans X.warmed hW', X.limits, X.bytes, X.same.trans (hsame.setVm s.vm)⟩,
      ⟨g, mk, s₂, L, rfl, rfl, hqc, rfl, hL, rfl, rfl⟩, ?_⟩
    show Steps p.tables e below _ ((({ U with heap := s₂.heap, slotsUsed := s₂.slotsUsed } : State).setVm s₂.vm).setTop { g with pc := g.pc + len₂, stack := v.toList ++ g.stack })
    rw [← hs₂]
    exact hsteps
  · obtain ⟨e2, q2, q3, q4, q5, q6⟩ := id hsm
    have e3 : s₂ = ({ (U.calling g mk a).setFrames s₂.frames with heap := s₂.heap, slotsUsed := s₂.slotsUsed } : State).setVm s₂.vm := by
      have : s₂ = ({ s₂ with vm := (U.calling g mk a).vm } : State).setVm s₂.vm := rfl
      rw [e2] at this
      exact this
    have hf₂ : s₂.frames = .throwing q :: .java g :: U.frames.tail := hend
    have hW' : U.WarmedH s₂.vm := hW₂
    have hs₂ : s₂ = ((({ U with heap := s₂.heap, slotsUsed := s₂.slotsUsed } : State).setVm s₂.vm).setTop g).pushFrame (.throwing q) := by
      refine e3.trans ?_
      rw [hf₂, State.calling_eq h.top, State.setFrames_setFrames, State.pushFrame, State.frames_setTop _ hr', State.setTop_of_frames _ hr', State.setFrames_setFrames, hr]
      rfl
    have hsame : U.sameButNew ({ U with heap := s₂.heap, slotsUsed := s₂.slotsUsed } : State) L mc ms := by
      refine ⟨?_, q2, q3, q4, q5, q6⟩
      obtain ⟨t, ht, -⟩ := State.frames_cons hr
      show ({ U with heap := s₂.heap, slotsUsed := s₂.slotsUsed } : State) = { U.setFrames U.frames with heap := s₂.heap, slotsUsed := s₂.slotsUsed }
      rw [State.setFrames_self ht]
    subst hg
    refine Or.inr ⟨q, ⟨(({ U with heap := s₂.heap, slotsUsed := s₂.slotsUsed } : State).setVm s₂.vm), Ls ++ L, c0 + mc, s0 + ms⟩,
      ⟨X.admits, X.cas, X.clock, X.frames, X.room, X.hears, X.method, X.code, (X.here.setHeapUsed s₂.heap s₂.slotsUsed).setVm hW'.alike, X.tail, State.WarmedH.trans X.warmed hW', X.limits, X.bytes, X.same.trans (hsame.setVm s.vm)⟩,
      ⟨g, mk, s₂, L, E, ce, rfl, rfl, hx, hce, hcv, hcl, rfl, hL, rfl, rfl⟩, ?_⟩
    show Steps p.tables e below _ (((({ U with heap := s₂.heap, slotsUsed := s₂.slotsUsed } : State).setVm s₂.vm).setTop g).pushFrame (.throwing q))
    rw [← hs₂]
    exact hsteps
end
variable {p : Program} {l : Launch} {e : Env} {R : Room} {s : State} {m : MethodId} {args : Array Value} {below : List Frame} {meth : Method} {c : Code} {T : State} {H : Heap} {locs : List Loc} {cells slots : Nat}
theorem vx_callVX (X : Stand p l e R s m args below meth c T locs cells slots) (hexec : p.tables.exec = Jvm.exec) {own C : String} {index : Nat} {y : MethodName} {bytes : ByteArray} {maxL : Nat} {ret : Option FieldType} {hh : List (Nat × Nat × Nat × Nat)}
    (hown : s.vm.findClass own = some m.cls) (hlink : (Cond.methodLink own index y).before args s = true) (hinst : (Cond.instanceMethod y).before args s = true) (hsel : (Cond.selects C y y).before args s = true)
    (hcode : (Cond.codeWith y bytes maxL ret hh).before args s = true) (hy : y.cls ≠ "java/lang/invoke/MethodHandle" ∧ y.cls ≠ "java/lang/invoke/VarHandle")
    {W9 : Nat} {Pre : Pt → Array Value → Prop} {Post : Pt → Array Value → Option Value → Pt → Prop} {PostX : Pt → Array Value → Addr → Pt → Prop} (hK : vx_Back l R p e below s args y 3 W9 Pre Post PostX)
    {b : Addr} {cellB : Cell} (hcell : T.heap[b]? = some cellB) (hobj : cellB.vm.isStatics = false) (hcls : s.vm.findClass C = some cellB.cls)
    {g : JFrame} (hg : g.method = m) (hsize : g.locals.size = c.maxLocals) {argsL rest : List Value} (hlen : ∀ sig, parseMethodDescriptor y.desc = some sig → argsL.length = sig.parameters.length)
    (hstack : g.stack = argsL.reverse ++ .ref b :: rest) (hW : 2 * g.monitorRoom + (rest.map fun v => v.category).sum ≤ W9) (hdg : decode c.code g.pc = .ok (.invokevirtual index, 3))
    (hpre : ∀ vm₁, s.WarmedH vm₁ → Pre ⟨T.setVm vm₁, locs, cells, slots⟩ (Value.ref b :: argsL).toArray) :
    (∃ (v : Option Value) (vm₁ : Vm) (B : Pt), s.WarmedH vm₁ ∧ Stand p l e R s m args below meth c B.U B.locs B.cells B.slots ∧ Post ⟨T.setVm vm₁, locs, cells, slots⟩ (Value.ref b :: argsL).toArray v B ∧
      ∀ target, Steps p.tables e below (B.U.setTop { g with pc := g.pc + 3, stack := v.toList ++ rest }) target → Steps p.tables e below (T.setTop g) target) ∨
    (∃ (q : Addr) (vm₁ : Vm) (B : Pt), s.WarmedH vm₁ ∧ Stand p l e R s m args below meth c B.U B.locs B.cells B.slots ∧ PostX ⟨T.setVm vm₁, locs, cells, slots⟩ (Value.ref b :: argsL).toArray q B ∧
      Steps p.tables e below (T.setTop g) ((B.U.setTop { g with stack := rest }).pushFrame (.throwing q))) := by
  obtain ⟨mk, methM, hnamed, hmethM, hstM, habM⟩ := Cond.instanceMethod_spec hinst
  obtain ⟨m8, methM', cM, hn8, hmethM', -, -, -, -, -, -, hsigM⟩ := Cond.codeWith_spec hcode
  cases Option.some.inj (hn8.symm.trans hnamed)
  cases hmethM.symm.trans hmethM'
  obtain ⟨c2, r2, m2, q1, q2, q3, q4, kP, hkP, hkPi⟩ := Cond.selects_spec hsel
  cases hcls.symm.trans q1
  cases (State.methodFound?_of_named hnamed hy).symm.trans q2
  cases hnamed.symm.trans q3
  have hselP : selectMethod e.platform s.vm cellB.cls mk = .method mk := by rw [Launch.admits_selectMethod X.admits]; exact q4
  obtain ⟨vm₁, X₁, hstep₁⟩ := X.invokevirtual hexec hown hlink hnamed hmethM hstM hkP hkPi hy (a := b) (cell := cellB) hcell
    (fun z h => by rw [h] at hobj; cases hobj) hselP hmethM habM hkP hkPi (g := g) hg (argsL := argsL) (rest := rest) (hlen _ hsigM) hstack hdg
  rcases hK m meth c ⟨T.setVm vm₁, locs, cells, slots⟩ { g with stack := rest } (.invokevirtual index) mk (Value.ref b :: argsL).toArray X₁ hg hsize hdg hW (X₁.named hnamed) (hpre vm₁ X₁.warmed) with ⟨v, B, X', hpost, hsteps⟩ | ⟨q, B, X', hpost, hsteps⟩
  · exact Or.inl ⟨v, vm₁, B, X₁.warmed, X', hpost, fun target h => hstep₁ _ fun acts => by rw [doInvoke_state]; exact hsteps.trans h⟩
  · exact Or.inr ⟨q, vm₁, B, X₁.warmed, X', hpost, hstep₁ _ fun acts => by rw [doInvoke_state]; exact hsteps⟩
theorem vx_callSX (X : Stand p l e R s m args below meth c T locs cells slots) (hexec : p.tables.exec = Jvm.exec) {own : String} {index : Nat} {y : MethodName} {bytes : ByteArray} {maxL : Nat} {ret : Option FieldType} {hh : List (Nat × Nat × Nat × Nat)}
    (hown : s.vm.findClass own = some m.cls) (hlink : (Cond.methodLink own index y).before args s = true) (hstat : (Cond.static y).before args s = true) (hinit : (Cond.initialized y.cls).before args s = true)
    (hcode : (Cond.codeWith y bytes maxL ret hh).before args s = true) (hy : y.cls ≠ "java/lang/invoke/MethodHandle" ∧ y.cls ≠ "java/lang/invoke/VarHandle")
    {W9 : Nat} {Pre : Pt → Array Value → Prop} {Post : Pt → Array Value → Option Value → Pt → Prop} {PostX : Pt → Array Value → Addr → Pt → Prop} (hK : vx_Back l R p e below s args y 3 W9 Pre Post PostX)
    {g : JFrame} (hg : g.method = m) (hsize : g.locals.size = c.maxLocals) {argsL rest : List Value} (hlen : ∀ sig, parseMethodDescriptor y.desc = some sig → argsL.length = sig.parameters.length)
    (hstack : g.stack = argsL.reverse ++ rest) (hW : 2 * g.monitorRoom + (rest.map fun v => v.category).sum ≤ W9) (hdg : decode c.code g.pc = .ok (.invokestatic index, 3))
    (hpre : ∀ vm₁, s.WarmedH vm₁ → Pre ⟨T.setVm vm₁, locs, cells, slots⟩ argsL.toArray) :
    (∃ (v : Option Value) (vm₁ : Vm) (B : Pt), s.WarmedH vm₁ ∧ Stand p l e R s m args below meth c B.U B.locs B.cells B.slots ∧ Post ⟨T.setVm vm₁, locs, cells, slots⟩ argsL.toArray v B ∧
      ∀ target, Steps p.tables e below (B.U.setTop { g with pc := g.pc + 3, stack := v.toList ++ rest }) target → Steps p.tables e below (T.setTop g) target) ∨
    (∃ (q : Addr) (vm₁ : Vm) (B : Pt), s.WarmedH vm₁ ∧ Stand p l e R s m args below meth c B.U B.locs B.cells B.slots ∧ PostX ⟨T.setVm vm₁, locs, cells, slots⟩ argsL.toArray q B ∧
      Steps p.tables e below (T.setTop g) ((B.U.setTop { g with stack := rest }).pushFrame (.throwing q))) := by
  obtain ⟨mk, methM, cM, hnamed, hmethM, -, -, -, -, -, -, hsigM⟩ := Cond.codeWith_spec hcode
  have hstatic : methM.isStatic = true := Cond.static_spec hnamed hmethM hstat
  obtain ⟨kP, hkP, -⟩ := className_of_methodNamed hnamed
  have hinitP : kP.init = .initialized := Cond.initialized_spec (findClass_of_methodNamed hnamed) hkP hinit
  obtain ⟨vm₁, X₁, hstep₁⟩ := X.invokestatic hexec hown hlink hnamed hmethM hstatic hkP hinitP hy (g := g) hg (argsL := argsL) (rest := rest) (hlen _ hsigM) hstack hdg
  rcases hK m meth c ⟨T.setVm vm₁, locs, cells, slots⟩ { g with stack := rest } (.invokestatic index) mk argsL.toArray X₁ hg hsize hdg hW (X₁.named hnamed) (hpre vm₁ X₁.warmed) with ⟨v, B, X', hpost, hsteps⟩ | ⟨q, B, X', hpost, hsteps⟩
  · exact Or.inl ⟨v, vm₁, B, X₁.warmed, X', hpost, fun target h => hstep₁ _ fun acts => by rw [doInvoke_state]; exact hsteps.trans h⟩
  · exact Or.inr ⟨q, vm₁, B, X₁.warmed, X', hpost, hstep₁ _ fun acts => by rw [doInvoke_state]; exact hsteps⟩
theorem vx_callVW (X : Stand p l e R s m args below meth c T locs cells slots) (hexec : p.tables.exec = Jvm.exec) {own C : String} {index : Nat} {y : MethodName} {bytes : ByteArray} {maxL : Nat} {ret : Option FieldType} {hh : List (Nat × Nat × Nat × Nat)}
    (hown : s.vm.findClass own = some m.cls) (hlink : (Cond.methodLink own index y).before args s = true) (hinst : (Cond.instanceMethod y).before args s = true) (hsel : (Cond.selects C y y).before args s = true)
    (hcode : (Cond.codeWith y bytes maxL ret hh).before args s = true) (hy : y.cls ≠ "java/lang/invoke/MethodHandle" ∧ y.cls ≠ "java/lang/invoke/VarHandle")
    {W9 : Nat} {Pre : Pt → Array Value → Prop} {Post : Pt → Array Value → Option Value → Pt → Prop} (hK : Back l R p e below s args y 3 W9 Pre Post)
    {b : Addr} {cellB : Cell} (hcell : T.heap[b]? = some cellB) (hobj : cellB.vm.isStatics = false) (hcls : s.vm.findClass C = some cellB.cls)
    {g : JFrame} (hg : g.method = m) (hsize : g.locals.size = c.maxLocals) {argsL rest : List Value} (hlen : ∀ sig, parseMethodDescriptor y.desc = some sig → argsL.length = sig.parameters.length)
    (hstack : g.stack = argsL.reverse ++ .ref b :: rest) (hW : 2 * g.monitorRoom + (rest.map fun v => v.category).sum ≤ W9) (hdg : decode c.code g.pc = .ok (.invokevirtual index, 3))
    (hpre : ∀ vm₁, s.WarmedH vm₁ → Pre ⟨T.setVm vm₁, locs, cells, slots⟩ (Value.ref b :: argsL).toArray) :
    ∃ (v : Option Value) (vm₁ : Vm) (B : Pt), s.WarmedH vm₁ ∧ Stand p l e R s m args below meth c B.U B.locs B.cells B.slots ∧ Post ⟨T.setVm vm₁, locs, cells, slots⟩ (Value.ref b :: argsL).toArray v B ∧
      ∀ target, Steps p.tables e below (B.U.setTop { g with pc := g.pc + 3, stack := v.toList ++ rest }) target → Steps p.tables e below (T.setTop g) target := by
  obtain ⟨mk, methM, hnamed, hmethM, hstM, habM⟩ := Cond.instanceMethod_spec hinst
  obtain ⟨m8, methM', cM, hn8, hmethM', -, -, -, -, -, -, hsigM⟩ := Cond.codeWith_spec hcode
  cases Option.some.inj (hn8.symm.trans hnamed)
  cases hmethM.symm.trans hmethM'
  obtain ⟨c2, r2, m2, q1, q2, q3, q4, kP, hkP, hkPi⟩ := Cond.selects_spec hsel
  cases hcls.symm.trans q1
  cases (State.methodFound?_of_named hnamed hy).symm.trans q2
  cases hnamed.symm.trans q3
  have hselP : selectMethod e.platform s.vm cellB.cls mk = .method mk := by rw [Launch.admits_selectMethod X.admits]; exact q4
  obtain ⟨vm₁, X₁, hstep₁⟩ := X.invokevirtual hexec hown hlink hnamed hmethM hstM hkP hkPi hy (a := b) (cell := cellB) hcell
    (fun z h => by rw [h] at hobj; cases hobj) hselP hmethM habM hkP hkPi (g := g) hg (argsL := argsL) (rest := rest) (hlen _ hsigM) hstack hdg
  obtain ⟨v, B, X', hpost, hsteps⟩ := hK m meth c ⟨T.setVm vm₁, locs, cells, slots⟩ { g with stack := rest } (.invokevirtual index) mk (Value.ref b :: argsL).toArray X₁ hg hsize hdg hW (X₁.named hnamed) (hpre vm₁ X₁.warmed)
  exact ⟨v, vm₁, B, X₁.warmed, X', hpost, fun target h => hstep₁ _ fun acts => by rw [doInvoke_state]; exact hsteps.trans h⟩
abbrev vx_CVW (R : Room) (s : State) (args : Array Value) (own C : String) (index : Nat) (y : MethodName) (bytes : ByteArray) (maxL : Nat) (ret : Option FieldType) (hh : List (Nat × Nat × Nat × Nat)) (ws : List Cond) (rm : Room) (mc ms n : Nat) : Prop :=
  (rm.cells = mc ∧ rm.slots = ms ∧ rm.frames + 1 ≤ R.frames ∧ 8 + (maxL + 11) + rm.locals ≤ R.locals ∧ (∀ w ∈ ws, ∀ (a' : Array Value) (U : State), s.WarmedH U.vm → w.before a' U = true) ∧ Cond.codeWith y bytes maxL ret hh ∈ ws) ∧
  (Cond.codeWith y bytes maxL ret hh).before args s = true ∧ (Cond.initialized y.cls).before args s = true ∧ (y.cls ≠ "java/lang/invoke/MethodHandle" ∧ y.cls ≠ "java/lang/invoke/VarHandle") ∧
  (∀ sig, parseMethodDescriptor y.desc = some sig → n = sig.parameters.length) ∧ (Cond.methodLink own index y).before args s = true ∧ (Cond.instanceMethod y).before args s = true ∧ (Cond.selects C y y).before args s = true
theorem vx_cwVW {own C : String} {index maxL mc ms : Nat} {y : MethodName} {bytes : ByteArray} {ret : Option FieldType} {hh : List (Nat × Nat × Nat × Nat)} {Ts ws ws' : List Cond} {rm : Room} (n : Nat) (ht : ∀ w ∈ Ts, w.before args s = true) (hT : GoodIn Ts (wsV own index C y ws)) (hw : ws = Cond.codeWith y bytes maxL ret hh :: ws') (hrc : rm.cells = mc) (hrs : rm.slots = ms)
    (hd : y.cls = C ∧ y.cls ≠ "java/lang/invoke/MethodHandle" ∧ y.cls ≠ "java/lang/invoke/VarHandle" ∧ (parseMethodDescriptor y.desc).map (fun d => d.parameters.length) = some n) (hR : rm.frames + 1 ≤ R.frames ∧ 8 + (maxL + 11) + rm.locals ≤ R.locals) :
    vx_CVW R s args own C index y bytes maxL ret hh ws rm mc ms n := by
  obtain ⟨hC, hd⟩ := hd
  subst hC
  have ok : ∀ w ∈ wsV own index y.cls y ws, w.before args s = true := fun w h => ht w (hT w h).1
  have hG : GoodIn Ts ws := fun w h => hT w (by unfold wsV; exact List.mem_append_right _ h)
  have hc : Cond.codeWith y bytes maxL ret hh ∈ ws := by rw [hw]; exact List.mem_cons_self
  refine ⟨⟨hrc, hrs, hR.1, hR.2, pay_in ht hG, hc⟩, ht _ (hG _ hc).1, ok _ (by simp [wsV]), ⟨hd.1, hd.2.1⟩, fun sig h => ?_, ok _ (by simp [wsV]), ok _ (by simp [wsV]), ok _ (by simp [wsV])⟩
  have h2 := hd.2.2
  rw [h] at h2
  exact (Option.some.inj h2).symm
theorem vx_runVW {y : MethodName} {bytes cc : ByteArray} {maxL nL mc ms n index : Nat} {ret : Option FieldType} {hh : List (Nat × Nat × Nat × Nat)} {ws : List Cond} {rm : Room} {Pc : Array Value → State → Prop} {Qc : Array Value → State → Outcome → State → Prop} {free : Addr → Prop} {Ts : List Cond} {own C : String} {b : Addr} {As rest : List Value} {g : JFrame}
    (S : CallFix p m c cc nL s args Ts own) (hM : Met l y ws rm Pc Qc mc ms free) (cw : vx_CVW R s args own C index y bytes maxL ret hh ws rm mc ms n) (hp : PreV s H C b Pc As)
    (hg : g.method = m) (hn : As.length = n) (hsize : g.locals.size = nL) (hstack : g.stack = As.reverse ++ .ref b :: rest) (hW : 2 * g.monitorRoom + (rest.map fun v => v.category).sum ≤ 8) (hdg : decode cc g.pc = .ok (.invokevirtual index, 3)) (hf : cells + mc ≤ R.cells ∧ slots + ms ≤ R.slots) :
    va_Run p l e R s m args below meth c H locs cells slots mc ms g rest (Qc (Value.ref b :: As).toArray) free := by
  obtain ⟨⟨hrc, hrs, hfr, hlo, hws, hcw⟩, hcode, hini, hy, hlen, hl, hin, hse⟩ := cw
  have hK : Back l R p e below s args y 3 8 (PreOf R mc ms Pc) (PostOf Qc mc ms free) := va_backW (hh := hh) (bytes := bytes) (maxL := maxL) (ret := ret) hM hp.1 hrc hrs hfr hlo hws hcw (fun a' U hW => word_at hW (Or.inl (by first | rfl | simp [Cond.onTables, Cond.keeps, Cond.steady])) hini)
  obtain ⟨hx, hb, hml, ho, -⟩ := S
  obtain ⟨-, ⟨cellB, hcB, hoB, hclB⟩, hPc⟩ := hp
  intro T hT X
  obtain ⟨v, vm₁, ⟨U', l2, c2, s2⟩, hW₁, X', ⟨g', mk, t, L, e1, e2, hq, h1, hL, h2, h3⟩, st⟩ := vx_callVW X hx (C := C) (hh := hh) (bytes := bytes) (maxL := maxL) (ret := ret) ho hl hin hse hcode hy hK (by rw [hT]; exact hcB) hoB hclB hg (hsize.trans hml.symm) (argsL := As) (rest := rest) (fun sig h => hn.trans (hlen sig h)) hstack hW (by rw [hb]; exact hdg)
    (fun vm₁ hW₁ => ⟨hf.1, hf.2, hPc (T.setVm vm₁) hT hW₁⟩)
  dsimp only [Pt.U, Pt.locs, Pt.cells, Pt.slots] at X' e1 e2 h1 h2 h3 st
  subst h1; subst h2; subst h3
  exact ⟨v, (T.setVm vm₁).calling g' mk (Value.ref b :: As).toArray, t, U', L, hT, X', hL, e1, e2, hq, st⟩
section
variable {y : MethodName} {bytes cc : ByteArray} {maxL nL mc ms n index : Nat} {ret : Option FieldType} {ws : List Cond} {rm : Room} {Pc : Array Value → State → Prop} {Qc : Array Value → State → Outcome → State → Prop} {XC : String → State → State → Prop} {free : Addr → Prop} {Ts : List Cond} {own C : String} {b : Addr} {As rest : List Value} {g : JFrame}
theorem vx_runVX {hh : List (Nat × Nat × Nat × Nat)} (S : CallFix p m c cc nL s args Ts own) (hM : vx_Met l y ws rm Pc Qc XC mc ms free) (cw : vx_CVW R s args own C index y bytes maxL ret hh ws rm mc ms n) (hp : PreV s H C b Pc As)
    (hg : g.method = m) (hn : As.length = n) (hsize : g.locals.size = nL) (hstack : g.stack = As.reverse ++ .ref b :: rest) (hW : 2 * g.monitorRoom + (rest.map fun v => v.category).sum ≤ 8) (hdg : decode cc g.pc = .ok (.invokevirtual index, 3)) (hf : cells + mc ≤ R.cells ∧ slots + ms ≤ R.slots) :
    vx_Run p l e R s m args below meth c H locs cells slots mc ms g rest (Qc (Value.ref b :: As).toArray) XC free := by
  obtain ⟨⟨hrc, hrs, hfr, hlo, hws, hcw⟩, hcode, hini, hy, hlen, hl, hin, hse⟩ := cw
  have hK : vx_Back l R p e below s args y 3 8 (PreOf R mc ms Pc) (PostOf Qc mc ms free) (vx_Post XC mc ms free) := vx_backW (hh := hh) (bytes := bytes) (maxL := maxL) (ret := ret) hM hp.1 hrc hrs hfr hlo hws hcw (fun a' U hW => word_at hW (Or.inl (by first | rfl | simp [Cond.onTables, Cond.keeps, Cond.steady])) hini)
  obtain ⟨hx, hb, hml, ho, -⟩ := S
  obtain ⟨-, ⟨cellB, hcB, hoB, hclB⟩, hPc⟩ := hp
  intro T hT X
  rcases vx_callVX X hx (C := C) (hh := hh) (bytes := bytes) (maxL := maxL) (ret := ret) ho hl hin hse hcode hy hK (by rw [hT]; exact hcB) hoB hclB hg (hsize.trans hml.symm) (argsL := As) (rest := rest) (fun sig h => hn.trans (hlen sig h)) hstack hW (by rw [hb]; exact hdg)
    (fun vm₁ hW₁ => ⟨hf.1, hf.2, hPc (T.setVm vm₁) hT hW₁⟩) with ⟨v, vm₁, ⟨U', l2, c2, s2⟩, hW₁, X', ⟨g', mk, t, L, e1, e2, hq, h1, hL, h2, h3⟩, st⟩ | ⟨q, vm₁, ⟨U', l2, c2, s2⟩, hW₁, X', ⟨g', mk, t, L, E, ce, e1, e2, hq, hce, hcv, hcl, h1, hL, h2, h3⟩, st⟩
  · dsimp only [Pt.U, Pt.locs, Pt.cells, Pt.slots] at X' e1 e2 h1 h2 h3 st
    subst h1; subst h2; subst h3
    exact Or.inl ⟨v, (T.setVm vm₁).calling g' mk (Value.ref b :: As).toArray, t, U', L, hT, X', hL, e1, e2, hq, st⟩
  · dsimp only [Pt.U, Pt.locs, Pt.cells, Pt.slots] at X' e1 e2 h1 h2 h3 st hcl
    subst h1; subst h2; subst h3
    exact Or.inr ⟨q, (T.setVm vm₁).calling g' mk (Value.ref b :: As).toArray, t, U', L, E, ce, hT, X', hL, e1, e2, hq, hce, hcv, vx_cls hW₁ hcl, st⟩
theorem vx_runSX {hh : List (Nat × Nat × Nat × Nat)} (S : CallFix p m c cc nL s args Ts own) (hM : vx_Met l y ws rm Pc Qc XC mc ms free) (cw : vx_CSW R s args own index y bytes maxL ret hh ws rm mc ms n) (hp : PreS s H Pc As)
    (hg : g.method = m) (hn : As.length = n) (hsize : g.locals.size = nL) (hstack : g.stack = As.reverse ++ rest) (hW : 2 * g.monitorRoom + (rest.map fun v => v.category).sum ≤ 8) (hdg : decode cc g.pc = .ok (.invokestatic index, 3)) (hf : cells + mc ≤ R.cells ∧ slots + ms ≤ R.slots) :
    vx_Run p l e R s m args below meth c H locs cells slots mc ms g rest (Qc As.toArray) XC free := by
  obtain ⟨⟨hrc, hrs, hfr, hlo, hws, hcw⟩, hcode, hini, hy, hlen, hl, hstt⟩ := cw
  have hK : vx_Back l R p e below s args y 3 8 (PreOf R mc ms Pc) (PostOf Qc mc ms free) (vx_Post XC mc ms free) := vx_backW (hh := hh) (bytes := bytes) (maxL := maxL) (ret := ret) hM hp.1 hrc hrs hfr hlo hws hcw (fun a' U hW => word_at hW (Or.inl (by first | rfl | simp [Cond.onTables, Cond.keeps, Cond.steady])) hini)
  obtain ⟨hx, hb, hml, ho, -⟩ := S
  intro T hT X
  rcases vx_callSX X hx (hh := hh) (bytes := bytes) (maxL := maxL) (ret := ret) ho hl hstt hini hcode hy hK hg (hsize.trans hml.symm) (argsL := As) (rest := rest) (fun sig h => hn.trans (hlen sig h)) hstack hW (by rw [hb]; exact hdg)
    (fun vm₁ hW₁ => ⟨hf.1, hf.2, hp.2 (T.setVm vm₁) hT hW₁⟩) with ⟨v, vm₁, ⟨U', l2, c2, s2⟩, hW₁, X', ⟨g', mk, t, L, e1, e2, hq, h1, hL, h2, h3⟩, st⟩ | ⟨q, vm₁, ⟨U', l2, c2, s2⟩, hW₁, X', ⟨g', mk, t, L, E, ce, e1, e2, hq, hce, hcv, hcl, h1, hL, h2, h3⟩, st⟩
  · dsimp only [Pt.U, Pt.locs, Pt.cells, Pt.slots] at X' e1 e2 h1 h2 h3 st
    subst h1; subst h2; subst h3
    exact Or.inl ⟨v, (T.setVm vm₁).calling g' mk As.toArray, t, U', L, hT, X', hL, e1, e2, hq, st⟩
  · dsimp only [Pt.U, Pt.locs, Pt.cells, Pt.slots] at X' e1 e2 h1 h2 h3 st hcl
    subst h1; subst h2; subst h3
    exact Or.inr ⟨q, (T.setVm vm₁).calling g' mk As.toArray, t, U', L, E, ce, hT, X', hL, e1, e2, hq, hce, hcv, vx_cls hW₁ hcl, st⟩
end
end VXH
theorem vx_ofWH {l : Launch} {y : MethodName} {ws ws' : List Cond} {rm : Room} {Pc : Array Value → State → Prop} {Qc : Array Value → State → Outcome → State → Prop} {XC : String → State → State → Prop} {mc ms : Nat} {free : Addr → Prop} {cc : ByteArray} {maxL : Nat} {ret : Option FieldType} {hh : List (Nat × Nat × Nat × Nat)}
    (hy : plainName y.cls = true) (hw : ws = Cond.codeWith y cc maxL ret hh :: ws')
    (body : ∀ p e s m args below meth c s₁, BodyLoose p l y (headSpec ws rm) cc maxL ret e s m args below meth c s₁ → c.maxLocals = maxL → Pc args s →
      W p l e (headSpec ws rm).room s m args below meth c s.heap [] 0 0 (vx_MQ below Qc XC args s mc ms free) (entryFrame m args maxL)) : vx_Met l y ws rm Pc Qc XC mc ms free := by
  refine MetFree.of_bodyS (code := cc) (maxLocals := maxL) (ret := ret) hy ?_ ?_
  · intro args s m h hn
    obtain ⟨m9, meth, c, hn9, h1, h2, h3, h4, -, h5, h6, -⟩ := Cond.codeWith_spec (atoms_spec (ws := ws) h _ (by rw [hw]; exact List.mem_cons_self))
    cases hn.symm.trans hn9
    exact ⟨meth, c, h1, h2, h3, h4, h5, h6⟩
  · intro p e s m args below meth c s₁ B hml hP _
    have hh0 : s₁.heap = s.heap := by rw [B.state]; rfl
    obtain ⟨t, a1, o, b1, b2, b3⟩ := body p e s m args below meth c s₁ B hml hP s₁ hh0 (Stand.of_body B)
    exact ⟨t, o, a1, b1, b2, b3⟩
/-! ===== END ===== -/
end
section
/-! ===== BEGIN printed: names, fields, word lists, decode rows ===== -/
def RX0 : String := "AbjadPoems"
def TX0 : u_T := fun k => match k with
  | 0 => ("AbjadPoems", "order", "I", false)
  | 1 => ("AbjadPoems", "lines", "I", false)
  | 2 => ("AbjadPoems", "sizes", "[I", true)
  | 3 => ("AbjadPoems", "words", "[[I", true)
  | 4 => ("AbjadPoems", "marks", "[[I", true)
  | 5 => ("AbjadPoems", "worths", "[I", true)
  | 6 => ("AbjadPoems", "fewest", "[[I", true)
  | _ => ("AbjadPoems", "filled", "[Z", true)
def tyX0 : Nat → FieldType := fun k => match k with
  | 0 => .int
  | 1 => .int
  | 2 => .array .int
  | 3 => .array (.array .int)
  | 4 => .array (.array .int)
  | 5 => .array .int
  | 6 => .array (.array .int)
  | _ => .array .boolean
abbrev wsX00 : List Cond := u_ws RX0 TX0 8
theorem nmX0 : ∀ a, a < 8 → ∀ b, b < 8 → a ≠ b → (TX0 a).2.1 ≠ (TX0 b).2.1 := by decide +kernel
theorem tyX0_ok : ∀ k, k < 8 → parseFieldDescriptor (TX0 k).2.2.1 = some (tyX0 k) := by decide +kernel
abbrev cX0_init : ByteArray := prog_1_method_1_code
def yX0_init : MethodName := ⟨RX0, "<init>", "()V"⟩
abbrev cX0_count : ByteArray := prog_1_method_2_code
def yX0_count : MethodName := ⟨RX0, "count", "(I)I"⟩
abbrev cX0_letter : ByteArray := prog_1_method_3_code
def yX0_letter : MethodName := ⟨RX0, "letter", "(I)I"⟩
abbrev cX0_value : ByteArray := prog_1_method_4_code
def yX0_value : MethodName := ⟨RX0, "value", "(I)I"⟩
abbrev cX0_write : ByteArray := prog_1_method_6_code
def yX0_write : MethodName := ⟨RX0, "write", "()I"⟩
abbrev cX0_add : ByteArray := prog_1_method_7_code
def yX0_add : MethodName := ⟨RX0, "add", "(II)I"⟩
abbrev cX0_cut : ByteArray := prog_1_method_8_code
def yX0_cut : MethodName := ⟨RX0, "cut", "(I)I"⟩
abbrev cX0_mark : ByteArray := prog_1_method_9_code
def yX0_mark : MethodName := ⟨RX0, "mark", "(III)Z"⟩
abbrev cX0_word : ByteArray := prog_1_method_10_code
def yX0_word : MethodName := ⟨RX0, "word", "(III)I"⟩
abbrev cX0_line : ByteArray := prog_1_method_11_code
def yX0_line : MethodName := ⟨RX0, "line", "(II)I"⟩
abbrev cX0_told : ByteArray := prog_1_method_12_code
def yX0_told : MethodName := ⟨RX0, "told", "(I)I"⟩
abbrev cX0_hidden : ByteArray := prog_1_method_13_code
def yX0_hidden : MethodName := ⟨RX0, "hidden", "(II)I"⟩
abbrev cX0_hides : ByteArray := prog_1_method_14_code
def yX0_hides : MethodName := ⟨RX0, "hides", "(I)I"⟩
abbrev cX0_lacks : ByteArray := prog_1_method_15_code
def yX0_lacks : MethodName := ⟨RX0, "lacks", "(II)I"⟩
abbrev cX0_nearest : ByteArray := prog_1_method_16_code
def yX0_nearest : MethodName := ⟨RX0, "nearest", "(I)I"⟩
abbrev cX0_mean : ByteArray := prog_1_method_19_code
def yX0_mean : MethodName := ⟨RX0, "mean", "()D"⟩
abbrev cX0_checkLine : ByteArray := prog_1_method_21_code
def yX0_checkLine : MethodName := ⟨RX0, "checkLine", "(I)V"⟩
abbrev cX0_checkWordOfLine : ByteArray := prog_1_method_22_code
def yX0_checkWordOfLine : MethodName := ⟨RX0, "checkWordOfLine", "(II)V"⟩
abbrev cX0_checkWhat : ByteArray := prog_1_method_23_code
def yX0_checkWhat : MethodName := ⟨RX0, "checkWhat", "(II)V"⟩
abbrev cX0_checkWord : ByteArray := prog_1_method_24_code
def yX0_checkWord : MethodName := ⟨RX0, "checkWord", "(I)V"⟩
abbrev cX0_worthOfLetter : ByteArray := prog_1_method_26_code
def yX0_worthOfLetter : MethodName := ⟨RX0, "worthOfLetter", "(I)I"⟩
abbrev cX0_isWord : ByteArray := prog_1_method_27_code
def yX0_isWord : MethodName := ⟨RX0, "isWord", "(I)Z"⟩
abbrev cX0_lengthOf : ByteArray := prog_1_method_28_code
def yX0_lengthOf : MethodName := ⟨RX0, "lengthOf", "(I)I"⟩
abbrev cX0_isMarked : ByteArray := prog_1_method_30_code
def yX0_isMarked : MethodName := ⟨RX0, "isMarked", "(II)Z"⟩
abbrev cX0_worthOfPlaces : ByteArray := prog_1_method_31_code
def yX0_worthOfPlaces : MethodName := ⟨RX0, "worthOfPlaces", "(II)I"⟩
abbrev cX0_figureOfWord : ByteArray := prog_1_method_32_code
def yX0_figureOfWord : MethodName := ⟨RX0, "figureOfWord", "(III)I"⟩
abbrev cX0_figureOfLine : ByteArray := prog_1_method_33_code
def yX0_figureOfLine : MethodName := ⟨RX0, "figureOfLine", "(II)I"⟩
abbrev cX0_sumOverLines : ByteArray := prog_1_method_34_code
def yX0_sumOverLines : MethodName := ⟨RX0, "sumOverLines", "(I)I"⟩
abbrev cX0_pairsOfSameWorth : ByteArray := prog_1_method_35_code
def yX0_pairsOfSameWorth : MethodName := ⟨RX0, "pairsOfSameWorth", "()I"⟩
abbrev cX0_timesAmongWorths : ByteArray := prog_1_method_36_code
def yX0_timesAmongWorths : MethodName := ⟨RX0, "timesAmongWorths", "(II)I"⟩
abbrev cX0_lastOfRun : ByteArray := prog_1_method_38_code
def yX0_lastOfRun : MethodName := ⟨RX0, "lastOfRun", "(III)I"⟩
def RX1 : String := "AbjadPoemsLaw$Sim"
def TX1 : u_T := fun k => match k with
  | 0 => ("AbjadPoemsLaw$Sim", "order", "I", false)
  | 1 => ("AbjadPoemsLaw$Sim", "lines", "[[I", false)
  | _ => ("AbjadPoemsLaw$Sim", "marks", "[[[Z", false)
def tyX1 : Nat → FieldType := fun k => match k with
  | 0 => .int
  | 1 => .array (.array .int)
  | _ => .array (.array (.array .boolean))
abbrev wsX10 : List Cond := u_ws RX1 TX1 3
theorem nmX1 : ∀ a, a < 3 → ∀ b, b < 3 → a ≠ b → (TX1 a).2.1 ≠ (TX1 b).2.1 := by decide +kernel
theorem tyX1_ok : ∀ k, k < 3 → parseFieldDescriptor (TX1 k).2.2.1 = some (tyX1 k) := by decide +kernel
abbrev cX1_init : ByteArray := prog_3_method_1_code
def yX1_init : MethodName := ⟨RX1, "<init>", "()V"⟩
abbrev cX1_value : ByteArray := prog_3_method_2_code
def yX1_value : MethodName := ⟨RX1, "value", "(I)I"⟩
abbrev cX1_write : ByteArray := prog_3_method_3_code
def yX1_write : MethodName := ⟨RX1, "write", "()V"⟩
abbrev cX1_add : ByteArray := prog_3_method_4_code
def yX1_add : MethodName := ⟨RX1, "add", "(II)V"⟩
abbrev cX1_cut : ByteArray := prog_3_method_5_code
def yX1_cut : MethodName := ⟨RX1, "cut", "(I)I"⟩
abbrev cX1_word : ByteArray := prog_3_method_6_code
def yX1_word : MethodName := ⟨RX1, "word", "(II)[I"⟩
abbrev cX1_line : ByteArray := prog_3_method_7_code
def yX1_line : MethodName := ⟨RX1, "line", "(I)[I"⟩
abbrev cX1_isSame : ByteArray := prog_3_method_8_code
def yX1_isSame : MethodName := ⟨RX1, "isSame", "(LAbjadPoems;)Z"⟩
def RX2 : String := "AbjadPoemsModel"
def TX2 : u_T := fun k => match k with
  | _ => ("", "", "", false)
def tyX2 : Nat → FieldType := fun k => match k with
  | _ => .int
abbrev wsX20 : List Cond := u_ws RX2 TX2 0
theorem nmX2 : ∀ a, a < 0 → ∀ b, b < 0 → a ≠ b → (TX2 a).2.1 ≠ (TX2 b).2.1 := by decide +kernel
theorem tyX2_ok : ∀ k, k < 0 → parseFieldDescriptor (TX2 k).2.2.1 = some (tyX2 k) := by decide +kernel
def RJ6 : String := "java/lang/Integer"
def TJ6 : u_T := fun k => match k with
  | _ => ("", "", "", false)
def tyJ6 : Nat → FieldType := fun k => match k with
  | _ => .int
abbrev wsJ60 : List Cond := u_ws RJ6 TJ6 0
theorem nmJ6 : ∀ a, a < 0 → ∀ b, b < 0 → a ≠ b → (TJ6 a).2.1 ≠ (TJ6 b).2.1 := by decide +kernel
theorem tyJ6_ok : ∀ k, k < 0 → parseFieldDescriptor (TJ6 k).2.2.1 = some (tyJ6 k) := by decide +kernel
abbrev cJ6_bitCount_0f7a4 : ByteArray := prog_9_method_49_code
def yJ6_bitCount_0f7a4 : MethodName := ⟨RJ6, "bitCount", "(I)I"⟩
def RJ9 : String := "java/lang/Math"
def TJ9 : u_T := fun k => match k with
  | _ => ("", "", "", false)
def tyJ9 : Nat → FieldType := fun k => match k with
  | _ => .int
abbrev wsJ90 : List Cond := u_ws RJ9 TJ9 0
theorem nmJ9 : ∀ a, a < 0 → ∀ b, b < 0 → a ≠ b → (TJ9 a).2.1 ≠ (TJ9 b).2.1 := by decide +kernel
theorem tyJ9_ok : ∀ k, k < 0 → parseFieldDescriptor (TJ9 k).2.2.1 = some (tyJ9 k) := by decide +kernel
abbrev cJ9_abs_0f7a4 : ByteArray := prog_10_method_59_code
def yJ9_abs_0f7a4 : MethodName := ⟨RJ9, "abs", "(I)I"⟩
abbrev cJ9_abs_067f4 : ByteArray := prog_10_method_61_code
def yJ9_abs_067f4 : MethodName := ⟨RJ9, "abs", "(J)J"⟩
def RJ0 : String := "java/lang/String"
def TJ0 : u_T := fun k => match k with
  | _ => ("", "", "", false)
def tyJ0 : Nat → FieldType := fun k => match k with
  | _ => .int
abbrev wsJ00 : List Cond := u_ws RJ0 TJ0 0
theorem nmJ0 : ∀ a, a < 0 → ∀ b, b < 0 → a ≠ b → (TJ0 a).2.1 ≠ (TJ0 b).2.1 := by decide +kernel
theorem tyJ0_ok : ∀ k, k < 0 → parseFieldDescriptor (TJ0 k).2.2.1 = some (tyJ0 k) := by decide +kernel
def RL : String := "AbjadPoemsLaw"
abbrev cL_below : ByteArray := method_2_code
def yL_below : MethodName := ⟨RL, "below", "(II)I"⟩
abbrev cL_cell : ByteArray := method_3_code
def yL_cell : MethodName := ⟨RL, "cell", "([II)I"⟩
abbrev cL_value : ByteArray := method_4_code
def yL_value : MethodName := ⟨RL, "value", "(II)I"⟩
abbrev cL_letters : ByteArray := method_5_code
def yL_letters : MethodName := ⟨RL, "letters", "(I)[I"⟩
abbrev cL_word : ByteArray := method_6_code
def yL_word : MethodName := ⟨RL, "word", "(I)I"⟩
abbrev cL_act : ByteArray := method_7_code
def yL_act : MethodName := ⟨RL, "act", "(LAbjadPoems;LAbjadPoemsLaw$Sim;I)Z"⟩
abbrev cL_build : ByteArray := method_8_code
def yL_build : MethodName := ⟨RL, "build", "(LAbjadPoems;[I)LAbjadPoemsLaw$Sim;"⟩
abbrev cL_law : ByteArray := code
def yL_law : MethodName := ⟨RL, "law", "([I)Z"⟩
def wsX0_init : List Cond := .code yX0_init cX0_init 1 none :: ([.methodLink RX0 1 objectInit, .instanceMethod objectInit, .code objectInit ⟨#[0xb1]⟩ 1 none, .fieldLink RX0 9 "AbjadPoems" "order" "I", .fieldLink RX0 13 "AbjadPoems" "lines" "I", .arrayClass .int, .fieldLink RX0 16 "AbjadPoems" "sizes" "[I", .classLink RX0 20 "[[I", .fieldLink RX0 22 "AbjadPoems" "words" "[[I", .fieldLink RX0 25 "AbjadPoems" "marks" "[[I", .fieldLink RX0 28 "AbjadPoems" "worths" "[I", .fieldLink RX0 31 "AbjadPoems" "fewest" "[[I", .arrayClass .boolean, .fieldLink RX0 34 "AbjadPoems" "filled" "[Z"] ++ wsX00)
def wsX0_count : List Cond := .code yX0_count cX0_count 3 (some .int) :: ([.classLink RX0 38 "java/lang/IndexOutOfBoundsException", .initialized "java/lang/IndexOutOfBoundsException", .fieldLink RX0 9 "AbjadPoems" "order" "I"] ++ wsX00 ++ (vx_atS RX0 42 "java/lang/IndexOutOfBoundsException" ["java/lang/RuntimeException", "java/lang/Exception"]).filter goodWord)
def wsX0_worthOfLetter : List Cond := .code yX0_worthOfLetter cX0_worthOfLetter 2 (some .int) :: ([.fieldLink RX0 9 "AbjadPoems" "order" "I"] ++ wsX00)
def wsX0_letter : List Cond := .code yX0_letter cX0_letter 2 (some .int) :: ([.classLink RX0 38 "java/lang/IndexOutOfBoundsException", .initialized "java/lang/IndexOutOfBoundsException", .methodLink RX0 47 yX0_worthOfLetter, .instanceMethod yX0_worthOfLetter, .selects RX0 yX0_worthOfLetter yX0_worthOfLetter, .initialized RX0, .code yX0_worthOfLetter cX0_worthOfLetter 2 (some .int), .fieldLink RX0 9 "AbjadPoems" "order" "I"] ++ wsX00 ++ (vx_atS RX0 42 "java/lang/IndexOutOfBoundsException" ["java/lang/RuntimeException", "java/lang/Exception"]).filter goodWord)
def wsX0_isWord : List Cond := .code yX0_isWord cX0_isWord 3 (some .boolean) :: ([.constant RX0 150 (387420489)])
def wsX0_checkWord : List Cond := .code yX0_checkWord cX0_checkWord 1 none :: ([.classLink RX0 143 "java/lang/IllegalArgumentException", .initialized "java/lang/IllegalArgumentException", .methodLink RX0 139 yX0_isWord, .static yX0_isWord, .initialized RX0, .code yX0_isWord cX0_isWord 3 (some .boolean), .constant RX0 150 (387420489)] ++ (vx_atS RX0 147 "java/lang/IllegalArgumentException" ["java/lang/RuntimeException", "java/lang/Exception"]).filter goodWord)
def wsX0_lengthOf : List Cond := .code yX0_lengthOf cX0_lengthOf 3 (some .int) :: ([])
def wsX0_isMarked : List Cond := .code yX0_isMarked cX0_isMarked 2 (some .boolean) :: ([])
def wsX0_worthOfPlaces : List Cond := .code yX0_worthOfPlaces cX0_worthOfPlaces 6 (some .int) :: ([.methodLink RX0 78 yX0_lengthOf, .static yX0_lengthOf, .initialized RX0, .code yX0_lengthOf cX0_lengthOf 3 (some .int), .methodLink RX0 83 yX0_isMarked, .static yX0_isMarked, .code yX0_isMarked cX0_isMarked 2 (some .boolean), .methodLink RX0 47 yX0_worthOfLetter, .instanceMethod yX0_worthOfLetter, .selects RX0 yX0_worthOfLetter yX0_worthOfLetter, .code yX0_worthOfLetter cX0_worthOfLetter 2 (some .int), .fieldLink RX0 9 "AbjadPoems" "order" "I"] ++ wsX00)
def wsX0_value_r1 : List Cond := [Cond.methodLink RX0 51 yX0_checkWord, Cond.static yX0_checkWord, Cond.initialized RX0, Cond.code yX0_checkWord cX0_checkWord 1 none, Cond.classLink RX0 143 "java/lang/IllegalArgumentException", Cond.initialized "java/lang/IllegalArgumentException", Cond.methodLink RX0 139 yX0_isWord, Cond.static yX0_isWord, Cond.code yX0_isWord cX0_isWord 3 (some .boolean), Cond.constant RX0 150 (387420489), Cond.methodLink RX0 55 yX0_worthOfPlaces, Cond.instanceMethod yX0_worthOfPlaces, Cond.selects RX0 yX0_worthOfPlaces yX0_worthOfPlaces, Cond.code yX0_worthOfPlaces cX0_worthOfPlaces 6 (some .int), Cond.methodLink RX0 78 yX0_lengthOf, Cond.static yX0_lengthOf, Cond.code yX0_lengthOf cX0_lengthOf 3 (some .int), Cond.methodLink RX0 83 yX0_isMarked, Cond.static yX0_isMarked, Cond.code yX0_isMarked cX0_isMarked 2 (some .boolean), Cond.methodLink RX0 47 yX0_worthOfLetter, Cond.instanceMethod yX0_worthOfLetter, Cond.selects RX0 yX0_worthOfLetter yX0_worthOfLetter, Cond.code yX0_worthOfLetter cX0_worthOfLetter 2 (some .int)]
def wsX0_value_r2 : List Cond := [Cond.fieldLink RX0 9 "AbjadPoems" "order" "I"]
def wsX0_value : List Cond := .code yX0_value cX0_value 2 (some .int) :: ((wsX0_value_r1 ++ wsX0_value_r2) ++ wsX00 ++ (vx_atS RX0 147 "java/lang/IllegalArgumentException" ["java/lang/RuntimeException", "java/lang/Exception"]).filter goodWord)
def wsX0_write : List Cond := .code yX0_write cX0_write 1 (some .int) :: ([.classLink RX0 62 "java/lang/IllegalStateException", .initialized "java/lang/IllegalStateException", .fieldLink RX0 13 "AbjadPoems" "lines" "I"] ++ wsX00 ++ (vx_atS RX0 66 "java/lang/IllegalStateException" ["java/lang/RuntimeException", "java/lang/Exception"]).filter goodWord)
def wsX0_checkLine : List Cond := .code yX0_checkLine cX0_checkLine 2 none :: ([.classLink RX0 38 "java/lang/IndexOutOfBoundsException", .initialized "java/lang/IndexOutOfBoundsException", .fieldLink RX0 13 "AbjadPoems" "lines" "I"] ++ wsX00 ++ (vx_atS RX0 42 "java/lang/IndexOutOfBoundsException" ["java/lang/RuntimeException", "java/lang/Exception"]).filter goodWord)
def wsX0_add : List Cond := .code yX0_add cX0_add 4 (some .int) :: ([.classLink RX0 62 "java/lang/IllegalStateException", .initialized "java/lang/IllegalStateException", .fieldLink RX0 16 "AbjadPoems" "sizes" "[I", .fieldLink RX0 22 "AbjadPoems" "words" "[[I", .fieldLink RX0 25 "AbjadPoems" "marks" "[[I", .methodLink RX0 67 yX0_checkLine, .instanceMethod yX0_checkLine, .selects RX0 yX0_checkLine yX0_checkLine, .initialized RX0, .code yX0_checkLine cX0_checkLine 2 none, .classLink RX0 38 "java/lang/IndexOutOfBoundsException", .initialized "java/lang/IndexOutOfBoundsException", .fieldLink RX0 13 "AbjadPoems" "lines" "I", .methodLink RX0 51 yX0_checkWord, .static yX0_checkWord, .code yX0_checkWord cX0_checkWord 1 none, .classLink RX0 143 "java/lang/IllegalArgumentException", .initialized "java/lang/IllegalArgumentException", .methodLink RX0 139 yX0_isWord, .static yX0_isWord, .code yX0_isWord cX0_isWord 3 (some .boolean), .constant RX0 150 (387420489)] ++ wsX00 ++ (vx_atS RX0 66 "java/lang/IllegalStateException" ["java/lang/RuntimeException", "java/lang/Exception"]).filter goodWord ++ (vx_atS RX0 42 "java/lang/IndexOutOfBoundsException" ["java/lang/RuntimeException", "java/lang/Exception"]).filter goodWord ++ (vx_atS RX0 147 "java/lang/IllegalArgumentException" ["java/lang/RuntimeException", "java/lang/Exception"]).filter goodWord)
def wsX0_cut : List Cond := .code yX0_cut cX0_cut 3 (some .int) :: ([.classLink RX0 62 "java/lang/IllegalStateException", .initialized "java/lang/IllegalStateException", .fieldLink RX0 16 "AbjadPoems" "sizes" "[I", .fieldLink RX0 22 "AbjadPoems" "words" "[[I", .methodLink RX0 67 yX0_checkLine, .instanceMethod yX0_checkLine, .selects RX0 yX0_checkLine yX0_checkLine, .initialized RX0, .code yX0_checkLine cX0_checkLine 2 none, .classLink RX0 38 "java/lang/IndexOutOfBoundsException", .initialized "java/lang/IndexOutOfBoundsException", .fieldLink RX0 13 "AbjadPoems" "lines" "I"] ++ wsX00 ++ (vx_atS RX0 66 "java/lang/IllegalStateException" ["java/lang/RuntimeException", "java/lang/Exception"]).filter goodWord ++ (vx_atS RX0 42 "java/lang/IndexOutOfBoundsException" ["java/lang/RuntimeException", "java/lang/Exception"]).filter goodWord)
def wsX0_checkWordOfLine : List Cond := .code yX0_checkWordOfLine cX0_checkWordOfLine 3 none :: ([.classLink RX0 38 "java/lang/IndexOutOfBoundsException", .initialized "java/lang/IndexOutOfBoundsException", .fieldLink RX0 16 "AbjadPoems" "sizes" "[I", .methodLink RX0 67 yX0_checkLine, .instanceMethod yX0_checkLine, .selects RX0 yX0_checkLine yX0_checkLine, .initialized RX0, .code yX0_checkLine cX0_checkLine 2 none, .fieldLink RX0 13 "AbjadPoems" "lines" "I"] ++ wsX00 ++ (vx_atS RX0 42 "java/lang/IndexOutOfBoundsException" ["java/lang/RuntimeException", "java/lang/Exception"]).filter goodWord)
def wsX0_mark : List Cond := .code yX0_mark cX0_mark 4 (some .boolean) :: ([.classLink RX0 38 "java/lang/IndexOutOfBoundsException", .initialized "java/lang/IndexOutOfBoundsException", .fieldLink RX0 22 "AbjadPoems" "words" "[[I", .fieldLink RX0 25 "AbjadPoems" "marks" "[[I", .methodLink RX0 74 yX0_checkWordOfLine, .instanceMethod yX0_checkWordOfLine, .selects RX0 yX0_checkWordOfLine yX0_checkWordOfLine, .initialized RX0, .code yX0_checkWordOfLine cX0_checkWordOfLine 3 none, .fieldLink RX0 16 "AbjadPoems" "sizes" "[I", .methodLink RX0 67 yX0_checkLine, .instanceMethod yX0_checkLine, .selects RX0 yX0_checkLine yX0_checkLine, .code yX0_checkLine cX0_checkLine 2 none, .fieldLink RX0 13 "AbjadPoems" "lines" "I", .methodLink RX0 78 yX0_lengthOf, .static yX0_lengthOf, .code yX0_lengthOf cX0_lengthOf 3 (some .int), .methodLink RX0 83 yX0_isMarked, .static yX0_isMarked, .code yX0_isMarked cX0_isMarked 2 (some .boolean)] ++ wsX00 ++ (vx_atS RX0 42 "java/lang/IndexOutOfBoundsException" ["java/lang/RuntimeException", "java/lang/Exception"]).filter goodWord)
def wsX0_checkWhat : List Cond := .code yX0_checkWhat cX0_checkWhat 2 none :: ([.classLink RX0 38 "java/lang/IndexOutOfBoundsException", .initialized "java/lang/IndexOutOfBoundsException"] ++ (vx_atS RX0 42 "java/lang/IndexOutOfBoundsException" ["java/lang/RuntimeException", "java/lang/Exception"]).filter goodWord)
def wsJ6_bitCount_0f7a4 : List Cond := .code yJ6_bitCount_0f7a4 cJ6_bitCount_0f7a4 1 (some .int) :: ([.constant RJ6 265 (1431655765), .constant RJ6 266 (858993459), .constant RJ6 267 (252645135)])
def wsX0_figureOfWord_r1 : List Cond := [Cond.fieldLink RX0 22 "AbjadPoems" "words" "[[I", Cond.fieldLink RX0 25 "AbjadPoems" "marks" "[[I", Cond.methodLink RX0 78 yX0_lengthOf, Cond.static yX0_lengthOf, Cond.initialized RX0, Cond.code yX0_lengthOf cX0_lengthOf 3 (some .int), Cond.methodLink RX0 55 yX0_worthOfPlaces, Cond.instanceMethod yX0_worthOfPlaces, Cond.selects RX0 yX0_worthOfPlaces yX0_worthOfPlaces, Cond.code yX0_worthOfPlaces cX0_worthOfPlaces 6 (some .int), Cond.methodLink RX0 83 yX0_isMarked, Cond.static yX0_isMarked, Cond.code yX0_isMarked cX0_isMarked 2 (some .boolean), Cond.methodLink RX0 47 yX0_worthOfLetter, Cond.instanceMethod yX0_worthOfLetter, Cond.selects RX0 yX0_worthOfLetter yX0_worthOfLetter, Cond.code yX0_worthOfLetter cX0_worthOfLetter 2 (some .int), Cond.fieldLink RX0 9 "AbjadPoems" "order" "I", Cond.methodLink RX0 151 yJ6_bitCount_0f7a4, Cond.static yJ6_bitCount_0f7a4, Cond.initialized RJ6, Cond.code yJ6_bitCount_0f7a4 cJ6_bitCount_0f7a4 1 (some .int), Cond.constant RJ6 265 (1431655765), Cond.constant RJ6 266 (858993459)]
def wsX0_figureOfWord_r2 : List Cond := [Cond.constant RJ6 267 (252645135)]
def wsX0_figureOfWord : List Cond := .code yX0_figureOfWord cX0_figureOfWord 4 (some .int) :: ((wsX0_figureOfWord_r1 ++ wsX0_figureOfWord_r2) ++ wsX00)
def wsX0_word_r1 : List Cond := [Cond.methodLink RX0 74 yX0_checkWordOfLine, Cond.instanceMethod yX0_checkWordOfLine, Cond.selects RX0 yX0_checkWordOfLine yX0_checkWordOfLine, Cond.initialized RX0, Cond.code yX0_checkWordOfLine cX0_checkWordOfLine 3 none, Cond.classLink RX0 38 "java/lang/IndexOutOfBoundsException", Cond.initialized "java/lang/IndexOutOfBoundsException", Cond.fieldLink RX0 16 "AbjadPoems" "sizes" "[I", Cond.methodLink RX0 67 yX0_checkLine, Cond.instanceMethod yX0_checkLine, Cond.selects RX0 yX0_checkLine yX0_checkLine, Cond.code yX0_checkLine cX0_checkLine 2 none, Cond.fieldLink RX0 13 "AbjadPoems" "lines" "I", Cond.methodLink RX0 87 yX0_checkWhat, Cond.static yX0_checkWhat, Cond.code yX0_checkWhat cX0_checkWhat 2 none, Cond.methodLink RX0 90 yX0_figureOfWord, Cond.instanceMethod yX0_figureOfWord, Cond.selects RX0 yX0_figureOfWord yX0_figureOfWord, Cond.code yX0_figureOfWord cX0_figureOfWord 4 (some .int), Cond.fieldLink RX0 22 "AbjadPoems" "words" "[[I", Cond.fieldLink RX0 25 "AbjadPoems" "marks" "[[I", Cond.methodLink RX0 78 yX0_lengthOf, Cond.static yX0_lengthOf]
def wsX0_word_r2 : List Cond := [Cond.code yX0_lengthOf cX0_lengthOf 3 (some .int), Cond.methodLink RX0 55 yX0_worthOfPlaces, Cond.instanceMethod yX0_worthOfPlaces, Cond.selects RX0 yX0_worthOfPlaces yX0_worthOfPlaces, Cond.code yX0_worthOfPlaces cX0_worthOfPlaces 6 (some .int), Cond.methodLink RX0 83 yX0_isMarked, Cond.static yX0_isMarked, Cond.code yX0_isMarked cX0_isMarked 2 (some .boolean), Cond.methodLink RX0 47 yX0_worthOfLetter, Cond.instanceMethod yX0_worthOfLetter, Cond.selects RX0 yX0_worthOfLetter yX0_worthOfLetter, Cond.code yX0_worthOfLetter cX0_worthOfLetter 2 (some .int), Cond.fieldLink RX0 9 "AbjadPoems" "order" "I", Cond.methodLink RX0 151 yJ6_bitCount_0f7a4, Cond.static yJ6_bitCount_0f7a4, Cond.initialized RJ6, Cond.code yJ6_bitCount_0f7a4 cJ6_bitCount_0f7a4 1 (some .int), Cond.constant RJ6 265 (1431655765), Cond.constant RJ6 266 (858993459), Cond.constant RJ6 267 (252645135)]
def wsX0_word : List Cond := .code yX0_word cX0_word 4 (some .int) :: ((wsX0_word_r1 ++ wsX0_word_r2) ++ wsX00 ++ (vx_atS RX0 42 "java/lang/IndexOutOfBoundsException" ["java/lang/RuntimeException", "java/lang/Exception"]).filter goodWord)
def wsX0_figureOfLine_r1 : List Cond := [Cond.fieldLink RX0 16 "AbjadPoems" "sizes" "[I", Cond.methodLink RX0 90 yX0_figureOfWord, Cond.instanceMethod yX0_figureOfWord, Cond.selects RX0 yX0_figureOfWord yX0_figureOfWord, Cond.initialized RX0, Cond.code yX0_figureOfWord cX0_figureOfWord 4 (some .int), Cond.fieldLink RX0 22 "AbjadPoems" "words" "[[I", Cond.fieldLink RX0 25 "AbjadPoems" "marks" "[[I", Cond.methodLink RX0 78 yX0_lengthOf, Cond.static yX0_lengthOf, Cond.code yX0_lengthOf cX0_lengthOf 3 (some .int), Cond.methodLink RX0 55 yX0_worthOfPlaces, Cond.instanceMethod yX0_worthOfPlaces, Cond.selects RX0 yX0_worthOfPlaces yX0_worthOfPlaces, Cond.code yX0_worthOfPlaces cX0_worthOfPlaces 6 (some .int), Cond.methodLink RX0 83 yX0_isMarked, Cond.static yX0_isMarked, Cond.code yX0_isMarked cX0_isMarked 2 (some .boolean), Cond.methodLink RX0 47 yX0_worthOfLetter, Cond.instanceMethod yX0_worthOfLetter, Cond.selects RX0 yX0_worthOfLetter yX0_worthOfLetter, Cond.code yX0_worthOfLetter cX0_worthOfLetter 2 (some .int), Cond.fieldLink RX0 9 "AbjadPoems" "order" "I", Cond.methodLink RX0 151 yJ6_bitCount_0f7a4]
def wsX0_figureOfLine_r2 : List Cond := [Cond.static yJ6_bitCount_0f7a4, Cond.initialized RJ6, Cond.code yJ6_bitCount_0f7a4 cJ6_bitCount_0f7a4 1 (some .int), Cond.constant RJ6 265 (1431655765), Cond.constant RJ6 266 (858993459), Cond.constant RJ6 267 (252645135)]
def wsX0_figureOfLine : List Cond := .code yX0_figureOfLine cX0_figureOfLine 5 (some .int) :: ((wsX0_figureOfLine_r1 ++ wsX0_figureOfLine_r2) ++ wsX00)
def wsX0_line_r1 : List Cond := [Cond.methodLink RX0 67 yX0_checkLine, Cond.instanceMethod yX0_checkLine, Cond.selects RX0 yX0_checkLine yX0_checkLine, Cond.initialized RX0, Cond.code yX0_checkLine cX0_checkLine 2 none, Cond.classLink RX0 38 "java/lang/IndexOutOfBoundsException", Cond.initialized "java/lang/IndexOutOfBoundsException", Cond.fieldLink RX0 13 "AbjadPoems" "lines" "I", Cond.methodLink RX0 87 yX0_checkWhat, Cond.static yX0_checkWhat, Cond.code yX0_checkWhat cX0_checkWhat 2 none, Cond.methodLink RX0 94 yX0_figureOfLine, Cond.instanceMethod yX0_figureOfLine, Cond.selects RX0 yX0_figureOfLine yX0_figureOfLine, Cond.code yX0_figureOfLine cX0_figureOfLine 5 (some .int), Cond.fieldLink RX0 16 "AbjadPoems" "sizes" "[I", Cond.methodLink RX0 90 yX0_figureOfWord, Cond.instanceMethod yX0_figureOfWord, Cond.selects RX0 yX0_figureOfWord yX0_figureOfWord, Cond.code yX0_figureOfWord cX0_figureOfWord 4 (some .int), Cond.fieldLink RX0 22 "AbjadPoems" "words" "[[I", Cond.fieldLink RX0 25 "AbjadPoems" "marks" "[[I", Cond.methodLink RX0 78 yX0_lengthOf, Cond.static yX0_lengthOf]
def wsX0_line_r2 : List Cond := [Cond.code yX0_lengthOf cX0_lengthOf 3 (some .int), Cond.methodLink RX0 55 yX0_worthOfPlaces, Cond.instanceMethod yX0_worthOfPlaces, Cond.selects RX0 yX0_worthOfPlaces yX0_worthOfPlaces, Cond.code yX0_worthOfPlaces cX0_worthOfPlaces 6 (some .int), Cond.methodLink RX0 83 yX0_isMarked, Cond.static yX0_isMarked, Cond.code yX0_isMarked cX0_isMarked 2 (some .boolean), Cond.methodLink RX0 47 yX0_worthOfLetter, Cond.instanceMethod yX0_worthOfLetter, Cond.selects RX0 yX0_worthOfLetter yX0_worthOfLetter, Cond.code yX0_worthOfLetter cX0_worthOfLetter 2 (some .int), Cond.fieldLink RX0 9 "AbjadPoems" "order" "I", Cond.methodLink RX0 151 yJ6_bitCount_0f7a4, Cond.static yJ6_bitCount_0f7a4, Cond.initialized RJ6, Cond.code yJ6_bitCount_0f7a4 cJ6_bitCount_0f7a4 1 (some .int), Cond.constant RJ6 265 (1431655765), Cond.constant RJ6 266 (858993459), Cond.constant RJ6 267 (252645135)]
def wsX0_line : List Cond := .code yX0_line cX0_line 3 (some .int) :: ((wsX0_line_r1 ++ wsX0_line_r2) ++ wsX00 ++ (vx_atS RX0 42 "java/lang/IndexOutOfBoundsException" ["java/lang/RuntimeException", "java/lang/Exception"]).filter goodWord)
def wsX0_timesAmongWorths : List Cond := .code yX0_timesAmongWorths cX0_timesAmongWorths 5 (some .int) :: ([.fieldLink RX0 28 "AbjadPoems" "worths" "[I"] ++ wsX00)
def wsX0_pairsOfSameWorth : List Cond := .code yX0_pairsOfSameWorth cX0_pairsOfSameWorth 6 (some .int) :: ([.fieldLink RX0 13 "AbjadPoems" "lines" "I", .fieldLink RX0 16 "AbjadPoems" "sizes" "[I", .fieldLink RX0 22 "AbjadPoems" "words" "[[I", .fieldLink RX0 28 "AbjadPoems" "worths" "[I", .methodLink RX0 55 yX0_worthOfPlaces, .instanceMethod yX0_worthOfPlaces, .selects RX0 yX0_worthOfPlaces yX0_worthOfPlaces, .initialized RX0, .code yX0_worthOfPlaces cX0_worthOfPlaces 6 (some .int), .methodLink RX0 78 yX0_lengthOf, .static yX0_lengthOf, .code yX0_lengthOf cX0_lengthOf 3 (some .int), .methodLink RX0 83 yX0_isMarked, .static yX0_isMarked, .code yX0_isMarked cX0_isMarked 2 (some .boolean), .methodLink RX0 47 yX0_worthOfLetter, .instanceMethod yX0_worthOfLetter, .selects RX0 yX0_worthOfLetter yX0_worthOfLetter, .code yX0_worthOfLetter cX0_worthOfLetter 2 (some .int), .fieldLink RX0 9 "AbjadPoems" "order" "I", .methodLink RX0 156 yX0_timesAmongWorths, .instanceMethod yX0_timesAmongWorths, .selects RX0 yX0_timesAmongWorths yX0_timesAmongWorths, .code yX0_timesAmongWorths cX0_timesAmongWorths 5 (some .int)] ++ wsX00)
def wsX0_sumOverLines_r1 : List Cond := [Cond.fieldLink RX0 13 "AbjadPoems" "lines" "I", Cond.methodLink RX0 94 yX0_figureOfLine, Cond.instanceMethod yX0_figureOfLine, Cond.selects RX0 yX0_figureOfLine yX0_figureOfLine, Cond.initialized RX0, Cond.code yX0_figureOfLine cX0_figureOfLine 5 (some .int), Cond.fieldLink RX0 16 "AbjadPoems" "sizes" "[I", Cond.methodLink RX0 90 yX0_figureOfWord, Cond.instanceMethod yX0_figureOfWord, Cond.selects RX0 yX0_figureOfWord yX0_figureOfWord, Cond.code yX0_figureOfWord cX0_figureOfWord 4 (some .int), Cond.fieldLink RX0 22 "AbjadPoems" "words" "[[I", Cond.fieldLink RX0 25 "AbjadPoems" "marks" "[[I", Cond.methodLink RX0 78 yX0_lengthOf, Cond.static yX0_lengthOf, Cond.code yX0_lengthOf cX0_lengthOf 3 (some .int), Cond.methodLink RX0 55 yX0_worthOfPlaces, Cond.instanceMethod yX0_worthOfPlaces, Cond.selects RX0 yX0_worthOfPlaces yX0_worthOfPlaces, Cond.code yX0_worthOfPlaces cX0_worthOfPlaces 6 (some .int), Cond.methodLink RX0 83 yX0_isMarked, Cond.static yX0_isMarked, Cond.code yX0_isMarked cX0_isMarked 2 (some .boolean), Cond.methodLink RX0 47 yX0_worthOfLetter]
def wsX0_sumOverLines_r2 : List Cond := [Cond.instanceMethod yX0_worthOfLetter, Cond.selects RX0 yX0_worthOfLetter yX0_worthOfLetter, Cond.code yX0_worthOfLetter cX0_worthOfLetter 2 (some .int), Cond.fieldLink RX0 9 "AbjadPoems" "order" "I", Cond.methodLink RX0 151 yJ6_bitCount_0f7a4, Cond.static yJ6_bitCount_0f7a4, Cond.initialized RJ6, Cond.code yJ6_bitCount_0f7a4 cJ6_bitCount_0f7a4 1 (some .int), Cond.constant RJ6 265 (1431655765), Cond.constant RJ6 266 (858993459), Cond.constant RJ6 267 (252645135)]
def wsX0_sumOverLines : List Cond := .code yX0_sumOverLines cX0_sumOverLines 4 (some .int) :: ((wsX0_sumOverLines_r1 ++ wsX0_sumOverLines_r2) ++ wsX00)
def wsX0_told_r1 : List Cond := [Cond.fieldLink RX0 13 "AbjadPoems" "lines" "I", Cond.methodLink RX0 87 yX0_checkWhat, Cond.static yX0_checkWhat, Cond.initialized RX0, Cond.code yX0_checkWhat cX0_checkWhat 2 none, Cond.classLink RX0 38 "java/lang/IndexOutOfBoundsException", Cond.initialized "java/lang/IndexOutOfBoundsException", Cond.methodLink RX0 97 yX0_pairsOfSameWorth, Cond.instanceMethod yX0_pairsOfSameWorth, Cond.selects RX0 yX0_pairsOfSameWorth yX0_pairsOfSameWorth, Cond.code yX0_pairsOfSameWorth cX0_pairsOfSameWorth 6 (some .int), Cond.fieldLink RX0 16 "AbjadPoems" "sizes" "[I", Cond.fieldLink RX0 22 "AbjadPoems" "words" "[[I", Cond.fieldLink RX0 28 "AbjadPoems" "worths" "[I", Cond.methodLink RX0 55 yX0_worthOfPlaces, Cond.instanceMethod yX0_worthOfPlaces, Cond.selects RX0 yX0_worthOfPlaces yX0_worthOfPlaces, Cond.code yX0_worthOfPlaces cX0_worthOfPlaces 6 (some .int), Cond.methodLink RX0 78 yX0_lengthOf, Cond.static yX0_lengthOf, Cond.code yX0_lengthOf cX0_lengthOf 3 (some .int), Cond.methodLink RX0 83 yX0_isMarked, Cond.static yX0_isMarked, Cond.code yX0_isMarked cX0_isMarked 2 (some .boolean)]
def wsX0_told_r2 : List Cond := [Cond.methodLink RX0 47 yX0_worthOfLetter, Cond.instanceMethod yX0_worthOfLetter, Cond.selects RX0 yX0_worthOfLetter yX0_worthOfLetter, Cond.code yX0_worthOfLetter cX0_worthOfLetter 2 (some .int), Cond.fieldLink RX0 9 "AbjadPoems" "order" "I", Cond.methodLink RX0 156 yX0_timesAmongWorths, Cond.instanceMethod yX0_timesAmongWorths, Cond.selects RX0 yX0_timesAmongWorths yX0_timesAmongWorths, Cond.code yX0_timesAmongWorths cX0_timesAmongWorths 5 (some .int), Cond.methodLink RX0 101 yX0_sumOverLines, Cond.instanceMethod yX0_sumOverLines, Cond.selects RX0 yX0_sumOverLines yX0_sumOverLines, Cond.code yX0_sumOverLines cX0_sumOverLines 4 (some .int), Cond.methodLink RX0 94 yX0_figureOfLine, Cond.instanceMethod yX0_figureOfLine, Cond.selects RX0 yX0_figureOfLine yX0_figureOfLine, Cond.code yX0_figureOfLine cX0_figureOfLine 5 (some .int), Cond.methodLink RX0 90 yX0_figureOfWord, Cond.instanceMethod yX0_figureOfWord, Cond.selects RX0 yX0_figureOfWord yX0_figureOfWord, Cond.code yX0_figureOfWord cX0_figureOfWord 4 (some .int), Cond.fieldLink RX0 25 "AbjadPoems" "marks" "[[I", Cond.methodLink RX0 151 yJ6_bitCount_0f7a4, Cond.static yJ6_bitCount_0f7a4]
def wsX0_told_r3 : List Cond := [Cond.initialized RJ6, Cond.code yJ6_bitCount_0f7a4 cJ6_bitCount_0f7a4 1 (some .int), Cond.constant RJ6 265 (1431655765), Cond.constant RJ6 266 (858993459), Cond.constant RJ6 267 (252645135)]
def wsX0_told : List Cond := .code yX0_told cX0_told 2 (some .int) :: ((wsX0_told_r1 ++ (wsX0_told_r2 ++ wsX0_told_r3)) ++ wsX00 ++ (vx_atS RX0 42 "java/lang/IndexOutOfBoundsException" ["java/lang/RuntimeException", "java/lang/Exception"]).filter goodWord)
def wsX0_lastOfRun : List Cond := .code yX0_lastOfRun cX0_lastOfRun 6 (some .int) :: ([.fieldLink RX0 16 "AbjadPoems" "sizes" "[I", .fieldLink RX0 22 "AbjadPoems" "words" "[[I", .methodLink RX0 55 yX0_worthOfPlaces, .instanceMethod yX0_worthOfPlaces, .selects RX0 yX0_worthOfPlaces yX0_worthOfPlaces, .initialized RX0, .code yX0_worthOfPlaces cX0_worthOfPlaces 6 (some .int), .methodLink RX0 78 yX0_lengthOf, .static yX0_lengthOf, .code yX0_lengthOf cX0_lengthOf 3 (some .int), .methodLink RX0 83 yX0_isMarked, .static yX0_isMarked, .code yX0_isMarked cX0_isMarked 2 (some .boolean), .methodLink RX0 47 yX0_worthOfLetter, .instanceMethod yX0_worthOfLetter, .selects RX0 yX0_worthOfLetter yX0_worthOfLetter, .code yX0_worthOfLetter cX0_worthOfLetter 2 (some .int), .fieldLink RX0 9 "AbjadPoems" "order" "I"] ++ wsX00)
def wsX0_hidden_r1 : List Cond := [Cond.fieldLink RX0 16 "AbjadPoems" "sizes" "[I", Cond.methodLink RX0 67 yX0_checkLine, Cond.instanceMethod yX0_checkLine, Cond.selects RX0 yX0_checkLine yX0_checkLine, Cond.initialized RX0, Cond.code yX0_checkLine cX0_checkLine 2 none, Cond.classLink RX0 38 "java/lang/IndexOutOfBoundsException", Cond.initialized "java/lang/IndexOutOfBoundsException", Cond.fieldLink RX0 13 "AbjadPoems" "lines" "I", Cond.methodLink RX0 104 yX0_lastOfRun, Cond.instanceMethod yX0_lastOfRun, Cond.selects RX0 yX0_lastOfRun yX0_lastOfRun, Cond.code yX0_lastOfRun cX0_lastOfRun 6 (some .int), Cond.fieldLink RX0 22 "AbjadPoems" "words" "[[I", Cond.methodLink RX0 55 yX0_worthOfPlaces, Cond.instanceMethod yX0_worthOfPlaces, Cond.selects RX0 yX0_worthOfPlaces yX0_worthOfPlaces, Cond.code yX0_worthOfPlaces cX0_worthOfPlaces 6 (some .int), Cond.methodLink RX0 78 yX0_lengthOf, Cond.static yX0_lengthOf, Cond.code yX0_lengthOf cX0_lengthOf 3 (some .int), Cond.methodLink RX0 83 yX0_isMarked, Cond.static yX0_isMarked, Cond.code yX0_isMarked cX0_isMarked 2 (some .boolean)]
def wsX0_hidden_r2 : List Cond := [Cond.methodLink RX0 47 yX0_worthOfLetter, Cond.instanceMethod yX0_worthOfLetter, Cond.selects RX0 yX0_worthOfLetter yX0_worthOfLetter, Cond.code yX0_worthOfLetter cX0_worthOfLetter 2 (some .int), Cond.fieldLink RX0 9 "AbjadPoems" "order" "I"]
def wsX0_hidden : List Cond := .code yX0_hidden cX0_hidden 5 (some .int) :: ((wsX0_hidden_r1 ++ wsX0_hidden_r2) ++ wsX00 ++ (vx_atS RX0 42 "java/lang/IndexOutOfBoundsException" ["java/lang/RuntimeException", "java/lang/Exception"]).filter goodWord)
def wsX0_hides : List Cond := .code yX0_hides cX0_hides 5 (some .int) :: ([.fieldLink RX0 13 "AbjadPoems" "lines" "I", .fieldLink RX0 16 "AbjadPoems" "sizes" "[I", .methodLink RX0 104 yX0_lastOfRun, .instanceMethod yX0_lastOfRun, .selects RX0 yX0_lastOfRun yX0_lastOfRun, .initialized RX0, .code yX0_lastOfRun cX0_lastOfRun 6 (some .int), .fieldLink RX0 22 "AbjadPoems" "words" "[[I", .methodLink RX0 55 yX0_worthOfPlaces, .instanceMethod yX0_worthOfPlaces, .selects RX0 yX0_worthOfPlaces yX0_worthOfPlaces, .code yX0_worthOfPlaces cX0_worthOfPlaces 6 (some .int), .methodLink RX0 78 yX0_lengthOf, .static yX0_lengthOf, .code yX0_lengthOf cX0_lengthOf 3 (some .int), .methodLink RX0 83 yX0_isMarked, .static yX0_isMarked, .code yX0_isMarked cX0_isMarked 2 (some .boolean), .methodLink RX0 47 yX0_worthOfLetter, .instanceMethod yX0_worthOfLetter, .selects RX0 yX0_worthOfLetter yX0_worthOfLetter, .code yX0_worthOfLetter cX0_worthOfLetter 2 (some .int), .fieldLink RX0 9 "AbjadPoems" "order" "I"] ++ wsX00)
def wsX0_lacks_r1 : List Cond := [Cond.methodLink RX0 67 yX0_checkLine, Cond.instanceMethod yX0_checkLine, Cond.selects RX0 yX0_checkLine yX0_checkLine, Cond.initialized RX0, Cond.code yX0_checkLine cX0_checkLine 2 none, Cond.classLink RX0 38 "java/lang/IndexOutOfBoundsException", Cond.initialized "java/lang/IndexOutOfBoundsException", Cond.fieldLink RX0 13 "AbjadPoems" "lines" "I", Cond.methodLink RX0 94 yX0_figureOfLine, Cond.instanceMethod yX0_figureOfLine, Cond.selects RX0 yX0_figureOfLine yX0_figureOfLine, Cond.code yX0_figureOfLine cX0_figureOfLine 5 (some .int), Cond.fieldLink RX0 16 "AbjadPoems" "sizes" "[I", Cond.methodLink RX0 90 yX0_figureOfWord, Cond.instanceMethod yX0_figureOfWord, Cond.selects RX0 yX0_figureOfWord yX0_figureOfWord, Cond.code yX0_figureOfWord cX0_figureOfWord 4 (some .int), Cond.fieldLink RX0 22 "AbjadPoems" "words" "[[I", Cond.fieldLink RX0 25 "AbjadPoems" "marks" "[[I", Cond.methodLink RX0 78 yX0_lengthOf, Cond.static yX0_lengthOf, Cond.code yX0_lengthOf cX0_lengthOf 3 (some .int), Cond.methodLink RX0 55 yX0_worthOfPlaces, Cond.instanceMethod yX0_worthOfPlaces]
def wsX0_lacks_r2 : List Cond := [Cond.selects RX0 yX0_worthOfPlaces yX0_worthOfPlaces, Cond.code yX0_worthOfPlaces cX0_worthOfPlaces 6 (some .int), Cond.methodLink RX0 83 yX0_isMarked, Cond.static yX0_isMarked, Cond.code yX0_isMarked cX0_isMarked 2 (some .boolean), Cond.methodLink RX0 47 yX0_worthOfLetter, Cond.instanceMethod yX0_worthOfLetter, Cond.selects RX0 yX0_worthOfLetter yX0_worthOfLetter, Cond.code yX0_worthOfLetter cX0_worthOfLetter 2 (some .int), Cond.fieldLink RX0 9 "AbjadPoems" "order" "I", Cond.methodLink RX0 151 yJ6_bitCount_0f7a4, Cond.static yJ6_bitCount_0f7a4, Cond.initialized RJ6, Cond.code yJ6_bitCount_0f7a4 cJ6_bitCount_0f7a4 1 (some .int), Cond.constant RJ6 265 (1431655765), Cond.constant RJ6 266 (858993459), Cond.constant RJ6 267 (252645135)]
def wsX0_lacks : List Cond := .code yX0_lacks cX0_lacks 5 (some .int) :: ((wsX0_lacks_r1 ++ wsX0_lacks_r2) ++ wsX00 ++ (vx_atS RX0 42 "java/lang/IndexOutOfBoundsException" ["java/lang/RuntimeException", "java/lang/Exception"]).filter goodWord)
def wsX0_nearest_r1 : List Cond := [Cond.fieldLink RX0 13 "AbjadPoems" "lines" "I", Cond.methodLink RX0 107 Lib.MathLoose.abs_long.x, Cond.static Lib.MathLoose.abs_long.x, Cond.initialized "java/lang/Math", Cond.code Lib.MathLoose.abs_long.x Lib.MathLoose.abs_long.code 2 (some .long), Cond.methodLink RX0 94 yX0_figureOfLine, Cond.instanceMethod yX0_figureOfLine, Cond.selects RX0 yX0_figureOfLine yX0_figureOfLine, Cond.initialized RX0, Cond.code yX0_figureOfLine cX0_figureOfLine 5 (some .int), Cond.fieldLink RX0 16 "AbjadPoems" "sizes" "[I", Cond.methodLink RX0 90 yX0_figureOfWord, Cond.instanceMethod yX0_figureOfWord, Cond.selects RX0 yX0_figureOfWord yX0_figureOfWord, Cond.code yX0_figureOfWord cX0_figureOfWord 4 (some .int), Cond.fieldLink RX0 22 "AbjadPoems" "words" "[[I", Cond.fieldLink RX0 25 "AbjadPoems" "marks" "[[I", Cond.methodLink RX0 78 yX0_lengthOf, Cond.static yX0_lengthOf, Cond.code yX0_lengthOf cX0_lengthOf 3 (some .int), Cond.methodLink RX0 55 yX0_worthOfPlaces, Cond.instanceMethod yX0_worthOfPlaces, Cond.selects RX0 yX0_worthOfPlaces yX0_worthOfPlaces, Cond.code yX0_worthOfPlaces cX0_worthOfPlaces 6 (some .int)]
def wsX0_nearest_r2 : List Cond := [Cond.methodLink RX0 83 yX0_isMarked, Cond.static yX0_isMarked, Cond.code yX0_isMarked cX0_isMarked 2 (some .boolean), Cond.methodLink RX0 47 yX0_worthOfLetter, Cond.instanceMethod yX0_worthOfLetter, Cond.selects RX0 yX0_worthOfLetter yX0_worthOfLetter, Cond.code yX0_worthOfLetter cX0_worthOfLetter 2 (some .int), Cond.fieldLink RX0 9 "AbjadPoems" "order" "I", Cond.methodLink RX0 151 yJ6_bitCount_0f7a4, Cond.static yJ6_bitCount_0f7a4, Cond.initialized RJ6, Cond.code yJ6_bitCount_0f7a4 cJ6_bitCount_0f7a4 1 (some .int), Cond.constant RJ6 265 (1431655765), Cond.constant RJ6 266 (858993459), Cond.constant RJ6 267 (252645135)]
def wsX0_nearest : List Cond := .code yX0_nearest cX0_nearest 8 (some .int) :: ((wsX0_nearest_r1 ++ wsX0_nearest_r2) ++ wsX00)
def wsX0_mean_r1 : List Cond := [Cond.methodLink RX0 101 yX0_sumOverLines, Cond.instanceMethod yX0_sumOverLines, Cond.selects RX0 yX0_sumOverLines yX0_sumOverLines, Cond.initialized RX0, Cond.code yX0_sumOverLines cX0_sumOverLines 4 (some .int), Cond.fieldLink RX0 13 "AbjadPoems" "lines" "I", Cond.methodLink RX0 94 yX0_figureOfLine, Cond.instanceMethod yX0_figureOfLine, Cond.selects RX0 yX0_figureOfLine yX0_figureOfLine, Cond.code yX0_figureOfLine cX0_figureOfLine 5 (some .int), Cond.fieldLink RX0 16 "AbjadPoems" "sizes" "[I", Cond.methodLink RX0 90 yX0_figureOfWord, Cond.instanceMethod yX0_figureOfWord, Cond.selects RX0 yX0_figureOfWord yX0_figureOfWord, Cond.code yX0_figureOfWord cX0_figureOfWord 4 (some .int), Cond.fieldLink RX0 22 "AbjadPoems" "words" "[[I", Cond.fieldLink RX0 25 "AbjadPoems" "marks" "[[I", Cond.methodLink RX0 78 yX0_lengthOf, Cond.static yX0_lengthOf, Cond.code yX0_lengthOf cX0_lengthOf 3 (some .int), Cond.methodLink RX0 55 yX0_worthOfPlaces, Cond.instanceMethod yX0_worthOfPlaces, Cond.selects RX0 yX0_worthOfPlaces yX0_worthOfPlaces, Cond.code yX0_worthOfPlaces cX0_worthOfPlaces 6 (some .int)]
def wsX0_mean_r2 : List Cond := [Cond.methodLink RX0 83 yX0_isMarked, Cond.static yX0_isMarked, Cond.code yX0_isMarked cX0_isMarked 2 (some .boolean), Cond.methodLink RX0 47 yX0_worthOfLetter, Cond.instanceMethod yX0_worthOfLetter, Cond.selects RX0 yX0_worthOfLetter yX0_worthOfLetter, Cond.code yX0_worthOfLetter cX0_worthOfLetter 2 (some .int), Cond.fieldLink RX0 9 "AbjadPoems" "order" "I", Cond.methodLink RX0 151 yJ6_bitCount_0f7a4, Cond.static yJ6_bitCount_0f7a4, Cond.initialized RJ6, Cond.code yJ6_bitCount_0f7a4 cJ6_bitCount_0f7a4 1 (some .int), Cond.constant RJ6 265 (1431655765), Cond.constant RJ6 266 (858993459), Cond.constant RJ6 267 (252645135)]
def wsX0_mean : List Cond := .code yX0_mean cX0_mean 2 (some .double) :: ((wsX0_mean_r1 ++ wsX0_mean_r2) ++ wsX00)
def wsX1_init : List Cond := .code yX1_init cX1_init 1 none :: ([.methodLink RX1 1 objectInit, .instanceMethod objectInit, .code objectInit ⟨#[0xb1]⟩ 1 none, .classLink RX1 7 "[I", .fieldLink RX1 9 "AbjadPoemsLaw$Sim" "lines" "[[I", .fieldLink RX1 17 "AbjadPoemsLaw$Sim" "marks" "[[[Z"] ++ wsX10)
def wsL_letters : List Cond := .code yL_letters cL_letters 4 (some (.array .int)) :: ([.arrayClass .int])
def wsL_value : List Cond := .code yL_value cL_value 4 (some .int) :: ([])
def wsX1_value : List Cond := .code yX1_value cX1_value 7 (some .int) :: ([.fieldLink RX1 27 "AbjadPoemsLaw$Sim" "order" "I", .static yL_letters, .initialized RL, .code yL_letters cL_letters 4 (some (.array .int)), .arrayClass .int, .static yL_value, .code yL_value cL_value 4 (some .int)] ++ wsX10)
def wsX1_write : List Cond := .code yX1_write cX1_write 5 none :: ([.fieldLink RX1 9 "AbjadPoemsLaw$Sim" "lines" "[[I", .classLink RX1 7 "[I", .fieldLink RX1 17 "AbjadPoemsLaw$Sim" "marks" "[[[Z", .arrayClass .int, .classLink RX1 35 "[Z"] ++ wsX10)
def wsX1_add : List Cond := .code yX1_add cX1_add 7 none :: ([.fieldLink RX1 9 "AbjadPoemsLaw$Sim" "lines" "[[I", .arrayClass .int, .classLink RX1 35 "[Z", .fieldLink RX1 17 "AbjadPoemsLaw$Sim" "marks" "[[[Z", .arrayClass .boolean, .static yL_letters, .initialized RL, .code yL_letters cL_letters 4 (some (.array .int))] ++ wsX10)
def wsX1_cut : List Cond := .code yX1_cut cX1_cut 7 (some .int) :: ([.fieldLink RX1 9 "AbjadPoemsLaw$Sim" "lines" "[[I", .arrayClass .int, .classLink RX1 35 "[Z", .fieldLink RX1 17 "AbjadPoemsLaw$Sim" "marks" "[[[Z"] ++ wsX10)
def wsX1_word : List Cond := .code yX1_word cX1_word 6 (some (.array .int)) :: ([.fieldLink RX1 9 "AbjadPoemsLaw$Sim" "lines" "[[I", .arrayClass .int, .fieldLink RX1 17 "AbjadPoemsLaw$Sim" "marks" "[[[Z", .fieldLink RX1 27 "AbjadPoemsLaw$Sim" "order" "I", .static yL_letters, .initialized RL, .code yL_letters cL_letters 4 (some (.array .int)), .methodLink RX1 37 yX1_value, .instanceMethod yX1_value, .selects RX1 yX1_value yX1_value, .initialized RX1, .code yX1_value cX1_value 7 (some .int), .static yL_value, .code yL_value cL_value 4 (some .int)] ++ wsX10)
def wsX1_line : List Cond := .code yX1_line cX1_line 6 (some (.array .int)) :: ([.arrayClass .int, .fieldLink RX1 9 "AbjadPoemsLaw$Sim" "lines" "[[I", .methodLink RX1 40 yX1_word, .instanceMethod yX1_word, .selects RX1 yX1_word yX1_word, .initialized RX1, .code yX1_word cX1_word 6 (some (.array .int)), .fieldLink RX1 17 "AbjadPoemsLaw$Sim" "marks" "[[[Z", .fieldLink RX1 27 "AbjadPoemsLaw$Sim" "order" "I", .static yL_letters, .initialized RL, .code yL_letters cL_letters 4 (some (.array .int)), .methodLink RX1 37 yX1_value, .instanceMethod yX1_value, .selects RX1 yX1_value yX1_value, .code yX1_value cX1_value 7 (some .int), .static yL_value, .code yL_value cL_value 4 (some .int)] ++ wsX10)
def wsX1_isSame_r1 : List Cond := [Cond.arrayClass .int, Cond.fieldLink RX1 9 "AbjadPoemsLaw$Sim" "lines" "[[I", Cond.methodLink RX1 44 yX1_line, Cond.instanceMethod yX1_line, Cond.selects RX1 yX1_line yX1_line, Cond.initialized RX1, Cond.code yX1_line cX1_line 6 (some (.array .int)), Cond.methodLink RX1 40 yX1_word, Cond.instanceMethod yX1_word, Cond.selects RX1 yX1_word yX1_word, Cond.code yX1_word cX1_word 6 (some (.array .int)), Cond.fieldLink RX1 17 "AbjadPoemsLaw$Sim" "marks" "[[[Z", Cond.fieldLink RX1 27 "AbjadPoemsLaw$Sim" "order" "I", Cond.static yL_letters, Cond.initialized RL, Cond.code yL_letters cL_letters 4 (some (.array .int)), Cond.methodLink RX1 37 yX1_value, Cond.instanceMethod yX1_value, Cond.selects RX1 yX1_value yX1_value, Cond.code yX1_value cX1_value 7 (some .int), Cond.static yL_value, Cond.code yL_value cL_value 4 (some .int), Cond.methodLink RX1 47 yX0_line, Cond.instanceMethod yX0_line]
def wsX1_isSame_r2 : List Cond := [Cond.selects RX0 yX0_line yX0_line, Cond.initialized RX0, Cond.code yX0_line cX0_line 3 (some .int), Cond.methodLink RX0 67 yX0_checkLine, Cond.instanceMethod yX0_checkLine, Cond.selects RX0 yX0_checkLine yX0_checkLine, Cond.code yX0_checkLine cX0_checkLine 2 none, Cond.classLink RX0 38 "java/lang/IndexOutOfBoundsException", Cond.initialized "java/lang/IndexOutOfBoundsException", Cond.fieldLink RX0 13 "AbjadPoems" "lines" "I", Cond.methodLink RX0 87 yX0_checkWhat, Cond.static yX0_checkWhat, Cond.code yX0_checkWhat cX0_checkWhat 2 none, Cond.methodLink RX0 94 yX0_figureOfLine, Cond.instanceMethod yX0_figureOfLine, Cond.selects RX0 yX0_figureOfLine yX0_figureOfLine, Cond.code yX0_figureOfLine cX0_figureOfLine 5 (some .int), Cond.fieldLink RX0 16 "AbjadPoems" "sizes" "[I", Cond.methodLink RX0 90 yX0_figureOfWord, Cond.instanceMethod yX0_figureOfWord, Cond.selects RX0 yX0_figureOfWord yX0_figureOfWord, Cond.code yX0_figureOfWord cX0_figureOfWord 4 (some .int), Cond.fieldLink RX0 22 "AbjadPoems" "words" "[[I", Cond.fieldLink RX0 25 "AbjadPoems" "marks" "[[I"]
def wsX1_isSame_r3 : List Cond := [Cond.methodLink RX0 78 yX0_lengthOf, Cond.static yX0_lengthOf, Cond.code yX0_lengthOf cX0_lengthOf 3 (some .int), Cond.methodLink RX0 55 yX0_worthOfPlaces, Cond.instanceMethod yX0_worthOfPlaces, Cond.selects RX0 yX0_worthOfPlaces yX0_worthOfPlaces, Cond.code yX0_worthOfPlaces cX0_worthOfPlaces 6 (some .int), Cond.methodLink RX0 83 yX0_isMarked, Cond.static yX0_isMarked, Cond.code yX0_isMarked cX0_isMarked 2 (some .boolean), Cond.methodLink RX0 47 yX0_worthOfLetter, Cond.instanceMethod yX0_worthOfLetter, Cond.selects RX0 yX0_worthOfLetter yX0_worthOfLetter, Cond.code yX0_worthOfLetter cX0_worthOfLetter 2 (some .int), Cond.fieldLink RX0 9 "AbjadPoems" "order" "I", Cond.methodLink RX0 151 yJ6_bitCount_0f7a4, Cond.static yJ6_bitCount_0f7a4, Cond.initialized RJ6, Cond.code yJ6_bitCount_0f7a4 cJ6_bitCount_0f7a4 1 (some .int), Cond.constant RJ6 265 (1431655765), Cond.constant RJ6 266 (858993459), Cond.constant RJ6 267 (252645135), Cond.methodLink RX1 51 yX0_word, Cond.instanceMethod yX0_word]
def wsX1_isSame_r4 : List Cond := [Cond.selects RX0 yX0_word yX0_word, Cond.code yX0_word cX0_word 4 (some .int), Cond.methodLink RX0 74 yX0_checkWordOfLine, Cond.instanceMethod yX0_checkWordOfLine, Cond.selects RX0 yX0_checkWordOfLine yX0_checkWordOfLine, Cond.code yX0_checkWordOfLine cX0_checkWordOfLine 3 none, Cond.methodLink RX1 54 yX0_told, Cond.instanceMethod yX0_told, Cond.selects RX0 yX0_told yX0_told, Cond.code yX0_told cX0_told 2 (some .int), Cond.methodLink RX0 97 yX0_pairsOfSameWorth, Cond.instanceMethod yX0_pairsOfSameWorth, Cond.selects RX0 yX0_pairsOfSameWorth yX0_pairsOfSameWorth, Cond.code yX0_pairsOfSameWorth cX0_pairsOfSameWorth 6 (some .int), Cond.fieldLink RX0 28 "AbjadPoems" "worths" "[I", Cond.methodLink RX0 156 yX0_timesAmongWorths, Cond.instanceMethod yX0_timesAmongWorths, Cond.selects RX0 yX0_timesAmongWorths yX0_timesAmongWorths, Cond.code yX0_timesAmongWorths cX0_timesAmongWorths 5 (some .int), Cond.methodLink RX0 101 yX0_sumOverLines, Cond.instanceMethod yX0_sumOverLines, Cond.selects RX0 yX0_sumOverLines yX0_sumOverLines, Cond.code yX0_sumOverLines cX0_sumOverLines 4 (some .int), Cond.methodLink RX1 57 yX0_mean]
def wsX1_isSame_r5 : List Cond := [Cond.instanceMethod yX0_mean, Cond.selects RX0 yX0_mean yX0_mean, Cond.code yX0_mean cX0_mean 2 (some .double)]
def wsX1_isSame : List Cond := .code yX1_isSame cX1_isSame 10 (some .boolean) :: ((wsX1_isSame_r1 ++ (wsX1_isSame_r2 ++ (wsX1_isSame_r3 ++ (wsX1_isSame_r4 ++ wsX1_isSame_r5)))) ++ wsX10 ++ wsX00 ++ (vx_atS RX0 42 "java/lang/IndexOutOfBoundsException" ["java/lang/RuntimeException", "java/lang/Exception"]).filter goodWord)
def wsJ9_abs_0f7a4 : List Cond := .code yJ9_abs_0f7a4 cJ9_abs_0f7a4 1 (some .int) :: ([])
def wsJ9_abs_067f4 : List Cond := .code yJ9_abs_067f4 cJ9_abs_067f4 2 (some .long) :: ([])
def wsL_below : List Cond := .code yL_below cL_below 2 (some .int) :: ([.constant RL 7 (2147483647)])
def wsL_cell : List Cond := .code yL_cell cL_cell 2 (some .int) :: ([.constant RL 8 (790386105)])
def wsL_word : List Cond := .code yL_word cL_word 4 (some .int) :: ([.methodLink RL 9 yL_below, .static yL_below, .initialized RL, .code yL_below cL_below 2 (some .int), .constant RL 7 (2147483647)])
def wsL_act_r1 : List Cond := [Cond.fieldLink RL 15 "AbjadPoemsLaw$Sim" "lines" "[[I", Cond.fieldLink RL 29 "AbjadPoemsLaw$Sim" "order" "I", Cond.fieldLink RL 41 "AbjadPoemsLaw$Sim" "marks" "[[[Z", Cond.methodLink RL 9 yL_below, Cond.static yL_below, Cond.initialized RL, Cond.code yL_below cL_below 2 (some .int), Cond.constant RL 7 (2147483647), Cond.methodLink RL 21 yX1_write, Cond.instanceMethod yX1_write, Cond.selects RX1 yX1_write yX1_write, Cond.initialized RX1, Cond.code yX1_write cX1_write 5 none, Cond.fieldLink RX1 9 "AbjadPoemsLaw$Sim" "lines" "[[I", Cond.classLink RX1 7 "[I", Cond.fieldLink RX1 17 "AbjadPoemsLaw$Sim" "marks" "[[[Z", Cond.arrayClass .int, Cond.classLink RX1 35 "[Z", Cond.methodLink RL 24 yX0_write, Cond.instanceMethod yX0_write, Cond.selects RX0 yX0_write yX0_write, Cond.initialized RX0, Cond.code yX0_write cX0_write 1 (some .int), Cond.classLink RX0 62 "java/lang/IllegalStateException"]
def wsL_act_r2 : List Cond := [Cond.initialized "java/lang/IllegalStateException", Cond.fieldLink RX0 13 "AbjadPoems" "lines" "I", Cond.methodLink RL 33 yX0_count, Cond.instanceMethod yX0_count, Cond.selects RX0 yX0_count yX0_count, Cond.code yX0_count cX0_count 3 (some .int), Cond.classLink RX0 38 "java/lang/IndexOutOfBoundsException", Cond.initialized "java/lang/IndexOutOfBoundsException", Cond.fieldLink RX0 9 "AbjadPoems" "order" "I", Cond.methodLink RL 37 yX0_cut, Cond.instanceMethod yX0_cut, Cond.selects RX0 yX0_cut yX0_cut, Cond.code yX0_cut cX0_cut 3 (some .int), Cond.fieldLink RX0 16 "AbjadPoems" "sizes" "[I", Cond.fieldLink RX0 22 "AbjadPoems" "words" "[[I", Cond.methodLink RX0 67 yX0_checkLine, Cond.instanceMethod yX0_checkLine, Cond.selects RX0 yX0_checkLine yX0_checkLine, Cond.code yX0_checkLine cX0_checkLine 2 none, Cond.methodLink RL 40 yX1_cut, Cond.instanceMethod yX1_cut, Cond.selects RX1 yX1_cut yX1_cut, Cond.code yX1_cut cX1_cut 7 (some .int), Cond.methodLink RL 45 yX0_mark]
def wsL_act_r3 : List Cond := [Cond.instanceMethod yX0_mark, Cond.selects RX0 yX0_mark yX0_mark, Cond.code yX0_mark cX0_mark 4 (some .boolean), Cond.fieldLink RX0 25 "AbjadPoems" "marks" "[[I", Cond.methodLink RX0 74 yX0_checkWordOfLine, Cond.instanceMethod yX0_checkWordOfLine, Cond.selects RX0 yX0_checkWordOfLine yX0_checkWordOfLine, Cond.code yX0_checkWordOfLine cX0_checkWordOfLine 3 none, Cond.methodLink RX0 78 yX0_lengthOf, Cond.static yX0_lengthOf, Cond.code yX0_lengthOf cX0_lengthOf 3 (some .int), Cond.methodLink RX0 83 yX0_isMarked, Cond.static yX0_isMarked, Cond.code yX0_isMarked cX0_isMarked 2 (some .boolean), Cond.methodLink RL 49 yL_word, Cond.static yL_word, Cond.code yL_word cL_word 4 (some .int), Cond.methodLink RL 52 yX1_add, Cond.instanceMethod yX1_add, Cond.selects RX1 yX1_add yX1_add, Cond.code yX1_add cX1_add 7 none, Cond.arrayClass .boolean, Cond.static yL_letters, Cond.code yL_letters cL_letters 4 (some (.array .int))]
def wsL_act_r4 : List Cond := [Cond.methodLink RL 56 yX0_add, Cond.instanceMethod yX0_add, Cond.selects RX0 yX0_add yX0_add, Cond.code yX0_add cX0_add 4 (some .int), Cond.methodLink RX0 51 yX0_checkWord, Cond.static yX0_checkWord, Cond.code yX0_checkWord cX0_checkWord 1 none, Cond.classLink RX0 143 "java/lang/IllegalArgumentException", Cond.initialized "java/lang/IllegalArgumentException", Cond.methodLink RX0 139 yX0_isWord, Cond.static yX0_isWord, Cond.code yX0_isWord cX0_isWord 3 (some .boolean), Cond.constant RX0 150 (387420489)]
def wsL_act : List Cond := .code yL_act cL_act 10 (some .boolean) :: ((wsL_act_r1 ++ (wsL_act_r2 ++ (wsL_act_r3 ++ wsL_act_r4))) ++ wsX10 ++ wsX00 ++ (vx_atS RX0 66 "java/lang/IllegalStateException" ["java/lang/RuntimeException", "java/lang/Exception"]).filter goodWord ++ (vx_atS RX0 42 "java/lang/IndexOutOfBoundsException" ["java/lang/RuntimeException", "java/lang/Exception"]).filter goodWord ++ (vx_atS RX0 147 "java/lang/IllegalArgumentException" ["java/lang/RuntimeException", "java/lang/Exception"]).filter goodWord)
def wsL_build_r1 : List Cond := [Cond.classLink RL 16 RX1, Cond.instantiable RX1 3, Cond.initialized RX1, Cond.instanceMethod yX1_init, Cond.code yX1_init cX1_init 1 none, Cond.methodLink RX1 1 objectInit, Cond.instanceMethod objectInit, Cond.code objectInit ⟨#[0xb1]⟩ 1 none, Cond.classLink RX1 7 "[I", Cond.fieldLink RX1 9 "AbjadPoemsLaw$Sim" "lines" "[[I", Cond.fieldLink RX1 17 "AbjadPoemsLaw$Sim" "marks" "[[[Z", Cond.methodLink RL 59 yL_cell, Cond.static yL_cell, Cond.initialized RL, Cond.code yL_cell cL_cell 2 (some .int), Cond.constant RL 8 (790386105), Cond.methodLink RL 63 yL_act, Cond.static yL_act, Cond.code yL_act cL_act 10 (some .boolean), Cond.fieldLink RL 15 "AbjadPoemsLaw$Sim" "lines" "[[I", Cond.fieldLink RL 29 "AbjadPoemsLaw$Sim" "order" "I", Cond.fieldLink RL 41 "AbjadPoemsLaw$Sim" "marks" "[[[Z", Cond.methodLink RL 9 yL_below, Cond.static yL_below]
def wsL_build_r2 : List Cond := [Cond.code yL_below cL_below 2 (some .int), Cond.constant RL 7 (2147483647), Cond.methodLink RL 21 yX1_write, Cond.instanceMethod yX1_write, Cond.selects RX1 yX1_write yX1_write, Cond.code yX1_write cX1_write 5 none, Cond.arrayClass .int, Cond.classLink RX1 35 "[Z", Cond.methodLink RL 24 yX0_write, Cond.instanceMethod yX0_write, Cond.selects RX0 yX0_write yX0_write, Cond.initialized RX0, Cond.code yX0_write cX0_write 1 (some .int), Cond.classLink RX0 62 "java/lang/IllegalStateException", Cond.initialized "java/lang/IllegalStateException", Cond.fieldLink RX0 13 "AbjadPoems" "lines" "I", Cond.methodLink RL 33 yX0_count, Cond.instanceMethod yX0_count, Cond.selects RX0 yX0_count yX0_count, Cond.code yX0_count cX0_count 3 (some .int), Cond.classLink RX0 38 "java/lang/IndexOutOfBoundsException", Cond.initialized "java/lang/IndexOutOfBoundsException", Cond.fieldLink RX0 9 "AbjadPoems" "order" "I", Cond.methodLink RL 37 yX0_cut]
def wsL_build_r3 : List Cond := [Cond.instanceMethod yX0_cut, Cond.selects RX0 yX0_cut yX0_cut, Cond.code yX0_cut cX0_cut 3 (some .int), Cond.fieldLink RX0 16 "AbjadPoems" "sizes" "[I", Cond.fieldLink RX0 22 "AbjadPoems" "words" "[[I", Cond.methodLink RX0 67 yX0_checkLine, Cond.instanceMethod yX0_checkLine, Cond.selects RX0 yX0_checkLine yX0_checkLine, Cond.code yX0_checkLine cX0_checkLine 2 none, Cond.methodLink RL 40 yX1_cut, Cond.instanceMethod yX1_cut, Cond.selects RX1 yX1_cut yX1_cut, Cond.code yX1_cut cX1_cut 7 (some .int), Cond.methodLink RL 45 yX0_mark, Cond.instanceMethod yX0_mark, Cond.selects RX0 yX0_mark yX0_mark, Cond.code yX0_mark cX0_mark 4 (some .boolean), Cond.fieldLink RX0 25 "AbjadPoems" "marks" "[[I", Cond.methodLink RX0 74 yX0_checkWordOfLine, Cond.instanceMethod yX0_checkWordOfLine, Cond.selects RX0 yX0_checkWordOfLine yX0_checkWordOfLine, Cond.code yX0_checkWordOfLine cX0_checkWordOfLine 3 none, Cond.methodLink RX0 78 yX0_lengthOf, Cond.static yX0_lengthOf]
def wsL_build_r4 : List Cond := [Cond.code yX0_lengthOf cX0_lengthOf 3 (some .int), Cond.methodLink RX0 83 yX0_isMarked, Cond.static yX0_isMarked, Cond.code yX0_isMarked cX0_isMarked 2 (some .boolean), Cond.methodLink RL 49 yL_word, Cond.static yL_word, Cond.code yL_word cL_word 4 (some .int), Cond.methodLink RL 52 yX1_add, Cond.instanceMethod yX1_add, Cond.selects RX1 yX1_add yX1_add, Cond.code yX1_add cX1_add 7 none, Cond.arrayClass .boolean, Cond.static yL_letters, Cond.code yL_letters cL_letters 4 (some (.array .int)), Cond.methodLink RL 56 yX0_add, Cond.instanceMethod yX0_add, Cond.selects RX0 yX0_add yX0_add, Cond.code yX0_add cX0_add 4 (some .int), Cond.methodLink RX0 51 yX0_checkWord, Cond.static yX0_checkWord, Cond.code yX0_checkWord cX0_checkWord 1 none, Cond.classLink RX0 143 "java/lang/IllegalArgumentException", Cond.initialized "java/lang/IllegalArgumentException", Cond.methodLink RX0 139 yX0_isWord]
def wsL_build_r5 : List Cond := [Cond.static yX0_isWord, Cond.code yX0_isWord cX0_isWord 3 (some .boolean), Cond.constant RX0 150 (387420489)]
def wsL_build : List Cond := .code yL_build cL_build 4 (some (.object "AbjadPoemsLaw$Sim")) :: ((wsL_build_r1 ++ (wsL_build_r2 ++ (wsL_build_r3 ++ (wsL_build_r4 ++ wsL_build_r5)))) ++ wsX10 ++ wsX00 ++ (vx_atS RX0 66 "java/lang/IllegalStateException" ["java/lang/RuntimeException", "java/lang/Exception"]).filter goodWord ++ (vx_atS RX0 42 "java/lang/IndexOutOfBoundsException" ["java/lang/RuntimeException", "java/lang/Exception"]).filter goodWord ++ (vx_atS RX0 147 "java/lang/IllegalArgumentException" ["java/lang/RuntimeException", "java/lang/Exception"]).filter goodWord)
def wsL_law0_r1 : List Cond := [Cond.classLink RL 25 RX0, Cond.instantiable RX0 8, Cond.initialized RX0, Cond.arrayClass .int, Cond.methodLink RL 93 Lib.Math.abs.name, Cond.static Lib.Math.abs.name, Cond.initialized "java/lang/Math", Cond.code Lib.Math.abs.name Lib.Math.abs.code 1 (some .int), Cond.methodLink RL 67 yX0_init, Cond.instanceMethod yX0_init, Cond.code yX0_init cX0_init 1 none, Cond.methodLink RX0 1 objectInit, Cond.instanceMethod objectInit, Cond.code objectInit ⟨#[0xb1]⟩ 1 none, Cond.fieldLink RX0 9 "AbjadPoems" "order" "I", Cond.fieldLink RX0 13 "AbjadPoems" "lines" "I", Cond.fieldLink RX0 16 "AbjadPoems" "sizes" "[I", Cond.classLink RX0 20 "[[I", Cond.fieldLink RX0 22 "AbjadPoems" "words" "[[I", Cond.fieldLink RX0 25 "AbjadPoems" "marks" "[[I", Cond.fieldLink RX0 28 "AbjadPoems" "worths" "[I", Cond.fieldLink RX0 31 "AbjadPoems" "fewest" "[[I", Cond.arrayClass .boolean, Cond.fieldLink RX0 34 "AbjadPoems" "filled" "[Z"]
def wsL_law0_r2 : List Cond := [Cond.methodLink RL 68 yL_build, Cond.static yL_build, Cond.initialized RL, Cond.code yL_build cL_build 4 (some (.object "AbjadPoemsLaw$Sim")), Cond.classLink RL 16 RX1, Cond.instantiable RX1 3, Cond.initialized RX1, Cond.instanceMethod yX1_init, Cond.code yX1_init cX1_init 1 none, Cond.methodLink RX1 1 objectInit, Cond.classLink RX1 7 "[I", Cond.fieldLink RX1 9 "AbjadPoemsLaw$Sim" "lines" "[[I", Cond.fieldLink RX1 17 "AbjadPoemsLaw$Sim" "marks" "[[[Z", Cond.methodLink RL 59 yL_cell, Cond.static yL_cell, Cond.code yL_cell cL_cell 2 (some .int), Cond.constant RL 8 (790386105), Cond.methodLink RL 63 yL_act, Cond.static yL_act, Cond.code yL_act cL_act 10 (some .boolean), Cond.fieldLink RL 15 "AbjadPoemsLaw$Sim" "lines" "[[I", Cond.fieldLink RL 29 "AbjadPoemsLaw$Sim" "order" "I", Cond.fieldLink RL 41 "AbjadPoemsLaw$Sim" "marks" "[[[Z", Cond.methodLink RL 9 yL_below]
def wsL_law0_r3 : List Cond := [Cond.static yL_below, Cond.code yL_below cL_below 2 (some .int), Cond.constant RL 7 (2147483647), Cond.methodLink RL 21 yX1_write, Cond.instanceMethod yX1_write, Cond.selects RX1 yX1_write yX1_write, Cond.code yX1_write cX1_write 5 none, Cond.classLink RX1 35 "[Z", Cond.methodLink RL 24 yX0_write, Cond.instanceMethod yX0_write, Cond.selects RX0 yX0_write yX0_write, Cond.code yX0_write cX0_write 1 (some .int), Cond.classLink RX0 62 "java/lang/IllegalStateException", Cond.initialized "java/lang/IllegalStateException", Cond.methodLink RL 33 yX0_count, Cond.instanceMethod yX0_count, Cond.selects RX0 yX0_count yX0_count, Cond.code yX0_count cX0_count 3 (some .int), Cond.classLink RX0 38 "java/lang/IndexOutOfBoundsException", Cond.initialized "java/lang/IndexOutOfBoundsException", Cond.methodLink RL 37 yX0_cut, Cond.instanceMethod yX0_cut, Cond.selects RX0 yX0_cut yX0_cut, Cond.code yX0_cut cX0_cut 3 (some .int)]
def wsL_law0_r4 : List Cond := [Cond.methodLink RX0 67 yX0_checkLine, Cond.instanceMethod yX0_checkLine, Cond.selects RX0 yX0_checkLine yX0_checkLine, Cond.code yX0_checkLine cX0_checkLine 2 none, Cond.methodLink RL 40 yX1_cut, Cond.instanceMethod yX1_cut, Cond.selects RX1 yX1_cut yX1_cut, Cond.code yX1_cut cX1_cut 7 (some .int), Cond.methodLink RL 45 yX0_mark, Cond.instanceMethod yX0_mark, Cond.selects RX0 yX0_mark yX0_mark, Cond.code yX0_mark cX0_mark 4 (some .boolean), Cond.methodLink RX0 74 yX0_checkWordOfLine, Cond.instanceMethod yX0_checkWordOfLine, Cond.selects RX0 yX0_checkWordOfLine yX0_checkWordOfLine, Cond.code yX0_checkWordOfLine cX0_checkWordOfLine 3 none, Cond.methodLink RX0 78 yX0_lengthOf, Cond.static yX0_lengthOf, Cond.code yX0_lengthOf cX0_lengthOf 3 (some .int), Cond.methodLink RX0 83 yX0_isMarked, Cond.static yX0_isMarked, Cond.code yX0_isMarked cX0_isMarked 2 (some .boolean), Cond.methodLink RL 49 yL_word, Cond.static yL_word]
def wsL_law0_r5 : List Cond := [Cond.code yL_word cL_word 4 (some .int), Cond.methodLink RL 52 yX1_add, Cond.instanceMethod yX1_add, Cond.selects RX1 yX1_add yX1_add, Cond.code yX1_add cX1_add 7 none, Cond.static yL_letters, Cond.code yL_letters cL_letters 4 (some (.array .int)), Cond.methodLink RL 56 yX0_add, Cond.instanceMethod yX0_add, Cond.selects RX0 yX0_add yX0_add, Cond.code yX0_add cX0_add 4 (some .int), Cond.methodLink RX0 51 yX0_checkWord, Cond.static yX0_checkWord, Cond.code yX0_checkWord cX0_checkWord 1 none, Cond.classLink RX0 143 "java/lang/IllegalArgumentException", Cond.initialized "java/lang/IllegalArgumentException", Cond.methodLink RX0 139 yX0_isWord, Cond.static yX0_isWord, Cond.code yX0_isWord cX0_isWord 3 (some .boolean), Cond.constant RX0 150 (387420489), Cond.methodLink RL 72 yX0_told, Cond.instanceMethod yX0_told, Cond.selects RX0 yX0_told yX0_told, Cond.code yX0_told cX0_told 2 (some .int)]
def wsL_law0_r6 : List Cond := [Cond.methodLink RX0 87 yX0_checkWhat, Cond.static yX0_checkWhat, Cond.code yX0_checkWhat cX0_checkWhat 2 none, Cond.methodLink RX0 97 yX0_pairsOfSameWorth, Cond.instanceMethod yX0_pairsOfSameWorth, Cond.selects RX0 yX0_pairsOfSameWorth yX0_pairsOfSameWorth, Cond.code yX0_pairsOfSameWorth cX0_pairsOfSameWorth 6 (some .int), Cond.methodLink RX0 55 yX0_worthOfPlaces, Cond.instanceMethod yX0_worthOfPlaces, Cond.selects RX0 yX0_worthOfPlaces yX0_worthOfPlaces, Cond.code yX0_worthOfPlaces cX0_worthOfPlaces 6 (some .int), Cond.methodLink RX0 47 yX0_worthOfLetter, Cond.instanceMethod yX0_worthOfLetter, Cond.selects RX0 yX0_worthOfLetter yX0_worthOfLetter, Cond.code yX0_worthOfLetter cX0_worthOfLetter 2 (some .int), Cond.methodLink RX0 156 yX0_timesAmongWorths, Cond.instanceMethod yX0_timesAmongWorths, Cond.selects RX0 yX0_timesAmongWorths yX0_timesAmongWorths, Cond.code yX0_timesAmongWorths cX0_timesAmongWorths 5 (some .int), Cond.methodLink RX0 101 yX0_sumOverLines, Cond.instanceMethod yX0_sumOverLines, Cond.selects RX0 yX0_sumOverLines yX0_sumOverLines, Cond.code yX0_sumOverLines cX0_sumOverLines 4 (some .int), Cond.methodLink RX0 94 yX0_figureOfLine]
def wsL_law0_r7 : List Cond := [Cond.instanceMethod yX0_figureOfLine, Cond.selects RX0 yX0_figureOfLine yX0_figureOfLine, Cond.code yX0_figureOfLine cX0_figureOfLine 5 (some .int), Cond.methodLink RX0 90 yX0_figureOfWord, Cond.instanceMethod yX0_figureOfWord, Cond.selects RX0 yX0_figureOfWord yX0_figureOfWord, Cond.code yX0_figureOfWord cX0_figureOfWord 4 (some .int), Cond.methodLink RX0 151 yJ6_bitCount_0f7a4, Cond.static yJ6_bitCount_0f7a4, Cond.initialized RJ6, Cond.code yJ6_bitCount_0f7a4 cJ6_bitCount_0f7a4 1 (some .int), Cond.constant RJ6 265 (1431655765), Cond.constant RJ6 266 (858993459), Cond.constant RJ6 267 (252645135), Cond.methodLink RL 75 yX0_line, Cond.instanceMethod yX0_line, Cond.selects RX0 yX0_line yX0_line, Cond.code yX0_line cX0_line 3 (some .int), Cond.methodLink RL 78 yX0_word, Cond.instanceMethod yX0_word, Cond.selects RX0 yX0_word yX0_word, Cond.code yX0_word cX0_word 4 (some .int), Cond.methodLink RL 81 yX0_letter, Cond.instanceMethod yX0_letter]
def wsL_law0_r8 : List Cond := [Cond.selects RX0 yX0_letter yX0_letter, Cond.code yX0_letter cX0_letter 2 (some .int), Cond.methodLink RL 84 yX0_value, Cond.instanceMethod yX0_value, Cond.selects RX0 yX0_value yX0_value, Cond.code yX0_value cX0_value 2 (some .int), Cond.methodLink RL 87 yX0_hidden, Cond.instanceMethod yX0_hidden, Cond.selects RX0 yX0_hidden yX0_hidden, Cond.code yX0_hidden cX0_hidden 5 (some .int), Cond.methodLink RX0 104 yX0_lastOfRun, Cond.instanceMethod yX0_lastOfRun, Cond.selects RX0 yX0_lastOfRun yX0_lastOfRun, Cond.code yX0_lastOfRun cX0_lastOfRun 6 (some .int), Cond.methodLink RL 90 yX0_lacks, Cond.instanceMethod yX0_lacks, Cond.selects RX0 yX0_lacks yX0_lacks, Cond.code yX0_lacks cX0_lacks 5 (some .int), Cond.methodLink RL 98 yX0_hides, Cond.instanceMethod yX0_hides, Cond.selects RX0 yX0_hides yX0_hides, Cond.code yX0_hides cX0_hides 5 (some .int), Cond.methodLink RL 101 yX0_nearest, Cond.instanceMethod yX0_nearest]
def wsL_law0_r9 : List Cond := [Cond.selects RX0 yX0_nearest yX0_nearest, Cond.code yX0_nearest cX0_nearest 8 (some .int), Cond.methodLink RX0 107 Lib.MathLoose.abs_long.x, Cond.static Lib.MathLoose.abs_long.x, Cond.code Lib.MathLoose.abs_long.x Lib.MathLoose.abs_long.code 2 (some .long), Cond.methodLink RL 104 yX0_mean, Cond.instanceMethod yX0_mean, Cond.selects RX0 yX0_mean yX0_mean, Cond.code yX0_mean cX0_mean 2 (some .double), Cond.methodLink RL 108 yX1_isSame, Cond.instanceMethod yX1_isSame, Cond.selects RX1 yX1_isSame yX1_isSame, Cond.code yX1_isSame cX1_isSame 10 (some .boolean), Cond.methodLink RX1 44 yX1_line, Cond.instanceMethod yX1_line, Cond.selects RX1 yX1_line yX1_line, Cond.code yX1_line cX1_line 6 (some (.array .int)), Cond.methodLink RX1 40 yX1_word, Cond.instanceMethod yX1_word, Cond.selects RX1 yX1_word yX1_word, Cond.code yX1_word cX1_word 6 (some (.array .int)), Cond.fieldLink RX1 27 "AbjadPoemsLaw$Sim" "order" "I", Cond.methodLink RX1 37 yX1_value, Cond.instanceMethod yX1_value]
def wsL_law0_r10 : List Cond := [Cond.selects RX1 yX1_value yX1_value, Cond.code yX1_value cX1_value 7 (some .int), Cond.static yL_value, Cond.code yL_value cL_value 4 (some .int), Cond.methodLink RX1 47 yX0_line, Cond.methodLink RX1 51 yX0_word, Cond.methodLink RX1 54 yX0_told, Cond.methodLink RX1 57 yX0_mean]
def wsL_law0 : List Cond := (wsL_law0_r1 ++ (wsL_law0_r2 ++ (wsL_law0_r3 ++ (wsL_law0_r4 ++ (wsL_law0_r5 ++ (wsL_law0_r6 ++ (wsL_law0_r7 ++ (wsL_law0_r8 ++ (wsL_law0_r9 ++ wsL_law0_r10))))))))) ++ wsX00 ++ wsX10 ++ ([] : List Cond)
def wsL_law : List Cond := wsL_law0 ++ (vx_atS RX0 66 "java/lang/IllegalStateException" ["java/lang/RuntimeException", "java/lang/Exception"]).filter goodWord ++ (vx_atS RX0 42 "java/lang/IndexOutOfBoundsException" ["java/lang/RuntimeException", "java/lang/Exception"]).filter goodWord ++ (vx_atS RX0 147 "java/lang/IllegalArgumentException" ["java/lang/RuntimeException", "java/lang/Exception"]).filter goodWord
end
section
set_option maxRecDepth 20000 in
theorem wsL_law0_r1_in : ∀ w ∈ wsL_law0_r1, w ∈ lw_tbl := fun w h => (goodIn_p wsL_law0_r1 [372, 26, 29] (by decide +kernel) (by decide +kernel) w h).1
set_option maxRecDepth 20000 in
theorem wsL_law0_r2_in : ∀ w ∈ wsL_law0_r2, w ∈ lw_tbl := fun w h => (goodIn_p wsL_law0_r2 [350, 355, 283, 287] (by decide +kernel) (by decide +kernel) w h).1
set_option maxRecDepth 20000 in
theorem wsL_law0_r3_in : ∀ w ∈ wsL_law0_r3, w ∈ lw_tbl := fun w h => (goodIn_p wsL_law0_r3 [279, 291, 300, 320, 325] (by decide +kernel) (by decide +kernel) w h).1
set_option maxRecDepth 20000 in
theorem wsL_law0_r4_in : ∀ w ∈ wsL_law0_r4, w ∈ lw_tbl := fun w h => (goodIn_p wsL_law0_r4 [183, 330, 334, 179, 168, 171] (by decide +kernel) (by decide +kernel) w h).1
set_option maxRecDepth 20000 in
theorem wsL_law0_r5_in : ∀ w ∈ wsL_law0_r5, w ∈ lw_tbl := fun w h => (goodIn_p wsL_law0_r5 [338, 342, 265, 346, 141, 144, 211] (by decide +kernel) (by decide +kernel) w h).1
set_option maxRecDepth 20000 in
theorem wsL_law0_r6_in : ∀ w ∈ wsL_law0_r6, w ∈ lw_tbl := fun w h => (goodIn_p wsL_law0_r6 [188, 215, 165, 134, 219, 223] (by decide +kernel) (by decide +kernel) w h).1
set_option maxRecDepth 20000 in
theorem wsL_law0_r7_in : ∀ w ∈ wsL_law0_r7, w ∈ lw_tbl := fun w h => (goodIn_p wsL_law0_r7 [207, 193, 196, 203, 175] (by decide +kernel) (by decide +kernel) w h).1
set_option maxRecDepth 20000 in
theorem wsL_law0_r8_in : ∀ w ∈ wsL_law0_r8, w ∈ lw_tbl := fun w h => (goodIn_p wsL_law0_r8 [62, 138, 227, 231, 239, 235] (by decide +kernel) (by decide +kernel) w h).1
set_option maxRecDepth 20000 in
theorem wsL_law0_r9_in : ∀ w ∈ wsL_law0_r9, w ∈ lw_tbl := fun w h => (goodIn_p wsL_law0_r9 [243, 246, 250, 254, 258, 262] (by decide +kernel) (by decide +kernel) w h).1
set_option maxRecDepth 20000 in
theorem wsL_law0_r10_in : ∀ w ∈ wsL_law0_r10, w ∈ lw_tbl := fun w h => (goodIn_p wsL_law0_r10 [269, 272] (by decide +kernel) (by decide +kernel) w h).1
theorem wsX00_tbl : ∀ w ∈ wsX00, w ∈ lw_tbl := by decide +kernel
theorem wsX10_tbl : ∀ w ∈ wsX10, w ∈ lw_tbl := by decide +kernel
theorem wsL_law_in0 : ∀ w ∈ wsL_law0, w ∈ lw_tbl := fun w h => (List.mem_append.mp h).elim (fun h => (List.mem_append.mp h).elim (fun h => (List.mem_append.mp h).elim (fun h => (List.mem_append.mp h).elim (fun h => wsL_law0_r1_in w h) (fun h => (List.mem_append.mp h).elim (fun h => wsL_law0_r2_in w h) (fun h => (List.mem_append.mp h).elim (fun h => wsL_law0_r3_in w h) (fun h => (List.mem_append.mp h).elim (fun h => wsL_law0_r4_in w h) (fun h => (List.mem_append.mp h).elim (fun h => wsL_law0_r5_in w h) (fun h => (List.mem_append.mp h).elim (fun h => wsL_law0_r6_in w h) (fun h => (List.mem_append.mp h).elim (fun h => wsL_law0_r7_in w h) (fun h => (List.mem_append.mp h).elim (fun h => wsL_law0_r8_in w h) (fun h => (List.mem_append.mp h).elim (fun h => wsL_law0_r9_in w h) (fun h => wsL_law0_r10_in w h)))))))))) (fun h => wsX00_tbl w h)) (fun h => wsX10_tbl w h)) (fun h => nomatch h)
theorem wsL_law_x0 : ∀ w ∈ (vx_atS RX0 66 "java/lang/IllegalStateException" ["java/lang/RuntimeException", "java/lang/Exception"]).filter goodWord, w ∈ lw_tbl := by decide +kernel
theorem wsL_law_x1 : ∀ w ∈ (vx_atS RX0 42 "java/lang/IndexOutOfBoundsException" ["java/lang/RuntimeException", "java/lang/Exception"]).filter goodWord, w ∈ lw_tbl := by decide +kernel
theorem wsL_law_x2 : ∀ w ∈ (vx_atS RX0 147 "java/lang/IllegalArgumentException" ["java/lang/RuntimeException", "java/lang/Exception"]).filter goodWord, w ∈ lw_tbl := by decide +kernel
theorem wsL_law_in : ∀ w ∈ wsL_law, w ∈ lw_tbl := fun w h => (List.mem_append.mp h).elim (fun h => (List.mem_append.mp h).elim (fun h => (List.mem_append.mp h).elim (fun h => wsL_law_in0 w h) (fun h => wsL_law_x0 w h)) (fun h => wsL_law_x1 w h)) (fun h => wsL_law_x2 w h)
theorem inlX0 : ∀ w ∈ wsX00, w ∈ wsL_law := fun _ h => List.mem_append_left _ (List.mem_append_left _ (List.mem_append_left _ (List.mem_append_left _ (List.mem_append_left _ (List.mem_append_right _ h)))))
theorem inX0 : ∀ w ∈ wsX00, w ∈ lw_tbl := fun w h => wsL_law_in w (inlX0 w h)
theorem inlX1 : ∀ w ∈ wsX10, w ∈ wsL_law := fun _ h => List.mem_append_left _ (List.mem_append_left _ (List.mem_append_left _ (List.mem_append_left _ (List.mem_append_right _ h))))
theorem inX1 : ∀ w ∈ wsX10, w ∈ lw_tbl := fun w h => wsL_law_in w (inlX1 w h)
theorem inX2 : ∀ w ∈ wsX20, w ∈ lw_tbl := by decide +kernel
theorem inJ6 : ∀ w ∈ wsJ60, w ∈ lw_tbl := by decide +kernel
theorem inJ9 : ∀ w ∈ wsJ90, w ∈ lw_tbl := by decide +kernel
theorem inJ0 : ∀ w ∈ wsJ00, w ∈ lw_tbl := by decide +kernel
end
section
theorem dX0_init_0 : decode cX0_init 0 = .ok (.aload_n 0, 1) := by decide +kernel
theorem dX0_init_1 : decode cX0_init 1 = .ok (.invokespecial 1, 3) := by decide +kernel
theorem dX0_init_4 : decode cX0_init 4 = .ok (.aload_n 0, 1) := by decide +kernel
theorem dX0_init_5 : decode cX0_init 5 = .ok (.iconst 0, 1) := by decide +kernel
theorem dX0_init_6 : decode cX0_init 6 = .ok (.putfield 9, 3) := by decide +kernel
theorem dX0_init_9 : decode cX0_init 9 = .ok (.aload_n 0, 1) := by decide +kernel
theorem dX0_init_10 : decode cX0_init 10 = .ok (.iconst 0, 1) := by decide +kernel
theorem dX0_init_11 : decode cX0_init 11 = .ok (.putfield 13, 3) := by decide +kernel
theorem dX0_init_14 : decode cX0_init 14 = .ok (.aload_n 0, 1) := by decide +kernel
theorem dX0_init_15 : decode cX0_init 15 = .ok (.bipush 12, 2) := by decide +kernel
theorem dX0_init_17 : decode cX0_init 17 = .ok (.newarray .int, 2) := by decide +kernel
theorem dX0_init_19 : decode cX0_init 19 = .ok (.putfield 16, 3) := by decide +kernel
theorem dX0_init_22 : decode cX0_init 22 = .ok (.aload_n 0, 1) := by decide +kernel
theorem dX0_init_23 : decode cX0_init 23 = .ok (.bipush 12, 2) := by decide +kernel
theorem dX0_init_25 : decode cX0_init 25 = .ok (.bipush 10, 2) := by decide +kernel
theorem dX0_init_27 : decode cX0_init 27 = .ok (.multianewarray 20 2, 4) := by decide +kernel
theorem dX0_init_31 : decode cX0_init 31 = .ok (.putfield 22, 3) := by decide +kernel
theorem dX0_init_34 : decode cX0_init 34 = .ok (.aload_n 0, 1) := by decide +kernel
theorem dX0_init_35 : decode cX0_init 35 = .ok (.bipush 12, 2) := by decide +kernel
theorem dX0_init_37 : decode cX0_init 37 = .ok (.bipush 10, 2) := by decide +kernel
theorem dX0_init_39 : decode cX0_init 39 = .ok (.multianewarray 20 2, 4) := by decide +kernel
theorem dX0_init_43 : decode cX0_init 43 = .ok (.putfield 25, 3) := by decide +kernel
theorem dX0_init_46 : decode cX0_init 46 = .ok (.aload_n 0, 1) := by decide +kernel
theorem dX0_init_47 : decode cX0_init 47 = .ok (.bipush 120, 2) := by decide +kernel
theorem dX0_init_49 : decode cX0_init 49 = .ok (.newarray .int, 2) := by decide +kernel
theorem dX0_init_51 : decode cX0_init 51 = .ok (.putfield 28, 3) := by decide +kernel
theorem dX0_init_54 : decode cX0_init 54 = .ok (.aload_n 0, 1) := by decide +kernel
theorem dX0_init_55 : decode cX0_init 55 = .ok (.iconst 3, 1) := by decide +kernel
theorem dX0_init_56 : decode cX0_init 56 = .ok (.sipush 3001, 3) := by decide +kernel
theorem dX0_init_59 : decode cX0_init 59 = .ok (.multianewarray 20 2, 4) := by decide +kernel
theorem dX0_init_63 : decode cX0_init 63 = .ok (.putfield 31, 3) := by decide +kernel
theorem dX0_init_66 : decode cX0_init 66 = .ok (.aload_n 0, 1) := by decide +kernel
theorem dX0_init_67 : decode cX0_init 67 = .ok (.iconst 3, 1) := by decide +kernel
theorem dX0_init_68 : decode cX0_init 68 = .ok (.newarray .boolean, 2) := by decide +kernel
theorem dX0_init_70 : decode cX0_init 70 = .ok (.putfield 34, 3) := by decide +kernel
theorem dX0_init_73 : decode cX0_init 73 = .ok (.return_, 1) := by decide +kernel
theorem dX0_count_0 : decode cX0_count 0 = .ok (.iload_n 1, 1) := by decide +kernel
theorem dX0_count_1 : decode cX0_count 1 = .ok (.ifCond .lt 8, 3) := by decide +kernel
theorem dX0_count_4 : decode cX0_count 4 = .ok (.iload_n 1, 1) := by decide +kernel
theorem dX0_count_5 : decode cX0_count 5 = .ok (.iconst 3, 1) := by decide +kernel
theorem dX0_count_6 : decode cX0_count 6 = .ok (.if_icmp .lt 13, 3) := by decide +kernel
theorem dX0_count_9 : decode cX0_count 9 = .ok (.new 38, 3) := by decide +kernel
theorem dX0_count_12 : decode cX0_count 12 = .ok (.dup, 1) := by decide +kernel
theorem dX0_count_13 : decode cX0_count 13 = .ok (.ldc 40, 2) := by decide +kernel
theorem dX0_count_15 : decode cX0_count 15 = .ok (.invokespecial 42, 3) := by decide +kernel
theorem dX0_count_18 : decode cX0_count 18 = .ok (.athrow, 1) := by decide +kernel
theorem dX0_count_19 : decode cX0_count 19 = .ok (.aload_n 0, 1) := by decide +kernel
theorem dX0_count_20 : decode cX0_count 20 = .ok (.getfield 9, 3) := by decide +kernel
theorem dX0_count_23 : decode cX0_count 23 = .ok (.istore_n 2, 1) := by decide +kernel
theorem dX0_count_24 : decode cX0_count 24 = .ok (.aload_n 0, 1) := by decide +kernel
theorem dX0_count_25 : decode cX0_count 25 = .ok (.iload_n 1, 1) := by decide +kernel
theorem dX0_count_26 : decode cX0_count 26 = .ok (.putfield 9, 3) := by decide +kernel
theorem dX0_count_29 : decode cX0_count 29 = .ok (.iload_n 2, 1) := by decide +kernel
theorem dX0_count_30 : decode cX0_count 30 = .ok (.ireturn, 1) := by decide +kernel
set_option maxRecDepth 20000 in
theorem ggX0_letter_X0_worthOfLetter : GoodIn wsX0_letter wsX0_worthOfLetter := goodIn_r _ [7, 8, 9, 10, 11, 12, 13, 14, 15, 16] (by decide +kernel) (by decide +kernel)
set_option maxRecDepth 20000 in
theorem gX0_letter_X0_worthOfLetter : GoodIn wsX0_letter (wsV RX0 47 RX0 yX0_worthOfLetter wsX0_worthOfLetter) := goodIn_app (goodIn_of _ (by decide +kernel)) ggX0_letter_X0_worthOfLetter
theorem dX0_letter_0 : decode cX0_letter 0 = .ok (.iload_n 1, 1) := by decide +kernel
theorem dX0_letter_1 : decode cX0_letter 1 = .ok (.iconst 1, 1) := by decide +kernel
theorem dX0_letter_2 : decode cX0_letter 2 = .ok (.if_icmp .lt 9, 3) := by decide +kernel
theorem dX0_letter_5 : decode cX0_letter 5 = .ok (.iload_n 1, 1) := by decide +kernel
theorem dX0_letter_6 : decode cX0_letter 6 = .ok (.bipush 26, 2) := by decide +kernel
theorem dX0_letter_8 : decode cX0_letter 8 = .ok (.if_icmp .le 13, 3) := by decide +kernel
theorem dX0_letter_11 : decode cX0_letter 11 = .ok (.new 38, 3) := by decide +kernel
theorem dX0_letter_14 : decode cX0_letter 14 = .ok (.dup, 1) := by decide +kernel
theorem dX0_letter_15 : decode cX0_letter 15 = .ok (.ldc 45, 2) := by decide +kernel
theorem dX0_letter_17 : decode cX0_letter 17 = .ok (.invokespecial 42, 3) := by decide +kernel
theorem dX0_letter_20 : decode cX0_letter 20 = .ok (.athrow, 1) := by decide +kernel
theorem dX0_letter_21 : decode cX0_letter 21 = .ok (.aload_n 0, 1) := by decide +kernel
theorem dX0_letter_22 : decode cX0_letter 22 = .ok (.iload_n 1, 1) := by decide +kernel
theorem dX0_letter_23 : decode cX0_letter 23 = .ok (.invokevirtual 47, 3) := by decide +kernel
theorem dX0_letter_26 : decode cX0_letter 26 = .ok (.ireturn, 1) := by decide +kernel
set_option maxRecDepth 20000 in
theorem ggX0_value_X0_checkWord : GoodIn wsX0_value wsX0_checkWord := goodIn_ca (goodIn_r _ [4, 5, 6, 7, 8, 3, 9, 10] (by decide +kernel) (by decide +kernel)) (goodIn_sub (fun _ h => List.mem_cons_of_mem _ (List.mem_append_right _ h)) (by decide +kernel))
set_option maxRecDepth 20000 in
theorem gX0_value_X0_checkWord : GoodIn wsX0_value (va_wsS RX0 51 yX0_checkWord wsX0_checkWord) := goodIn_app (goodIn_of _ (by decide +kernel)) ggX0_value_X0_checkWord
set_option maxRecDepth 20000 in
theorem ggX0_value_X0_worthOfPlaces : GoodIn wsX0_value wsX0_worthOfPlaces := goodIn_r _ [14, 15, 16, 3, 17, 18, 19, 20, 21, 22, 23, 24, 25, 26, 27, 28, 29, 30, 31, 32, 33] (by decide +kernel) (by decide +kernel)
set_option maxRecDepth 20000 in
theorem gX0_value_X0_worthOfPlaces : GoodIn wsX0_value (wsV RX0 55 RX0 yX0_worthOfPlaces wsX0_worthOfPlaces) := goodIn_app (goodIn_of _ (by decide +kernel)) ggX0_value_X0_worthOfPlaces
theorem dX0_value_0 : decode cX0_value 0 = .ok (.iload_n 1, 1) := by decide +kernel
theorem dX0_value_1 : decode cX0_value 1 = .ok (.invokestatic 51, 3) := by decide +kernel
theorem dX0_value_4 : decode cX0_value 4 = .ok (.aload_n 0, 1) := by decide +kernel
theorem dX0_value_5 : decode cX0_value 5 = .ok (.iload_n 1, 1) := by decide +kernel
theorem dX0_value_6 : decode cX0_value 6 = .ok (.bipush 63, 2) := by decide +kernel
theorem dX0_value_8 : decode cX0_value 8 = .ok (.invokevirtual 55, 3) := by decide +kernel
theorem dX0_value_11 : decode cX0_value 11 = .ok (.ireturn, 1) := by decide +kernel
theorem dX0_write_0 : decode cX0_write 0 = .ok (.aload_n 0, 1) := by decide +kernel
theorem dX0_write_1 : decode cX0_write 1 = .ok (.getfield 13, 3) := by decide +kernel
theorem dX0_write_4 : decode cX0_write 4 = .ok (.bipush 12, 2) := by decide +kernel
theorem dX0_write_6 : decode cX0_write 6 = .ok (.if_icmp .lt 13, 3) := by decide +kernel
theorem dX0_write_9 : decode cX0_write 9 = .ok (.new 62, 3) := by decide +kernel
theorem dX0_write_12 : decode cX0_write 12 = .ok (.dup, 1) := by decide +kernel
theorem dX0_write_13 : decode cX0_write 13 = .ok (.ldc 64, 2) := by decide +kernel
theorem dX0_write_15 : decode cX0_write 15 = .ok (.invokespecial 66, 3) := by decide +kernel
theorem dX0_write_18 : decode cX0_write 18 = .ok (.athrow, 1) := by decide +kernel
theorem dX0_write_19 : decode cX0_write 19 = .ok (.aload_n 0, 1) := by decide +kernel
theorem dX0_write_20 : decode cX0_write 20 = .ok (.dup, 1) := by decide +kernel
theorem dX0_write_21 : decode cX0_write 21 = .ok (.getfield 13, 3) := by decide +kernel
theorem dX0_write_24 : decode cX0_write 24 = .ok (.iconst 1, 1) := by decide +kernel
theorem dX0_write_25 : decode cX0_write 25 = .ok (.iadd, 1) := by decide +kernel
theorem dX0_write_26 : decode cX0_write 26 = .ok (.putfield 13, 3) := by decide +kernel
theorem dX0_write_29 : decode cX0_write 29 = .ok (.aload_n 0, 1) := by decide +kernel
theorem dX0_write_30 : decode cX0_write 30 = .ok (.getfield 13, 3) := by decide +kernel
theorem dX0_write_33 : decode cX0_write 33 = .ok (.iconst 1, 1) := by decide +kernel
theorem dX0_write_34 : decode cX0_write 34 = .ok (.isub, 1) := by decide +kernel
theorem dX0_write_35 : decode cX0_write 35 = .ok (.ireturn, 1) := by decide +kernel
set_option maxRecDepth 20000 in
theorem ggX0_add_X0_checkLine : GoodIn wsX0_add wsX0_checkLine := goodIn_ca (goodIn_r _ [10, 11, 12, 13, 23, 24, 25, 26, 27, 28, 29, 30] (by decide +kernel) (by decide +kernel)) (goodIn_sub (fun _ h => List.mem_cons_of_mem _ (List.mem_append_left _ (List.mem_append_right _ h))) (by decide +kernel))
set_option maxRecDepth 20000 in
theorem gX0_add_X0_checkLine : GoodIn wsX0_add (wsV RX0 67 RX0 yX0_checkLine wsX0_checkLine) := goodIn_app (goodIn_of _ (by decide +kernel)) ggX0_add_X0_checkLine
set_option maxRecDepth 20000 in
theorem ggX0_add_X0_checkWord : GoodIn wsX0_add wsX0_checkWord := goodIn_ca (goodIn_r _ [16, 17, 18, 19, 20, 9, 21, 22] (by decide +kernel) (by decide +kernel)) (goodIn_sub (fun _ h => List.mem_cons_of_mem _ (List.mem_append_right _ h)) (by decide +kernel))
set_option maxRecDepth 20000 in
theorem gX0_add_X0_checkWord : GoodIn wsX0_add (va_wsS RX0 51 yX0_checkWord wsX0_checkWord) := goodIn_app (goodIn_of _ (by decide +kernel)) ggX0_add_X0_checkWord
theorem dX0_add_0 : decode cX0_add 0 = .ok (.aload_n 0, 1) := by decide +kernel
theorem dX0_add_1 : decode cX0_add 1 = .ok (.iload_n 1, 1) := by decide +kernel
theorem dX0_add_2 : decode cX0_add 2 = .ok (.invokevirtual 67, 3) := by decide +kernel
theorem dX0_add_5 : decode cX0_add 5 = .ok (.iload_n 2, 1) := by decide +kernel
theorem dX0_add_6 : decode cX0_add 6 = .ok (.invokestatic 51, 3) := by decide +kernel
theorem dX0_add_9 : decode cX0_add 9 = .ok (.aload_n 0, 1) := by decide +kernel
theorem dX0_add_10 : decode cX0_add 10 = .ok (.getfield 16, 3) := by decide +kernel
theorem dX0_add_13 : decode cX0_add 13 = .ok (.iload_n 1, 1) := by decide +kernel
theorem dX0_add_14 : decode cX0_add 14 = .ok (.iaload, 1) := by decide +kernel
theorem dX0_add_15 : decode cX0_add 15 = .ok (.istore_n 3, 1) := by decide +kernel
theorem dX0_add_16 : decode cX0_add 16 = .ok (.iload_n 3, 1) := by decide +kernel
theorem dX0_add_17 : decode cX0_add 17 = .ok (.bipush 10, 2) := by decide +kernel
theorem dX0_add_19 : decode cX0_add 19 = .ok (.if_icmp .lt 13, 3) := by decide +kernel
theorem dX0_add_22 : decode cX0_add 22 = .ok (.new 62, 3) := by decide +kernel
theorem dX0_add_25 : decode cX0_add 25 = .ok (.dup, 1) := by decide +kernel
theorem dX0_add_26 : decode cX0_add 26 = .ok (.ldc 70, 2) := by decide +kernel
theorem dX0_add_28 : decode cX0_add 28 = .ok (.invokespecial 66, 3) := by decide +kernel
theorem dX0_add_31 : decode cX0_add 31 = .ok (.athrow, 1) := by decide +kernel
theorem dX0_add_32 : decode cX0_add 32 = .ok (.aload_n 0, 1) := by decide +kernel
theorem dX0_add_33 : decode cX0_add 33 = .ok (.getfield 22, 3) := by decide +kernel
theorem dX0_add_36 : decode cX0_add 36 = .ok (.iload_n 1, 1) := by decide +kernel
theorem dX0_add_37 : decode cX0_add 37 = .ok (.aaload, 1) := by decide +kernel
theorem dX0_add_38 : decode cX0_add 38 = .ok (.iload_n 3, 1) := by decide +kernel
theorem dX0_add_39 : decode cX0_add 39 = .ok (.iload_n 2, 1) := by decide +kernel
theorem dX0_add_40 : decode cX0_add 40 = .ok (.iastore, 1) := by decide +kernel
theorem dX0_add_41 : decode cX0_add 41 = .ok (.aload_n 0, 1) := by decide +kernel
theorem dX0_add_42 : decode cX0_add 42 = .ok (.getfield 25, 3) := by decide +kernel
theorem dX0_add_45 : decode cX0_add 45 = .ok (.iload_n 1, 1) := by decide +kernel
theorem dX0_add_46 : decode cX0_add 46 = .ok (.aaload, 1) := by decide +kernel
theorem dX0_add_47 : decode cX0_add 47 = .ok (.iload_n 3, 1) := by decide +kernel
theorem dX0_add_48 : decode cX0_add 48 = .ok (.iconst 0, 1) := by decide +kernel
theorem dX0_add_49 : decode cX0_add 49 = .ok (.iastore, 1) := by decide +kernel
theorem dX0_add_50 : decode cX0_add 50 = .ok (.aload_n 0, 1) := by decide +kernel
theorem dX0_add_51 : decode cX0_add 51 = .ok (.getfield 16, 3) := by decide +kernel
theorem dX0_add_54 : decode cX0_add 54 = .ok (.iload_n 1, 1) := by decide +kernel
theorem dX0_add_55 : decode cX0_add 55 = .ok (.iload_n 3, 1) := by decide +kernel
theorem dX0_add_56 : decode cX0_add 56 = .ok (.iconst 1, 1) := by decide +kernel
theorem dX0_add_57 : decode cX0_add 57 = .ok (.iadd, 1) := by decide +kernel
theorem dX0_add_58 : decode cX0_add 58 = .ok (.iastore, 1) := by decide +kernel
theorem dX0_add_59 : decode cX0_add 59 = .ok (.iload_n 3, 1) := by decide +kernel
theorem dX0_add_60 : decode cX0_add 60 = .ok (.iconst 1, 1) := by decide +kernel
theorem dX0_add_61 : decode cX0_add 61 = .ok (.iadd, 1) := by decide +kernel
theorem dX0_add_62 : decode cX0_add 62 = .ok (.ireturn, 1) := by decide +kernel
set_option maxRecDepth 20000 in
theorem ggX0_cut_X0_checkLine : GoodIn wsX0_cut wsX0_checkLine := goodIn_ca (goodIn_r _ [9, 10, 11, 12, 13, 14, 15, 16, 17, 18, 19, 20] (by decide +kernel) (by decide +kernel)) (goodIn_sub (fun _ h => List.mem_cons_of_mem _ (List.mem_append_right _ h)) (by decide +kernel))
set_option maxRecDepth 20000 in
theorem gX0_cut_X0_checkLine : GoodIn wsX0_cut (wsV RX0 67 RX0 yX0_checkLine wsX0_checkLine) := goodIn_app (goodIn_of _ (by decide +kernel)) ggX0_cut_X0_checkLine
theorem dX0_cut_0 : decode cX0_cut 0 = .ok (.aload_n 0, 1) := by decide +kernel
theorem dX0_cut_1 : decode cX0_cut 1 = .ok (.iload_n 1, 1) := by decide +kernel
theorem dX0_cut_2 : decode cX0_cut 2 = .ok (.invokevirtual 67, 3) := by decide +kernel
theorem dX0_cut_5 : decode cX0_cut 5 = .ok (.aload_n 0, 1) := by decide +kernel
theorem dX0_cut_6 : decode cX0_cut 6 = .ok (.getfield 16, 3) := by decide +kernel
theorem dX0_cut_9 : decode cX0_cut 9 = .ok (.iload_n 1, 1) := by decide +kernel
theorem dX0_cut_10 : decode cX0_cut 10 = .ok (.iaload, 1) := by decide +kernel
theorem dX0_cut_11 : decode cX0_cut 11 = .ok (.iconst 1, 1) := by decide +kernel
theorem dX0_cut_12 : decode cX0_cut 12 = .ok (.isub, 1) := by decide +kernel
theorem dX0_cut_13 : decode cX0_cut 13 = .ok (.istore_n 2, 1) := by decide +kernel
theorem dX0_cut_14 : decode cX0_cut 14 = .ok (.iload_n 2, 1) := by decide +kernel
theorem dX0_cut_15 : decode cX0_cut 15 = .ok (.ifCond .ge 13, 3) := by decide +kernel
theorem dX0_cut_18 : decode cX0_cut 18 = .ok (.new 62, 3) := by decide +kernel
theorem dX0_cut_21 : decode cX0_cut 21 = .ok (.dup, 1) := by decide +kernel
theorem dX0_cut_22 : decode cX0_cut 22 = .ok (.ldc 72, 2) := by decide +kernel
theorem dX0_cut_24 : decode cX0_cut 24 = .ok (.invokespecial 66, 3) := by decide +kernel
theorem dX0_cut_27 : decode cX0_cut 27 = .ok (.athrow, 1) := by decide +kernel
theorem dX0_cut_28 : decode cX0_cut 28 = .ok (.aload_n 0, 1) := by decide +kernel
theorem dX0_cut_29 : decode cX0_cut 29 = .ok (.getfield 16, 3) := by decide +kernel
theorem dX0_cut_32 : decode cX0_cut 32 = .ok (.iload_n 1, 1) := by decide +kernel
theorem dX0_cut_33 : decode cX0_cut 33 = .ok (.iload_n 2, 1) := by decide +kernel
theorem dX0_cut_34 : decode cX0_cut 34 = .ok (.iastore, 1) := by decide +kernel
theorem dX0_cut_35 : decode cX0_cut 35 = .ok (.aload_n 0, 1) := by decide +kernel
theorem dX0_cut_36 : decode cX0_cut 36 = .ok (.getfield 22, 3) := by decide +kernel
theorem dX0_cut_39 : decode cX0_cut 39 = .ok (.iload_n 1, 1) := by decide +kernel
theorem dX0_cut_40 : decode cX0_cut 40 = .ok (.aaload, 1) := by decide +kernel
theorem dX0_cut_41 : decode cX0_cut 41 = .ok (.iload_n 2, 1) := by decide +kernel
theorem dX0_cut_42 : decode cX0_cut 42 = .ok (.iaload, 1) := by decide +kernel
theorem dX0_cut_43 : decode cX0_cut 43 = .ok (.ireturn, 1) := by decide +kernel
set_option maxRecDepth 20000 in
theorem ggX0_mark_X0_checkWordOfLine : GoodIn wsX0_mark wsX0_checkWordOfLine := goodIn_ca (goodIn_r _ [9, 1, 2, 10, 11, 12, 13, 8, 14, 15, 22, 23, 24, 25, 26, 27, 28, 29] (by decide +kernel) (by decide +kernel)) (goodIn_sub (fun _ h => List.mem_cons_of_mem _ (List.mem_append_right _ h)) (by decide +kernel))
set_option maxRecDepth 20000 in
theorem gX0_mark_X0_checkWordOfLine : GoodIn wsX0_mark (wsV RX0 74 RX0 yX0_checkWordOfLine wsX0_checkWordOfLine) := goodIn_app (goodIn_of _ (by decide +kernel)) ggX0_mark_X0_checkWordOfLine
set_option maxRecDepth 20000 in
theorem ggX0_mark_X0_lengthOf : GoodIn wsX0_mark wsX0_lengthOf := goodIn_r _ [18] (by decide +kernel) (by decide +kernel)
set_option maxRecDepth 20000 in
theorem gX0_mark_X0_lengthOf : GoodIn wsX0_mark (va_wsS RX0 78 yX0_lengthOf wsX0_lengthOf) := goodIn_app (goodIn_of _ (by decide +kernel)) ggX0_mark_X0_lengthOf
set_option maxRecDepth 20000 in
theorem ggX0_mark_X0_isMarked : GoodIn wsX0_mark wsX0_isMarked := goodIn_r _ [21] (by decide +kernel) (by decide +kernel)
set_option maxRecDepth 20000 in
theorem gX0_mark_X0_isMarked : GoodIn wsX0_mark (va_wsS RX0 83 yX0_isMarked wsX0_isMarked) := goodIn_app (goodIn_of _ (by decide +kernel)) ggX0_mark_X0_isMarked
theorem dX0_mark_0 : decode cX0_mark 0 = .ok (.aload_n 0, 1) := by decide +kernel
theorem dX0_mark_1 : decode cX0_mark 1 = .ok (.iload_n 1, 1) := by decide +kernel
theorem dX0_mark_2 : decode cX0_mark 2 = .ok (.iload_n 2, 1) := by decide +kernel
theorem dX0_mark_3 : decode cX0_mark 3 = .ok (.invokevirtual 74, 3) := by decide +kernel
theorem dX0_mark_6 : decode cX0_mark 6 = .ok (.iload_n 3, 1) := by decide +kernel
theorem dX0_mark_7 : decode cX0_mark 7 = .ok (.ifCond .lt 18, 3) := by decide +kernel
theorem dX0_mark_10 : decode cX0_mark 10 = .ok (.iload_n 3, 1) := by decide +kernel
theorem dX0_mark_11 : decode cX0_mark 11 = .ok (.aload_n 0, 1) := by decide +kernel
theorem dX0_mark_12 : decode cX0_mark 12 = .ok (.getfield 22, 3) := by decide +kernel
theorem dX0_mark_15 : decode cX0_mark 15 = .ok (.iload_n 1, 1) := by decide +kernel
theorem dX0_mark_16 : decode cX0_mark 16 = .ok (.aaload, 1) := by decide +kernel
theorem dX0_mark_17 : decode cX0_mark 17 = .ok (.iload_n 2, 1) := by decide +kernel
theorem dX0_mark_18 : decode cX0_mark 18 = .ok (.iaload, 1) := by decide +kernel
theorem dX0_mark_19 : decode cX0_mark 19 = .ok (.invokestatic 78, 3) := by decide +kernel
theorem dX0_mark_22 : decode cX0_mark 22 = .ok (.if_icmp .lt 13, 3) := by decide +kernel
theorem dX0_mark_25 : decode cX0_mark 25 = .ok (.new 38, 3) := by decide +kernel
theorem dX0_mark_28 : decode cX0_mark 28 = .ok (.dup, 1) := by decide +kernel
theorem dX0_mark_29 : decode cX0_mark 29 = .ok (.ldc 81, 2) := by decide +kernel
theorem dX0_mark_31 : decode cX0_mark 31 = .ok (.invokespecial 42, 3) := by decide +kernel
theorem dX0_mark_34 : decode cX0_mark 34 = .ok (.athrow, 1) := by decide +kernel
theorem dX0_mark_35 : decode cX0_mark 35 = .ok (.aload_n 0, 1) := by decide +kernel
theorem dX0_mark_36 : decode cX0_mark 36 = .ok (.getfield 25, 3) := by decide +kernel
theorem dX0_mark_39 : decode cX0_mark 39 = .ok (.iload_n 1, 1) := by decide +kernel
theorem dX0_mark_40 : decode cX0_mark 40 = .ok (.aaload, 1) := by decide +kernel
theorem dX0_mark_41 : decode cX0_mark 41 = .ok (.iload_n 2, 1) := by decide +kernel
theorem dX0_mark_42 : decode cX0_mark 42 = .ok (.dup2, 1) := by decide +kernel
theorem dX0_mark_43 : decode cX0_mark 43 = .ok (.iaload, 1) := by decide +kernel
theorem dX0_mark_44 : decode cX0_mark 44 = .ok (.iconst 1, 1) := by decide +kernel
theorem dX0_mark_45 : decode cX0_mark 45 = .ok (.iload_n 3, 1) := by decide +kernel
theorem dX0_mark_46 : decode cX0_mark 46 = .ok (.ishl, 1) := by decide +kernel
theorem dX0_mark_47 : decode cX0_mark 47 = .ok (.ixor, 1) := by decide +kernel
theorem dX0_mark_48 : decode cX0_mark 48 = .ok (.iastore, 1) := by decide +kernel
theorem dX0_mark_49 : decode cX0_mark 49 = .ok (.aload_n 0, 1) := by decide +kernel
theorem dX0_mark_50 : decode cX0_mark 50 = .ok (.getfield 25, 3) := by decide +kernel
theorem dX0_mark_53 : decode cX0_mark 53 = .ok (.iload_n 1, 1) := by decide +kernel
theorem dX0_mark_54 : decode cX0_mark 54 = .ok (.aaload, 1) := by decide +kernel
theorem dX0_mark_55 : decode cX0_mark 55 = .ok (.iload_n 2, 1) := by decide +kernel
theorem dX0_mark_56 : decode cX0_mark 56 = .ok (.iaload, 1) := by decide +kernel
theorem dX0_mark_57 : decode cX0_mark 57 = .ok (.iload_n 3, 1) := by decide +kernel
theorem dX0_mark_58 : decode cX0_mark 58 = .ok (.invokestatic 83, 3) := by decide +kernel
theorem dX0_mark_61 : decode cX0_mark 61 = .ok (.ireturn, 1) := by decide +kernel
set_option maxRecDepth 20000 in
theorem ggX0_word_X0_checkWordOfLine : GoodIn wsX0_word wsX0_checkWordOfLine := goodIn_ca (goodIn_r _ [5, 6, 7, 8, 9, 10, 11, 4, 12, 13, 45, 46, 47, 48, 49, 50, 51, 52] (by decide +kernel) (by decide +kernel)) (goodIn_sub (fun _ h => List.mem_cons_of_mem _ (List.mem_append_right _ h)) (by decide +kernel))
set_option maxRecDepth 20000 in
theorem gX0_word_X0_checkWordOfLine : GoodIn wsX0_word (wsV RX0 74 RX0 yX0_checkWordOfLine wsX0_checkWordOfLine) := goodIn_app (goodIn_of _ (by decide +kernel)) ggX0_word_X0_checkWordOfLine
set_option maxRecDepth 20000 in
theorem ggX0_word_X0_checkWhat : GoodIn wsX0_word wsX0_checkWhat := goodIn_ca (goodIn_r _ [16, 6, 7] (by decide +kernel) (by decide +kernel)) (goodIn_sub (fun _ h => List.mem_cons_of_mem _ (List.mem_append_right _ h)) (by decide +kernel))
set_option maxRecDepth 20000 in
theorem gX0_word_X0_checkWhat : GoodIn wsX0_word (va_wsS RX0 87 yX0_checkWhat wsX0_checkWhat) := goodIn_app (goodIn_of _ (by decide +kernel)) ggX0_word_X0_checkWhat
set_option maxRecDepth 20000 in
theorem ggX0_word_X0_figureOfWord : GoodIn wsX0_word wsX0_figureOfWord := goodIn_r _ [20, 21, 22, 23, 24, 4, 25, 26, 27, 28, 29, 30, 31, 32, 33, 34, 35, 36, 37, 38, 39, 40, 41, 42, 43, 44, 45, 46, 47, 48, 49, 50, 51, 52] (by decide +kernel) (by decide +kernel)
set_option maxRecDepth 20000 in
theorem gX0_word_X0_figureOfWord : GoodIn wsX0_word (wsV RX0 90 RX0 yX0_figureOfWord wsX0_figureOfWord) := goodIn_app (goodIn_of _ (by decide +kernel)) ggX0_word_X0_figureOfWord
theorem dX0_word_0 : decode cX0_word 0 = .ok (.aload_n 0, 1) := by decide +kernel
theorem dX0_word_1 : decode cX0_word 1 = .ok (.iload_n 1, 1) := by decide +kernel
theorem dX0_word_2 : decode cX0_word 2 = .ok (.iload_n 2, 1) := by decide +kernel
theorem dX0_word_3 : decode cX0_word 3 = .ok (.invokevirtual 74, 3) := by decide +kernel
theorem dX0_word_6 : decode cX0_word 6 = .ok (.iload_n 3, 1) := by decide +kernel
theorem dX0_word_7 : decode cX0_word 7 = .ok (.iconst 5, 1) := by decide +kernel
theorem dX0_word_8 : decode cX0_word 8 = .ok (.invokestatic 87, 3) := by decide +kernel
theorem dX0_word_11 : decode cX0_word 11 = .ok (.aload_n 0, 1) := by decide +kernel
theorem dX0_word_12 : decode cX0_word 12 = .ok (.iload_n 1, 1) := by decide +kernel
theorem dX0_word_13 : decode cX0_word 13 = .ok (.iload_n 2, 1) := by decide +kernel
theorem dX0_word_14 : decode cX0_word 14 = .ok (.iload_n 3, 1) := by decide +kernel
theorem dX0_word_15 : decode cX0_word 15 = .ok (.invokevirtual 90, 3) := by decide +kernel
theorem dX0_word_18 : decode cX0_word 18 = .ok (.ireturn, 1) := by decide +kernel
set_option maxRecDepth 20000 in
theorem ggX0_line_X0_checkLine : GoodIn wsX0_line wsX0_checkLine := goodIn_ca (goodIn_r _ [5, 6, 7, 8, 45, 46, 47, 48, 49, 50, 51, 52] (by decide +kernel) (by decide +kernel)) (goodIn_sub (fun _ h => List.mem_cons_of_mem _ (List.mem_append_right _ h)) (by decide +kernel))
set_option maxRecDepth 20000 in
theorem gX0_line_X0_checkLine : GoodIn wsX0_line (wsV RX0 67 RX0 yX0_checkLine wsX0_checkLine) := goodIn_app (goodIn_of _ (by decide +kernel)) ggX0_line_X0_checkLine
set_option maxRecDepth 20000 in
theorem ggX0_line_X0_checkWhat : GoodIn wsX0_line wsX0_checkWhat := goodIn_ca (goodIn_r _ [11, 6, 7] (by decide +kernel) (by decide +kernel)) (goodIn_sub (fun _ h => List.mem_cons_of_mem _ (List.mem_append_right _ h)) (by decide +kernel))
set_option maxRecDepth 20000 in
theorem gX0_line_X0_checkWhat : GoodIn wsX0_line (va_wsS RX0 87 yX0_checkWhat wsX0_checkWhat) := goodIn_app (goodIn_of _ (by decide +kernel)) ggX0_line_X0_checkWhat
set_option maxRecDepth 20000 in
theorem ggX0_line_X0_figureOfLine : GoodIn wsX0_line wsX0_figureOfLine := goodIn_r _ [15, 16, 17, 18, 19, 4, 20, 21, 22, 23, 24, 25, 26, 27, 28, 29, 30, 31, 32, 33, 34, 35, 36, 37, 38, 39, 40, 41, 42, 43, 44, 45, 46, 47, 48, 49, 50, 51, 52] (by decide +kernel) (by decide +kernel)
set_option maxRecDepth 20000 in
theorem gX0_line_X0_figureOfLine : GoodIn wsX0_line (wsV RX0 94 RX0 yX0_figureOfLine wsX0_figureOfLine) := goodIn_app (goodIn_of _ (by decide +kernel)) ggX0_line_X0_figureOfLine
theorem dX0_line_0 : decode cX0_line 0 = .ok (.aload_n 0, 1) := by decide +kernel
theorem dX0_line_1 : decode cX0_line 1 = .ok (.iload_n 1, 1) := by decide +kernel
theorem dX0_line_2 : decode cX0_line 2 = .ok (.invokevirtual 67, 3) := by decide +kernel
theorem dX0_line_5 : decode cX0_line 5 = .ok (.iload_n 2, 1) := by decide +kernel
theorem dX0_line_6 : decode cX0_line 6 = .ok (.iconst 5, 1) := by decide +kernel
theorem dX0_line_7 : decode cX0_line 7 = .ok (.invokestatic 87, 3) := by decide +kernel
theorem dX0_line_10 : decode cX0_line 10 = .ok (.aload_n 0, 1) := by decide +kernel
theorem dX0_line_11 : decode cX0_line 11 = .ok (.iload_n 1, 1) := by decide +kernel
theorem dX0_line_12 : decode cX0_line 12 = .ok (.iload_n 2, 1) := by decide +kernel
theorem dX0_line_13 : decode cX0_line 13 = .ok (.invokevirtual 94, 3) := by decide +kernel
theorem dX0_line_16 : decode cX0_line 16 = .ok (.ireturn, 1) := by decide +kernel
set_option maxRecDepth 20000 in
theorem ggX0_told_X0_checkWhat : GoodIn wsX0_told wsX0_checkWhat := goodIn_ca (goodIn_r _ [5, 6, 7] (by decide +kernel) (by decide +kernel)) (goodIn_sub (fun _ h => List.mem_cons_of_mem _ (List.mem_append_right _ h)) (by decide +kernel))
set_option maxRecDepth 20000 in
theorem gX0_told_X0_checkWhat : GoodIn wsX0_told (va_wsS RX0 87 yX0_checkWhat wsX0_checkWhat) := goodIn_app (goodIn_of _ (by decide +kernel)) ggX0_told_X0_checkWhat
set_option maxRecDepth 20000 in
theorem ggX0_told_X0_pairsOfSameWorth : GoodIn wsX0_told wsX0_pairsOfSameWorth := goodIn_r _ [11, 1, 12, 13, 14, 15, 16, 17, 4, 18, 19, 20, 21, 22, 23, 24, 25, 26, 27, 28, 29, 30, 31, 32, 33, 54, 55, 56, 57, 58, 59, 60, 61] (by decide +kernel) (by decide +kernel)
set_option maxRecDepth 20000 in
theorem gX0_told_X0_pairsOfSameWorth : GoodIn wsX0_told (wsV RX0 97 RX0 yX0_pairsOfSameWorth wsX0_pairsOfSameWorth) := goodIn_app (goodIn_of _ (by decide +kernel)) ggX0_told_X0_pairsOfSameWorth
set_option maxRecDepth 20000 in
theorem ggX0_told_X0_sumOverLines : GoodIn wsX0_told wsX0_sumOverLines := goodIn_r _ [37, 1, 38, 39, 40, 4, 41, 12, 42, 43, 44, 45, 13, 46, 19, 20, 21, 15, 16, 17, 18, 22, 23, 24, 25, 26, 27, 28, 29, 47, 48, 49, 50, 51, 52, 53, 54, 55, 56, 57, 58, 59, 60, 61] (by decide +kernel) (by decide +kernel)
set_option maxRecDepth 20000 in
theorem gX0_told_X0_sumOverLines : GoodIn wsX0_told (wsV RX0 101 RX0 yX0_sumOverLines wsX0_sumOverLines) := goodIn_app (goodIn_of _ (by decide +kernel)) ggX0_told_X0_sumOverLines
theorem dX0_told_0 : decode cX0_told 0 = .ok (.iload_n 1, 1) := by decide +kernel
theorem dX0_told_1 : decode cX0_told 1 = .ok (.bipush 7, 2) := by decide +kernel
theorem dX0_told_3 : decode cX0_told 3 = .ok (.invokestatic 87, 3) := by decide +kernel
theorem dX0_told_6 : decode cX0_told 6 = .ok (.iload_n 1, 1) := by decide +kernel
theorem dX0_told_7 : decode cX0_told 7 = .ok (.ifCond .ne 8, 3) := by decide +kernel
theorem dX0_told_10 : decode cX0_told 10 = .ok (.aload_n 0, 1) := by decide +kernel
theorem dX0_told_11 : decode cX0_told 11 = .ok (.getfield 13, 3) := by decide +kernel
theorem dX0_told_14 : decode cX0_told 14 = .ok (.ireturn, 1) := by decide +kernel
theorem dX0_told_15 : decode cX0_told 15 = .ok (.iload_n 1, 1) := by decide +kernel
theorem dX0_told_16 : decode cX0_told 16 = .ok (.bipush 6, 2) := by decide +kernel
theorem dX0_told_18 : decode cX0_told 18 = .ok (.if_icmp .ne 8, 3) := by decide +kernel
theorem dX0_told_21 : decode cX0_told 21 = .ok (.aload_n 0, 1) := by decide +kernel
theorem dX0_told_22 : decode cX0_told 22 = .ok (.invokevirtual 97, 3) := by decide +kernel
theorem dX0_told_25 : decode cX0_told 25 = .ok (.ireturn, 1) := by decide +kernel
theorem dX0_told_26 : decode cX0_told 26 = .ok (.aload_n 0, 1) := by decide +kernel
theorem dX0_told_27 : decode cX0_told 27 = .ok (.iload_n 1, 1) := by decide +kernel
theorem dX0_told_28 : decode cX0_told 28 = .ok (.iconst 1, 1) := by decide +kernel
theorem dX0_told_29 : decode cX0_told 29 = .ok (.isub, 1) := by decide +kernel
theorem dX0_told_30 : decode cX0_told 30 = .ok (.invokevirtual 101, 3) := by decide +kernel
theorem dX0_told_33 : decode cX0_told 33 = .ok (.ireturn, 1) := by decide +kernel
set_option maxRecDepth 20000 in
theorem ggX0_hidden_X0_checkLine : GoodIn wsX0_hidden wsX0_checkLine := goodIn_ca (goodIn_r _ [6, 7, 8, 9, 30, 31, 32, 33, 34, 35, 36, 37] (by decide +kernel) (by decide +kernel)) (goodIn_sub (fun _ h => List.mem_cons_of_mem _ (List.mem_append_right _ h)) (by decide +kernel))
set_option maxRecDepth 20000 in
theorem gX0_hidden_X0_checkLine : GoodIn wsX0_hidden (wsV RX0 67 RX0 yX0_checkLine wsX0_checkLine) := goodIn_app (goodIn_of _ (by decide +kernel)) ggX0_hidden_X0_checkLine
set_option maxRecDepth 20000 in
theorem ggX0_hidden_X0_lastOfRun : GoodIn wsX0_hidden wsX0_lastOfRun := goodIn_r _ [13, 1, 14, 15, 16, 17, 5, 18, 19, 20, 21, 22, 23, 24, 25, 26, 27, 28, 29, 30, 31, 32, 33, 34, 35, 36, 37] (by decide +kernel) (by decide +kernel)
set_option maxRecDepth 20000 in
theorem gX0_hidden_X0_lastOfRun : GoodIn wsX0_hidden (wsV RX0 104 RX0 yX0_lastOfRun wsX0_lastOfRun) := goodIn_app (goodIn_of _ (by decide +kernel)) ggX0_hidden_X0_lastOfRun
theorem dX0_hidden_0 : decode cX0_hidden 0 = .ok (.aload_n 0, 1) := by decide +kernel
theorem dX0_hidden_1 : decode cX0_hidden 1 = .ok (.iload_n 1, 1) := by decide +kernel
theorem dX0_hidden_2 : decode cX0_hidden 2 = .ok (.invokevirtual 67, 3) := by decide +kernel
theorem dX0_hidden_5 : decode cX0_hidden 5 = .ok (.iconst 0, 1) := by decide +kernel
theorem dX0_hidden_6 : decode cX0_hidden 6 = .ok (.istore_n 3, 1) := by decide +kernel
theorem dX0_hidden_7 : decode cX0_hidden 7 = .ok (.iload_n 3, 1) := by decide +kernel
theorem dX0_hidden_8 : decode cX0_hidden 8 = .ok (.aload_n 0, 1) := by decide +kernel
theorem dX0_hidden_9 : decode cX0_hidden 9 = .ok (.getfield 16, 3) := by decide +kernel
theorem dX0_hidden_12 : decode cX0_hidden 12 = .ok (.iload_n 1, 1) := by decide +kernel
theorem dX0_hidden_13 : decode cX0_hidden 13 = .ok (.iaload, 1) := by decide +kernel
theorem dX0_hidden_14 : decode cX0_hidden 14 = .ok (.if_icmp .ge 31, 3) := by decide +kernel
theorem dX0_hidden_17 : decode cX0_hidden 17 = .ok (.aload_n 0, 1) := by decide +kernel
theorem dX0_hidden_18 : decode cX0_hidden 18 = .ok (.iload_n 1, 1) := by decide +kernel
theorem dX0_hidden_19 : decode cX0_hidden 19 = .ok (.iload_n 3, 1) := by decide +kernel
theorem dX0_hidden_20 : decode cX0_hidden 20 = .ok (.iload_n 2, 1) := by decide +kernel
theorem dX0_hidden_21 : decode cX0_hidden 21 = .ok (.invokevirtual 104, 3) := by decide +kernel
theorem dX0_hidden_24 : decode cX0_hidden 24 = .ok (.istore 4, 2) := by decide +kernel
theorem dX0_hidden_26 : decode cX0_hidden 26 = .ok (.iload 4, 2) := by decide +kernel
theorem dX0_hidden_28 : decode cX0_hidden 28 = .ok (.ifCond .lt 11, 3) := by decide +kernel
theorem dX0_hidden_31 : decode cX0_hidden 31 = .ok (.bipush 10, 2) := by decide +kernel
theorem dX0_hidden_33 : decode cX0_hidden 33 = .ok (.iload_n 3, 1) := by decide +kernel
theorem dX0_hidden_34 : decode cX0_hidden 34 = .ok (.imul, 1) := by decide +kernel
theorem dX0_hidden_35 : decode cX0_hidden 35 = .ok (.iload 4, 2) := by decide +kernel
theorem dX0_hidden_37 : decode cX0_hidden 37 = .ok (.iadd, 1) := by decide +kernel
theorem dX0_hidden_38 : decode cX0_hidden 38 = .ok (.ireturn, 1) := by decide +kernel
theorem dX0_hidden_39 : decode cX0_hidden 39 = .ok (.iinc 3 1, 3) := by decide +kernel
theorem dX0_hidden_42 : decode cX0_hidden 42 = .ok (.goto (-35), 3) := by decide +kernel
theorem dX0_hidden_45 : decode cX0_hidden 45 = .ok (.iconst (-1), 1) := by decide +kernel
theorem dX0_hidden_46 : decode cX0_hidden 46 = .ok (.ireturn, 1) := by decide +kernel
set_option maxRecDepth 20000 in
theorem ggX0_hides_X0_lastOfRun : GoodIn wsX0_hides wsX0_lastOfRun := goodIn_r _ [7, 2, 8, 9, 10, 11, 6, 12, 13, 14, 15, 16, 17, 18, 19, 20, 21, 22, 23, 24, 25, 26, 27, 28, 29, 30, 31] (by decide +kernel) (by decide +kernel)
set_option maxRecDepth 20000 in
theorem gX0_hides_X0_lastOfRun : GoodIn wsX0_hides (wsV RX0 104 RX0 yX0_lastOfRun wsX0_lastOfRun) := goodIn_app (goodIn_of _ (by decide +kernel)) ggX0_hides_X0_lastOfRun
theorem dX0_hides_0 : decode cX0_hides 0 = .ok (.iconst 0, 1) := by decide +kernel
theorem dX0_hides_1 : decode cX0_hides 1 = .ok (.istore_n 2, 1) := by decide +kernel
theorem dX0_hides_2 : decode cX0_hides 2 = .ok (.iconst 0, 1) := by decide +kernel
theorem dX0_hides_3 : decode cX0_hides 3 = .ok (.istore_n 3, 1) := by decide +kernel
theorem dX0_hides_4 : decode cX0_hides 4 = .ok (.iload_n 3, 1) := by decide +kernel
theorem dX0_hides_5 : decode cX0_hides 5 = .ok (.aload_n 0, 1) := by decide +kernel
theorem dX0_hides_6 : decode cX0_hides 6 = .ok (.getfield 13, 3) := by decide +kernel
theorem dX0_hides_9 : decode cX0_hides 9 = .ok (.if_icmp .ge 43, 3) := by decide +kernel
theorem dX0_hides_12 : decode cX0_hides 12 = .ok (.iconst 0, 1) := by decide +kernel
theorem dX0_hides_13 : decode cX0_hides 13 = .ok (.istore 4, 2) := by decide +kernel
theorem dX0_hides_15 : decode cX0_hides 15 = .ok (.iload 4, 2) := by decide +kernel
theorem dX0_hides_17 : decode cX0_hides 17 = .ok (.aload_n 0, 1) := by decide +kernel
theorem dX0_hides_18 : decode cX0_hides 18 = .ok (.getfield 16, 3) := by decide +kernel
theorem dX0_hides_21 : decode cX0_hides 21 = .ok (.iload_n 3, 1) := by decide +kernel
theorem dX0_hides_22 : decode cX0_hides 22 = .ok (.iaload, 1) := by decide +kernel
theorem dX0_hides_23 : decode cX0_hides 23 = .ok (.if_icmp .ge 23, 3) := by decide +kernel
theorem dX0_hides_26 : decode cX0_hides 26 = .ok (.aload_n 0, 1) := by decide +kernel
theorem dX0_hides_27 : decode cX0_hides 27 = .ok (.iload_n 3, 1) := by decide +kernel
theorem dX0_hides_28 : decode cX0_hides 28 = .ok (.iload 4, 2) := by decide +kernel
theorem dX0_hides_30 : decode cX0_hides 30 = .ok (.iload_n 1, 1) := by decide +kernel
theorem dX0_hides_31 : decode cX0_hides 31 = .ok (.invokevirtual 104, 3) := by decide +kernel
theorem dX0_hides_34 : decode cX0_hides 34 = .ok (.ifCond .lt 6, 3) := by decide +kernel
theorem dX0_hides_37 : decode cX0_hides 37 = .ok (.iinc 2 1, 3) := by decide +kernel
theorem dX0_hides_40 : decode cX0_hides 40 = .ok (.iinc 4 1, 3) := by decide +kernel
theorem dX0_hides_43 : decode cX0_hides 43 = .ok (.goto (-28), 3) := by decide +kernel
theorem dX0_hides_46 : decode cX0_hides 46 = .ok (.iinc 3 1, 3) := by decide +kernel
theorem dX0_hides_49 : decode cX0_hides 49 = .ok (.goto (-45), 3) := by decide +kernel
theorem dX0_hides_52 : decode cX0_hides 52 = .ok (.iload_n 2, 1) := by decide +kernel
theorem dX0_hides_53 : decode cX0_hides 53 = .ok (.ireturn, 1) := by decide +kernel
set_option maxRecDepth 20000 in
theorem ggX0_lacks_X0_checkLine : GoodIn wsX0_lacks wsX0_checkLine := goodIn_ca (goodIn_r _ [5, 6, 7, 8, 42, 43, 44, 45, 46, 47, 48, 49] (by decide +kernel) (by decide +kernel)) (goodIn_sub (fun _ h => List.mem_cons_of_mem _ (List.mem_append_right _ h)) (by decide +kernel))
set_option maxRecDepth 20000 in
theorem gX0_lacks_X0_checkLine : GoodIn wsX0_lacks (wsV RX0 67 RX0 yX0_checkLine wsX0_checkLine) := goodIn_app (goodIn_of _ (by decide +kernel)) ggX0_lacks_X0_checkLine
set_option maxRecDepth 20000 in
theorem ggX0_lacks_X0_figureOfLine : GoodIn wsX0_lacks wsX0_figureOfLine := goodIn_r _ [12, 13, 14, 15, 16, 4, 17, 18, 19, 20, 21, 22, 23, 24, 25, 26, 27, 28, 29, 30, 31, 32, 33, 34, 35, 36, 37, 38, 39, 40, 41, 42, 43, 44, 45, 46, 47, 48, 49] (by decide +kernel) (by decide +kernel)
set_option maxRecDepth 20000 in
theorem gX0_lacks_X0_figureOfLine : GoodIn wsX0_lacks (wsV RX0 94 RX0 yX0_figureOfLine wsX0_figureOfLine) := goodIn_app (goodIn_of _ (by decide +kernel)) ggX0_lacks_X0_figureOfLine
set_option maxRecDepth 20000 in
theorem ggX0_lacks_X0_worthOfLetter : GoodIn wsX0_lacks wsX0_worthOfLetter := goodIn_r _ [33, 34, 42, 43, 44, 45, 46, 47, 48, 49] (by decide +kernel) (by decide +kernel)
set_option maxRecDepth 20000 in
theorem gX0_lacks_X0_worthOfLetter : GoodIn wsX0_lacks (wsV RX0 47 RX0 yX0_worthOfLetter wsX0_worthOfLetter) := goodIn_app (goodIn_of _ (by decide +kernel)) ggX0_lacks_X0_worthOfLetter
theorem dX0_lacks_0 : decode cX0_lacks 0 = .ok (.aload_n 0, 1) := by decide +kernel
theorem dX0_lacks_1 : decode cX0_lacks 1 = .ok (.iload_n 1, 1) := by decide +kernel
theorem dX0_lacks_2 : decode cX0_lacks 2 = .ok (.invokevirtual 67, 3) := by decide +kernel
theorem dX0_lacks_5 : decode cX0_lacks 5 = .ok (.aload_n 0, 1) := by decide +kernel
theorem dX0_lacks_6 : decode cX0_lacks 6 = .ok (.iload_n 1, 1) := by decide +kernel
theorem dX0_lacks_7 : decode cX0_lacks 7 = .ok (.iconst 2, 1) := by decide +kernel
theorem dX0_lacks_8 : decode cX0_lacks 8 = .ok (.invokevirtual 94, 3) := by decide +kernel
theorem dX0_lacks_11 : decode cX0_lacks 11 = .ok (.istore_n 3, 1) := by decide +kernel
theorem dX0_lacks_12 : decode cX0_lacks 12 = .ok (.iconst 1, 1) := by decide +kernel
theorem dX0_lacks_13 : decode cX0_lacks 13 = .ok (.istore 4, 2) := by decide +kernel
theorem dX0_lacks_15 : decode cX0_lacks 15 = .ok (.iload 4, 2) := by decide +kernel
theorem dX0_lacks_17 : decode cX0_lacks 17 = .ok (.bipush 26, 2) := by decide +kernel
theorem dX0_lacks_19 : decode cX0_lacks 19 = .ok (.if_icmp .gt 24, 3) := by decide +kernel
theorem dX0_lacks_22 : decode cX0_lacks 22 = .ok (.iload_n 3, 1) := by decide +kernel
theorem dX0_lacks_23 : decode cX0_lacks 23 = .ok (.aload_n 0, 1) := by decide +kernel
theorem dX0_lacks_24 : decode cX0_lacks 24 = .ok (.iload 4, 2) := by decide +kernel
theorem dX0_lacks_26 : decode cX0_lacks 26 = .ok (.invokevirtual 47, 3) := by decide +kernel
theorem dX0_lacks_29 : decode cX0_lacks 29 = .ok (.iadd, 1) := by decide +kernel
theorem dX0_lacks_30 : decode cX0_lacks 30 = .ok (.iload_n 2, 1) := by decide +kernel
theorem dX0_lacks_31 : decode cX0_lacks 31 = .ok (.if_icmp .ne 6, 3) := by decide +kernel
theorem dX0_lacks_34 : decode cX0_lacks 34 = .ok (.iload 4, 2) := by decide +kernel
theorem dX0_lacks_36 : decode cX0_lacks 36 = .ok (.ireturn, 1) := by decide +kernel
theorem dX0_lacks_37 : decode cX0_lacks 37 = .ok (.iinc 4 1, 3) := by decide +kernel
theorem dX0_lacks_40 : decode cX0_lacks 40 = .ok (.goto (-25), 3) := by decide +kernel
theorem dX0_lacks_43 : decode cX0_lacks 43 = .ok (.iconst (-1), 1) := by decide +kernel
theorem dX0_lacks_44 : decode cX0_lacks 44 = .ok (.ireturn, 1) := by decide +kernel
set_option maxRecDepth 20000 in
theorem ggX0_nearest_X0_figureOfLine : GoodIn wsX0_nearest wsX0_figureOfLine := goodIn_r _ [10, 11, 12, 13, 14, 9, 15, 16, 17, 18, 19, 20, 21, 22, 23, 24, 25, 26, 27, 28, 29, 30, 31, 32, 33, 34, 35, 36, 37, 38, 39, 40, 41, 42, 43, 44, 45, 46, 47] (by decide +kernel) (by decide +kernel)
set_option maxRecDepth 20000 in
theorem gX0_nearest_X0_figureOfLine : GoodIn wsX0_nearest (wsV RX0 94 RX0 yX0_figureOfLine wsX0_figureOfLine) := goodIn_app (goodIn_of _ (by decide +kernel)) ggX0_nearest_X0_figureOfLine
theorem dX0_nearest_0 : decode cX0_nearest 0 = .ok (.iconst (-1), 1) := by decide +kernel
theorem dX0_nearest_1 : decode cX0_nearest 1 = .ok (.istore_n 2, 1) := by decide +kernel
theorem dX0_nearest_2 : decode cX0_nearest 2 = .ok (.lconst 0, 1) := by decide +kernel
theorem dX0_nearest_3 : decode cX0_nearest 3 = .ok (.lstore_n 3, 1) := by decide +kernel
theorem dX0_nearest_4 : decode cX0_nearest 4 = .ok (.iconst 0, 1) := by decide +kernel
theorem dX0_nearest_5 : decode cX0_nearest 5 = .ok (.istore 5, 2) := by decide +kernel
theorem dX0_nearest_7 : decode cX0_nearest 7 = .ok (.iload 5, 2) := by decide +kernel
theorem dX0_nearest_9 : decode cX0_nearest 9 = .ok (.aload_n 0, 1) := by decide +kernel
theorem dX0_nearest_10 : decode cX0_nearest 10 = .ok (.getfield 13, 3) := by decide +kernel
theorem dX0_nearest_13 : decode cX0_nearest 13 = .ok (.if_icmp .ge 42, 3) := by decide +kernel
theorem dX0_nearest_16 : decode cX0_nearest 16 = .ok (.aload_n 0, 1) := by decide +kernel
theorem dX0_nearest_17 : decode cX0_nearest 17 = .ok (.iload 5, 2) := by decide +kernel
theorem dX0_nearest_19 : decode cX0_nearest 19 = .ok (.iconst 2, 1) := by decide +kernel
theorem dX0_nearest_20 : decode cX0_nearest 20 = .ok (.invokevirtual 94, 3) := by decide +kernel
theorem dX0_nearest_23 : decode cX0_nearest 23 = .ok (.i2l, 1) := by decide +kernel
theorem dX0_nearest_24 : decode cX0_nearest 24 = .ok (.iload_n 1, 1) := by decide +kernel
theorem dX0_nearest_25 : decode cX0_nearest 25 = .ok (.i2l, 1) := by decide +kernel
theorem dX0_nearest_26 : decode cX0_nearest 26 = .ok (.lsub, 1) := by decide +kernel
theorem dX0_nearest_27 : decode cX0_nearest 27 = .ok (.invokestatic 107, 3) := by decide +kernel
theorem dX0_nearest_30 : decode cX0_nearest 30 = .ok (.lstore 6, 2) := by decide +kernel
theorem dX0_nearest_32 : decode cX0_nearest 32 = .ok (.iload_n 2, 1) := by decide +kernel
theorem dX0_nearest_33 : decode cX0_nearest 33 = .ok (.ifCond .lt 10, 3) := by decide +kernel
theorem dX0_nearest_36 : decode cX0_nearest 36 = .ok (.lload 6, 2) := by decide +kernel
theorem dX0_nearest_38 : decode cX0_nearest 38 = .ok (.lload_n 3, 1) := by decide +kernel
theorem dX0_nearest_39 : decode cX0_nearest 39 = .ok (.lcmp, 1) := by decide +kernel
theorem dX0_nearest_40 : decode cX0_nearest 40 = .ok (.ifCond .ge 9, 3) := by decide +kernel
theorem dX0_nearest_43 : decode cX0_nearest 43 = .ok (.iload 5, 2) := by decide +kernel
theorem dX0_nearest_45 : decode cX0_nearest 45 = .ok (.istore_n 2, 1) := by decide +kernel
theorem dX0_nearest_46 : decode cX0_nearest 46 = .ok (.lload 6, 2) := by decide +kernel
theorem dX0_nearest_48 : decode cX0_nearest 48 = .ok (.lstore_n 3, 1) := by decide +kernel
theorem dX0_nearest_49 : decode cX0_nearest 49 = .ok (.iinc 5 1, 3) := by decide +kernel
theorem dX0_nearest_52 : decode cX0_nearest 52 = .ok (.goto (-45), 3) := by decide +kernel
theorem dX0_nearest_55 : decode cX0_nearest 55 = .ok (.iload_n 2, 1) := by decide +kernel
theorem dX0_nearest_56 : decode cX0_nearest 56 = .ok (.ireturn, 1) := by decide +kernel
set_option maxRecDepth 20000 in
theorem ggX0_mean_X0_sumOverLines : GoodIn wsX0_mean wsX0_sumOverLines := goodIn_r _ [5, 6, 7, 8, 9, 4, 10, 11, 12, 13, 14, 15, 16, 17, 18, 19, 20, 21, 22, 23, 24, 25, 26, 27, 28, 29, 30, 31, 32, 33, 34, 35, 36, 37, 38, 39, 40, 41, 42, 43, 44, 45, 46, 47] (by decide +kernel) (by decide +kernel)
set_option maxRecDepth 20000 in
theorem gX0_mean_X0_sumOverLines : GoodIn wsX0_mean (wsV RX0 101 RX0 yX0_sumOverLines wsX0_sumOverLines) := goodIn_app (goodIn_of _ (by decide +kernel)) ggX0_mean_X0_sumOverLines
theorem dX0_mean_0 : decode cX0_mean 0 = .ok (.aload_n 0, 1) := by decide +kernel
theorem dX0_mean_1 : decode cX0_mean 1 = .ok (.iconst 0, 1) := by decide +kernel
theorem dX0_mean_2 : decode cX0_mean 2 = .ok (.invokevirtual 101, 3) := by decide +kernel
theorem dX0_mean_5 : decode cX0_mean 5 = .ok (.istore_n 1, 1) := by decide +kernel
theorem dX0_mean_6 : decode cX0_mean 6 = .ok (.iload_n 1, 1) := by decide +kernel
theorem dX0_mean_7 : decode cX0_mean 7 = .ok (.ifCond .ne 5, 3) := by decide +kernel
theorem dX0_mean_10 : decode cX0_mean 10 = .ok (.dconst 0, 1) := by decide +kernel
theorem dX0_mean_11 : decode cX0_mean 11 = .ok (.dreturn, 1) := by decide +kernel
theorem dX0_mean_12 : decode cX0_mean 12 = .ok (.aload_n 0, 1) := by decide +kernel
theorem dX0_mean_13 : decode cX0_mean 13 = .ok (.iconst 2, 1) := by decide +kernel
theorem dX0_mean_14 : decode cX0_mean 14 = .ok (.invokevirtual 101, 3) := by decide +kernel
theorem dX0_mean_17 : decode cX0_mean 17 = .ok (.i2d, 1) := by decide +kernel
theorem dX0_mean_18 : decode cX0_mean 18 = .ok (.iload_n 1, 1) := by decide +kernel
theorem dX0_mean_19 : decode cX0_mean 19 = .ok (.i2d, 1) := by decide +kernel
theorem dX0_mean_20 : decode cX0_mean 20 = .ok (.ddiv, 1) := by decide +kernel
theorem dX0_mean_21 : decode cX0_mean 21 = .ok (.dreturn, 1) := by decide +kernel
theorem dX0_checkLine_0 : decode cX0_checkLine 0 = .ok (.iload_n 1, 1) := by decide +kernel
theorem dX0_checkLine_1 : decode cX0_checkLine 1 = .ok (.ifCond .lt 11, 3) := by decide +kernel
theorem dX0_checkLine_4 : decode cX0_checkLine 4 = .ok (.iload_n 1, 1) := by decide +kernel
theorem dX0_checkLine_5 : decode cX0_checkLine 5 = .ok (.aload_n 0, 1) := by decide +kernel
theorem dX0_checkLine_6 : decode cX0_checkLine 6 = .ok (.getfield 13, 3) := by decide +kernel
theorem dX0_checkLine_9 : decode cX0_checkLine 9 = .ok (.if_icmp .lt 13, 3) := by decide +kernel
theorem dX0_checkLine_12 : decode cX0_checkLine 12 = .ok (.new 38, 3) := by decide +kernel
theorem dX0_checkLine_15 : decode cX0_checkLine 15 = .ok (.dup, 1) := by decide +kernel
theorem dX0_checkLine_16 : decode cX0_checkLine 16 = .ok (.ldc 133, 2) := by decide +kernel
theorem dX0_checkLine_18 : decode cX0_checkLine 18 = .ok (.invokespecial 42, 3) := by decide +kernel
theorem dX0_checkLine_21 : decode cX0_checkLine 21 = .ok (.athrow, 1) := by decide +kernel
theorem dX0_checkLine_22 : decode cX0_checkLine 22 = .ok (.return_, 1) := by decide +kernel
set_option maxRecDepth 20000 in
theorem ggX0_checkWordOfLine_X0_checkLine : GoodIn wsX0_checkWordOfLine wsX0_checkLine := goodIn_ca (goodIn_r _ [8, 1, 2, 9, 10, 11, 12, 13, 14, 15, 16, 17] (by decide +kernel) (by decide +kernel)) (goodIn_sub (fun _ h => List.mem_cons_of_mem _ (List.mem_append_right _ h)) (by decide +kernel))
set_option maxRecDepth 20000 in
theorem gX0_checkWordOfLine_X0_checkLine : GoodIn wsX0_checkWordOfLine (wsV RX0 67 RX0 yX0_checkLine wsX0_checkLine) := goodIn_app (goodIn_of _ (by decide +kernel)) ggX0_checkWordOfLine_X0_checkLine
theorem dX0_checkWordOfLine_0 : decode cX0_checkWordOfLine 0 = .ok (.aload_n 0, 1) := by decide +kernel
theorem dX0_checkWordOfLine_1 : decode cX0_checkWordOfLine 1 = .ok (.iload_n 1, 1) := by decide +kernel
theorem dX0_checkWordOfLine_2 : decode cX0_checkWordOfLine 2 = .ok (.invokevirtual 67, 3) := by decide +kernel
theorem dX0_checkWordOfLine_5 : decode cX0_checkWordOfLine 5 = .ok (.iload_n 2, 1) := by decide +kernel
theorem dX0_checkWordOfLine_6 : decode cX0_checkWordOfLine 6 = .ok (.ifCond .lt 13, 3) := by decide +kernel
theorem dX0_checkWordOfLine_9 : decode cX0_checkWordOfLine 9 = .ok (.iload_n 2, 1) := by decide +kernel
theorem dX0_checkWordOfLine_10 : decode cX0_checkWordOfLine 10 = .ok (.aload_n 0, 1) := by decide +kernel
theorem dX0_checkWordOfLine_11 : decode cX0_checkWordOfLine 11 = .ok (.getfield 16, 3) := by decide +kernel
theorem dX0_checkWordOfLine_14 : decode cX0_checkWordOfLine 14 = .ok (.iload_n 1, 1) := by decide +kernel
theorem dX0_checkWordOfLine_15 : decode cX0_checkWordOfLine 15 = .ok (.iaload, 1) := by decide +kernel
theorem dX0_checkWordOfLine_16 : decode cX0_checkWordOfLine 16 = .ok (.if_icmp .lt 13, 3) := by decide +kernel
theorem dX0_checkWordOfLine_19 : decode cX0_checkWordOfLine 19 = .ok (.new 38, 3) := by decide +kernel
theorem dX0_checkWordOfLine_22 : decode cX0_checkWordOfLine 22 = .ok (.dup, 1) := by decide +kernel
theorem dX0_checkWordOfLine_23 : decode cX0_checkWordOfLine 23 = .ok (.ldc 135, 2) := by decide +kernel
theorem dX0_checkWordOfLine_25 : decode cX0_checkWordOfLine 25 = .ok (.invokespecial 42, 3) := by decide +kernel
theorem dX0_checkWordOfLine_28 : decode cX0_checkWordOfLine 28 = .ok (.athrow, 1) := by decide +kernel
theorem dX0_checkWordOfLine_29 : decode cX0_checkWordOfLine 29 = .ok (.return_, 1) := by decide +kernel
theorem dX0_checkWhat_0 : decode cX0_checkWhat 0 = .ok (.iload_n 0, 1) := by decide +kernel
theorem dX0_checkWhat_1 : decode cX0_checkWhat 1 = .ok (.ifCond .lt 8, 3) := by decide +kernel
theorem dX0_checkWhat_4 : decode cX0_checkWhat 4 = .ok (.iload_n 0, 1) := by decide +kernel
theorem dX0_checkWhat_5 : decode cX0_checkWhat 5 = .ok (.iload_n 1, 1) := by decide +kernel
theorem dX0_checkWhat_6 : decode cX0_checkWhat 6 = .ok (.if_icmp .lt 13, 3) := by decide +kernel
theorem dX0_checkWhat_9 : decode cX0_checkWhat 9 = .ok (.new 38, 3) := by decide +kernel
theorem dX0_checkWhat_12 : decode cX0_checkWhat 12 = .ok (.dup, 1) := by decide +kernel
theorem dX0_checkWhat_13 : decode cX0_checkWhat 13 = .ok (.ldc 137, 2) := by decide +kernel
theorem dX0_checkWhat_15 : decode cX0_checkWhat 15 = .ok (.invokespecial 42, 3) := by decide +kernel
theorem dX0_checkWhat_18 : decode cX0_checkWhat 18 = .ok (.athrow, 1) := by decide +kernel
theorem dX0_checkWhat_19 : decode cX0_checkWhat 19 = .ok (.return_, 1) := by decide +kernel
set_option maxRecDepth 20000 in
theorem ggX0_checkWord_X0_isWord : GoodIn wsX0_checkWord wsX0_isWord := goodIn_r _ [6, 7] (by decide +kernel) (by decide +kernel)
set_option maxRecDepth 20000 in
theorem gX0_checkWord_X0_isWord : GoodIn wsX0_checkWord (va_wsS RX0 139 yX0_isWord wsX0_isWord) := goodIn_app (goodIn_of _ (by decide +kernel)) ggX0_checkWord_X0_isWord
theorem dX0_checkWord_0 : decode cX0_checkWord 0 = .ok (.iload_n 0, 1) := by decide +kernel
theorem dX0_checkWord_1 : decode cX0_checkWord 1 = .ok (.invokestatic 139, 3) := by decide +kernel
theorem dX0_checkWord_4 : decode cX0_checkWord 4 = .ok (.ifCond .ne 13, 3) := by decide +kernel
theorem dX0_checkWord_7 : decode cX0_checkWord 7 = .ok (.new 143, 3) := by decide +kernel
theorem dX0_checkWord_10 : decode cX0_checkWord 10 = .ok (.dup, 1) := by decide +kernel
theorem dX0_checkWord_11 : decode cX0_checkWord 11 = .ok (.ldc 145, 2) := by decide +kernel
theorem dX0_checkWord_13 : decode cX0_checkWord 13 = .ok (.invokespecial 147, 3) := by decide +kernel
theorem dX0_checkWord_16 : decode cX0_checkWord 16 = .ok (.athrow, 1) := by decide +kernel
theorem dX0_checkWord_17 : decode cX0_checkWord 17 = .ok (.return_, 1) := by decide +kernel
theorem dX0_worthOfLetter_0 : decode cX0_worthOfLetter 0 = .ok (.aload_n 0, 1) := by decide +kernel
theorem dX0_worthOfLetter_1 : decode cX0_worthOfLetter 1 = .ok (.getfield 9, 3) := by decide +kernel
theorem dX0_worthOfLetter_4 : decode cX0_worthOfLetter 4 = .ok (.iconst 2, 1) := by decide +kernel
theorem dX0_worthOfLetter_5 : decode cX0_worthOfLetter 5 = .ok (.if_icmp .ne 15, 3) := by decide +kernel
theorem dX0_worthOfLetter_8 : decode cX0_worthOfLetter 8 = .ok (.iload_n 1, 1) := by decide +kernel
theorem dX0_worthOfLetter_9 : decode cX0_worthOfLetter 9 = .ok (.iload_n 1, 1) := by decide +kernel
theorem dX0_worthOfLetter_10 : decode cX0_worthOfLetter 10 = .ok (.imul, 1) := by decide +kernel
theorem dX0_worthOfLetter_11 : decode cX0_worthOfLetter 11 = .ok (.bipush 7, 2) := by decide +kernel
theorem dX0_worthOfLetter_13 : decode cX0_worthOfLetter 13 = .ok (.imul, 1) := by decide +kernel
theorem dX0_worthOfLetter_14 : decode cX0_worthOfLetter 14 = .ok (.bipush 101, 2) := by decide +kernel
theorem dX0_worthOfLetter_16 : decode cX0_worthOfLetter 16 = .ok (.irem, 1) := by decide +kernel
theorem dX0_worthOfLetter_17 : decode cX0_worthOfLetter 17 = .ok (.iconst 1, 1) := by decide +kernel
theorem dX0_worthOfLetter_18 : decode cX0_worthOfLetter 18 = .ok (.iadd, 1) := by decide +kernel
theorem dX0_worthOfLetter_19 : decode cX0_worthOfLetter 19 = .ok (.ireturn, 1) := by decide +kernel
theorem dX0_worthOfLetter_20 : decode cX0_worthOfLetter 20 = .ok (.aload_n 0, 1) := by decide +kernel
theorem dX0_worthOfLetter_21 : decode cX0_worthOfLetter 21 = .ok (.getfield 9, 3) := by decide +kernel
theorem dX0_worthOfLetter_24 : decode cX0_worthOfLetter 24 = .ok (.iconst 1, 1) := by decide +kernel
theorem dX0_worthOfLetter_25 : decode cX0_worthOfLetter 25 = .ok (.if_icmp .eq 9, 3) := by decide +kernel
theorem dX0_worthOfLetter_28 : decode cX0_worthOfLetter 28 = .ok (.iload_n 1, 1) := by decide +kernel
theorem dX0_worthOfLetter_29 : decode cX0_worthOfLetter 29 = .ok (.bipush 9, 2) := by decide +kernel
theorem dX0_worthOfLetter_31 : decode cX0_worthOfLetter 31 = .ok (.if_icmp .gt 5, 3) := by decide +kernel
theorem dX0_worthOfLetter_34 : decode cX0_worthOfLetter 34 = .ok (.iload_n 1, 1) := by decide +kernel
theorem dX0_worthOfLetter_35 : decode cX0_worthOfLetter 35 = .ok (.ireturn, 1) := by decide +kernel
theorem dX0_worthOfLetter_36 : decode cX0_worthOfLetter 36 = .ok (.iload_n 1, 1) := by decide +kernel
theorem dX0_worthOfLetter_37 : decode cX0_worthOfLetter 37 = .ok (.bipush 18, 2) := by decide +kernel
theorem dX0_worthOfLetter_39 : decode cX0_worthOfLetter 39 = .ok (.if_icmp .gt 13, 3) := by decide +kernel
theorem dX0_worthOfLetter_42 : decode cX0_worthOfLetter 42 = .ok (.iload_n 1, 1) := by decide +kernel
theorem dX0_worthOfLetter_43 : decode cX0_worthOfLetter 43 = .ok (.bipush 9, 2) := by decide +kernel
theorem dX0_worthOfLetter_45 : decode cX0_worthOfLetter 45 = .ok (.isub, 1) := by decide +kernel
theorem dX0_worthOfLetter_46 : decode cX0_worthOfLetter 46 = .ok (.bipush 10, 2) := by decide +kernel
theorem dX0_worthOfLetter_48 : decode cX0_worthOfLetter 48 = .ok (.imul, 1) := by decide +kernel
theorem dX0_worthOfLetter_49 : decode cX0_worthOfLetter 49 = .ok (.goto 10, 3) := by decide +kernel
theorem dX0_worthOfLetter_52 : decode cX0_worthOfLetter 52 = .ok (.iload_n 1, 1) := by decide +kernel
theorem dX0_worthOfLetter_53 : decode cX0_worthOfLetter 53 = .ok (.bipush 18, 2) := by decide +kernel
theorem dX0_worthOfLetter_55 : decode cX0_worthOfLetter 55 = .ok (.isub, 1) := by decide +kernel
theorem dX0_worthOfLetter_56 : decode cX0_worthOfLetter 56 = .ok (.bipush 100, 2) := by decide +kernel
theorem dX0_worthOfLetter_58 : decode cX0_worthOfLetter 58 = .ok (.imul, 1) := by decide +kernel
theorem dX0_worthOfLetter_59 : decode cX0_worthOfLetter 59 = .ok (.ireturn, 1) := by decide +kernel
theorem dX0_isWord_0 : decode cX0_isWord 0 = .ok (.iload_n 0, 1) := by decide +kernel
theorem dX0_isWord_1 : decode cX0_isWord 1 = .ok (.ifCond .le 9, 3) := by decide +kernel
theorem dX0_isWord_4 : decode cX0_isWord 4 = .ok (.iload_n 0, 1) := by decide +kernel
theorem dX0_isWord_5 : decode cX0_isWord 5 = .ok (.ldc 150, 2) := by decide +kernel
theorem dX0_isWord_7 : decode cX0_isWord 7 = .ok (.if_icmp .lt 5, 3) := by decide +kernel
theorem dX0_isWord_10 : decode cX0_isWord 10 = .ok (.iconst 0, 1) := by decide +kernel
theorem dX0_isWord_11 : decode cX0_isWord 11 = .ok (.ireturn, 1) := by decide +kernel
theorem dX0_isWord_12 : decode cX0_isWord 12 = .ok (.iload_n 0, 1) := by decide +kernel
theorem dX0_isWord_13 : decode cX0_isWord 13 = .ok (.istore_n 1, 1) := by decide +kernel
theorem dX0_isWord_14 : decode cX0_isWord 14 = .ok (.iconst 0, 1) := by decide +kernel
theorem dX0_isWord_15 : decode cX0_isWord 15 = .ok (.istore_n 2, 1) := by decide +kernel
theorem dX0_isWord_16 : decode cX0_isWord 16 = .ok (.iload_n 2, 1) := by decide +kernel
theorem dX0_isWord_17 : decode cX0_isWord 17 = .ok (.bipush 6, 2) := by decide +kernel
theorem dX0_isWord_19 : decode cX0_isWord 19 = .ok (.if_icmp .ge 27, 3) := by decide +kernel
theorem dX0_isWord_22 : decode cX0_isWord 22 = .ok (.iload_n 1, 1) := by decide +kernel
theorem dX0_isWord_23 : decode cX0_isWord 23 = .ok (.ifCond .le 23, 3) := by decide +kernel
theorem dX0_isWord_26 : decode cX0_isWord 26 = .ok (.iload_n 1, 1) := by decide +kernel
theorem dX0_isWord_27 : decode cX0_isWord 27 = .ok (.bipush 27, 2) := by decide +kernel
theorem dX0_isWord_29 : decode cX0_isWord 29 = .ok (.irem, 1) := by decide +kernel
theorem dX0_isWord_30 : decode cX0_isWord 30 = .ok (.ifCond .ne 5, 3) := by decide +kernel
theorem dX0_isWord_33 : decode cX0_isWord 33 = .ok (.iconst 0, 1) := by decide +kernel
theorem dX0_isWord_34 : decode cX0_isWord 34 = .ok (.ireturn, 1) := by decide +kernel
theorem dX0_isWord_35 : decode cX0_isWord 35 = .ok (.iload_n 1, 1) := by decide +kernel
theorem dX0_isWord_36 : decode cX0_isWord 36 = .ok (.bipush 27, 2) := by decide +kernel
theorem dX0_isWord_38 : decode cX0_isWord 38 = .ok (.idiv, 1) := by decide +kernel
theorem dX0_isWord_39 : decode cX0_isWord 39 = .ok (.istore_n 1, 1) := by decide +kernel
theorem dX0_isWord_40 : decode cX0_isWord 40 = .ok (.iinc 2 1, 3) := by decide +kernel
theorem dX0_isWord_43 : decode cX0_isWord 43 = .ok (.goto (-27), 3) := by decide +kernel
theorem dX0_isWord_46 : decode cX0_isWord 46 = .ok (.iconst 1, 1) := by decide +kernel
theorem dX0_isWord_47 : decode cX0_isWord 47 = .ok (.ireturn, 1) := by decide +kernel
theorem dX0_lengthOf_0 : decode cX0_lengthOf 0 = .ok (.iconst 0, 1) := by decide +kernel
theorem dX0_lengthOf_1 : decode cX0_lengthOf 1 = .ok (.istore_n 1, 1) := by decide +kernel
theorem dX0_lengthOf_2 : decode cX0_lengthOf 2 = .ok (.iload_n 0, 1) := by decide +kernel
theorem dX0_lengthOf_3 : decode cX0_lengthOf 3 = .ok (.istore_n 2, 1) := by decide +kernel
theorem dX0_lengthOf_4 : decode cX0_lengthOf 4 = .ok (.iload_n 1, 1) := by decide +kernel
theorem dX0_lengthOf_5 : decode cX0_lengthOf 5 = .ok (.bipush 6, 2) := by decide +kernel
theorem dX0_lengthOf_7 : decode cX0_lengthOf 7 = .ok (.if_icmp .ge 18, 3) := by decide +kernel
theorem dX0_lengthOf_10 : decode cX0_lengthOf 10 = .ok (.iload_n 2, 1) := by decide +kernel
theorem dX0_lengthOf_11 : decode cX0_lengthOf 11 = .ok (.ifCond .le 14, 3) := by decide +kernel
theorem dX0_lengthOf_14 : decode cX0_lengthOf 14 = .ok (.iload_n 2, 1) := by decide +kernel
theorem dX0_lengthOf_15 : decode cX0_lengthOf 15 = .ok (.bipush 27, 2) := by decide +kernel
theorem dX0_lengthOf_17 : decode cX0_lengthOf 17 = .ok (.idiv, 1) := by decide +kernel
theorem dX0_lengthOf_18 : decode cX0_lengthOf 18 = .ok (.istore_n 2, 1) := by decide +kernel
theorem dX0_lengthOf_19 : decode cX0_lengthOf 19 = .ok (.iinc 1 1, 3) := by decide +kernel
theorem dX0_lengthOf_22 : decode cX0_lengthOf 22 = .ok (.goto (-18), 3) := by decide +kernel
theorem dX0_lengthOf_25 : decode cX0_lengthOf 25 = .ok (.iload_n 1, 1) := by decide +kernel
theorem dX0_lengthOf_26 : decode cX0_lengthOf 26 = .ok (.ireturn, 1) := by decide +kernel
theorem dX0_isMarked_0 : decode cX0_isMarked 0 = .ok (.iload_n 0, 1) := by decide +kernel
theorem dX0_isMarked_1 : decode cX0_isMarked 1 = .ok (.iload_n 1, 1) := by decide +kernel
theorem dX0_isMarked_2 : decode cX0_isMarked 2 = .ok (.ishr, 1) := by decide +kernel
theorem dX0_isMarked_3 : decode cX0_isMarked 3 = .ok (.iconst 1, 1) := by decide +kernel
theorem dX0_isMarked_4 : decode cX0_isMarked 4 = .ok (.iand, 1) := by decide +kernel
theorem dX0_isMarked_5 : decode cX0_isMarked 5 = .ok (.iconst 1, 1) := by decide +kernel
theorem dX0_isMarked_6 : decode cX0_isMarked 6 = .ok (.if_icmp .ne 7, 3) := by decide +kernel
theorem dX0_isMarked_9 : decode cX0_isMarked 9 = .ok (.iconst 1, 1) := by decide +kernel
theorem dX0_isMarked_10 : decode cX0_isMarked 10 = .ok (.goto 4, 3) := by decide +kernel
theorem dX0_isMarked_13 : decode cX0_isMarked 13 = .ok (.iconst 0, 1) := by decide +kernel
theorem dX0_isMarked_14 : decode cX0_isMarked 14 = .ok (.ireturn, 1) := by decide +kernel
set_option maxRecDepth 20000 in
theorem ggX0_worthOfPlaces_X0_lengthOf : GoodIn wsX0_worthOfPlaces wsX0_lengthOf := goodIn_r _ [4] (by decide +kernel) (by decide +kernel)
set_option maxRecDepth 20000 in
theorem gX0_worthOfPlaces_X0_lengthOf : GoodIn wsX0_worthOfPlaces (va_wsS RX0 78 yX0_lengthOf wsX0_lengthOf) := goodIn_app (goodIn_of _ (by decide +kernel)) ggX0_worthOfPlaces_X0_lengthOf
set_option maxRecDepth 20000 in
theorem ggX0_worthOfPlaces_X0_isMarked : GoodIn wsX0_worthOfPlaces wsX0_isMarked := goodIn_r _ [7] (by decide +kernel) (by decide +kernel)
set_option maxRecDepth 20000 in
theorem gX0_worthOfPlaces_X0_isMarked : GoodIn wsX0_worthOfPlaces (va_wsS RX0 83 yX0_isMarked wsX0_isMarked) := goodIn_app (goodIn_of _ (by decide +kernel)) ggX0_worthOfPlaces_X0_isMarked
set_option maxRecDepth 20000 in
theorem ggX0_worthOfPlaces_X0_worthOfLetter : GoodIn wsX0_worthOfPlaces wsX0_worthOfLetter := goodIn_r _ [11, 12, 13, 14, 15, 16, 17, 18, 19, 20] (by decide +kernel) (by decide +kernel)
set_option maxRecDepth 20000 in
theorem gX0_worthOfPlaces_X0_worthOfLetter : GoodIn wsX0_worthOfPlaces (wsV RX0 47 RX0 yX0_worthOfLetter wsX0_worthOfLetter) := goodIn_app (goodIn_of _ (by decide +kernel)) ggX0_worthOfPlaces_X0_worthOfLetter
theorem dX0_worthOfPlaces_0 : decode cX0_worthOfPlaces 0 = .ok (.iconst 0, 1) := by decide +kernel
theorem dX0_worthOfPlaces_1 : decode cX0_worthOfPlaces 1 = .ok (.istore_n 3, 1) := by decide +kernel
theorem dX0_worthOfPlaces_2 : decode cX0_worthOfPlaces 2 = .ok (.iload_n 1, 1) := by decide +kernel
theorem dX0_worthOfPlaces_3 : decode cX0_worthOfPlaces 3 = .ok (.istore 4, 2) := by decide +kernel
theorem dX0_worthOfPlaces_5 : decode cX0_worthOfPlaces 5 = .ok (.iload_n 1, 1) := by decide +kernel
theorem dX0_worthOfPlaces_6 : decode cX0_worthOfPlaces 6 = .ok (.invokestatic 78, 3) := by decide +kernel
theorem dX0_worthOfPlaces_9 : decode cX0_worthOfPlaces 9 = .ok (.iconst 1, 1) := by decide +kernel
theorem dX0_worthOfPlaces_10 : decode cX0_worthOfPlaces 10 = .ok (.isub, 1) := by decide +kernel
theorem dX0_worthOfPlaces_11 : decode cX0_worthOfPlaces 11 = .ok (.istore 5, 2) := by decide +kernel
theorem dX0_worthOfPlaces_13 : decode cX0_worthOfPlaces 13 = .ok (.iload 5, 2) := by decide +kernel
theorem dX0_worthOfPlaces_15 : decode cX0_worthOfPlaces 15 = .ok (.ifCond .lt 37, 3) := by decide +kernel
theorem dX0_worthOfPlaces_18 : decode cX0_worthOfPlaces 18 = .ok (.iload_n 2, 1) := by decide +kernel
theorem dX0_worthOfPlaces_19 : decode cX0_worthOfPlaces 19 = .ok (.iload 5, 2) := by decide +kernel
theorem dX0_worthOfPlaces_21 : decode cX0_worthOfPlaces 21 = .ok (.invokestatic 83, 3) := by decide +kernel
theorem dX0_worthOfPlaces_24 : decode cX0_worthOfPlaces 24 = .ok (.ifCond .eq 15, 3) := by decide +kernel
theorem dX0_worthOfPlaces_27 : decode cX0_worthOfPlaces 27 = .ok (.iload_n 3, 1) := by decide +kernel
theorem dX0_worthOfPlaces_28 : decode cX0_worthOfPlaces 28 = .ok (.aload_n 0, 1) := by decide +kernel
theorem dX0_worthOfPlaces_29 : decode cX0_worthOfPlaces 29 = .ok (.iload 4, 2) := by decide +kernel
theorem dX0_worthOfPlaces_31 : decode cX0_worthOfPlaces 31 = .ok (.bipush 27, 2) := by decide +kernel
theorem dX0_worthOfPlaces_33 : decode cX0_worthOfPlaces 33 = .ok (.irem, 1) := by decide +kernel
theorem dX0_worthOfPlaces_34 : decode cX0_worthOfPlaces 34 = .ok (.invokevirtual 47, 3) := by decide +kernel
theorem dX0_worthOfPlaces_37 : decode cX0_worthOfPlaces 37 = .ok (.iadd, 1) := by decide +kernel
theorem dX0_worthOfPlaces_38 : decode cX0_worthOfPlaces 38 = .ok (.istore_n 3, 1) := by decide +kernel
theorem dX0_worthOfPlaces_39 : decode cX0_worthOfPlaces 39 = .ok (.iload 4, 2) := by decide +kernel
theorem dX0_worthOfPlaces_41 : decode cX0_worthOfPlaces 41 = .ok (.bipush 27, 2) := by decide +kernel
theorem dX0_worthOfPlaces_43 : decode cX0_worthOfPlaces 43 = .ok (.idiv, 1) := by decide +kernel
theorem dX0_worthOfPlaces_44 : decode cX0_worthOfPlaces 44 = .ok (.istore 4, 2) := by decide +kernel
theorem dX0_worthOfPlaces_46 : decode cX0_worthOfPlaces 46 = .ok (.iinc 5 (-1), 3) := by decide +kernel
theorem dX0_worthOfPlaces_49 : decode cX0_worthOfPlaces 49 = .ok (.goto (-36), 3) := by decide +kernel
theorem dX0_worthOfPlaces_52 : decode cX0_worthOfPlaces 52 = .ok (.iload_n 3, 1) := by decide +kernel
theorem dX0_worthOfPlaces_53 : decode cX0_worthOfPlaces 53 = .ok (.ireturn, 1) := by decide +kernel
set_option maxRecDepth 20000 in
theorem ggX0_figureOfWord_X0_lengthOf : GoodIn wsX0_figureOfWord wsX0_lengthOf := goodIn_r _ [6] (by decide +kernel) (by decide +kernel)
set_option maxRecDepth 20000 in
theorem gX0_figureOfWord_X0_lengthOf : GoodIn wsX0_figureOfWord (va_wsS RX0 78 yX0_lengthOf wsX0_lengthOf) := goodIn_app (goodIn_of _ (by decide +kernel)) ggX0_figureOfWord_X0_lengthOf
set_option maxRecDepth 20000 in
theorem ggX0_figureOfWord_X0_worthOfPlaces : GoodIn wsX0_figureOfWord wsX0_worthOfPlaces := goodIn_r _ [10, 3, 4, 5, 6, 11, 12, 13, 14, 15, 16, 17, 18, 26, 27, 28, 29, 30, 31, 32, 33] (by decide +kernel) (by decide +kernel)
set_option maxRecDepth 20000 in
theorem gX0_figureOfWord_X0_worthOfPlaces : GoodIn wsX0_figureOfWord (wsV RX0 55 RX0 yX0_worthOfPlaces wsX0_worthOfPlaces) := goodIn_app (goodIn_of _ (by decide +kernel)) ggX0_figureOfWord_X0_worthOfPlaces
set_option maxRecDepth 20000 in
theorem ggX0_figureOfWord_J6_bitCount_0f7a4 : GoodIn wsX0_figureOfWord wsJ6_bitCount_0f7a4 := goodIn_r _ [22, 23, 24, 25] (by decide +kernel) (by decide +kernel)
set_option maxRecDepth 20000 in
theorem gX0_figureOfWord_J6_bitCount_0f7a4 : GoodIn wsX0_figureOfWord (va_wsS RX0 151 yJ6_bitCount_0f7a4 wsJ6_bitCount_0f7a4) := goodIn_app (goodIn_of _ (by decide +kernel)) ggX0_figureOfWord_J6_bitCount_0f7a4
theorem dX0_figureOfWord_0 : decode cX0_figureOfWord 0 = .ok (.iload_n 3, 1) := by decide +kernel
theorem dX0_figureOfWord_1 : decode cX0_figureOfWord 1 = .ok (.tableswitch 79 0 3 #[31, 40, 52, 67], 31) := by decide +kernel
theorem dX0_figureOfWord_32 : decode cX0_figureOfWord 32 = .ok (.aload_n 0, 1) := by decide +kernel
theorem dX0_figureOfWord_33 : decode cX0_figureOfWord 33 = .ok (.getfield 22, 3) := by decide +kernel
theorem dX0_figureOfWord_36 : decode cX0_figureOfWord 36 = .ok (.iload_n 1, 1) := by decide +kernel
theorem dX0_figureOfWord_37 : decode cX0_figureOfWord 37 = .ok (.aaload, 1) := by decide +kernel
theorem dX0_figureOfWord_38 : decode cX0_figureOfWord 38 = .ok (.iload_n 2, 1) := by decide +kernel
theorem dX0_figureOfWord_39 : decode cX0_figureOfWord 39 = .ok (.iaload, 1) := by decide +kernel
theorem dX0_figureOfWord_40 : decode cX0_figureOfWord 40 = .ok (.ireturn, 1) := by decide +kernel
theorem dX0_figureOfWord_41 : decode cX0_figureOfWord 41 = .ok (.aload_n 0, 1) := by decide +kernel
theorem dX0_figureOfWord_42 : decode cX0_figureOfWord 42 = .ok (.getfield 22, 3) := by decide +kernel
theorem dX0_figureOfWord_45 : decode cX0_figureOfWord 45 = .ok (.iload_n 1, 1) := by decide +kernel
theorem dX0_figureOfWord_46 : decode cX0_figureOfWord 46 = .ok (.aaload, 1) := by decide +kernel
theorem dX0_figureOfWord_47 : decode cX0_figureOfWord 47 = .ok (.iload_n 2, 1) := by decide +kernel
theorem dX0_figureOfWord_48 : decode cX0_figureOfWord 48 = .ok (.iaload, 1) := by decide +kernel
theorem dX0_figureOfWord_49 : decode cX0_figureOfWord 49 = .ok (.invokestatic 78, 3) := by decide +kernel
theorem dX0_figureOfWord_52 : decode cX0_figureOfWord 52 = .ok (.ireturn, 1) := by decide +kernel
theorem dX0_figureOfWord_53 : decode cX0_figureOfWord 53 = .ok (.aload_n 0, 1) := by decide +kernel
theorem dX0_figureOfWord_54 : decode cX0_figureOfWord 54 = .ok (.aload_n 0, 1) := by decide +kernel
theorem dX0_figureOfWord_55 : decode cX0_figureOfWord 55 = .ok (.getfield 22, 3) := by decide +kernel
theorem dX0_figureOfWord_58 : decode cX0_figureOfWord 58 = .ok (.iload_n 1, 1) := by decide +kernel
theorem dX0_figureOfWord_59 : decode cX0_figureOfWord 59 = .ok (.aaload, 1) := by decide +kernel
theorem dX0_figureOfWord_60 : decode cX0_figureOfWord 60 = .ok (.iload_n 2, 1) := by decide +kernel
theorem dX0_figureOfWord_61 : decode cX0_figureOfWord 61 = .ok (.iaload, 1) := by decide +kernel
theorem dX0_figureOfWord_62 : decode cX0_figureOfWord 62 = .ok (.bipush 63, 2) := by decide +kernel
theorem dX0_figureOfWord_64 : decode cX0_figureOfWord 64 = .ok (.invokevirtual 55, 3) := by decide +kernel
theorem dX0_figureOfWord_67 : decode cX0_figureOfWord 67 = .ok (.ireturn, 1) := by decide +kernel
theorem dX0_figureOfWord_68 : decode cX0_figureOfWord 68 = .ok (.aload_n 0, 1) := by decide +kernel
theorem dX0_figureOfWord_69 : decode cX0_figureOfWord 69 = .ok (.getfield 25, 3) := by decide +kernel
theorem dX0_figureOfWord_72 : decode cX0_figureOfWord 72 = .ok (.iload_n 1, 1) := by decide +kernel
theorem dX0_figureOfWord_73 : decode cX0_figureOfWord 73 = .ok (.aaload, 1) := by decide +kernel
theorem dX0_figureOfWord_74 : decode cX0_figureOfWord 74 = .ok (.iload_n 2, 1) := by decide +kernel
theorem dX0_figureOfWord_75 : decode cX0_figureOfWord 75 = .ok (.iaload, 1) := by decide +kernel
theorem dX0_figureOfWord_76 : decode cX0_figureOfWord 76 = .ok (.invokestatic 151, 3) := by decide +kernel
theorem dX0_figureOfWord_79 : decode cX0_figureOfWord 79 = .ok (.ireturn, 1) := by decide +kernel
theorem dX0_figureOfWord_80 : decode cX0_figureOfWord 80 = .ok (.aload_n 0, 1) := by decide +kernel
theorem dX0_figureOfWord_81 : decode cX0_figureOfWord 81 = .ok (.aload_n 0, 1) := by decide +kernel
theorem dX0_figureOfWord_82 : decode cX0_figureOfWord 82 = .ok (.getfield 22, 3) := by decide +kernel
theorem dX0_figureOfWord_85 : decode cX0_figureOfWord 85 = .ok (.iload_n 1, 1) := by decide +kernel
theorem dX0_figureOfWord_86 : decode cX0_figureOfWord 86 = .ok (.aaload, 1) := by decide +kernel
theorem dX0_figureOfWord_87 : decode cX0_figureOfWord 87 = .ok (.iload_n 2, 1) := by decide +kernel
theorem dX0_figureOfWord_88 : decode cX0_figureOfWord 88 = .ok (.iaload, 1) := by decide +kernel
theorem dX0_figureOfWord_89 : decode cX0_figureOfWord 89 = .ok (.aload_n 0, 1) := by decide +kernel
theorem dX0_figureOfWord_90 : decode cX0_figureOfWord 90 = .ok (.getfield 25, 3) := by decide +kernel
theorem dX0_figureOfWord_93 : decode cX0_figureOfWord 93 = .ok (.iload_n 1, 1) := by decide +kernel
theorem dX0_figureOfWord_94 : decode cX0_figureOfWord 94 = .ok (.aaload, 1) := by decide +kernel
theorem dX0_figureOfWord_95 : decode cX0_figureOfWord 95 = .ok (.iload_n 2, 1) := by decide +kernel
theorem dX0_figureOfWord_96 : decode cX0_figureOfWord 96 = .ok (.iaload, 1) := by decide +kernel
theorem dX0_figureOfWord_97 : decode cX0_figureOfWord 97 = .ok (.invokevirtual 55, 3) := by decide +kernel
theorem dX0_figureOfWord_100 : decode cX0_figureOfWord 100 = .ok (.ireturn, 1) := by decide +kernel
set_option maxRecDepth 20000 in
theorem ggX0_figureOfLine_X0_figureOfWord : GoodIn wsX0_figureOfLine wsX0_figureOfWord := goodIn_r _ [6, 7, 8, 9, 10, 5, 11, 12, 13, 14, 15, 16, 17, 18, 19, 20, 21, 22, 23, 24, 25, 26, 27, 28, 29, 30, 31, 32, 33, 34, 35, 36, 37, 38] (by decide +kernel) (by decide +kernel)
set_option maxRecDepth 20000 in
theorem gX0_figureOfLine_X0_figureOfWord : GoodIn wsX0_figureOfLine (wsV RX0 90 RX0 yX0_figureOfWord wsX0_figureOfWord) := goodIn_app (goodIn_of _ (by decide +kernel)) ggX0_figureOfLine_X0_figureOfWord
theorem dX0_figureOfLine_0 : decode cX0_figureOfLine 0 = .ok (.iload_n 2, 1) := by decide +kernel
theorem dX0_figureOfLine_1 : decode cX0_figureOfLine 1 = .ok (.ifCond .ne 10, 3) := by decide +kernel
theorem dX0_figureOfLine_4 : decode cX0_figureOfLine 4 = .ok (.aload_n 0, 1) := by decide +kernel
theorem dX0_figureOfLine_5 : decode cX0_figureOfLine 5 = .ok (.getfield 16, 3) := by decide +kernel
theorem dX0_figureOfLine_8 : decode cX0_figureOfLine 8 = .ok (.iload_n 1, 1) := by decide +kernel
theorem dX0_figureOfLine_9 : decode cX0_figureOfLine 9 = .ok (.iaload, 1) := by decide +kernel
theorem dX0_figureOfLine_10 : decode cX0_figureOfLine 10 = .ok (.ireturn, 1) := by decide +kernel
theorem dX0_figureOfLine_11 : decode cX0_figureOfLine 11 = .ok (.iconst 0, 1) := by decide +kernel
theorem dX0_figureOfLine_12 : decode cX0_figureOfLine 12 = .ok (.istore_n 3, 1) := by decide +kernel
theorem dX0_figureOfLine_13 : decode cX0_figureOfLine 13 = .ok (.iconst 0, 1) := by decide +kernel
theorem dX0_figureOfLine_14 : decode cX0_figureOfLine 14 = .ok (.istore 4, 2) := by decide +kernel
theorem dX0_figureOfLine_16 : decode cX0_figureOfLine 16 = .ok (.iload 4, 2) := by decide +kernel
theorem dX0_figureOfLine_18 : decode cX0_figureOfLine 18 = .ok (.aload_n 0, 1) := by decide +kernel
theorem dX0_figureOfLine_19 : decode cX0_figureOfLine 19 = .ok (.getfield 16, 3) := by decide +kernel
theorem dX0_figureOfLine_22 : decode cX0_figureOfLine 22 = .ok (.iload_n 1, 1) := by decide +kernel
theorem dX0_figureOfLine_23 : decode cX0_figureOfLine 23 = .ok (.iaload, 1) := by decide +kernel
theorem dX0_figureOfLine_24 : decode cX0_figureOfLine 24 = .ok (.if_icmp .ge 20, 3) := by decide +kernel
theorem dX0_figureOfLine_27 : decode cX0_figureOfLine 27 = .ok (.iload_n 3, 1) := by decide +kernel
theorem dX0_figureOfLine_28 : decode cX0_figureOfLine 28 = .ok (.aload_n 0, 1) := by decide +kernel
theorem dX0_figureOfLine_29 : decode cX0_figureOfLine 29 = .ok (.iload_n 1, 1) := by decide +kernel
theorem dX0_figureOfLine_30 : decode cX0_figureOfLine 30 = .ok (.iload 4, 2) := by decide +kernel
theorem dX0_figureOfLine_32 : decode cX0_figureOfLine 32 = .ok (.iload_n 2, 1) := by decide +kernel
theorem dX0_figureOfLine_33 : decode cX0_figureOfLine 33 = .ok (.invokevirtual 90, 3) := by decide +kernel
theorem dX0_figureOfLine_36 : decode cX0_figureOfLine 36 = .ok (.iadd, 1) := by decide +kernel
theorem dX0_figureOfLine_37 : decode cX0_figureOfLine 37 = .ok (.istore_n 3, 1) := by decide +kernel
theorem dX0_figureOfLine_38 : decode cX0_figureOfLine 38 = .ok (.iinc 4 1, 3) := by decide +kernel
theorem dX0_figureOfLine_41 : decode cX0_figureOfLine 41 = .ok (.goto (-25), 3) := by decide +kernel
theorem dX0_figureOfLine_44 : decode cX0_figureOfLine 44 = .ok (.iload_n 3, 1) := by decide +kernel
theorem dX0_figureOfLine_45 : decode cX0_figureOfLine 45 = .ok (.ireturn, 1) := by decide +kernel
set_option maxRecDepth 20000 in
theorem ggX0_sumOverLines_X0_figureOfLine : GoodIn wsX0_sumOverLines wsX0_figureOfLine := goodIn_r _ [6, 7, 8, 9, 10, 5, 11, 12, 13, 14, 15, 16, 17, 18, 19, 20, 21, 22, 23, 24, 25, 26, 27, 28, 29, 30, 31, 32, 33, 34, 35, 36, 37, 38, 39, 40, 41, 42, 43] (by decide +kernel) (by decide +kernel)
set_option maxRecDepth 20000 in
theorem gX0_sumOverLines_X0_figureOfLine : GoodIn wsX0_sumOverLines (wsV RX0 94 RX0 yX0_figureOfLine wsX0_figureOfLine) := goodIn_app (goodIn_of _ (by decide +kernel)) ggX0_sumOverLines_X0_figureOfLine
theorem dX0_sumOverLines_0 : decode cX0_sumOverLines 0 = .ok (.iconst 0, 1) := by decide +kernel
theorem dX0_sumOverLines_1 : decode cX0_sumOverLines 1 = .ok (.istore_n 2, 1) := by decide +kernel
theorem dX0_sumOverLines_2 : decode cX0_sumOverLines 2 = .ok (.iconst 0, 1) := by decide +kernel
theorem dX0_sumOverLines_3 : decode cX0_sumOverLines 3 = .ok (.istore_n 3, 1) := by decide +kernel
theorem dX0_sumOverLines_4 : decode cX0_sumOverLines 4 = .ok (.iload_n 3, 1) := by decide +kernel
theorem dX0_sumOverLines_5 : decode cX0_sumOverLines 5 = .ok (.aload_n 0, 1) := by decide +kernel
theorem dX0_sumOverLines_6 : decode cX0_sumOverLines 6 = .ok (.getfield 13, 3) := by decide +kernel
theorem dX0_sumOverLines_9 : decode cX0_sumOverLines 9 = .ok (.if_icmp .ge 18, 3) := by decide +kernel
theorem dX0_sumOverLines_12 : decode cX0_sumOverLines 12 = .ok (.iload_n 2, 1) := by decide +kernel
theorem dX0_sumOverLines_13 : decode cX0_sumOverLines 13 = .ok (.aload_n 0, 1) := by decide +kernel
theorem dX0_sumOverLines_14 : decode cX0_sumOverLines 14 = .ok (.iload_n 3, 1) := by decide +kernel
theorem dX0_sumOverLines_15 : decode cX0_sumOverLines 15 = .ok (.iload_n 1, 1) := by decide +kernel
theorem dX0_sumOverLines_16 : decode cX0_sumOverLines 16 = .ok (.invokevirtual 94, 3) := by decide +kernel
theorem dX0_sumOverLines_19 : decode cX0_sumOverLines 19 = .ok (.iadd, 1) := by decide +kernel
theorem dX0_sumOverLines_20 : decode cX0_sumOverLines 20 = .ok (.istore_n 2, 1) := by decide +kernel
theorem dX0_sumOverLines_21 : decode cX0_sumOverLines 21 = .ok (.iinc 3 1, 3) := by decide +kernel
theorem dX0_sumOverLines_24 : decode cX0_sumOverLines 24 = .ok (.goto (-20), 3) := by decide +kernel
theorem dX0_sumOverLines_27 : decode cX0_sumOverLines 27 = .ok (.iload_n 2, 1) := by decide +kernel
theorem dX0_sumOverLines_28 : decode cX0_sumOverLines 28 = .ok (.ireturn, 1) := by decide +kernel
set_option maxRecDepth 20000 in
theorem ggX0_pairsOfSameWorth_X0_worthOfPlaces : GoodIn wsX0_pairsOfSameWorth wsX0_worthOfPlaces := goodIn_r _ [9, 10, 11, 8, 12, 13, 14, 15, 16, 17, 18, 19, 20, 25, 26, 27, 28, 29, 30, 31, 32] (by decide +kernel) (by decide +kernel)
set_option maxRecDepth 20000 in
theorem gX0_pairsOfSameWorth_X0_worthOfPlaces : GoodIn wsX0_pairsOfSameWorth (wsV RX0 55 RX0 yX0_worthOfPlaces wsX0_worthOfPlaces) := goodIn_app (goodIn_of _ (by decide +kernel)) ggX0_pairsOfSameWorth_X0_worthOfPlaces
set_option maxRecDepth 20000 in
theorem ggX0_pairsOfSameWorth_X0_timesAmongWorths : GoodIn wsX0_pairsOfSameWorth wsX0_timesAmongWorths := goodIn_r _ [24, 4, 25, 26, 27, 28, 29, 30, 31, 32] (by decide +kernel) (by decide +kernel)
set_option maxRecDepth 20000 in
theorem gX0_pairsOfSameWorth_X0_timesAmongWorths : GoodIn wsX0_pairsOfSameWorth (wsV RX0 156 RX0 yX0_timesAmongWorths wsX0_timesAmongWorths) := goodIn_app (goodIn_of _ (by decide +kernel)) ggX0_pairsOfSameWorth_X0_timesAmongWorths
theorem dX0_pairsOfSameWorth_0 : decode cX0_pairsOfSameWorth 0 = .ok (.iconst 0, 1) := by decide +kernel
theorem dX0_pairsOfSameWorth_1 : decode cX0_pairsOfSameWorth 1 = .ok (.istore_n 1, 1) := by decide +kernel
theorem dX0_pairsOfSameWorth_2 : decode cX0_pairsOfSameWorth 2 = .ok (.iconst 0, 1) := by decide +kernel
theorem dX0_pairsOfSameWorth_3 : decode cX0_pairsOfSameWorth 3 = .ok (.istore_n 2, 1) := by decide +kernel
theorem dX0_pairsOfSameWorth_4 : decode cX0_pairsOfSameWorth 4 = .ok (.iconst 0, 1) := by decide +kernel
theorem dX0_pairsOfSameWorth_5 : decode cX0_pairsOfSameWorth 5 = .ok (.istore_n 3, 1) := by decide +kernel
theorem dX0_pairsOfSameWorth_6 : decode cX0_pairsOfSameWorth 6 = .ok (.iload_n 3, 1) := by decide +kernel
theorem dX0_pairsOfSameWorth_7 : decode cX0_pairsOfSameWorth 7 = .ok (.aload_n 0, 1) := by decide +kernel
theorem dX0_pairsOfSameWorth_8 : decode cX0_pairsOfSameWorth 8 = .ok (.getfield 13, 3) := by decide +kernel
theorem dX0_pairsOfSameWorth_11 : decode cX0_pairsOfSameWorth 11 = .ok (.if_icmp .ge 67, 3) := by decide +kernel
theorem dX0_pairsOfSameWorth_14 : decode cX0_pairsOfSameWorth 14 = .ok (.iconst 0, 1) := by decide +kernel
theorem dX0_pairsOfSameWorth_15 : decode cX0_pairsOfSameWorth 15 = .ok (.istore 4, 2) := by decide +kernel
theorem dX0_pairsOfSameWorth_17 : decode cX0_pairsOfSameWorth 17 = .ok (.iload 4, 2) := by decide +kernel
theorem dX0_pairsOfSameWorth_19 : decode cX0_pairsOfSameWorth 19 = .ok (.aload_n 0, 1) := by decide +kernel
theorem dX0_pairsOfSameWorth_20 : decode cX0_pairsOfSameWorth 20 = .ok (.getfield 16, 3) := by decide +kernel
theorem dX0_pairsOfSameWorth_23 : decode cX0_pairsOfSameWorth 23 = .ok (.iload_n 3, 1) := by decide +kernel
theorem dX0_pairsOfSameWorth_24 : decode cX0_pairsOfSameWorth 24 = .ok (.iaload, 1) := by decide +kernel
theorem dX0_pairsOfSameWorth_25 : decode cX0_pairsOfSameWorth 25 = .ok (.if_icmp .ge 47, 3) := by decide +kernel
theorem dX0_pairsOfSameWorth_28 : decode cX0_pairsOfSameWorth 28 = .ok (.aload_n 0, 1) := by decide +kernel
theorem dX0_pairsOfSameWorth_29 : decode cX0_pairsOfSameWorth 29 = .ok (.aload_n 0, 1) := by decide +kernel
theorem dX0_pairsOfSameWorth_30 : decode cX0_pairsOfSameWorth 30 = .ok (.getfield 22, 3) := by decide +kernel
theorem dX0_pairsOfSameWorth_33 : decode cX0_pairsOfSameWorth 33 = .ok (.iload_n 3, 1) := by decide +kernel
theorem dX0_pairsOfSameWorth_34 : decode cX0_pairsOfSameWorth 34 = .ok (.aaload, 1) := by decide +kernel
theorem dX0_pairsOfSameWorth_35 : decode cX0_pairsOfSameWorth 35 = .ok (.iload 4, 2) := by decide +kernel
theorem dX0_pairsOfSameWorth_37 : decode cX0_pairsOfSameWorth 37 = .ok (.iaload, 1) := by decide +kernel
theorem dX0_pairsOfSameWorth_38 : decode cX0_pairsOfSameWorth 38 = .ok (.bipush 63, 2) := by decide +kernel
theorem dX0_pairsOfSameWorth_40 : decode cX0_pairsOfSameWorth 40 = .ok (.invokevirtual 55, 3) := by decide +kernel
theorem dX0_pairsOfSameWorth_43 : decode cX0_pairsOfSameWorth 43 = .ok (.istore 5, 2) := by decide +kernel
theorem dX0_pairsOfSameWorth_45 : decode cX0_pairsOfSameWorth 45 = .ok (.iload_n 2, 1) := by decide +kernel
theorem dX0_pairsOfSameWorth_46 : decode cX0_pairsOfSameWorth 46 = .ok (.aload_n 0, 1) := by decide +kernel
theorem dX0_pairsOfSameWorth_47 : decode cX0_pairsOfSameWorth 47 = .ok (.iload 5, 2) := by decide +kernel
theorem dX0_pairsOfSameWorth_49 : decode cX0_pairsOfSameWorth 49 = .ok (.iload_n 1, 1) := by decide +kernel
theorem dX0_pairsOfSameWorth_50 : decode cX0_pairsOfSameWorth 50 = .ok (.invokevirtual 156, 3) := by decide +kernel
theorem dX0_pairsOfSameWorth_53 : decode cX0_pairsOfSameWorth 53 = .ok (.iadd, 1) := by decide +kernel
theorem dX0_pairsOfSameWorth_54 : decode cX0_pairsOfSameWorth 54 = .ok (.istore_n 2, 1) := by decide +kernel
theorem dX0_pairsOfSameWorth_55 : decode cX0_pairsOfSameWorth 55 = .ok (.aload_n 0, 1) := by decide +kernel
theorem dX0_pairsOfSameWorth_56 : decode cX0_pairsOfSameWorth 56 = .ok (.getfield 28, 3) := by decide +kernel
theorem dX0_pairsOfSameWorth_59 : decode cX0_pairsOfSameWorth 59 = .ok (.iload_n 1, 1) := by decide +kernel
theorem dX0_pairsOfSameWorth_60 : decode cX0_pairsOfSameWorth 60 = .ok (.iload 5, 2) := by decide +kernel
theorem dX0_pairsOfSameWorth_62 : decode cX0_pairsOfSameWorth 62 = .ok (.iastore, 1) := by decide +kernel
theorem dX0_pairsOfSameWorth_63 : decode cX0_pairsOfSameWorth 63 = .ok (.iinc 1 1, 3) := by decide +kernel
theorem dX0_pairsOfSameWorth_66 : decode cX0_pairsOfSameWorth 66 = .ok (.iinc 4 1, 3) := by decide +kernel
theorem dX0_pairsOfSameWorth_69 : decode cX0_pairsOfSameWorth 69 = .ok (.goto (-52), 3) := by decide +kernel
theorem dX0_pairsOfSameWorth_72 : decode cX0_pairsOfSameWorth 72 = .ok (.iinc 3 1, 3) := by decide +kernel
theorem dX0_pairsOfSameWorth_75 : decode cX0_pairsOfSameWorth 75 = .ok (.goto (-69), 3) := by decide +kernel
theorem dX0_pairsOfSameWorth_78 : decode cX0_pairsOfSameWorth 78 = .ok (.iload_n 2, 1) := by decide +kernel
theorem dX0_pairsOfSameWorth_79 : decode cX0_pairsOfSameWorth 79 = .ok (.ireturn, 1) := by decide +kernel
theorem dX0_timesAmongWorths_0 : decode cX0_timesAmongWorths 0 = .ok (.iconst 0, 1) := by decide +kernel
theorem dX0_timesAmongWorths_1 : decode cX0_timesAmongWorths 1 = .ok (.istore_n 3, 1) := by decide +kernel
theorem dX0_timesAmongWorths_2 : decode cX0_timesAmongWorths 2 = .ok (.iconst 0, 1) := by decide +kernel
theorem dX0_timesAmongWorths_3 : decode cX0_timesAmongWorths 3 = .ok (.istore 4, 2) := by decide +kernel
theorem dX0_timesAmongWorths_5 : decode cX0_timesAmongWorths 5 = .ok (.iload 4, 2) := by decide +kernel
theorem dX0_timesAmongWorths_7 : decode cX0_timesAmongWorths 7 = .ok (.iload_n 2, 1) := by decide +kernel
theorem dX0_timesAmongWorths_8 : decode cX0_timesAmongWorths 8 = .ok (.if_icmp .ge 23, 3) := by decide +kernel
theorem dX0_timesAmongWorths_11 : decode cX0_timesAmongWorths 11 = .ok (.aload_n 0, 1) := by decide +kernel
theorem dX0_timesAmongWorths_12 : decode cX0_timesAmongWorths 12 = .ok (.getfield 28, 3) := by decide +kernel
theorem dX0_timesAmongWorths_15 : decode cX0_timesAmongWorths 15 = .ok (.iload 4, 2) := by decide +kernel
theorem dX0_timesAmongWorths_17 : decode cX0_timesAmongWorths 17 = .ok (.iaload, 1) := by decide +kernel
theorem dX0_timesAmongWorths_18 : decode cX0_timesAmongWorths 18 = .ok (.iload_n 1, 1) := by decide +kernel
theorem dX0_timesAmongWorths_19 : decode cX0_timesAmongWorths 19 = .ok (.if_icmp .ne 6, 3) := by decide +kernel
theorem dX0_timesAmongWorths_22 : decode cX0_timesAmongWorths 22 = .ok (.iinc 3 1, 3) := by decide +kernel
theorem dX0_timesAmongWorths_25 : decode cX0_timesAmongWorths 25 = .ok (.iinc 4 1, 3) := by decide +kernel
theorem dX0_timesAmongWorths_28 : decode cX0_timesAmongWorths 28 = .ok (.goto (-23), 3) := by decide +kernel
theorem dX0_timesAmongWorths_31 : decode cX0_timesAmongWorths 31 = .ok (.iload_n 3, 1) := by decide +kernel
theorem dX0_timesAmongWorths_32 : decode cX0_timesAmongWorths 32 = .ok (.ireturn, 1) := by decide +kernel
set_option maxRecDepth 20000 in
theorem ggX0_lastOfRun_X0_worthOfPlaces : GoodIn wsX0_lastOfRun wsX0_worthOfPlaces := goodIn_r _ [7, 8, 9, 6, 10, 11, 12, 13, 14, 15, 16, 17, 18, 19, 20, 21, 22, 23, 24, 25, 26] (by decide +kernel) (by decide +kernel)
set_option maxRecDepth 20000 in
theorem gX0_lastOfRun_X0_worthOfPlaces : GoodIn wsX0_lastOfRun (wsV RX0 55 RX0 yX0_worthOfPlaces wsX0_worthOfPlaces) := goodIn_app (goodIn_of _ (by decide +kernel)) ggX0_lastOfRun_X0_worthOfPlaces
theorem dX0_lastOfRun_0 : decode cX0_lastOfRun 0 = .ok (.iconst 0, 1) := by decide +kernel
theorem dX0_lastOfRun_1 : decode cX0_lastOfRun 1 = .ok (.istore 4, 2) := by decide +kernel
theorem dX0_lastOfRun_3 : decode cX0_lastOfRun 3 = .ok (.iload_n 2, 1) := by decide +kernel
theorem dX0_lastOfRun_4 : decode cX0_lastOfRun 4 = .ok (.istore 5, 2) := by decide +kernel
theorem dX0_lastOfRun_6 : decode cX0_lastOfRun 6 = .ok (.iload 5, 2) := by decide +kernel
theorem dX0_lastOfRun_8 : decode cX0_lastOfRun 8 = .ok (.aload_n 0, 1) := by decide +kernel
theorem dX0_lastOfRun_9 : decode cX0_lastOfRun 9 = .ok (.getfield 16, 3) := by decide +kernel
theorem dX0_lastOfRun_12 : decode cX0_lastOfRun 12 = .ok (.iload_n 1, 1) := by decide +kernel
theorem dX0_lastOfRun_13 : decode cX0_lastOfRun 13 = .ok (.iaload, 1) := by decide +kernel
theorem dX0_lastOfRun_14 : decode cX0_lastOfRun 14 = .ok (.if_icmp .ge 38, 3) := by decide +kernel
theorem dX0_lastOfRun_17 : decode cX0_lastOfRun 17 = .ok (.iload 4, 2) := by decide +kernel
theorem dX0_lastOfRun_19 : decode cX0_lastOfRun 19 = .ok (.aload_n 0, 1) := by decide +kernel
theorem dX0_lastOfRun_20 : decode cX0_lastOfRun 20 = .ok (.aload_n 0, 1) := by decide +kernel
theorem dX0_lastOfRun_21 : decode cX0_lastOfRun 21 = .ok (.getfield 22, 3) := by decide +kernel
theorem dX0_lastOfRun_24 : decode cX0_lastOfRun 24 = .ok (.iload_n 1, 1) := by decide +kernel
theorem dX0_lastOfRun_25 : decode cX0_lastOfRun 25 = .ok (.aaload, 1) := by decide +kernel
theorem dX0_lastOfRun_26 : decode cX0_lastOfRun 26 = .ok (.iload 5, 2) := by decide +kernel
theorem dX0_lastOfRun_28 : decode cX0_lastOfRun 28 = .ok (.iaload, 1) := by decide +kernel
theorem dX0_lastOfRun_29 : decode cX0_lastOfRun 29 = .ok (.bipush 63, 2) := by decide +kernel
theorem dX0_lastOfRun_31 : decode cX0_lastOfRun 31 = .ok (.invokevirtual 55, 3) := by decide +kernel
theorem dX0_lastOfRun_34 : decode cX0_lastOfRun 34 = .ok (.iadd, 1) := by decide +kernel
theorem dX0_lastOfRun_35 : decode cX0_lastOfRun 35 = .ok (.istore 4, 2) := by decide +kernel
theorem dX0_lastOfRun_37 : decode cX0_lastOfRun 37 = .ok (.iload 4, 2) := by decide +kernel
theorem dX0_lastOfRun_39 : decode cX0_lastOfRun 39 = .ok (.iload_n 3, 1) := by decide +kernel
theorem dX0_lastOfRun_40 : decode cX0_lastOfRun 40 = .ok (.if_icmp .ne 6, 3) := by decide +kernel
theorem dX0_lastOfRun_43 : decode cX0_lastOfRun 43 = .ok (.iload 5, 2) := by decide +kernel
theorem dX0_lastOfRun_45 : decode cX0_lastOfRun 45 = .ok (.ireturn, 1) := by decide +kernel
theorem dX0_lastOfRun_46 : decode cX0_lastOfRun 46 = .ok (.iinc 5 1, 3) := by decide +kernel
theorem dX0_lastOfRun_49 : decode cX0_lastOfRun 49 = .ok (.goto (-43), 3) := by decide +kernel
theorem dX0_lastOfRun_52 : decode cX0_lastOfRun 52 = .ok (.iconst (-1), 1) := by decide +kernel
theorem dX0_lastOfRun_53 : decode cX0_lastOfRun 53 = .ok (.ireturn, 1) := by decide +kernel
end
section
theorem dX1_init_0 : decode cX1_init 0 = .ok (.aload_n 0, 1) := by decide +kernel
theorem dX1_init_1 : decode cX1_init 1 = .ok (.invokespecial 1, 3) := by decide +kernel
theorem dX1_init_4 : decode cX1_init 4 = .ok (.aload_n 0, 1) := by decide +kernel
theorem dX1_init_5 : decode cX1_init 5 = .ok (.iconst 0, 1) := by decide +kernel
theorem dX1_init_6 : decode cX1_init 6 = .ok (.anewarray 7, 3) := by decide +kernel
theorem dX1_init_9 : decode cX1_init 9 = .ok (.putfield 9, 3) := by decide +kernel
theorem dX1_init_12 : decode cX1_init 12 = .ok (.aload_n 0, 1) := by decide +kernel
theorem dX1_init_13 : decode cX1_init 13 = .ok (.iconst 0, 1) := by decide +kernel
theorem dX1_init_14 : decode cX1_init 14 = .ok (.anewarray 15, 3) := by decide +kernel
theorem dX1_init_17 : decode cX1_init 17 = .ok (.putfield 17, 3) := by decide +kernel
theorem dX1_init_20 : decode cX1_init 20 = .ok (.return_, 1) := by decide +kernel
set_option maxRecDepth 20000 in
theorem ggX1_value_L_letters : GoodIn wsX1_value wsL_letters := goodIn_r _ [4, 5] (by decide +kernel) (by decide +kernel)
set_option maxRecDepth 20000 in
theorem gX1_value_L_letters_n21 : GoodIn wsX1_value (wsL_letters) := ggX1_value_L_letters
set_option maxRecDepth 20000 in
theorem ggX1_value_L_value : GoodIn wsX1_value wsL_value := goodIn_r _ [7] (by decide +kernel) (by decide +kernel)
set_option maxRecDepth 20000 in
theorem gX1_value_L_value_n31 : GoodIn wsX1_value (wsL_value) := ggX1_value_L_value
theorem dX1_value_0 : decode cX1_value 0 = .ok (.iconst 0, 1) := by decide +kernel
theorem dX1_value_1 : decode cX1_value 1 = .ok (.istore_n 2, 1) := by decide +kernel
theorem dX1_value_2 : decode cX1_value 2 = .ok (.iload_n 1, 1) := by decide +kernel
theorem dX1_value_3 : decode cX1_value 3 = .ok (.invokestatic 21, 3) := by decide +kernel
theorem dX1_value_6 : decode cX1_value 6 = .ok (.astore_n 3, 1) := by decide +kernel
theorem dX1_value_7 : decode cX1_value 7 = .ok (.aload_n 3, 1) := by decide +kernel
theorem dX1_value_8 : decode cX1_value 8 = .ok (.arraylength, 1) := by decide +kernel
theorem dX1_value_9 : decode cX1_value 9 = .ok (.istore 4, 2) := by decide +kernel
theorem dX1_value_11 : decode cX1_value 11 = .ok (.iconst 0, 1) := by decide +kernel
theorem dX1_value_12 : decode cX1_value 12 = .ok (.istore 5, 2) := by decide +kernel
theorem dX1_value_14 : decode cX1_value 14 = .ok (.iload 5, 2) := by decide +kernel
theorem dX1_value_16 : decode cX1_value 16 = .ok (.iload 4, 2) := by decide +kernel
theorem dX1_value_18 : decode cX1_value 18 = .ok (.if_icmp .ge 27, 3) := by decide +kernel
theorem dX1_value_21 : decode cX1_value 21 = .ok (.aload_n 3, 1) := by decide +kernel
theorem dX1_value_22 : decode cX1_value 22 = .ok (.iload 5, 2) := by decide +kernel
theorem dX1_value_24 : decode cX1_value 24 = .ok (.iaload, 1) := by decide +kernel
theorem dX1_value_25 : decode cX1_value 25 = .ok (.istore 6, 2) := by decide +kernel
theorem dX1_value_27 : decode cX1_value 27 = .ok (.iload_n 2, 1) := by decide +kernel
theorem dX1_value_28 : decode cX1_value 28 = .ok (.aload_n 0, 1) := by decide +kernel
theorem dX1_value_29 : decode cX1_value 29 = .ok (.getfield 27, 3) := by decide +kernel
theorem dX1_value_32 : decode cX1_value 32 = .ok (.iload 6, 2) := by decide +kernel
theorem dX1_value_34 : decode cX1_value 34 = .ok (.invokestatic 31, 3) := by decide +kernel
theorem dX1_value_37 : decode cX1_value 37 = .ok (.iadd, 1) := by decide +kernel
theorem dX1_value_38 : decode cX1_value 38 = .ok (.istore_n 2, 1) := by decide +kernel
theorem dX1_value_39 : decode cX1_value 39 = .ok (.iinc 5 1, 3) := by decide +kernel
theorem dX1_value_42 : decode cX1_value 42 = .ok (.goto (-28), 3) := by decide +kernel
theorem dX1_value_45 : decode cX1_value 45 = .ok (.iload_n 2, 1) := by decide +kernel
theorem dX1_value_46 : decode cX1_value 46 = .ok (.ireturn, 1) := by decide +kernel
theorem dX1_write_0 : decode cX1_write 0 = .ok (.aload_n 0, 1) := by decide +kernel
theorem dX1_write_1 : decode cX1_write 1 = .ok (.getfield 9, 3) := by decide +kernel
theorem dX1_write_4 : decode cX1_write 4 = .ok (.arraylength, 1) := by decide +kernel
theorem dX1_write_5 : decode cX1_write 5 = .ok (.istore_n 1, 1) := by decide +kernel
theorem dX1_write_6 : decode cX1_write 6 = .ok (.iload_n 1, 1) := by decide +kernel
theorem dX1_write_7 : decode cX1_write 7 = .ok (.iconst 1, 1) := by decide +kernel
theorem dX1_write_8 : decode cX1_write 8 = .ok (.iadd, 1) := by decide +kernel
theorem dX1_write_9 : decode cX1_write 9 = .ok (.anewarray 7, 3) := by decide +kernel
theorem dX1_write_12 : decode cX1_write 12 = .ok (.astore_n 2, 1) := by decide +kernel
theorem dX1_write_13 : decode cX1_write 13 = .ok (.iload_n 1, 1) := by decide +kernel
theorem dX1_write_14 : decode cX1_write 14 = .ok (.iconst 1, 1) := by decide +kernel
theorem dX1_write_15 : decode cX1_write 15 = .ok (.iadd, 1) := by decide +kernel
theorem dX1_write_16 : decode cX1_write 16 = .ok (.anewarray 15, 3) := by decide +kernel
theorem dX1_write_19 : decode cX1_write 19 = .ok (.astore_n 3, 1) := by decide +kernel
theorem dX1_write_20 : decode cX1_write 20 = .ok (.iconst 0, 1) := by decide +kernel
theorem dX1_write_21 : decode cX1_write 21 = .ok (.istore 4, 2) := by decide +kernel
theorem dX1_write_23 : decode cX1_write 23 = .ok (.iload 4, 2) := by decide +kernel
theorem dX1_write_25 : decode cX1_write 25 = .ok (.iload_n 1, 1) := by decide +kernel
theorem dX1_write_26 : decode cX1_write 26 = .ok (.if_icmp .ge 31, 3) := by decide +kernel
theorem dX1_write_29 : decode cX1_write 29 = .ok (.aload_n 2, 1) := by decide +kernel
theorem dX1_write_30 : decode cX1_write 30 = .ok (.iload 4, 2) := by decide +kernel
theorem dX1_write_32 : decode cX1_write 32 = .ok (.aload_n 0, 1) := by decide +kernel
theorem dX1_write_33 : decode cX1_write 33 = .ok (.getfield 9, 3) := by decide +kernel
theorem dX1_write_36 : decode cX1_write 36 = .ok (.iload 4, 2) := by decide +kernel
theorem dX1_write_38 : decode cX1_write 38 = .ok (.aaload, 1) := by decide +kernel
theorem dX1_write_39 : decode cX1_write 39 = .ok (.aastore, 1) := by decide +kernel
theorem dX1_write_40 : decode cX1_write 40 = .ok (.aload_n 3, 1) := by decide +kernel
theorem dX1_write_41 : decode cX1_write 41 = .ok (.iload 4, 2) := by decide +kernel
theorem dX1_write_43 : decode cX1_write 43 = .ok (.aload_n 0, 1) := by decide +kernel
theorem dX1_write_44 : decode cX1_write 44 = .ok (.getfield 17, 3) := by decide +kernel
theorem dX1_write_47 : decode cX1_write 47 = .ok (.iload 4, 2) := by decide +kernel
theorem dX1_write_49 : decode cX1_write 49 = .ok (.aaload, 1) := by decide +kernel
theorem dX1_write_50 : decode cX1_write 50 = .ok (.aastore, 1) := by decide +kernel
theorem dX1_write_51 : decode cX1_write 51 = .ok (.iinc 4 1, 3) := by decide +kernel
theorem dX1_write_54 : decode cX1_write 54 = .ok (.goto (-31), 3) := by decide +kernel
theorem dX1_write_57 : decode cX1_write 57 = .ok (.aload_n 2, 1) := by decide +kernel
theorem dX1_write_58 : decode cX1_write 58 = .ok (.iload_n 1, 1) := by decide +kernel
theorem dX1_write_59 : decode cX1_write 59 = .ok (.iconst 0, 1) := by decide +kernel
theorem dX1_write_60 : decode cX1_write 60 = .ok (.newarray .int, 2) := by decide +kernel
theorem dX1_write_62 : decode cX1_write 62 = .ok (.aastore, 1) := by decide +kernel
theorem dX1_write_63 : decode cX1_write 63 = .ok (.aload_n 3, 1) := by decide +kernel
theorem dX1_write_64 : decode cX1_write 64 = .ok (.iload_n 1, 1) := by decide +kernel
theorem dX1_write_65 : decode cX1_write 65 = .ok (.iconst 0, 1) := by decide +kernel
theorem dX1_write_66 : decode cX1_write 66 = .ok (.anewarray 35, 3) := by decide +kernel
theorem dX1_write_69 : decode cX1_write 69 = .ok (.aastore, 1) := by decide +kernel
theorem dX1_write_70 : decode cX1_write 70 = .ok (.aload_n 0, 1) := by decide +kernel
theorem dX1_write_71 : decode cX1_write 71 = .ok (.aload_n 2, 1) := by decide +kernel
theorem dX1_write_72 : decode cX1_write 72 = .ok (.putfield 9, 3) := by decide +kernel
theorem dX1_write_75 : decode cX1_write 75 = .ok (.aload_n 0, 1) := by decide +kernel
theorem dX1_write_76 : decode cX1_write 76 = .ok (.aload_n 3, 1) := by decide +kernel
theorem dX1_write_77 : decode cX1_write 77 = .ok (.putfield 17, 3) := by decide +kernel
theorem dX1_write_80 : decode cX1_write 80 = .ok (.return_, 1) := by decide +kernel
set_option maxRecDepth 20000 in
theorem ggX1_add_L_letters : GoodIn wsX1_add wsL_letters := goodIn_r _ [8, 2] (by decide +kernel) (by decide +kernel)
set_option maxRecDepth 20000 in
theorem gX1_add_L_letters_n21 : GoodIn wsX1_add (wsL_letters) := ggX1_add_L_letters
theorem dX1_add_0 : decode cX1_add 0 = .ok (.aload_n 0, 1) := by decide +kernel
theorem dX1_add_1 : decode cX1_add 1 = .ok (.getfield 9, 3) := by decide +kernel
theorem dX1_add_4 : decode cX1_add 4 = .ok (.iload_n 1, 1) := by decide +kernel
theorem dX1_add_5 : decode cX1_add 5 = .ok (.aaload, 1) := by decide +kernel
theorem dX1_add_6 : decode cX1_add 6 = .ok (.arraylength, 1) := by decide +kernel
theorem dX1_add_7 : decode cX1_add 7 = .ok (.istore_n 3, 1) := by decide +kernel
theorem dX1_add_8 : decode cX1_add 8 = .ok (.iload_n 3, 1) := by decide +kernel
theorem dX1_add_9 : decode cX1_add 9 = .ok (.iconst 1, 1) := by decide +kernel
theorem dX1_add_10 : decode cX1_add 10 = .ok (.iadd, 1) := by decide +kernel
theorem dX1_add_11 : decode cX1_add 11 = .ok (.newarray .int, 2) := by decide +kernel
theorem dX1_add_13 : decode cX1_add 13 = .ok (.astore 4, 2) := by decide +kernel
theorem dX1_add_15 : decode cX1_add 15 = .ok (.iload_n 3, 1) := by decide +kernel
theorem dX1_add_16 : decode cX1_add 16 = .ok (.iconst 1, 1) := by decide +kernel
theorem dX1_add_17 : decode cX1_add 17 = .ok (.iadd, 1) := by decide +kernel
theorem dX1_add_18 : decode cX1_add 18 = .ok (.anewarray 35, 3) := by decide +kernel
theorem dX1_add_21 : decode cX1_add 21 = .ok (.astore 5, 2) := by decide +kernel
theorem dX1_add_23 : decode cX1_add 23 = .ok (.iconst 0, 1) := by decide +kernel
theorem dX1_add_24 : decode cX1_add 24 = .ok (.istore 6, 2) := by decide +kernel
theorem dX1_add_26 : decode cX1_add 26 = .ok (.iload 6, 2) := by decide +kernel
theorem dX1_add_28 : decode cX1_add 28 = .ok (.iload_n 3, 1) := by decide +kernel
theorem dX1_add_29 : decode cX1_add 29 = .ok (.if_icmp .ge 37, 3) := by decide +kernel
theorem dX1_add_32 : decode cX1_add 32 = .ok (.aload 4, 2) := by decide +kernel
theorem dX1_add_34 : decode cX1_add 34 = .ok (.iload 6, 2) := by decide +kernel
theorem dX1_add_36 : decode cX1_add 36 = .ok (.aload_n 0, 1) := by decide +kernel
theorem dX1_add_37 : decode cX1_add 37 = .ok (.getfield 9, 3) := by decide +kernel
theorem dX1_add_40 : decode cX1_add 40 = .ok (.iload_n 1, 1) := by decide +kernel
theorem dX1_add_41 : decode cX1_add 41 = .ok (.aaload, 1) := by decide +kernel
theorem dX1_add_42 : decode cX1_add 42 = .ok (.iload 6, 2) := by decide +kernel
theorem dX1_add_44 : decode cX1_add 44 = .ok (.iaload, 1) := by decide +kernel
theorem dX1_add_45 : decode cX1_add 45 = .ok (.iastore, 1) := by decide +kernel
theorem dX1_add_46 : decode cX1_add 46 = .ok (.aload 5, 2) := by decide +kernel
theorem dX1_add_48 : decode cX1_add 48 = .ok (.iload 6, 2) := by decide +kernel
theorem dX1_add_50 : decode cX1_add 50 = .ok (.aload_n 0, 1) := by decide +kernel
theorem dX1_add_51 : decode cX1_add 51 = .ok (.getfield 17, 3) := by decide +kernel
theorem dX1_add_54 : decode cX1_add 54 = .ok (.iload_n 1, 1) := by decide +kernel
theorem dX1_add_55 : decode cX1_add 55 = .ok (.aaload, 1) := by decide +kernel
theorem dX1_add_56 : decode cX1_add 56 = .ok (.iload 6, 2) := by decide +kernel
theorem dX1_add_58 : decode cX1_add 58 = .ok (.aaload, 1) := by decide +kernel
theorem dX1_add_59 : decode cX1_add 59 = .ok (.aastore, 1) := by decide +kernel
theorem dX1_add_60 : decode cX1_add 60 = .ok (.iinc 6 1, 3) := by decide +kernel
theorem dX1_add_63 : decode cX1_add 63 = .ok (.goto (-37), 3) := by decide +kernel
theorem dX1_add_66 : decode cX1_add 66 = .ok (.aload 4, 2) := by decide +kernel
theorem dX1_add_68 : decode cX1_add 68 = .ok (.iload_n 3, 1) := by decide +kernel
theorem dX1_add_69 : decode cX1_add 69 = .ok (.iload_n 2, 1) := by decide +kernel
theorem dX1_add_70 : decode cX1_add 70 = .ok (.iastore, 1) := by decide +kernel
theorem dX1_add_71 : decode cX1_add 71 = .ok (.aload 5, 2) := by decide +kernel
theorem dX1_add_73 : decode cX1_add 73 = .ok (.iload_n 3, 1) := by decide +kernel
theorem dX1_add_74 : decode cX1_add 74 = .ok (.iload_n 2, 1) := by decide +kernel
theorem dX1_add_75 : decode cX1_add 75 = .ok (.invokestatic 21, 3) := by decide +kernel
theorem dX1_add_78 : decode cX1_add 78 = .ok (.arraylength, 1) := by decide +kernel
theorem dX1_add_79 : decode cX1_add 79 = .ok (.newarray .boolean, 2) := by decide +kernel
theorem dX1_add_81 : decode cX1_add 81 = .ok (.aastore, 1) := by decide +kernel
theorem dX1_add_82 : decode cX1_add 82 = .ok (.aload_n 0, 1) := by decide +kernel
theorem dX1_add_83 : decode cX1_add 83 = .ok (.getfield 9, 3) := by decide +kernel
theorem dX1_add_86 : decode cX1_add 86 = .ok (.iload_n 1, 1) := by decide +kernel
theorem dX1_add_87 : decode cX1_add 87 = .ok (.aload 4, 2) := by decide +kernel
theorem dX1_add_89 : decode cX1_add 89 = .ok (.aastore, 1) := by decide +kernel
theorem dX1_add_90 : decode cX1_add 90 = .ok (.aload_n 0, 1) := by decide +kernel
theorem dX1_add_91 : decode cX1_add 91 = .ok (.getfield 17, 3) := by decide +kernel
theorem dX1_add_94 : decode cX1_add 94 = .ok (.iload_n 1, 1) := by decide +kernel
theorem dX1_add_95 : decode cX1_add 95 = .ok (.aload 5, 2) := by decide +kernel
theorem dX1_add_97 : decode cX1_add 97 = .ok (.aastore, 1) := by decide +kernel
theorem dX1_add_98 : decode cX1_add 98 = .ok (.return_, 1) := by decide +kernel
theorem dX1_cut_0 : decode cX1_cut 0 = .ok (.aload_n 0, 1) := by decide +kernel
theorem dX1_cut_1 : decode cX1_cut 1 = .ok (.getfield 9, 3) := by decide +kernel
theorem dX1_cut_4 : decode cX1_cut 4 = .ok (.iload_n 1, 1) := by decide +kernel
theorem dX1_cut_5 : decode cX1_cut 5 = .ok (.aaload, 1) := by decide +kernel
theorem dX1_cut_6 : decode cX1_cut 6 = .ok (.arraylength, 1) := by decide +kernel
theorem dX1_cut_7 : decode cX1_cut 7 = .ok (.iconst 1, 1) := by decide +kernel
theorem dX1_cut_8 : decode cX1_cut 8 = .ok (.isub, 1) := by decide +kernel
theorem dX1_cut_9 : decode cX1_cut 9 = .ok (.istore_n 2, 1) := by decide +kernel
theorem dX1_cut_10 : decode cX1_cut 10 = .ok (.aload_n 0, 1) := by decide +kernel
theorem dX1_cut_11 : decode cX1_cut 11 = .ok (.getfield 9, 3) := by decide +kernel
theorem dX1_cut_14 : decode cX1_cut 14 = .ok (.iload_n 1, 1) := by decide +kernel
theorem dX1_cut_15 : decode cX1_cut 15 = .ok (.aaload, 1) := by decide +kernel
theorem dX1_cut_16 : decode cX1_cut 16 = .ok (.iload_n 2, 1) := by decide +kernel
theorem dX1_cut_17 : decode cX1_cut 17 = .ok (.iaload, 1) := by decide +kernel
theorem dX1_cut_18 : decode cX1_cut 18 = .ok (.istore_n 3, 1) := by decide +kernel
theorem dX1_cut_19 : decode cX1_cut 19 = .ok (.iload_n 2, 1) := by decide +kernel
theorem dX1_cut_20 : decode cX1_cut 20 = .ok (.newarray .int, 2) := by decide +kernel
theorem dX1_cut_22 : decode cX1_cut 22 = .ok (.astore 4, 2) := by decide +kernel
theorem dX1_cut_24 : decode cX1_cut 24 = .ok (.iload_n 2, 1) := by decide +kernel
theorem dX1_cut_25 : decode cX1_cut 25 = .ok (.anewarray 35, 3) := by decide +kernel
theorem dX1_cut_28 : decode cX1_cut 28 = .ok (.astore 5, 2) := by decide +kernel
theorem dX1_cut_30 : decode cX1_cut 30 = .ok (.iconst 0, 1) := by decide +kernel
theorem dX1_cut_31 : decode cX1_cut 31 = .ok (.istore 6, 2) := by decide +kernel
theorem dX1_cut_33 : decode cX1_cut 33 = .ok (.iload 6, 2) := by decide +kernel
theorem dX1_cut_35 : decode cX1_cut 35 = .ok (.iload_n 2, 1) := by decide +kernel
theorem dX1_cut_36 : decode cX1_cut 36 = .ok (.if_icmp .ge 37, 3) := by decide +kernel
theorem dX1_cut_39 : decode cX1_cut 39 = .ok (.aload 4, 2) := by decide +kernel
theorem dX1_cut_41 : decode cX1_cut 41 = .ok (.iload 6, 2) := by decide +kernel
theorem dX1_cut_43 : decode cX1_cut 43 = .ok (.aload_n 0, 1) := by decide +kernel
theorem dX1_cut_44 : decode cX1_cut 44 = .ok (.getfield 9, 3) := by decide +kernel
theorem dX1_cut_47 : decode cX1_cut 47 = .ok (.iload_n 1, 1) := by decide +kernel
theorem dX1_cut_48 : decode cX1_cut 48 = .ok (.aaload, 1) := by decide +kernel
theorem dX1_cut_49 : decode cX1_cut 49 = .ok (.iload 6, 2) := by decide +kernel
theorem dX1_cut_51 : decode cX1_cut 51 = .ok (.iaload, 1) := by decide +kernel
theorem dX1_cut_52 : decode cX1_cut 52 = .ok (.iastore, 1) := by decide +kernel
theorem dX1_cut_53 : decode cX1_cut 53 = .ok (.aload 5, 2) := by decide +kernel
theorem dX1_cut_55 : decode cX1_cut 55 = .ok (.iload 6, 2) := by decide +kernel
theorem dX1_cut_57 : decode cX1_cut 57 = .ok (.aload_n 0, 1) := by decide +kernel
theorem dX1_cut_58 : decode cX1_cut 58 = .ok (.getfield 17, 3) := by decide +kernel
theorem dX1_cut_61 : decode cX1_cut 61 = .ok (.iload_n 1, 1) := by decide +kernel
theorem dX1_cut_62 : decode cX1_cut 62 = .ok (.aaload, 1) := by decide +kernel
theorem dX1_cut_63 : decode cX1_cut 63 = .ok (.iload 6, 2) := by decide +kernel
theorem dX1_cut_65 : decode cX1_cut 65 = .ok (.aaload, 1) := by decide +kernel
theorem dX1_cut_66 : decode cX1_cut 66 = .ok (.aastore, 1) := by decide +kernel
theorem dX1_cut_67 : decode cX1_cut 67 = .ok (.iinc 6 1, 3) := by decide +kernel
theorem dX1_cut_70 : decode cX1_cut 70 = .ok (.goto (-37), 3) := by decide +kernel
theorem dX1_cut_73 : decode cX1_cut 73 = .ok (.aload_n 0, 1) := by decide +kernel
theorem dX1_cut_74 : decode cX1_cut 74 = .ok (.getfield 9, 3) := by decide +kernel
theorem dX1_cut_77 : decode cX1_cut 77 = .ok (.iload_n 1, 1) := by decide +kernel
theorem dX1_cut_78 : decode cX1_cut 78 = .ok (.aload 4, 2) := by decide +kernel
theorem dX1_cut_80 : decode cX1_cut 80 = .ok (.aastore, 1) := by decide +kernel
theorem dX1_cut_81 : decode cX1_cut 81 = .ok (.aload_n 0, 1) := by decide +kernel
theorem dX1_cut_82 : decode cX1_cut 82 = .ok (.getfield 17, 3) := by decide +kernel
theorem dX1_cut_85 : decode cX1_cut 85 = .ok (.iload_n 1, 1) := by decide +kernel
theorem dX1_cut_86 : decode cX1_cut 86 = .ok (.aload 5, 2) := by decide +kernel
theorem dX1_cut_88 : decode cX1_cut 88 = .ok (.aastore, 1) := by decide +kernel
theorem dX1_cut_89 : decode cX1_cut 89 = .ok (.iload_n 3, 1) := by decide +kernel
theorem dX1_cut_90 : decode cX1_cut 90 = .ok (.ireturn, 1) := by decide +kernel
set_option maxRecDepth 20000 in
theorem ggX1_word_L_letters : GoodIn wsX1_word wsL_letters := goodIn_r _ [7, 2] (by decide +kernel) (by decide +kernel)
set_option maxRecDepth 20000 in
theorem gX1_word_L_letters_n21 : GoodIn wsX1_word (wsL_letters) := ggX1_word_L_letters
set_option maxRecDepth 20000 in
theorem ggX1_word_X1_value : GoodIn wsX1_word wsX1_value := goodIn_r _ [12, 4, 5, 6, 7, 2, 13, 14, 15, 16, 17] (by decide +kernel) (by decide +kernel)
set_option maxRecDepth 20000 in
theorem gX1_word_X1_value : GoodIn wsX1_word (wsV RX1 37 RX1 yX1_value wsX1_value) := goodIn_app (goodIn_of _ (by decide +kernel)) ggX1_word_X1_value
set_option maxRecDepth 20000 in
theorem ggX1_word_L_value : GoodIn wsX1_word wsL_value := goodIn_r _ [14] (by decide +kernel) (by decide +kernel)
set_option maxRecDepth 20000 in
theorem gX1_word_L_value_n31 : GoodIn wsX1_word (wsL_value) := ggX1_word_L_value
theorem dX1_word_0 : decode cX1_word 0 = .ok (.aload_n 0, 1) := by decide +kernel
theorem dX1_word_1 : decode cX1_word 1 = .ok (.getfield 9, 3) := by decide +kernel
theorem dX1_word_4 : decode cX1_word 4 = .ok (.iload_n 1, 1) := by decide +kernel
theorem dX1_word_5 : decode cX1_word 5 = .ok (.aaload, 1) := by decide +kernel
theorem dX1_word_6 : decode cX1_word 6 = .ok (.iload_n 2, 1) := by decide +kernel
theorem dX1_word_7 : decode cX1_word 7 = .ok (.iaload, 1) := by decide +kernel
theorem dX1_word_8 : decode cX1_word 8 = .ok (.invokestatic 21, 3) := by decide +kernel
theorem dX1_word_11 : decode cX1_word 11 = .ok (.astore_n 3, 1) := by decide +kernel
theorem dX1_word_12 : decode cX1_word 12 = .ok (.iconst 5, 1) := by decide +kernel
theorem dX1_word_13 : decode cX1_word 13 = .ok (.newarray .int, 2) := by decide +kernel
theorem dX1_word_15 : decode cX1_word 15 = .ok (.dup, 1) := by decide +kernel
theorem dX1_word_16 : decode cX1_word 16 = .ok (.iconst 0, 1) := by decide +kernel
theorem dX1_word_17 : decode cX1_word 17 = .ok (.aload_n 0, 1) := by decide +kernel
theorem dX1_word_18 : decode cX1_word 18 = .ok (.getfield 9, 3) := by decide +kernel
theorem dX1_word_21 : decode cX1_word 21 = .ok (.iload_n 1, 1) := by decide +kernel
theorem dX1_word_22 : decode cX1_word 22 = .ok (.aaload, 1) := by decide +kernel
theorem dX1_word_23 : decode cX1_word 23 = .ok (.iload_n 2, 1) := by decide +kernel
theorem dX1_word_24 : decode cX1_word 24 = .ok (.iaload, 1) := by decide +kernel
theorem dX1_word_25 : decode cX1_word 25 = .ok (.iastore, 1) := by decide +kernel
theorem dX1_word_26 : decode cX1_word 26 = .ok (.dup, 1) := by decide +kernel
theorem dX1_word_27 : decode cX1_word 27 = .ok (.iconst 1, 1) := by decide +kernel
theorem dX1_word_28 : decode cX1_word 28 = .ok (.aload_n 3, 1) := by decide +kernel
theorem dX1_word_29 : decode cX1_word 29 = .ok (.arraylength, 1) := by decide +kernel
theorem dX1_word_30 : decode cX1_word 30 = .ok (.iastore, 1) := by decide +kernel
theorem dX1_word_31 : decode cX1_word 31 = .ok (.dup, 1) := by decide +kernel
theorem dX1_word_32 : decode cX1_word 32 = .ok (.iconst 2, 1) := by decide +kernel
theorem dX1_word_33 : decode cX1_word 33 = .ok (.aload_n 0, 1) := by decide +kernel
theorem dX1_word_34 : decode cX1_word 34 = .ok (.aload_n 0, 1) := by decide +kernel
theorem dX1_word_35 : decode cX1_word 35 = .ok (.getfield 9, 3) := by decide +kernel
theorem dX1_word_38 : decode cX1_word 38 = .ok (.iload_n 1, 1) := by decide +kernel
theorem dX1_word_39 : decode cX1_word 39 = .ok (.aaload, 1) := by decide +kernel
theorem dX1_word_40 : decode cX1_word 40 = .ok (.iload_n 2, 1) := by decide +kernel
theorem dX1_word_41 : decode cX1_word 41 = .ok (.iaload, 1) := by decide +kernel
theorem dX1_word_42 : decode cX1_word 42 = .ok (.invokevirtual 37, 3) := by decide +kernel
theorem dX1_word_45 : decode cX1_word 45 = .ok (.iastore, 1) := by decide +kernel
theorem dX1_word_46 : decode cX1_word 46 = .ok (.dup, 1) := by decide +kernel
theorem dX1_word_47 : decode cX1_word 47 = .ok (.iconst 3, 1) := by decide +kernel
theorem dX1_word_48 : decode cX1_word 48 = .ok (.iconst 0, 1) := by decide +kernel
theorem dX1_word_49 : decode cX1_word 49 = .ok (.iastore, 1) := by decide +kernel
theorem dX1_word_50 : decode cX1_word 50 = .ok (.dup, 1) := by decide +kernel
theorem dX1_word_51 : decode cX1_word 51 = .ok (.iconst 4, 1) := by decide +kernel
theorem dX1_word_52 : decode cX1_word 52 = .ok (.iconst 0, 1) := by decide +kernel
theorem dX1_word_53 : decode cX1_word 53 = .ok (.iastore, 1) := by decide +kernel
theorem dX1_word_54 : decode cX1_word 54 = .ok (.astore 4, 2) := by decide +kernel
theorem dX1_word_56 : decode cX1_word 56 = .ok (.iconst 0, 1) := by decide +kernel
theorem dX1_word_57 : decode cX1_word 57 = .ok (.istore 5, 2) := by decide +kernel
theorem dX1_word_59 : decode cX1_word 59 = .ok (.iload 5, 2) := by decide +kernel
theorem dX1_word_61 : decode cX1_word 61 = .ok (.aload_n 3, 1) := by decide +kernel
theorem dX1_word_62 : decode cX1_word 62 = .ok (.arraylength, 1) := by decide +kernel
theorem dX1_word_63 : decode cX1_word 63 = .ok (.if_icmp .ge 52, 3) := by decide +kernel
theorem dX1_word_66 : decode cX1_word 66 = .ok (.aload_n 0, 1) := by decide +kernel
theorem dX1_word_67 : decode cX1_word 67 = .ok (.getfield 17, 3) := by decide +kernel
theorem dX1_word_70 : decode cX1_word 70 = .ok (.iload_n 1, 1) := by decide +kernel
theorem dX1_word_71 : decode cX1_word 71 = .ok (.aaload, 1) := by decide +kernel
theorem dX1_word_72 : decode cX1_word 72 = .ok (.iload_n 2, 1) := by decide +kernel
theorem dX1_word_73 : decode cX1_word 73 = .ok (.aaload, 1) := by decide +kernel
theorem dX1_word_74 : decode cX1_word 74 = .ok (.iload 5, 2) := by decide +kernel
theorem dX1_word_76 : decode cX1_word 76 = .ok (.baload, 1) := by decide +kernel
theorem dX1_word_77 : decode cX1_word 77 = .ok (.ifCond .ne 6, 3) := by decide +kernel
theorem dX1_word_80 : decode cX1_word 80 = .ok (.goto 29, 3) := by decide +kernel
theorem dX1_word_83 : decode cX1_word 83 = .ok (.aload 4, 2) := by decide +kernel
theorem dX1_word_85 : decode cX1_word 85 = .ok (.iconst 3, 1) := by decide +kernel
theorem dX1_word_86 : decode cX1_word 86 = .ok (.dup2, 1) := by decide +kernel
theorem dX1_word_87 : decode cX1_word 87 = .ok (.iaload, 1) := by decide +kernel
theorem dX1_word_88 : decode cX1_word 88 = .ok (.iconst 1, 1) := by decide +kernel
theorem dX1_word_89 : decode cX1_word 89 = .ok (.iadd, 1) := by decide +kernel
theorem dX1_word_90 : decode cX1_word 90 = .ok (.iastore, 1) := by decide +kernel
theorem dX1_word_91 : decode cX1_word 91 = .ok (.aload 4, 2) := by decide +kernel
theorem dX1_word_93 : decode cX1_word 93 = .ok (.iconst 4, 1) := by decide +kernel
theorem dX1_word_94 : decode cX1_word 94 = .ok (.dup2, 1) := by decide +kernel
theorem dX1_word_95 : decode cX1_word 95 = .ok (.iaload, 1) := by decide +kernel
theorem dX1_word_96 : decode cX1_word 96 = .ok (.aload_n 0, 1) := by decide +kernel
theorem dX1_word_97 : decode cX1_word 97 = .ok (.getfield 27, 3) := by decide +kernel
theorem dX1_word_100 : decode cX1_word 100 = .ok (.aload_n 3, 1) := by decide +kernel
theorem dX1_word_101 : decode cX1_word 101 = .ok (.iload 5, 2) := by decide +kernel
theorem dX1_word_103 : decode cX1_word 103 = .ok (.iaload, 1) := by decide +kernel
theorem dX1_word_104 : decode cX1_word 104 = .ok (.invokestatic 31, 3) := by decide +kernel
theorem dX1_word_107 : decode cX1_word 107 = .ok (.iadd, 1) := by decide +kernel
theorem dX1_word_108 : decode cX1_word 108 = .ok (.iastore, 1) := by decide +kernel
theorem dX1_word_109 : decode cX1_word 109 = .ok (.iinc 5 1, 3) := by decide +kernel
theorem dX1_word_112 : decode cX1_word 112 = .ok (.goto (-53), 3) := by decide +kernel
theorem dX1_word_115 : decode cX1_word 115 = .ok (.aload 4, 2) := by decide +kernel
theorem dX1_word_117 : decode cX1_word 117 = .ok (.areturn, 1) := by decide +kernel
set_option maxRecDepth 20000 in
theorem ggX1_line_X1_word : GoodIn wsX1_line wsX1_word := goodIn_r _ [7, 2, 1, 8, 9, 10, 11, 12, 13, 14, 15, 6, 16, 17, 18, 19, 20, 21] (by decide +kernel) (by decide +kernel)
set_option maxRecDepth 20000 in
theorem gX1_line_X1_word : GoodIn wsX1_line (wsV RX1 40 RX1 yX1_word wsX1_word) := goodIn_app (goodIn_of _ (by decide +kernel)) ggX1_line_X1_word
theorem dX1_line_0 : decode cX1_line 0 = .ok (.iconst 5, 1) := by decide +kernel
theorem dX1_line_1 : decode cX1_line 1 = .ok (.newarray .int, 2) := by decide +kernel
theorem dX1_line_3 : decode cX1_line 3 = .ok (.dup, 1) := by decide +kernel
theorem dX1_line_4 : decode cX1_line 4 = .ok (.iconst 0, 1) := by decide +kernel
theorem dX1_line_5 : decode cX1_line 5 = .ok (.aload_n 0, 1) := by decide +kernel
theorem dX1_line_6 : decode cX1_line 6 = .ok (.getfield 9, 3) := by decide +kernel
theorem dX1_line_9 : decode cX1_line 9 = .ok (.iload_n 1, 1) := by decide +kernel
theorem dX1_line_10 : decode cX1_line 10 = .ok (.aaload, 1) := by decide +kernel
theorem dX1_line_11 : decode cX1_line 11 = .ok (.arraylength, 1) := by decide +kernel
theorem dX1_line_12 : decode cX1_line 12 = .ok (.iastore, 1) := by decide +kernel
theorem dX1_line_13 : decode cX1_line 13 = .ok (.dup, 1) := by decide +kernel
theorem dX1_line_14 : decode cX1_line 14 = .ok (.iconst 1, 1) := by decide +kernel
theorem dX1_line_15 : decode cX1_line 15 = .ok (.iconst 0, 1) := by decide +kernel
theorem dX1_line_16 : decode cX1_line 16 = .ok (.iastore, 1) := by decide +kernel
theorem dX1_line_17 : decode cX1_line 17 = .ok (.dup, 1) := by decide +kernel
theorem dX1_line_18 : decode cX1_line 18 = .ok (.iconst 2, 1) := by decide +kernel
theorem dX1_line_19 : decode cX1_line 19 = .ok (.iconst 0, 1) := by decide +kernel
theorem dX1_line_20 : decode cX1_line 20 = .ok (.iastore, 1) := by decide +kernel
theorem dX1_line_21 : decode cX1_line 21 = .ok (.dup, 1) := by decide +kernel
theorem dX1_line_22 : decode cX1_line 22 = .ok (.iconst 3, 1) := by decide +kernel
theorem dX1_line_23 : decode cX1_line 23 = .ok (.iconst 0, 1) := by decide +kernel
theorem dX1_line_24 : decode cX1_line 24 = .ok (.iastore, 1) := by decide +kernel
theorem dX1_line_25 : decode cX1_line 25 = .ok (.dup, 1) := by decide +kernel
theorem dX1_line_26 : decode cX1_line 26 = .ok (.iconst 4, 1) := by decide +kernel
theorem dX1_line_27 : decode cX1_line 27 = .ok (.iconst 0, 1) := by decide +kernel
theorem dX1_line_28 : decode cX1_line 28 = .ok (.iastore, 1) := by decide +kernel
theorem dX1_line_29 : decode cX1_line 29 = .ok (.astore_n 2, 1) := by decide +kernel
theorem dX1_line_30 : decode cX1_line 30 = .ok (.iconst 0, 1) := by decide +kernel
theorem dX1_line_31 : decode cX1_line 31 = .ok (.istore_n 3, 1) := by decide +kernel
theorem dX1_line_32 : decode cX1_line 32 = .ok (.iload_n 3, 1) := by decide +kernel
theorem dX1_line_33 : decode cX1_line 33 = .ok (.aload_n 0, 1) := by decide +kernel
theorem dX1_line_34 : decode cX1_line 34 = .ok (.getfield 9, 3) := by decide +kernel
theorem dX1_line_37 : decode cX1_line 37 = .ok (.iload_n 1, 1) := by decide +kernel
theorem dX1_line_38 : decode cX1_line 38 = .ok (.aaload, 1) := by decide +kernel
theorem dX1_line_39 : decode cX1_line 39 = .ok (.arraylength, 1) := by decide +kernel
theorem dX1_line_40 : decode cX1_line 40 = .ok (.if_icmp .ge 44, 3) := by decide +kernel
theorem dX1_line_43 : decode cX1_line 43 = .ok (.aload_n 0, 1) := by decide +kernel
theorem dX1_line_44 : decode cX1_line 44 = .ok (.iload_n 1, 1) := by decide +kernel
theorem dX1_line_45 : decode cX1_line 45 = .ok (.iload_n 3, 1) := by decide +kernel
theorem dX1_line_46 : decode cX1_line 46 = .ok (.invokevirtual 40, 3) := by decide +kernel
theorem dX1_line_49 : decode cX1_line 49 = .ok (.astore 4, 2) := by decide +kernel
theorem dX1_line_51 : decode cX1_line 51 = .ok (.iconst 1, 1) := by decide +kernel
theorem dX1_line_52 : decode cX1_line 52 = .ok (.istore 5, 2) := by decide +kernel
theorem dX1_line_54 : decode cX1_line 54 = .ok (.iload 5, 2) := by decide +kernel
theorem dX1_line_56 : decode cX1_line 56 = .ok (.iconst 5, 1) := by decide +kernel
theorem dX1_line_57 : decode cX1_line 57 = .ok (.if_icmp .ge 21, 3) := by decide +kernel
theorem dX1_line_60 : decode cX1_line 60 = .ok (.aload_n 2, 1) := by decide +kernel
theorem dX1_line_61 : decode cX1_line 61 = .ok (.iload 5, 2) := by decide +kernel
theorem dX1_line_63 : decode cX1_line 63 = .ok (.dup2, 1) := by decide +kernel
theorem dX1_line_64 : decode cX1_line 64 = .ok (.iaload, 1) := by decide +kernel
theorem dX1_line_65 : decode cX1_line 65 = .ok (.aload 4, 2) := by decide +kernel
theorem dX1_line_67 : decode cX1_line 67 = .ok (.iload 5, 2) := by decide +kernel
theorem dX1_line_69 : decode cX1_line 69 = .ok (.iaload, 1) := by decide +kernel
theorem dX1_line_70 : decode cX1_line 70 = .ok (.iadd, 1) := by decide +kernel
theorem dX1_line_71 : decode cX1_line 71 = .ok (.iastore, 1) := by decide +kernel
theorem dX1_line_72 : decode cX1_line 72 = .ok (.iinc 5 1, 3) := by decide +kernel
theorem dX1_line_75 : decode cX1_line 75 = .ok (.goto (-21), 3) := by decide +kernel
theorem dX1_line_78 : decode cX1_line 78 = .ok (.iinc 3 1, 3) := by decide +kernel
theorem dX1_line_81 : decode cX1_line 81 = .ok (.goto (-49), 3) := by decide +kernel
theorem dX1_line_84 : decode cX1_line 84 = .ok (.aload_n 2, 1) := by decide +kernel
theorem dX1_line_85 : decode cX1_line 85 = .ok (.areturn, 1) := by decide +kernel
set_option maxRecDepth 20000 in
theorem ggX1_isSame_X1_line : GoodIn wsX1_isSame wsX1_line := goodIn_r _ [7, 1, 2, 8, 9, 10, 6, 11, 12, 13, 14, 15, 16, 17, 18, 19, 20, 21, 22, 100, 101, 102] (by decide +kernel) (by decide +kernel)
set_option maxRecDepth 20000 in
theorem gX1_isSame_X1_line : GoodIn wsX1_isSame (wsV RX1 44 RX1 yX1_line wsX1_line) := goodIn_app (goodIn_of _ (by decide +kernel)) ggX1_isSame_X1_line
set_option maxRecDepth 20000 in
theorem ggX1_isSame_X0_line : GoodIn wsX1_isSame wsX0_line := goodIn_ca (goodIn_r _ [27, 28, 29, 30, 26, 31, 32, 33, 34, 35, 36, 37, 38, 39, 40, 41, 42, 43, 44, 45, 46, 47, 48, 49, 50, 51, 52, 53, 54, 55, 56, 57, 58, 59, 60, 61, 62, 63, 64, 65, 66, 67, 68, 69, 70, 103, 104, 105, 106, 107, 108, 109, 110] (by decide +kernel) (by decide +kernel)) (goodIn_sub (fun _ h => List.mem_cons_of_mem _ (List.mem_append_right _ h)) (by decide +kernel))
set_option maxRecDepth 20000 in
theorem gX1_isSame_X0_line : GoodIn wsX1_isSame (wsV RX1 47 RX0 yX0_line wsX0_line) := goodIn_app (goodIn_of _ (by decide +kernel)) ggX1_isSame_X0_line
set_option maxRecDepth 20000 in
theorem ggX1_isSame_X1_word : GoodIn wsX1_isSame wsX1_word := goodIn_r _ [11, 2, 1, 12, 13, 14, 15, 16, 17, 18, 19, 6, 20, 21, 22, 100, 101, 102] (by decide +kernel) (by decide +kernel)
set_option maxRecDepth 20000 in
theorem gX1_isSame_X1_word : GoodIn wsX1_isSame (wsV RX1 40 RX1 yX1_word wsX1_word) := goodIn_app (goodIn_of _ (by decide +kernel)) ggX1_isSame_X1_word
set_option maxRecDepth 20000 in
theorem ggX1_isSame_X0_word : GoodIn wsX1_isSame wsX0_word := goodIn_ca (goodIn_r _ [74, 75, 76, 77, 26, 78, 32, 33, 42, 28, 29, 30, 31, 34, 35, 36, 37, 43, 44, 45, 46, 47, 48, 49, 50, 51, 52, 53, 54, 55, 56, 57, 58, 59, 60, 61, 62, 63, 64, 65, 66, 67, 68, 69, 70, 103, 104, 105, 106, 107, 108, 109, 110] (by decide +kernel) (by decide +kernel)) (goodIn_sub (fun _ h => List.mem_cons_of_mem _ (List.mem_append_right _ h)) (by decide +kernel))
set_option maxRecDepth 20000 in
theorem gX1_isSame_X0_word : GoodIn wsX1_isSame (wsV RX1 51 RX0 yX0_word wsX0_word) := goodIn_app (goodIn_of _ (by decide +kernel)) ggX1_isSame_X0_word
set_option maxRecDepth 20000 in
theorem ggX1_isSame_X0_told : GoodIn wsX1_isSame wsX0_told := goodIn_ca (goodIn_r _ [82, 34, 35, 36, 26, 37, 32, 33, 83, 84, 85, 86, 42, 47, 87, 52, 53, 54, 55, 49, 50, 51, 56, 57, 58, 59, 60, 61, 62, 63, 88, 89, 90, 91, 92, 93, 94, 95, 38, 39, 40, 41, 43, 44, 45, 46, 48, 64, 65, 66, 67, 68, 69, 70, 103, 104, 105, 106, 107, 108, 109, 110] (by decide +kernel) (by decide +kernel)) (goodIn_sub (fun _ h => List.mem_cons_of_mem _ (List.mem_append_right _ h)) (by decide +kernel))
set_option maxRecDepth 20000 in
theorem gX1_isSame_X0_told : GoodIn wsX1_isSame (wsV RX1 54 RX0 yX0_told wsX0_told) := goodIn_app (goodIn_of _ (by decide +kernel)) ggX1_isSame_X0_told
set_option maxRecDepth 20000 in
theorem ggX1_isSame_X0_mean : GoodIn wsX1_isSame wsX0_mean := goodIn_r _ [99, 92, 93, 94, 26, 95, 34, 38, 39, 40, 41, 42, 43, 44, 45, 46, 47, 48, 49, 50, 51, 52, 53, 54, 55, 56, 57, 58, 59, 60, 61, 62, 63, 64, 65, 66, 67, 68, 69, 70, 103, 104, 105, 106, 107, 108, 109, 110] (by decide +kernel) (by decide +kernel)
set_option maxRecDepth 20000 in
theorem gX1_isSame_X0_mean : GoodIn wsX1_isSame (wsV RX1 57 RX0 yX0_mean wsX0_mean) := goodIn_app (goodIn_of _ (by decide +kernel)) ggX1_isSame_X0_mean
theorem dX1_isSame_0 : decode cX1_isSame 0 = .ok (.bipush 7, 2) := by decide +kernel
theorem dX1_isSame_2 : decode cX1_isSame 2 = .ok (.newarray .int, 2) := by decide +kernel
theorem dX1_isSame_4 : decode cX1_isSame 4 = .ok (.dup, 1) := by decide +kernel
theorem dX1_isSame_5 : decode cX1_isSame 5 = .ok (.iconst 0, 1) := by decide +kernel
theorem dX1_isSame_6 : decode cX1_isSame 6 = .ok (.aload_n 0, 1) := by decide +kernel
theorem dX1_isSame_7 : decode cX1_isSame 7 = .ok (.getfield 9, 3) := by decide +kernel
theorem dX1_isSame_10 : decode cX1_isSame 10 = .ok (.arraylength, 1) := by decide +kernel
theorem dX1_isSame_11 : decode cX1_isSame 11 = .ok (.iastore, 1) := by decide +kernel
theorem dX1_isSame_12 : decode cX1_isSame 12 = .ok (.dup, 1) := by decide +kernel
theorem dX1_isSame_13 : decode cX1_isSame 13 = .ok (.iconst 1, 1) := by decide +kernel
theorem dX1_isSame_14 : decode cX1_isSame 14 = .ok (.iconst 0, 1) := by decide +kernel
theorem dX1_isSame_15 : decode cX1_isSame 15 = .ok (.iastore, 1) := by decide +kernel
theorem dX1_isSame_16 : decode cX1_isSame 16 = .ok (.dup, 1) := by decide +kernel
theorem dX1_isSame_17 : decode cX1_isSame 17 = .ok (.iconst 2, 1) := by decide +kernel
theorem dX1_isSame_18 : decode cX1_isSame 18 = .ok (.iconst 0, 1) := by decide +kernel
theorem dX1_isSame_19 : decode cX1_isSame 19 = .ok (.iastore, 1) := by decide +kernel
theorem dX1_isSame_20 : decode cX1_isSame 20 = .ok (.dup, 1) := by decide +kernel
theorem dX1_isSame_21 : decode cX1_isSame 21 = .ok (.iconst 3, 1) := by decide +kernel
theorem dX1_isSame_22 : decode cX1_isSame 22 = .ok (.iconst 0, 1) := by decide +kernel
theorem dX1_isSame_23 : decode cX1_isSame 23 = .ok (.iastore, 1) := by decide +kernel
theorem dX1_isSame_24 : decode cX1_isSame 24 = .ok (.dup, 1) := by decide +kernel
theorem dX1_isSame_25 : decode cX1_isSame 25 = .ok (.iconst 4, 1) := by decide +kernel
theorem dX1_isSame_26 : decode cX1_isSame 26 = .ok (.iconst 0, 1) := by decide +kernel
theorem dX1_isSame_27 : decode cX1_isSame 27 = .ok (.iastore, 1) := by decide +kernel
theorem dX1_isSame_28 : decode cX1_isSame 28 = .ok (.dup, 1) := by decide +kernel
theorem dX1_isSame_29 : decode cX1_isSame 29 = .ok (.iconst 5, 1) := by decide +kernel
theorem dX1_isSame_30 : decode cX1_isSame 30 = .ok (.iconst 0, 1) := by decide +kernel
theorem dX1_isSame_31 : decode cX1_isSame 31 = .ok (.iastore, 1) := by decide +kernel
theorem dX1_isSame_32 : decode cX1_isSame 32 = .ok (.dup, 1) := by decide +kernel
theorem dX1_isSame_33 : decode cX1_isSame 33 = .ok (.bipush 6, 2) := by decide +kernel
theorem dX1_isSame_35 : decode cX1_isSame 35 = .ok (.iconst 0, 1) := by decide +kernel
theorem dX1_isSame_36 : decode cX1_isSame 36 = .ok (.iastore, 1) := by decide +kernel
theorem dX1_isSame_37 : decode cX1_isSame 37 = .ok (.astore_n 2, 1) := by decide +kernel
theorem dX1_isSame_38 : decode cX1_isSame 38 = .ok (.bipush 120, 2) := by decide +kernel
theorem dX1_isSame_40 : decode cX1_isSame 40 = .ok (.newarray .int, 2) := by decide +kernel
theorem dX1_isSame_42 : decode cX1_isSame 42 = .ok (.astore_n 3, 1) := by decide +kernel
theorem dX1_isSame_43 : decode cX1_isSame 43 = .ok (.iconst 0, 1) := by decide +kernel
theorem dX1_isSame_44 : decode cX1_isSame 44 = .ok (.istore 4, 2) := by decide +kernel
theorem dX1_isSame_46 : decode cX1_isSame 46 = .ok (.iconst 0, 1) := by decide +kernel
theorem dX1_isSame_47 : decode cX1_isSame 47 = .ok (.istore 5, 2) := by decide +kernel
theorem dX1_isSame_49 : decode cX1_isSame 49 = .ok (.iload 5, 2) := by decide +kernel
theorem dX1_isSame_51 : decode cX1_isSame 51 = .ok (.aload_n 0, 1) := by decide +kernel
theorem dX1_isSame_52 : decode cX1_isSame 52 = .ok (.getfield 9, 3) := by decide +kernel
theorem dX1_isSame_55 : decode cX1_isSame 55 = .ok (.arraylength, 1) := by decide +kernel
theorem dX1_isSame_56 : decode cX1_isSame 56 = .ok (.if_icmp .ge 181, 3) := by decide +kernel
theorem dX1_isSame_59 : decode cX1_isSame 59 = .ok (.aload_n 0, 1) := by decide +kernel
theorem dX1_isSame_60 : decode cX1_isSame 60 = .ok (.iload 5, 2) := by decide +kernel
theorem dX1_isSame_62 : decode cX1_isSame 62 = .ok (.invokevirtual 44, 3) := by decide +kernel
theorem dX1_isSame_65 : decode cX1_isSame 65 = .ok (.astore 6, 2) := by decide +kernel
theorem dX1_isSame_67 : decode cX1_isSame 67 = .ok (.iconst 0, 1) := by decide +kernel
theorem dX1_isSame_68 : decode cX1_isSame 68 = .ok (.istore 7, 2) := by decide +kernel
theorem dX1_isSame_70 : decode cX1_isSame 70 = .ok (.iload 7, 2) := by decide +kernel
theorem dX1_isSame_72 : decode cX1_isSame 72 = .ok (.iconst 5, 1) := by decide +kernel
theorem dX1_isSame_73 : decode cX1_isSame 73 = .ok (.if_icmp .ge 41, 3) := by decide +kernel
theorem dX1_isSame_76 : decode cX1_isSame 76 = .ok (.aload_n 2, 1) := by decide +kernel
theorem dX1_isSame_77 : decode cX1_isSame 77 = .ok (.iconst 1, 1) := by decide +kernel
theorem dX1_isSame_78 : decode cX1_isSame 78 = .ok (.iload 7, 2) := by decide +kernel
theorem dX1_isSame_80 : decode cX1_isSame 80 = .ok (.iadd, 1) := by decide +kernel
theorem dX1_isSame_81 : decode cX1_isSame 81 = .ok (.dup2, 1) := by decide +kernel
theorem dX1_isSame_82 : decode cX1_isSame 82 = .ok (.iaload, 1) := by decide +kernel
theorem dX1_isSame_83 : decode cX1_isSame 83 = .ok (.aload 6, 2) := by decide +kernel
theorem dX1_isSame_85 : decode cX1_isSame 85 = .ok (.iload 7, 2) := by decide +kernel
theorem dX1_isSame_87 : decode cX1_isSame 87 = .ok (.iaload, 1) := by decide +kernel
theorem dX1_isSame_88 : decode cX1_isSame 88 = .ok (.iadd, 1) := by decide +kernel
theorem dX1_isSame_89 : decode cX1_isSame 89 = .ok (.iastore, 1) := by decide +kernel
theorem dX1_isSame_90 : decode cX1_isSame 90 = .ok (.aload_n 1, 1) := by decide +kernel
theorem dX1_isSame_91 : decode cX1_isSame 91 = .ok (.iload 5, 2) := by decide +kernel
theorem dX1_isSame_93 : decode cX1_isSame 93 = .ok (.iload 7, 2) := by decide +kernel
theorem dX1_isSame_95 : decode cX1_isSame 95 = .ok (.invokevirtual 47, 3) := by decide +kernel
theorem dX1_isSame_98 : decode cX1_isSame 98 = .ok (.aload 6, 2) := by decide +kernel
theorem dX1_isSame_100 : decode cX1_isSame 100 = .ok (.iload 7, 2) := by decide +kernel
theorem dX1_isSame_102 : decode cX1_isSame 102 = .ok (.iaload, 1) := by decide +kernel
theorem dX1_isSame_103 : decode cX1_isSame 103 = .ok (.if_icmp .eq 5, 3) := by decide +kernel
theorem dX1_isSame_106 : decode cX1_isSame 106 = .ok (.iconst 0, 1) := by decide +kernel
theorem dX1_isSame_107 : decode cX1_isSame 107 = .ok (.ireturn, 1) := by decide +kernel
theorem dX1_isSame_108 : decode cX1_isSame 108 = .ok (.iinc 7 1, 3) := by decide +kernel
theorem dX1_isSame_111 : decode cX1_isSame 111 = .ok (.goto (-41), 3) := by decide +kernel
theorem dX1_isSame_114 : decode cX1_isSame 114 = .ok (.iconst 0, 1) := by decide +kernel
theorem dX1_isSame_115 : decode cX1_isSame 115 = .ok (.istore 7, 2) := by decide +kernel
theorem dX1_isSame_117 : decode cX1_isSame 117 = .ok (.iload 7, 2) := by decide +kernel
theorem dX1_isSame_119 : decode cX1_isSame 119 = .ok (.aload_n 0, 1) := by decide +kernel
theorem dX1_isSame_120 : decode cX1_isSame 120 = .ok (.getfield 9, 3) := by decide +kernel
theorem dX1_isSame_123 : decode cX1_isSame 123 = .ok (.iload 5, 2) := by decide +kernel
theorem dX1_isSame_125 : decode cX1_isSame 125 = .ok (.aaload, 1) := by decide +kernel
theorem dX1_isSame_126 : decode cX1_isSame 126 = .ok (.arraylength, 1) := by decide +kernel
theorem dX1_isSame_127 : decode cX1_isSame 127 = .ok (.if_icmp .ge 104, 3) := by decide +kernel
theorem dX1_isSame_130 : decode cX1_isSame 130 = .ok (.aload_n 0, 1) := by decide +kernel
theorem dX1_isSame_131 : decode cX1_isSame 131 = .ok (.iload 5, 2) := by decide +kernel
theorem dX1_isSame_133 : decode cX1_isSame 133 = .ok (.iload 7, 2) := by decide +kernel
theorem dX1_isSame_135 : decode cX1_isSame 135 = .ok (.invokevirtual 40, 3) := by decide +kernel
theorem dX1_isSame_138 : decode cX1_isSame 138 = .ok (.astore 8, 2) := by decide +kernel
theorem dX1_isSame_140 : decode cX1_isSame 140 = .ok (.iconst 0, 1) := by decide +kernel
theorem dX1_isSame_141 : decode cX1_isSame 141 = .ok (.istore 9, 2) := by decide +kernel
theorem dX1_isSame_143 : decode cX1_isSame 143 = .ok (.iload 9, 2) := by decide +kernel
theorem dX1_isSame_145 : decode cX1_isSame 145 = .ok (.iconst 5, 1) := by decide +kernel
theorem dX1_isSame_146 : decode cX1_isSame 146 = .ok (.if_icmp .ge 29, 3) := by decide +kernel
theorem dX1_isSame_149 : decode cX1_isSame 149 = .ok (.aload_n 1, 1) := by decide +kernel
theorem dX1_isSame_150 : decode cX1_isSame 150 = .ok (.iload 5, 2) := by decide +kernel
theorem dX1_isSame_152 : decode cX1_isSame 152 = .ok (.iload 7, 2) := by decide +kernel
theorem dX1_isSame_154 : decode cX1_isSame 154 = .ok (.iload 9, 2) := by decide +kernel
theorem dX1_isSame_156 : decode cX1_isSame 156 = .ok (.invokevirtual 51, 3) := by decide +kernel
theorem dX1_isSame_159 : decode cX1_isSame 159 = .ok (.aload 8, 2) := by decide +kernel
theorem dX1_isSame_161 : decode cX1_isSame 161 = .ok (.iload 9, 2) := by decide +kernel
theorem dX1_isSame_163 : decode cX1_isSame 163 = .ok (.iaload, 1) := by decide +kernel
theorem dX1_isSame_164 : decode cX1_isSame 164 = .ok (.if_icmp .eq 5, 3) := by decide +kernel
theorem dX1_isSame_167 : decode cX1_isSame 167 = .ok (.iconst 0, 1) := by decide +kernel
theorem dX1_isSame_168 : decode cX1_isSame 168 = .ok (.ireturn, 1) := by decide +kernel
theorem dX1_isSame_169 : decode cX1_isSame 169 = .ok (.iinc 9 1, 3) := by decide +kernel
theorem dX1_isSame_172 : decode cX1_isSame 172 = .ok (.goto (-29), 3) := by decide +kernel
theorem dX1_isSame_175 : decode cX1_isSame 175 = .ok (.iconst 0, 1) := by decide +kernel
theorem dX1_isSame_176 : decode cX1_isSame 176 = .ok (.istore 9, 2) := by decide +kernel
theorem dX1_isSame_178 : decode cX1_isSame 178 = .ok (.iload 9, 2) := by decide +kernel
theorem dX1_isSame_180 : decode cX1_isSame 180 = .ok (.iload 4, 2) := by decide +kernel
theorem dX1_isSame_182 : decode cX1_isSame 182 = .ok (.if_icmp .ge 32, 3) := by decide +kernel
theorem dX1_isSame_185 : decode cX1_isSame 185 = .ok (.aload_n 2, 1) := by decide +kernel
theorem dX1_isSame_186 : decode cX1_isSame 186 = .ok (.bipush 6, 2) := by decide +kernel
theorem dX1_isSame_188 : decode cX1_isSame 188 = .ok (.dup2, 1) := by decide +kernel
theorem dX1_isSame_189 : decode cX1_isSame 189 = .ok (.iaload, 1) := by decide +kernel
theorem dX1_isSame_190 : decode cX1_isSame 190 = .ok (.aload_n 3, 1) := by decide +kernel
theorem dX1_isSame_191 : decode cX1_isSame 191 = .ok (.iload 9, 2) := by decide +kernel
theorem dX1_isSame_193 : decode cX1_isSame 193 = .ok (.iaload, 1) := by decide +kernel
theorem dX1_isSame_194 : decode cX1_isSame 194 = .ok (.aload 8, 2) := by decide +kernel
theorem dX1_isSame_196 : decode cX1_isSame 196 = .ok (.iconst 2, 1) := by decide +kernel
theorem dX1_isSame_197 : decode cX1_isSame 197 = .ok (.iaload, 1) := by decide +kernel
theorem dX1_isSame_198 : decode cX1_isSame 198 = .ok (.if_icmp .ne 7, 3) := by decide +kernel
theorem dX1_isSame_201 : decode cX1_isSame 201 = .ok (.iconst 1, 1) := by decide +kernel
theorem dX1_isSame_202 : decode cX1_isSame 202 = .ok (.goto 4, 3) := by decide +kernel
theorem dX1_isSame_205 : decode cX1_isSame 205 = .ok (.iconst 0, 1) := by decide +kernel
theorem dX1_isSame_206 : decode cX1_isSame 206 = .ok (.iadd, 1) := by decide +kernel
theorem dX1_isSame_207 : decode cX1_isSame 207 = .ok (.iastore, 1) := by decide +kernel
theorem dX1_isSame_208 : decode cX1_isSame 208 = .ok (.iinc 9 1, 3) := by decide +kernel
theorem dX1_isSame_211 : decode cX1_isSame 211 = .ok (.goto (-33), 3) := by decide +kernel
theorem dX1_isSame_214 : decode cX1_isSame 214 = .ok (.aload_n 3, 1) := by decide +kernel
theorem dX1_isSame_215 : decode cX1_isSame 215 = .ok (.iload 4, 2) := by decide +kernel
theorem dX1_isSame_217 : decode cX1_isSame 217 = .ok (.aload 8, 2) := by decide +kernel
theorem dX1_isSame_219 : decode cX1_isSame 219 = .ok (.iconst 2, 1) := by decide +kernel
theorem dX1_isSame_220 : decode cX1_isSame 220 = .ok (.iaload, 1) := by decide +kernel
theorem dX1_isSame_221 : decode cX1_isSame 221 = .ok (.iastore, 1) := by decide +kernel
theorem dX1_isSame_222 : decode cX1_isSame 222 = .ok (.iinc 4 1, 3) := by decide +kernel
theorem dX1_isSame_225 : decode cX1_isSame 225 = .ok (.iinc 7 1, 3) := by decide +kernel
theorem dX1_isSame_228 : decode cX1_isSame 228 = .ok (.goto (-111), 3) := by decide +kernel
theorem dX1_isSame_231 : decode cX1_isSame 231 = .ok (.iinc 5 1, 3) := by decide +kernel
theorem dX1_isSame_234 : decode cX1_isSame 234 = .ok (.goto (-185), 3) := by decide +kernel
theorem dX1_isSame_237 : decode cX1_isSame 237 = .ok (.iconst 0, 1) := by decide +kernel
theorem dX1_isSame_238 : decode cX1_isSame 238 = .ok (.istore 5, 2) := by decide +kernel
theorem dX1_isSame_240 : decode cX1_isSame 240 = .ok (.iload 5, 2) := by decide +kernel
theorem dX1_isSame_242 : decode cX1_isSame 242 = .ok (.bipush 7, 2) := by decide +kernel
theorem dX1_isSame_244 : decode cX1_isSame 244 = .ok (.if_icmp .ge 24, 3) := by decide +kernel
theorem dX1_isSame_247 : decode cX1_isSame 247 = .ok (.aload_n 1, 1) := by decide +kernel
theorem dX1_isSame_248 : decode cX1_isSame 248 = .ok (.iload 5, 2) := by decide +kernel
theorem dX1_isSame_250 : decode cX1_isSame 250 = .ok (.invokevirtual 54, 3) := by decide +kernel
theorem dX1_isSame_253 : decode cX1_isSame 253 = .ok (.aload_n 2, 1) := by decide +kernel
theorem dX1_isSame_254 : decode cX1_isSame 254 = .ok (.iload 5, 2) := by decide +kernel
theorem dX1_isSame_256 : decode cX1_isSame 256 = .ok (.iaload, 1) := by decide +kernel
theorem dX1_isSame_257 : decode cX1_isSame 257 = .ok (.if_icmp .eq 5, 3) := by decide +kernel
theorem dX1_isSame_260 : decode cX1_isSame 260 = .ok (.iconst 0, 1) := by decide +kernel
theorem dX1_isSame_261 : decode cX1_isSame 261 = .ok (.ireturn, 1) := by decide +kernel
theorem dX1_isSame_262 : decode cX1_isSame 262 = .ok (.iinc 5 1, 3) := by decide +kernel
theorem dX1_isSame_265 : decode cX1_isSame 265 = .ok (.goto (-25), 3) := by decide +kernel
theorem dX1_isSame_268 : decode cX1_isSame 268 = .ok (.aload_n 1, 1) := by decide +kernel
theorem dX1_isSame_269 : decode cX1_isSame 269 = .ok (.invokevirtual 57, 3) := by decide +kernel
theorem dX1_isSame_272 : decode cX1_isSame 272 = .ok (.aload_n 2, 1) := by decide +kernel
theorem dX1_isSame_273 : decode cX1_isSame 273 = .ok (.iconst 1, 1) := by decide +kernel
theorem dX1_isSame_274 : decode cX1_isSame 274 = .ok (.iaload, 1) := by decide +kernel
theorem dX1_isSame_275 : decode cX1_isSame 275 = .ok (.ifCond .ne 7, 3) := by decide +kernel
theorem dX1_isSame_278 : decode cX1_isSame 278 = .ok (.dconst 0, 1) := by decide +kernel
theorem dX1_isSame_279 : decode cX1_isSame 279 = .ok (.goto 12, 3) := by decide +kernel
theorem dX1_isSame_282 : decode cX1_isSame 282 = .ok (.aload_n 2, 1) := by decide +kernel
theorem dX1_isSame_283 : decode cX1_isSame 283 = .ok (.iconst 3, 1) := by decide +kernel
theorem dX1_isSame_284 : decode cX1_isSame 284 = .ok (.iaload, 1) := by decide +kernel
theorem dX1_isSame_285 : decode cX1_isSame 285 = .ok (.i2d, 1) := by decide +kernel
theorem dX1_isSame_286 : decode cX1_isSame 286 = .ok (.aload_n 2, 1) := by decide +kernel
theorem dX1_isSame_287 : decode cX1_isSame 287 = .ok (.iconst 1, 1) := by decide +kernel
theorem dX1_isSame_288 : decode cX1_isSame 288 = .ok (.iaload, 1) := by decide +kernel
theorem dX1_isSame_289 : decode cX1_isSame 289 = .ok (.i2d, 1) := by decide +kernel
theorem dX1_isSame_290 : decode cX1_isSame 290 = .ok (.ddiv, 1) := by decide +kernel
theorem dX1_isSame_291 : decode cX1_isSame 291 = .ok (.dcmp .l, 1) := by decide +kernel
theorem dX1_isSame_292 : decode cX1_isSame 292 = .ok (.ifCond .ne 7, 3) := by decide +kernel
theorem dX1_isSame_295 : decode cX1_isSame 295 = .ok (.iconst 1, 1) := by decide +kernel
theorem dX1_isSame_296 : decode cX1_isSame 296 = .ok (.goto 4, 3) := by decide +kernel
theorem dX1_isSame_299 : decode cX1_isSame 299 = .ok (.iconst 0, 1) := by decide +kernel
theorem dX1_isSame_300 : decode cX1_isSame 300 = .ok (.ireturn, 1) := by decide +kernel
end
section
theorem dJ6_bitCount_0f7a4_0 : decode cJ6_bitCount_0f7a4 0 = .ok (.iload_n 0, 1) := by decide +kernel
theorem dJ6_bitCount_0f7a4_1 : decode cJ6_bitCount_0f7a4 1 = .ok (.iload_n 0, 1) := by decide +kernel
theorem dJ6_bitCount_0f7a4_2 : decode cJ6_bitCount_0f7a4 2 = .ok (.iconst 1, 1) := by decide +kernel
theorem dJ6_bitCount_0f7a4_3 : decode cJ6_bitCount_0f7a4 3 = .ok (.iushr, 1) := by decide +kernel
theorem dJ6_bitCount_0f7a4_4 : decode cJ6_bitCount_0f7a4 4 = .ok (.ldc_w 265, 3) := by decide +kernel
theorem dJ6_bitCount_0f7a4_7 : decode cJ6_bitCount_0f7a4 7 = .ok (.iand, 1) := by decide +kernel
theorem dJ6_bitCount_0f7a4_8 : decode cJ6_bitCount_0f7a4 8 = .ok (.isub, 1) := by decide +kernel
theorem dJ6_bitCount_0f7a4_9 : decode cJ6_bitCount_0f7a4 9 = .ok (.istore_n 0, 1) := by decide +kernel
theorem dJ6_bitCount_0f7a4_10 : decode cJ6_bitCount_0f7a4 10 = .ok (.iload_n 0, 1) := by decide +kernel
theorem dJ6_bitCount_0f7a4_11 : decode cJ6_bitCount_0f7a4 11 = .ok (.ldc_w 266, 3) := by decide +kernel
theorem dJ6_bitCount_0f7a4_14 : decode cJ6_bitCount_0f7a4 14 = .ok (.iand, 1) := by decide +kernel
theorem dJ6_bitCount_0f7a4_15 : decode cJ6_bitCount_0f7a4 15 = .ok (.iload_n 0, 1) := by decide +kernel
theorem dJ6_bitCount_0f7a4_16 : decode cJ6_bitCount_0f7a4 16 = .ok (.iconst 2, 1) := by decide +kernel
theorem dJ6_bitCount_0f7a4_17 : decode cJ6_bitCount_0f7a4 17 = .ok (.iushr, 1) := by decide +kernel
theorem dJ6_bitCount_0f7a4_18 : decode cJ6_bitCount_0f7a4 18 = .ok (.ldc_w 266, 3) := by decide +kernel
theorem dJ6_bitCount_0f7a4_21 : decode cJ6_bitCount_0f7a4 21 = .ok (.iand, 1) := by decide +kernel
theorem dJ6_bitCount_0f7a4_22 : decode cJ6_bitCount_0f7a4 22 = .ok (.iadd, 1) := by decide +kernel
theorem dJ6_bitCount_0f7a4_23 : decode cJ6_bitCount_0f7a4 23 = .ok (.istore_n 0, 1) := by decide +kernel
theorem dJ6_bitCount_0f7a4_24 : decode cJ6_bitCount_0f7a4 24 = .ok (.iload_n 0, 1) := by decide +kernel
theorem dJ6_bitCount_0f7a4_25 : decode cJ6_bitCount_0f7a4 25 = .ok (.iload_n 0, 1) := by decide +kernel
theorem dJ6_bitCount_0f7a4_26 : decode cJ6_bitCount_0f7a4 26 = .ok (.iconst 4, 1) := by decide +kernel
theorem dJ6_bitCount_0f7a4_27 : decode cJ6_bitCount_0f7a4 27 = .ok (.iushr, 1) := by decide +kernel
theorem dJ6_bitCount_0f7a4_28 : decode cJ6_bitCount_0f7a4 28 = .ok (.iadd, 1) := by decide +kernel
theorem dJ6_bitCount_0f7a4_29 : decode cJ6_bitCount_0f7a4 29 = .ok (.ldc_w 267, 3) := by decide +kernel
theorem dJ6_bitCount_0f7a4_32 : decode cJ6_bitCount_0f7a4 32 = .ok (.iand, 1) := by decide +kernel
theorem dJ6_bitCount_0f7a4_33 : decode cJ6_bitCount_0f7a4 33 = .ok (.istore_n 0, 1) := by decide +kernel
theorem dJ6_bitCount_0f7a4_34 : decode cJ6_bitCount_0f7a4 34 = .ok (.iload_n 0, 1) := by decide +kernel
theorem dJ6_bitCount_0f7a4_35 : decode cJ6_bitCount_0f7a4 35 = .ok (.iload_n 0, 1) := by decide +kernel
theorem dJ6_bitCount_0f7a4_36 : decode cJ6_bitCount_0f7a4 36 = .ok (.bipush 8, 2) := by decide +kernel
theorem dJ6_bitCount_0f7a4_38 : decode cJ6_bitCount_0f7a4 38 = .ok (.iushr, 1) := by decide +kernel
theorem dJ6_bitCount_0f7a4_39 : decode cJ6_bitCount_0f7a4 39 = .ok (.iadd, 1) := by decide +kernel
theorem dJ6_bitCount_0f7a4_40 : decode cJ6_bitCount_0f7a4 40 = .ok (.istore_n 0, 1) := by decide +kernel
theorem dJ6_bitCount_0f7a4_41 : decode cJ6_bitCount_0f7a4 41 = .ok (.iload_n 0, 1) := by decide +kernel
theorem dJ6_bitCount_0f7a4_42 : decode cJ6_bitCount_0f7a4 42 = .ok (.iload_n 0, 1) := by decide +kernel
theorem dJ6_bitCount_0f7a4_43 : decode cJ6_bitCount_0f7a4 43 = .ok (.bipush 16, 2) := by decide +kernel
theorem dJ6_bitCount_0f7a4_45 : decode cJ6_bitCount_0f7a4 45 = .ok (.iushr, 1) := by decide +kernel
theorem dJ6_bitCount_0f7a4_46 : decode cJ6_bitCount_0f7a4 46 = .ok (.iadd, 1) := by decide +kernel
theorem dJ6_bitCount_0f7a4_47 : decode cJ6_bitCount_0f7a4 47 = .ok (.istore_n 0, 1) := by decide +kernel
theorem dJ6_bitCount_0f7a4_48 : decode cJ6_bitCount_0f7a4 48 = .ok (.iload_n 0, 1) := by decide +kernel
theorem dJ6_bitCount_0f7a4_49 : decode cJ6_bitCount_0f7a4 49 = .ok (.bipush 63, 2) := by decide +kernel
theorem dJ6_bitCount_0f7a4_51 : decode cJ6_bitCount_0f7a4 51 = .ok (.iand, 1) := by decide +kernel
theorem dJ6_bitCount_0f7a4_52 : decode cJ6_bitCount_0f7a4 52 = .ok (.ireturn, 1) := by decide +kernel
theorem dJ9_abs_0f7a4_0 : decode cJ9_abs_0f7a4 0 = .ok (.iload_n 0, 1) := by decide +kernel
theorem dJ9_abs_0f7a4_1 : decode cJ9_abs_0f7a4 1 = .ok (.ifCond .ge 8, 3) := by decide +kernel
theorem dJ9_abs_0f7a4_4 : decode cJ9_abs_0f7a4 4 = .ok (.iload_n 0, 1) := by decide +kernel
theorem dJ9_abs_0f7a4_5 : decode cJ9_abs_0f7a4 5 = .ok (.ineg, 1) := by decide +kernel
theorem dJ9_abs_0f7a4_6 : decode cJ9_abs_0f7a4 6 = .ok (.goto 4, 3) := by decide +kernel
theorem dJ9_abs_0f7a4_9 : decode cJ9_abs_0f7a4 9 = .ok (.iload_n 0, 1) := by decide +kernel
theorem dJ9_abs_0f7a4_10 : decode cJ9_abs_0f7a4 10 = .ok (.ireturn, 1) := by decide +kernel
theorem dJ9_abs_067f4_0 : decode cJ9_abs_067f4 0 = .ok (.lload_n 0, 1) := by decide +kernel
theorem dJ9_abs_067f4_1 : decode cJ9_abs_067f4 1 = .ok (.lconst 0, 1) := by decide +kernel
theorem dJ9_abs_067f4_2 : decode cJ9_abs_067f4 2 = .ok (.lcmp, 1) := by decide +kernel
theorem dJ9_abs_067f4_3 : decode cJ9_abs_067f4 3 = .ok (.ifCond .ge 8, 3) := by decide +kernel
theorem dJ9_abs_067f4_6 : decode cJ9_abs_067f4 6 = .ok (.lload_n 0, 1) := by decide +kernel
theorem dJ9_abs_067f4_7 : decode cJ9_abs_067f4 7 = .ok (.lneg, 1) := by decide +kernel
theorem dJ9_abs_067f4_8 : decode cJ9_abs_067f4 8 = .ok (.goto 4, 3) := by decide +kernel
theorem dJ9_abs_067f4_11 : decode cJ9_abs_067f4 11 = .ok (.lload_n 0, 1) := by decide +kernel
theorem dJ9_abs_067f4_12 : decode cJ9_abs_067f4 12 = .ok (.lreturn, 1) := by decide +kernel
theorem dL_below_0 : decode cL_below 0 = .ok (.iload_n 0, 1) := by decide +kernel
theorem dL_below_1 : decode cL_below 1 = .ok (.ldc 7, 2) := by decide +kernel
theorem dL_below_3 : decode cL_below 3 = .ok (.iand, 1) := by decide +kernel
theorem dL_below_4 : decode cL_below 4 = .ok (.iload_n 1, 1) := by decide +kernel
theorem dL_below_5 : decode cL_below 5 = .ok (.irem, 1) := by decide +kernel
theorem dL_below_6 : decode cL_below 6 = .ok (.ireturn, 1) := by decide +kernel
theorem dL_cell_0 : decode cL_cell 0 = .ok (.iload_n 1, 1) := by decide +kernel
theorem dL_cell_1 : decode cL_cell 1 = .ok (.aload_n 0, 1) := by decide +kernel
theorem dL_cell_2 : decode cL_cell 2 = .ok (.arraylength, 1) := by decide +kernel
theorem dL_cell_3 : decode cL_cell 3 = .ok (.if_icmp .ge 9, 3) := by decide +kernel
theorem dL_cell_6 : decode cL_cell 6 = .ok (.aload_n 0, 1) := by decide +kernel
theorem dL_cell_7 : decode cL_cell 7 = .ok (.iload_n 1, 1) := by decide +kernel
theorem dL_cell_8 : decode cL_cell 8 = .ok (.iaload, 1) := by decide +kernel
theorem dL_cell_9 : decode cL_cell 9 = .ok (.goto 9, 3) := by decide +kernel
theorem dL_cell_12 : decode cL_cell 12 = .ok (.ldc 8, 2) := by decide +kernel
theorem dL_cell_14 : decode cL_cell 14 = .ok (.iload_n 1, 1) := by decide +kernel
theorem dL_cell_15 : decode cL_cell 15 = .ok (.iconst 3, 1) := by decide +kernel
theorem dL_cell_16 : decode cL_cell 16 = .ok (.iadd, 1) := by decide +kernel
theorem dL_cell_17 : decode cL_cell 17 = .ok (.imul, 1) := by decide +kernel
theorem dL_cell_18 : decode cL_cell 18 = .ok (.ireturn, 1) := by decide +kernel
theorem dL_value_0 : decode cL_value 0 = .ok (.iload_n 0, 1) := by decide +kernel
theorem dL_value_1 : decode cL_value 1 = .ok (.iconst 1, 1) := by decide +kernel
theorem dL_value_2 : decode cL_value 2 = .ok (.if_icmp .ne 5, 3) := by decide +kernel
theorem dL_value_5 : decode cL_value 5 = .ok (.iload_n 1, 1) := by decide +kernel
theorem dL_value_6 : decode cL_value 6 = .ok (.ireturn, 1) := by decide +kernel
theorem dL_value_7 : decode cL_value 7 = .ok (.iload_n 0, 1) := by decide +kernel
theorem dL_value_8 : decode cL_value 8 = .ok (.iconst 2, 1) := by decide +kernel
theorem dL_value_9 : decode cL_value 9 = .ok (.if_icmp .ne 15, 3) := by decide +kernel
theorem dL_value_12 : decode cL_value 12 = .ok (.bipush 7, 2) := by decide +kernel
theorem dL_value_14 : decode cL_value 14 = .ok (.iload_n 1, 1) := by decide +kernel
theorem dL_value_15 : decode cL_value 15 = .ok (.imul, 1) := by decide +kernel
theorem dL_value_16 : decode cL_value 16 = .ok (.iload_n 1, 1) := by decide +kernel
theorem dL_value_17 : decode cL_value 17 = .ok (.imul, 1) := by decide +kernel
theorem dL_value_18 : decode cL_value 18 = .ok (.bipush 101, 2) := by decide +kernel
theorem dL_value_20 : decode cL_value 20 = .ok (.irem, 1) := by decide +kernel
theorem dL_value_21 : decode cL_value 21 = .ok (.iconst 1, 1) := by decide +kernel
theorem dL_value_22 : decode cL_value 22 = .ok (.iadd, 1) := by decide +kernel
theorem dL_value_23 : decode cL_value 23 = .ok (.ireturn, 1) := by decide +kernel
theorem dL_value_24 : decode cL_value 24 = .ok (.iload_n 1, 1) := by decide +kernel
theorem dL_value_25 : decode cL_value 25 = .ok (.istore_n 2, 1) := by decide +kernel
theorem dL_value_26 : decode cL_value 26 = .ok (.iconst 1, 1) := by decide +kernel
theorem dL_value_27 : decode cL_value 27 = .ok (.istore_n 3, 1) := by decide +kernel
theorem dL_value_28 : decode cL_value 28 = .ok (.iload_n 2, 1) := by decide +kernel
theorem dL_value_29 : decode cL_value 29 = .ok (.bipush 9, 2) := by decide +kernel
theorem dL_value_31 : decode cL_value 31 = .ok (.if_icmp .le 14, 3) := by decide +kernel
theorem dL_value_34 : decode cL_value 34 = .ok (.iinc 2 (-9), 3) := by decide +kernel
theorem dL_value_37 : decode cL_value 37 = .ok (.iload_n 3, 1) := by decide +kernel
theorem dL_value_38 : decode cL_value 38 = .ok (.bipush 10, 2) := by decide +kernel
theorem dL_value_40 : decode cL_value 40 = .ok (.imul, 1) := by decide +kernel
theorem dL_value_41 : decode cL_value 41 = .ok (.istore_n 3, 1) := by decide +kernel
theorem dL_value_42 : decode cL_value 42 = .ok (.goto (-14), 3) := by decide +kernel
theorem dL_value_45 : decode cL_value 45 = .ok (.iload_n 2, 1) := by decide +kernel
theorem dL_value_46 : decode cL_value 46 = .ok (.iload_n 3, 1) := by decide +kernel
theorem dL_value_47 : decode cL_value 47 = .ok (.imul, 1) := by decide +kernel
theorem dL_value_48 : decode cL_value 48 = .ok (.ireturn, 1) := by decide +kernel
theorem dL_letters_0 : decode cL_letters 0 = .ok (.iconst 0, 1) := by decide +kernel
theorem dL_letters_1 : decode cL_letters 1 = .ok (.istore_n 1, 1) := by decide +kernel
theorem dL_letters_2 : decode cL_letters 2 = .ok (.iload_n 0, 1) := by decide +kernel
theorem dL_letters_3 : decode cL_letters 3 = .ok (.istore_n 2, 1) := by decide +kernel
theorem dL_letters_4 : decode cL_letters 4 = .ok (.iload_n 2, 1) := by decide +kernel
theorem dL_letters_5 : decode cL_letters 5 = .ok (.ifCond .le 14, 3) := by decide +kernel
theorem dL_letters_8 : decode cL_letters 8 = .ok (.iinc 1 1, 3) := by decide +kernel
theorem dL_letters_11 : decode cL_letters 11 = .ok (.iload_n 2, 1) := by decide +kernel
theorem dL_letters_12 : decode cL_letters 12 = .ok (.bipush 27, 2) := by decide +kernel
theorem dL_letters_14 : decode cL_letters 14 = .ok (.idiv, 1) := by decide +kernel
theorem dL_letters_15 : decode cL_letters 15 = .ok (.istore_n 2, 1) := by decide +kernel
theorem dL_letters_16 : decode cL_letters 16 = .ok (.goto (-12), 3) := by decide +kernel
theorem dL_letters_19 : decode cL_letters 19 = .ok (.iload_n 1, 1) := by decide +kernel
theorem dL_letters_20 : decode cL_letters 20 = .ok (.newarray .int, 2) := by decide +kernel
theorem dL_letters_22 : decode cL_letters 22 = .ok (.astore_n 2, 1) := by decide +kernel
theorem dL_letters_23 : decode cL_letters 23 = .ok (.iload_n 0, 1) := by decide +kernel
theorem dL_letters_24 : decode cL_letters 24 = .ok (.istore_n 3, 1) := by decide +kernel
theorem dL_letters_25 : decode cL_letters 25 = .ok (.iload_n 3, 1) := by decide +kernel
theorem dL_letters_26 : decode cL_letters 26 = .ok (.ifCond .le 21, 3) := by decide +kernel
theorem dL_letters_29 : decode cL_letters 29 = .ok (.iinc 1 (-1), 3) := by decide +kernel
theorem dL_letters_32 : decode cL_letters 32 = .ok (.aload_n 2, 1) := by decide +kernel
theorem dL_letters_33 : decode cL_letters 33 = .ok (.iload_n 1, 1) := by decide +kernel
theorem dL_letters_34 : decode cL_letters 34 = .ok (.iload_n 3, 1) := by decide +kernel
theorem dL_letters_35 : decode cL_letters 35 = .ok (.bipush 27, 2) := by decide +kernel
theorem dL_letters_37 : decode cL_letters 37 = .ok (.irem, 1) := by decide +kernel
theorem dL_letters_38 : decode cL_letters 38 = .ok (.iastore, 1) := by decide +kernel
theorem dL_letters_39 : decode cL_letters 39 = .ok (.iload_n 3, 1) := by decide +kernel
theorem dL_letters_40 : decode cL_letters 40 = .ok (.bipush 27, 2) := by decide +kernel
theorem dL_letters_42 : decode cL_letters 42 = .ok (.idiv, 1) := by decide +kernel
theorem dL_letters_43 : decode cL_letters 43 = .ok (.istore_n 3, 1) := by decide +kernel
theorem dL_letters_44 : decode cL_letters 44 = .ok (.goto (-19), 3) := by decide +kernel
theorem dL_letters_47 : decode cL_letters 47 = .ok (.aload_n 2, 1) := by decide +kernel
theorem dL_letters_48 : decode cL_letters 48 = .ok (.areturn, 1) := by decide +kernel
set_option maxRecDepth 20000 in
theorem ggL_word_L_below : GoodIn wsL_word wsL_below := goodIn_r _ [4, 5] (by decide +kernel) (by decide +kernel)
set_option maxRecDepth 20000 in
theorem gL_word_L_below : GoodIn wsL_word (va_wsS RL 9 yL_below wsL_below) := goodIn_app (goodIn_of _ (by decide +kernel)) ggL_word_L_below
theorem dL_word_0 : decode cL_word 0 = .ok (.iconst 0, 1) := by decide +kernel
theorem dL_word_1 : decode cL_word 1 = .ok (.istore_n 1, 1) := by decide +kernel
theorem dL_word_2 : decode cL_word 2 = .ok (.iconst 1, 1) := by decide +kernel
theorem dL_word_3 : decode cL_word 3 = .ok (.iload_n 0, 1) := by decide +kernel
theorem dL_word_4 : decode cL_word 4 = .ok (.bipush 8, 2) := by decide +kernel
theorem dL_word_6 : decode cL_word 6 = .ok (.ishr, 1) := by decide +kernel
theorem dL_word_7 : decode cL_word 7 = .ok (.iload_n 0, 1) := by decide +kernel
theorem dL_word_8 : decode cL_word 8 = .ok (.bipush 6, 2) := by decide +kernel
theorem dL_word_10 : decode cL_word 10 = .ok (.ishr, 1) := by decide +kernel
theorem dL_word_11 : decode cL_word 11 = .ok (.iconst 2, 1) := by decide +kernel
theorem dL_word_12 : decode cL_word 12 = .ok (.invokestatic 9, 3) := by decide +kernel
theorem dL_word_15 : decode cL_word 15 = .ok (.ifCond .ne 8, 3) := by decide +kernel
theorem dL_word_18 : decode cL_word 18 = .ok (.bipush 6, 2) := by decide +kernel
theorem dL_word_20 : decode cL_word 20 = .ok (.goto 4, 3) := by decide +kernel
theorem dL_word_23 : decode cL_word 23 = .ok (.iconst 2, 1) := by decide +kernel
theorem dL_word_24 : decode cL_word 24 = .ok (.invokestatic 9, 3) := by decide +kernel
theorem dL_word_27 : decode cL_word 27 = .ok (.iadd, 1) := by decide +kernel
theorem dL_word_28 : decode cL_word 28 = .ok (.istore_n 2, 1) := by decide +kernel
theorem dL_word_29 : decode cL_word 29 = .ok (.iconst 0, 1) := by decide +kernel
theorem dL_word_30 : decode cL_word 30 = .ok (.istore_n 3, 1) := by decide +kernel
theorem dL_word_31 : decode cL_word 31 = .ok (.iload_n 3, 1) := by decide +kernel
theorem dL_word_32 : decode cL_word 32 = .ok (.iload_n 2, 1) := by decide +kernel
theorem dL_word_33 : decode cL_word 33 = .ok (.if_icmp .ge 47, 3) := by decide +kernel
theorem dL_word_36 : decode cL_word 36 = .ok (.bipush 27, 2) := by decide +kernel
theorem dL_word_38 : decode cL_word 38 = .ok (.iload_n 1, 1) := by decide +kernel
theorem dL_word_39 : decode cL_word 39 = .ok (.imul, 1) := by decide +kernel
theorem dL_word_40 : decode cL_word 40 = .ok (.iconst 1, 1) := by decide +kernel
theorem dL_word_41 : decode cL_word 41 = .ok (.iadd, 1) := by decide +kernel
theorem dL_word_42 : decode cL_word 42 = .ok (.iload_n 0, 1) := by decide +kernel
theorem dL_word_43 : decode cL_word 43 = .ok (.iconst 3, 1) := by decide +kernel
theorem dL_word_44 : decode cL_word 44 = .ok (.iload_n 3, 1) := by decide +kernel
theorem dL_word_45 : decode cL_word 45 = .ok (.imul, 1) := by decide +kernel
theorem dL_word_46 : decode cL_word 46 = .ok (.ishr, 1) := by decide +kernel
theorem dL_word_47 : decode cL_word 47 = .ok (.iconst 5, 1) := by decide +kernel
theorem dL_word_48 : decode cL_word 48 = .ok (.iload_n 3, 1) := by decide +kernel
theorem dL_word_49 : decode cL_word 49 = .ok (.imul, 1) := by decide +kernel
theorem dL_word_50 : decode cL_word 50 = .ok (.iadd, 1) := by decide +kernel
theorem dL_word_51 : decode cL_word 51 = .ok (.iload_n 0, 1) := by decide +kernel
theorem dL_word_52 : decode cL_word 52 = .ok (.bipush 7, 2) := by decide +kernel
theorem dL_word_54 : decode cL_word 54 = .ok (.ishr, 1) := by decide +kernel
theorem dL_word_55 : decode cL_word 55 = .ok (.iconst 2, 1) := by decide +kernel
theorem dL_word_56 : decode cL_word 56 = .ok (.invokestatic 9, 3) := by decide +kernel
theorem dL_word_59 : decode cL_word 59 = .ok (.ifCond .ne 8, 3) := by decide +kernel
theorem dL_word_62 : decode cL_word 62 = .ok (.bipush 26, 2) := by decide +kernel
theorem dL_word_64 : decode cL_word 64 = .ok (.goto 5, 3) := by decide +kernel
theorem dL_word_67 : decode cL_word 67 = .ok (.bipush 9, 2) := by decide +kernel
theorem dL_word_69 : decode cL_word 69 = .ok (.invokestatic 9, 3) := by decide +kernel
theorem dL_word_72 : decode cL_word 72 = .ok (.iadd, 1) := by decide +kernel
theorem dL_word_73 : decode cL_word 73 = .ok (.istore_n 1, 1) := by decide +kernel
theorem dL_word_74 : decode cL_word 74 = .ok (.iinc 3 1, 3) := by decide +kernel
theorem dL_word_77 : decode cL_word 77 = .ok (.goto (-46), 3) := by decide +kernel
theorem dL_word_80 : decode cL_word 80 = .ok (.iload_n 1, 1) := by decide +kernel
theorem dL_word_81 : decode cL_word 81 = .ok (.ireturn, 1) := by decide +kernel
set_option maxRecDepth 20000 in
theorem ggL_act_L_below : GoodIn wsL_act wsL_below := goodIn_r _ [7, 8] (by decide +kernel) (by decide +kernel)
set_option maxRecDepth 20000 in
theorem gL_act_L_below : GoodIn wsL_act (va_wsS RL 9 yL_below wsL_below) := goodIn_app (goodIn_of _ (by decide +kernel)) ggL_act_L_below
set_option maxRecDepth 20000 in
theorem ggL_act_X1_write : GoodIn wsL_act wsX1_write := goodIn_r _ [13, 14, 15, 16, 17, 18, 86, 87, 88] (by decide +kernel) (by decide +kernel)
set_option maxRecDepth 20000 in
theorem gL_act_X1_write : GoodIn wsL_act (wsV RL 21 RX1 yX1_write wsX1_write) := goodIn_app (goodIn_of _ (by decide +kernel)) ggL_act_X1_write
set_option maxRecDepth 20000 in
theorem ggL_act_X0_write : GoodIn wsL_act wsX0_write := goodIn_ca (goodIn_r _ [23, 24, 25, 26, 89, 90, 91, 92, 93, 94, 95, 96] (by decide +kernel) (by decide +kernel)) (goodIn_sub (fun _ h => List.mem_cons_of_mem _ (List.mem_append_left _ (List.mem_append_left _ (List.mem_append_right _ h)))) (by decide +kernel))
set_option maxRecDepth 20000 in
theorem gL_act_X0_write : GoodIn wsL_act (wsV RL 24 RX0 yX0_write wsX0_write) := goodIn_app (goodIn_of _ (by decide +kernel)) ggL_act_X0_write
set_option maxRecDepth 20000 in
theorem ggL_act_X0_count : GoodIn wsL_act wsX0_count := goodIn_ca (goodIn_r _ [30, 31, 32, 33, 89, 90, 91, 92, 93, 94, 95, 96] (by decide +kernel) (by decide +kernel)) (goodIn_sub (fun _ h => List.mem_cons_of_mem _ (List.mem_append_left _ (List.mem_append_right _ h))) (by decide +kernel))
set_option maxRecDepth 20000 in
theorem gL_act_X0_count : GoodIn wsL_act (wsV RL 33 RX0 yX0_count wsX0_count) := goodIn_app (goodIn_of _ (by decide +kernel)) ggL_act_X0_count
set_option maxRecDepth 20000 in
theorem ggL_act_X0_cut : GoodIn wsL_act wsX0_cut := goodIn_ca (goodIn_ca (goodIn_r _ [37, 24, 25, 38, 39, 40, 41, 42, 22, 43, 31, 32, 26, 89, 90, 91, 92, 93, 94, 95, 96] (by decide +kernel) (by decide +kernel)) (goodIn_sub (fun _ h => List.mem_cons_of_mem _ (List.mem_append_left _ (List.mem_append_left _ (List.mem_append_right _ h)))) (by decide +kernel))) (goodIn_sub (fun _ h => List.mem_cons_of_mem _ (List.mem_append_left _ (List.mem_append_right _ h))) (by decide +kernel))
set_option maxRecDepth 20000 in
theorem gL_act_X0_cut : GoodIn wsL_act (wsV RL 37 RX0 yX0_cut wsX0_cut) := goodIn_app (goodIn_of _ (by decide +kernel)) ggL_act_X0_cut
set_option maxRecDepth 20000 in
theorem ggL_act_X1_cut : GoodIn wsL_act wsX1_cut := goodIn_r _ [47, 14, 17, 18, 16, 86, 87, 88] (by decide +kernel) (by decide +kernel)
set_option maxRecDepth 20000 in
theorem gL_act_X1_cut : GoodIn wsL_act (wsV RL 40 RX1 yX1_cut wsX1_cut) := goodIn_app (goodIn_of _ (by decide +kernel)) ggL_act_X1_cut
set_option maxRecDepth 20000 in
theorem ggL_act_X0_mark : GoodIn wsL_act wsX0_mark := goodIn_ca (goodIn_r _ [51, 31, 32, 39, 52, 53, 54, 55, 22, 56, 38, 40, 41, 42, 43, 26, 57, 58, 59, 60, 61, 62, 89, 90, 91, 92, 93, 94, 95, 96] (by decide +kernel) (by decide +kernel)) (goodIn_sub (fun _ h => List.mem_cons_of_mem _ (List.mem_append_left _ (List.mem_append_right _ h))) (by decide +kernel))
set_option maxRecDepth 20000 in
theorem gL_act_X0_mark : GoodIn wsL_act (wsV RL 45 RX0 yX0_mark wsX0_mark) := goodIn_app (goodIn_of _ (by decide +kernel)) ggL_act_X0_mark
set_option maxRecDepth 20000 in
theorem ggL_act_L_word : GoodIn wsL_act wsL_word := goodIn_r _ [65, 4, 5, 6, 7, 8] (by decide +kernel) (by decide +kernel)
set_option maxRecDepth 20000 in
theorem gL_act_L_word : GoodIn wsL_act (va_wsS RL 49 yL_word wsL_word) := goodIn_app (goodIn_of _ (by decide +kernel)) ggL_act_L_word
set_option maxRecDepth 20000 in
theorem ggL_act_X1_add : GoodIn wsL_act wsX1_add := goodIn_r _ [69, 14, 17, 18, 16, 70, 71, 6, 72, 86, 87, 88] (by decide +kernel) (by decide +kernel)
set_option maxRecDepth 20000 in
theorem gL_act_X1_add : GoodIn wsL_act (wsV RL 52 RX1 yX1_add wsX1_add) := goodIn_app (goodIn_of _ (by decide +kernel)) ggL_act_X1_add
set_option maxRecDepth 20000 in
theorem ggL_act_X0_add : GoodIn wsL_act wsX0_add := goodIn_ca (goodIn_ca (goodIn_ca (goodIn_r _ [76, 24, 25, 38, 39, 52, 40, 41, 42, 22, 43, 31, 32, 26, 77, 78, 79, 80, 81, 82, 83, 84, 85, 89, 90, 91, 92, 93, 94, 95, 96] (by decide +kernel) (by decide +kernel)) (goodIn_sub (fun _ h => List.mem_cons_of_mem _ (List.mem_append_left _ (List.mem_append_left _ (List.mem_append_right _ h)))) (by decide +kernel))) (goodIn_sub (fun _ h => List.mem_cons_of_mem _ (List.mem_append_left _ (List.mem_append_right _ h))) (by decide +kernel))) (goodIn_sub (fun _ h => List.mem_cons_of_mem _ (List.mem_append_right _ h)) (by decide +kernel))
set_option maxRecDepth 20000 in
theorem gL_act_X0_add : GoodIn wsL_act (wsV RL 56 RX0 yX0_add wsX0_add) := goodIn_app (goodIn_of _ (by decide +kernel)) ggL_act_X0_add
theorem dL_act_0 : decode cL_act 0 = .ok (.aload_n 1, 1) := by decide +kernel
theorem dL_act_1 : decode cL_act 1 = .ok (.getfield 15, 3) := by decide +kernel
theorem dL_act_4 : decode cL_act 4 = .ok (.arraylength, 1) := by decide +kernel
theorem dL_act_5 : decode cL_act 5 = .ok (.istore_n 3, 1) := by decide +kernel
theorem dL_act_6 : decode cL_act 6 = .ok (.iload_n 3, 1) := by decide +kernel
theorem dL_act_7 : decode cL_act 7 = .ok (.ifCond .ne 7, 3) := by decide +kernel
theorem dL_act_10 : decode cL_act 10 = .ok (.iconst 0, 1) := by decide +kernel
theorem dL_act_11 : decode cL_act 11 = .ok (.goto 8, 3) := by decide +kernel
theorem dL_act_14 : decode cL_act 14 = .ok (.iload_n 2, 1) := by decide +kernel
theorem dL_act_15 : decode cL_act 15 = .ok (.iload_n 3, 1) := by decide +kernel
theorem dL_act_16 : decode cL_act 16 = .ok (.invokestatic 9, 3) := by decide +kernel
theorem dL_act_19 : decode cL_act 19 = .ok (.istore 4, 2) := by decide +kernel
theorem dL_act_21 : decode cL_act 21 = .ok (.iload_n 3, 1) := by decide +kernel
theorem dL_act_22 : decode cL_act 22 = .ok (.ifCond .ne 7, 3) := by decide +kernel
theorem dL_act_25 : decode cL_act 25 = .ok (.iconst 0, 1) := by decide +kernel
theorem dL_act_26 : decode cL_act 26 = .ok (.goto 11, 3) := by decide +kernel
theorem dL_act_29 : decode cL_act 29 = .ok (.aload_n 1, 1) := by decide +kernel
theorem dL_act_30 : decode cL_act 30 = .ok (.getfield 15, 3) := by decide +kernel
theorem dL_act_33 : decode cL_act 33 = .ok (.iload 4, 2) := by decide +kernel
theorem dL_act_35 : decode cL_act 35 = .ok (.aaload, 1) := by decide +kernel
theorem dL_act_36 : decode cL_act 36 = .ok (.arraylength, 1) := by decide +kernel
theorem dL_act_37 : decode cL_act 37 = .ok (.istore 5, 2) := by decide +kernel
theorem dL_act_39 : decode cL_act 39 = .ok (.iload_n 3, 1) := by decide +kernel
theorem dL_act_40 : decode cL_act 40 = .ok (.ifCond .ne 7, 3) := by decide +kernel
theorem dL_act_43 : decode cL_act 43 = .ok (.iconst 0, 1) := by decide +kernel
theorem dL_act_44 : decode cL_act 44 = .ok (.goto 12, 3) := by decide +kernel
theorem dL_act_47 : decode cL_act 47 = .ok (.iload_n 2, 1) := by decide +kernel
theorem dL_act_48 : decode cL_act 48 = .ok (.bipush 9, 2) := by decide +kernel
theorem dL_act_50 : decode cL_act 50 = .ok (.ishr, 1) := by decide +kernel
theorem dL_act_51 : decode cL_act 51 = .ok (.bipush 14, 2) := by decide +kernel
theorem dL_act_53 : decode cL_act 53 = .ok (.invokestatic 9, 3) := by decide +kernel
theorem dL_act_56 : decode cL_act 56 = .ok (.tableswitch 224 0 6 #[44, 70, 106, 142, 142, 142, 142], 44) := by decide +kernel
theorem dL_act_100 : decode cL_act 100 = .ok (.iload_n 3, 1) := by decide +kernel
theorem dL_act_101 : decode cL_act 101 = .ok (.bipush 12, 2) := by decide +kernel
theorem dL_act_103 : decode cL_act 103 = .ok (.if_icmp .ne 5, 3) := by decide +kernel
theorem dL_act_106 : decode cL_act 106 = .ok (.iconst 1, 1) := by decide +kernel
theorem dL_act_107 : decode cL_act 107 = .ok (.ireturn, 1) := by decide +kernel
theorem dL_act_108 : decode cL_act 108 = .ok (.aload_n 1, 1) := by decide +kernel
theorem dL_act_109 : decode cL_act 109 = .ok (.invokevirtual 21, 3) := by decide +kernel
theorem dL_act_112 : decode cL_act 112 = .ok (.aload_n 0, 1) := by decide +kernel
theorem dL_act_113 : decode cL_act 113 = .ok (.invokevirtual 24, 3) := by decide +kernel
theorem dL_act_116 : decode cL_act 116 = .ok (.iload_n 3, 1) := by decide +kernel
theorem dL_act_117 : decode cL_act 117 = .ok (.if_icmp .ne 7, 3) := by decide +kernel
theorem dL_act_120 : decode cL_act 120 = .ok (.iconst 1, 1) := by decide +kernel
theorem dL_act_121 : decode cL_act 121 = .ok (.goto 4, 3) := by decide +kernel
theorem dL_act_124 : decode cL_act 124 = .ok (.iconst 0, 1) := by decide +kernel
theorem dL_act_125 : decode cL_act 125 = .ok (.ireturn, 1) := by decide +kernel
theorem dL_act_126 : decode cL_act 126 = .ok (.aload_n 1, 1) := by decide +kernel
theorem dL_act_127 : decode cL_act 127 = .ok (.getfield 29, 3) := by decide +kernel
theorem dL_act_130 : decode cL_act 130 = .ok (.istore 6, 2) := by decide +kernel
theorem dL_act_132 : decode cL_act 132 = .ok (.aload_n 1, 1) := by decide +kernel
theorem dL_act_133 : decode cL_act 133 = .ok (.iload_n 2, 1) := by decide +kernel
theorem dL_act_134 : decode cL_act 134 = .ok (.iconst 2, 1) := by decide +kernel
theorem dL_act_135 : decode cL_act 135 = .ok (.ishr, 1) := by decide +kernel
theorem dL_act_136 : decode cL_act 136 = .ok (.iconst 3, 1) := by decide +kernel
theorem dL_act_137 : decode cL_act 137 = .ok (.invokestatic 9, 3) := by decide +kernel
theorem dL_act_140 : decode cL_act 140 = .ok (.putfield 29, 3) := by decide +kernel
theorem dL_act_143 : decode cL_act 143 = .ok (.aload_n 0, 1) := by decide +kernel
theorem dL_act_144 : decode cL_act 144 = .ok (.aload_n 1, 1) := by decide +kernel
theorem dL_act_145 : decode cL_act 145 = .ok (.getfield 29, 3) := by decide +kernel
theorem dL_act_148 : decode cL_act 148 = .ok (.invokevirtual 33, 3) := by decide +kernel
theorem dL_act_151 : decode cL_act 151 = .ok (.iload 6, 2) := by decide +kernel
theorem dL_act_153 : decode cL_act 153 = .ok (.if_icmp .ne 7, 3) := by decide +kernel
theorem dL_act_156 : decode cL_act 156 = .ok (.iconst 1, 1) := by decide +kernel
theorem dL_act_157 : decode cL_act 157 = .ok (.goto 4, 3) := by decide +kernel
theorem dL_act_160 : decode cL_act 160 = .ok (.iconst 0, 1) := by decide +kernel
theorem dL_act_161 : decode cL_act 161 = .ok (.ireturn, 1) := by decide +kernel
theorem dL_act_162 : decode cL_act 162 = .ok (.iload 5, 2) := by decide +kernel
theorem dL_act_164 : decode cL_act 164 = .ok (.ifCond .eq 28, 3) := by decide +kernel
theorem dL_act_167 : decode cL_act 167 = .ok (.iload_n 2, 1) := by decide +kernel
theorem dL_act_168 : decode cL_act 168 = .ok (.iconst 3, 1) := by decide +kernel
theorem dL_act_169 : decode cL_act 169 = .ok (.ishr, 1) := by decide +kernel
theorem dL_act_170 : decode cL_act 170 = .ok (.iconst 2, 1) := by decide +kernel
theorem dL_act_171 : decode cL_act 171 = .ok (.invokestatic 9, 3) := by decide +kernel
theorem dL_act_174 : decode cL_act 174 = .ok (.ifCond .eq 18, 3) := by decide +kernel
theorem dL_act_177 : decode cL_act 177 = .ok (.aload_n 0, 1) := by decide +kernel
theorem dL_act_178 : decode cL_act 178 = .ok (.iload 4, 2) := by decide +kernel
theorem dL_act_180 : decode cL_act 180 = .ok (.invokevirtual 37, 3) := by decide +kernel
theorem dL_act_183 : decode cL_act 183 = .ok (.aload_n 1, 1) := by decide +kernel
theorem dL_act_184 : decode cL_act 184 = .ok (.iload 4, 2) := by decide +kernel
theorem dL_act_186 : decode cL_act 186 = .ok (.invokevirtual 40, 3) := by decide +kernel
theorem dL_act_189 : decode cL_act 189 = .ok (.if_icmp .ne 7, 3) := by decide +kernel
theorem dL_act_192 : decode cL_act 192 = .ok (.iconst 1, 1) := by decide +kernel
theorem dL_act_193 : decode cL_act 193 = .ok (.goto 4, 3) := by decide +kernel
theorem dL_act_196 : decode cL_act 196 = .ok (.iconst 0, 1) := by decide +kernel
theorem dL_act_197 : decode cL_act 197 = .ok (.ireturn, 1) := by decide +kernel
theorem dL_act_198 : decode cL_act 198 = .ok (.iload 5, 2) := by decide +kernel
theorem dL_act_200 : decode cL_act 200 = .ok (.ifCond .ne 5, 3) := by decide +kernel
theorem dL_act_203 : decode cL_act 203 = .ok (.iconst 1, 1) := by decide +kernel
theorem dL_act_204 : decode cL_act 204 = .ok (.ireturn, 1) := by decide +kernel
theorem dL_act_205 : decode cL_act 205 = .ok (.iload_n 2, 1) := by decide +kernel
theorem dL_act_206 : decode cL_act 206 = .ok (.iconst 2, 1) := by decide +kernel
theorem dL_act_207 : decode cL_act 207 = .ok (.ishr, 1) := by decide +kernel
theorem dL_act_208 : decode cL_act 208 = .ok (.iload 5, 2) := by decide +kernel
theorem dL_act_210 : decode cL_act 210 = .ok (.invokestatic 9, 3) := by decide +kernel
theorem dL_act_213 : decode cL_act 213 = .ok (.istore 7, 2) := by decide +kernel
theorem dL_act_215 : decode cL_act 215 = .ok (.aload_n 1, 1) := by decide +kernel
theorem dL_act_216 : decode cL_act 216 = .ok (.getfield 41, 3) := by decide +kernel
theorem dL_act_219 : decode cL_act 219 = .ok (.iload 4, 2) := by decide +kernel
theorem dL_act_221 : decode cL_act 221 = .ok (.aaload, 1) := by decide +kernel
theorem dL_act_222 : decode cL_act 222 = .ok (.iload 7, 2) := by decide +kernel
theorem dL_act_224 : decode cL_act 224 = .ok (.aaload, 1) := by decide +kernel
theorem dL_act_225 : decode cL_act 225 = .ok (.astore 8, 2) := by decide +kernel
theorem dL_act_227 : decode cL_act 227 = .ok (.iload_n 2, 1) := by decide +kernel
theorem dL_act_228 : decode cL_act 228 = .ok (.iconst 4, 1) := by decide +kernel
theorem dL_act_229 : decode cL_act 229 = .ok (.ishr, 1) := by decide +kernel
theorem dL_act_230 : decode cL_act 230 = .ok (.aload 8, 2) := by decide +kernel
theorem dL_act_232 : decode cL_act 232 = .ok (.arraylength, 1) := by decide +kernel
theorem dL_act_233 : decode cL_act 233 = .ok (.invokestatic 9, 3) := by decide +kernel
theorem dL_act_236 : decode cL_act 236 = .ok (.istore 9, 2) := by decide +kernel
theorem dL_act_238 : decode cL_act 238 = .ok (.aload 8, 2) := by decide +kernel
theorem dL_act_240 : decode cL_act 240 = .ok (.iload 9, 2) := by decide +kernel
theorem dL_act_242 : decode cL_act 242 = .ok (.aload 8, 2) := by decide +kernel
theorem dL_act_244 : decode cL_act 244 = .ok (.iload 9, 2) := by decide +kernel
theorem dL_act_246 : decode cL_act 246 = .ok (.baload, 1) := by decide +kernel
theorem dL_act_247 : decode cL_act 247 = .ok (.ifCond .ne 7, 3) := by decide +kernel
theorem dL_act_250 : decode cL_act 250 = .ok (.iconst 1, 1) := by decide +kernel
theorem dL_act_251 : decode cL_act 251 = .ok (.goto 4, 3) := by decide +kernel
theorem dL_act_254 : decode cL_act 254 = .ok (.iconst 0, 1) := by decide +kernel
theorem dL_act_255 : decode cL_act 255 = .ok (.bastore, 1) := by decide +kernel
theorem dL_act_256 : decode cL_act 256 = .ok (.aload_n 0, 1) := by decide +kernel
theorem dL_act_257 : decode cL_act 257 = .ok (.iload 4, 2) := by decide +kernel
theorem dL_act_259 : decode cL_act 259 = .ok (.iload 7, 2) := by decide +kernel
theorem dL_act_261 : decode cL_act 261 = .ok (.iload 9, 2) := by decide +kernel
theorem dL_act_263 : decode cL_act 263 = .ok (.invokevirtual 45, 3) := by decide +kernel
theorem dL_act_266 : decode cL_act 266 = .ok (.aload 8, 2) := by decide +kernel
theorem dL_act_268 : decode cL_act 268 = .ok (.iload 9, 2) := by decide +kernel
theorem dL_act_270 : decode cL_act 270 = .ok (.baload, 1) := by decide +kernel
theorem dL_act_271 : decode cL_act 271 = .ok (.if_icmp .ne 7, 3) := by decide +kernel
theorem dL_act_274 : decode cL_act 274 = .ok (.iconst 1, 1) := by decide +kernel
theorem dL_act_275 : decode cL_act 275 = .ok (.goto 4, 3) := by decide +kernel
theorem dL_act_278 : decode cL_act 278 = .ok (.iconst 0, 1) := by decide +kernel
theorem dL_act_279 : decode cL_act 279 = .ok (.ireturn, 1) := by decide +kernel
theorem dL_act_280 : decode cL_act 280 = .ok (.iload 5, 2) := by decide +kernel
theorem dL_act_282 : decode cL_act 282 = .ok (.bipush 10, 2) := by decide +kernel
theorem dL_act_284 : decode cL_act 284 = .ok (.if_icmp .ne 5, 3) := by decide +kernel
theorem dL_act_287 : decode cL_act 287 = .ok (.iconst 1, 1) := by decide +kernel
theorem dL_act_288 : decode cL_act 288 = .ok (.ireturn, 1) := by decide +kernel
theorem dL_act_289 : decode cL_act 289 = .ok (.aload_n 1, 1) := by decide +kernel
theorem dL_act_290 : decode cL_act 290 = .ok (.iload 4, 2) := by decide +kernel
theorem dL_act_292 : decode cL_act 292 = .ok (.iload_n 2, 1) := by decide +kernel
theorem dL_act_293 : decode cL_act 293 = .ok (.invokestatic 49, 3) := by decide +kernel
theorem dL_act_296 : decode cL_act 296 = .ok (.invokevirtual 52, 3) := by decide +kernel
theorem dL_act_299 : decode cL_act 299 = .ok (.aload_n 0, 1) := by decide +kernel
theorem dL_act_300 : decode cL_act 300 = .ok (.iload 4, 2) := by decide +kernel
theorem dL_act_302 : decode cL_act 302 = .ok (.iload_n 2, 1) := by decide +kernel
theorem dL_act_303 : decode cL_act 303 = .ok (.invokestatic 49, 3) := by decide +kernel
theorem dL_act_306 : decode cL_act 306 = .ok (.invokevirtual 56, 3) := by decide +kernel
theorem dL_act_309 : decode cL_act 309 = .ok (.iload 5, 2) := by decide +kernel
theorem dL_act_311 : decode cL_act 311 = .ok (.iconst 1, 1) := by decide +kernel
theorem dL_act_312 : decode cL_act 312 = .ok (.iadd, 1) := by decide +kernel
theorem dL_act_313 : decode cL_act 313 = .ok (.if_icmp .ne 7, 3) := by decide +kernel
theorem dL_act_316 : decode cL_act 316 = .ok (.iconst 1, 1) := by decide +kernel
theorem dL_act_317 : decode cL_act 317 = .ok (.goto 4, 3) := by decide +kernel
theorem dL_act_320 : decode cL_act 320 = .ok (.iconst 0, 1) := by decide +kernel
theorem dL_act_321 : decode cL_act 321 = .ok (.ireturn, 1) := by decide +kernel
set_option maxRecDepth 20000 in
theorem ggL_build_X1_init : GoodIn wsL_build wsX1_init := goodIn_r _ [5, 6, 7, 8, 9, 10, 11, 100, 101, 102] (by decide +kernel) (by decide +kernel)
set_option maxRecDepth 20000 in
theorem gL_build_X1_init_n58 : GoodIn wsL_build (wsX1_init) := ggL_build_X1_init
set_option maxRecDepth 20000 in
theorem ggL_build_L_cell : GoodIn wsL_build wsL_cell := goodIn_r _ [15, 16] (by decide +kernel) (by decide +kernel)
set_option maxRecDepth 20000 in
theorem gL_build_L_cell : GoodIn wsL_build (va_wsS RL 59 yL_cell wsL_cell) := goodIn_app (goodIn_of _ (by decide +kernel)) ggL_build_L_cell
set_option maxRecDepth 20000 in
theorem ggL_build_L_act : GoodIn wsL_build wsL_act := goodIn_ca (goodIn_ca (goodIn_ca (goodIn_r _ [19, 20, 21, 22, 23, 24, 14, 25, 26, 27, 28, 29, 3, 30, 10, 9, 11, 31, 32, 33, 34, 35, 36, 37, 38, 39, 40, 41, 42, 43, 44, 45, 46, 47, 48, 49, 50, 51, 52, 53, 54, 55, 56, 57, 58, 59, 60, 61, 62, 63, 64, 65, 66, 67, 68, 69, 70, 71, 72, 73, 74, 75, 76, 77, 78, 79, 80, 81, 82, 83, 84, 85, 86, 87, 88, 89, 90, 91, 92, 93, 94, 95, 96, 97, 98, 99, 100, 101, 102, 103, 104, 105, 106, 107, 108, 109, 110] (by decide +kernel) (by decide +kernel)) (goodIn_sub (fun _ h => List.mem_cons_of_mem _ (List.mem_append_left _ (List.mem_append_left _ (List.mem_append_right _ h)))) (by decide +kernel))) (goodIn_sub (fun _ h => List.mem_cons_of_mem _ (List.mem_append_left _ (List.mem_append_right _ h))) (by decide +kernel))) (goodIn_sub (fun _ h => List.mem_cons_of_mem _ (List.mem_append_right _ h)) (by decide +kernel))
set_option maxRecDepth 20000 in
theorem gL_build_L_act : GoodIn wsL_build (va_wsS RL 63 yL_act wsL_act) := goodIn_app (goodIn_of _ (by decide +kernel)) ggL_build_L_act
theorem dL_build_0 : decode cL_build 0 = .ok (.new 16, 3) := by decide +kernel
theorem dL_build_3 : decode cL_build 3 = .ok (.dup, 1) := by decide +kernel
theorem dL_build_4 : decode cL_build 4 = .ok (.invokespecial 58, 3) := by decide +kernel
theorem dL_build_7 : decode cL_build 7 = .ok (.astore_n 2, 1) := by decide +kernel
theorem dL_build_8 : decode cL_build 8 = .ok (.iconst 0, 1) := by decide +kernel
theorem dL_build_9 : decode cL_build 9 = .ok (.istore_n 3, 1) := by decide +kernel
theorem dL_build_10 : decode cL_build 10 = .ok (.iload_n 3, 1) := by decide +kernel
theorem dL_build_11 : decode cL_build 11 = .ok (.bipush 36, 2) := by decide +kernel
theorem dL_build_13 : decode cL_build 13 = .ok (.if_icmp .ge 40, 3) := by decide +kernel
theorem dL_build_16 : decode cL_build 16 = .ok (.aload_n 0, 1) := by decide +kernel
theorem dL_build_17 : decode cL_build 17 = .ok (.aload_n 2, 1) := by decide +kernel
theorem dL_build_18 : decode cL_build 18 = .ok (.aload_n 1, 1) := by decide +kernel
theorem dL_build_19 : decode cL_build 19 = .ok (.iload_n 3, 1) := by decide +kernel
theorem dL_build_20 : decode cL_build 20 = .ok (.bipush 16, 2) := by decide +kernel
theorem dL_build_22 : decode cL_build 22 = .ok (.irem, 1) := by decide +kernel
theorem dL_build_23 : decode cL_build 23 = .ok (.invokestatic 59, 3) := by decide +kernel
theorem dL_build_26 : decode cL_build 26 = .ok (.iload_n 3, 1) := by decide +kernel
theorem dL_build_27 : decode cL_build 27 = .ok (.bipush 16, 2) := by decide +kernel
theorem dL_build_29 : decode cL_build 29 = .ok (.idiv, 1) := by decide +kernel
theorem dL_build_30 : decode cL_build 30 = .ok (.iconst 3, 1) := by decide +kernel
theorem dL_build_31 : decode cL_build 31 = .ok (.imul, 1) := by decide +kernel
theorem dL_build_32 : decode cL_build 32 = .ok (.ishr, 1) := by decide +kernel
theorem dL_build_33 : decode cL_build 33 = .ok (.sipush 239, 3) := by decide +kernel
theorem dL_build_36 : decode cL_build 36 = .ok (.iload_n 3, 1) := by decide +kernel
theorem dL_build_37 : decode cL_build 37 = .ok (.imul, 1) := by decide +kernel
theorem dL_build_38 : decode cL_build 38 = .ok (.iadd, 1) := by decide +kernel
theorem dL_build_39 : decode cL_build 39 = .ok (.invokestatic 63, 3) := by decide +kernel
theorem dL_build_42 : decode cL_build 42 = .ok (.ifCond .ne 5, 3) := by decide +kernel
theorem dL_build_45 : decode cL_build 45 = .ok (.aconst_null, 1) := by decide +kernel
theorem dL_build_46 : decode cL_build 46 = .ok (.areturn, 1) := by decide +kernel
theorem dL_build_47 : decode cL_build 47 = .ok (.iinc 3 1, 3) := by decide +kernel
theorem dL_build_50 : decode cL_build 50 = .ok (.goto (-40), 3) := by decide +kernel
theorem dL_build_53 : decode cL_build 53 = .ok (.aload_n 2, 1) := by decide +kernel
theorem dL_build_54 : decode cL_build 54 = .ok (.areturn, 1) := by decide +kernel
set_option maxRecDepth 20000 in
theorem ggL_law_X0_init : GoodIn wsL_law wsX0_init := goodIn_r _ [10, 11, 12, 13, 14, 15, 3, 16, 17, 18, 19, 20, 21, 22, 23, 224, 225, 226, 227, 228, 229, 230, 231] (by decide +kernel) (by decide +kernel)
set_option maxRecDepth 20000 in
theorem gL_law_X0_init : GoodIn wsL_law (wsX0_init) := ggL_law_X0_init
set_option maxRecDepth 20000 in
theorem ggL_law_L_build : GoodIn wsL_law wsL_build := goodIn_ca (goodIn_ca (goodIn_ca (goodIn_r _ [27, 28, 29, 30, 31, 32, 33, 12, 13, 34, 35, 36, 37, 38, 26, 39, 40, 41, 42, 43, 44, 45, 46, 47, 48, 49, 50, 51, 52, 53, 54, 3, 55, 56, 57, 58, 2, 59, 60, 61, 15, 62, 63, 64, 65, 66, 67, 14, 68, 69, 70, 71, 16, 18, 72, 73, 74, 75, 76, 77, 78, 79, 80, 81, 82, 83, 19, 84, 85, 86, 87, 88, 89, 90, 91, 92, 93, 94, 95, 96, 97, 98, 99, 100, 22, 101, 102, 103, 104, 105, 106, 107, 108, 109, 110, 111, 112, 113, 114, 115, 232, 233, 234, 224, 225, 226, 227, 228, 229, 230, 231] (by decide +kernel) (by decide +kernel)) (goodIn_sub (fun _ h => List.mem_append_left _ (List.mem_append_left _ (List.mem_append_right _ h))) (by decide +kernel))) (goodIn_sub (fun _ h => List.mem_append_left _ (List.mem_append_right _ h)) (by decide +kernel))) (goodIn_sub (fun _ h => List.mem_append_right _ h) (by decide +kernel))
set_option maxRecDepth 20000 in
theorem gL_law_L_build : GoodIn wsL_law (va_wsS RL 68 yL_build wsL_build) := goodIn_app (goodIn_of _ (by decide +kernel)) ggL_law_L_build
set_option maxRecDepth 20000 in
theorem ggL_law_L_cell : GoodIn wsL_law wsL_cell := goodIn_r _ [39, 40] (by decide +kernel) (by decide +kernel)
set_option maxRecDepth 20000 in
theorem gL_law_L_cell : GoodIn wsL_law (va_wsS RL 59 yL_cell wsL_cell) := goodIn_app (goodIn_of _ (by decide +kernel)) ggL_law_L_cell
set_option maxRecDepth 20000 in
theorem ggL_law_L_act : GoodIn wsL_law wsL_act := goodIn_ca (goodIn_ca (goodIn_ca (goodIn_r _ [43, 44, 45, 46, 47, 48, 26, 49, 50, 51, 52, 53, 30, 54, 35, 34, 36, 3, 55, 56, 57, 58, 2, 59, 60, 61, 15, 62, 63, 64, 65, 66, 67, 14, 68, 69, 70, 71, 16, 18, 72, 73, 74, 75, 76, 77, 78, 79, 80, 81, 82, 83, 19, 84, 85, 86, 87, 88, 89, 90, 91, 92, 93, 94, 95, 96, 97, 98, 99, 100, 22, 101, 102, 103, 104, 105, 106, 107, 108, 109, 110, 111, 112, 113, 114, 115, 232, 233, 234, 224, 225, 226, 227, 228, 229, 230, 231] (by decide +kernel) (by decide +kernel)) (goodIn_sub (fun _ h => List.mem_append_left _ (List.mem_append_left _ (List.mem_append_right _ h))) (by decide +kernel))) (goodIn_sub (fun _ h => List.mem_append_left _ (List.mem_append_right _ h)) (by decide +kernel))) (goodIn_sub (fun _ h => List.mem_append_right _ h) (by decide +kernel))
set_option maxRecDepth 20000 in
theorem gL_law_L_act : GoodIn wsL_law (va_wsS RL 63 yL_act wsL_act) := goodIn_app (goodIn_of _ (by decide +kernel)) ggL_law_L_act
set_option maxRecDepth 20000 in
theorem ggL_law_X0_told : GoodIn wsL_law wsX0_told := goodIn_ca (goodIn_r _ [119, 15, 120, 121, 2, 122, 66, 67, 123, 124, 125, 126, 16, 18, 20, 127, 128, 129, 130, 88, 89, 90, 91, 92, 93, 131, 132, 133, 134, 14, 135, 136, 137, 138, 139, 140, 141, 142, 143, 144, 145, 146, 147, 148, 149, 150, 19, 151, 152, 153, 154, 155, 156, 157, 224, 225, 226, 227, 228, 229, 230, 231] (by decide +kernel) (by decide +kernel)) (goodIn_sub (fun _ h => List.mem_append_left _ (List.mem_append_right _ h)) (by decide +kernel))
set_option maxRecDepth 20000 in
theorem gL_law_X0_told : GoodIn wsL_law (wsV RL 72 RX0 yX0_told wsX0_told) := goodIn_app (goodIn_of _ (by decide +kernel)) ggL_law_X0_told
set_option maxRecDepth 20000 in
theorem ggL_law_L_below : GoodIn wsL_law wsL_below := goodIn_r _ [49, 50] (by decide +kernel) (by decide +kernel)
set_option maxRecDepth 20000 in
theorem gL_law_L_below : GoodIn wsL_law (va_wsS RL 9 yL_below wsL_below) := goodIn_app (goodIn_of _ (by decide +kernel)) ggL_law_L_below
set_option maxRecDepth 20000 in
theorem ggL_law_X0_line : GoodIn wsL_law wsX0_line := goodIn_ca (goodIn_r _ [161, 72, 73, 74, 2, 75, 66, 67, 15, 120, 121, 122, 143, 144, 145, 146, 16, 147, 148, 149, 150, 18, 19, 88, 89, 90, 127, 128, 129, 130, 91, 92, 93, 131, 132, 133, 134, 14, 151, 152, 153, 154, 155, 156, 157, 224, 225, 226, 227, 228, 229, 230, 231] (by decide +kernel) (by decide +kernel)) (goodIn_sub (fun _ h => List.mem_append_left _ (List.mem_append_right _ h)) (by decide +kernel))
set_option maxRecDepth 20000 in
theorem gL_law_X0_line : GoodIn wsL_law (wsV RL 75 RX0 yX0_line wsX0_line) := goodIn_app (goodIn_of _ (by decide +kernel)) ggL_law_X0_line
set_option maxRecDepth 20000 in
theorem ggL_law_X0_word : GoodIn wsL_law wsX0_word := goodIn_ca (goodIn_r _ [165, 84, 85, 86, 2, 87, 66, 67, 16, 72, 73, 74, 75, 15, 120, 121, 122, 147, 148, 149, 150, 18, 19, 88, 89, 90, 127, 128, 129, 130, 91, 92, 93, 131, 132, 133, 134, 14, 151, 152, 153, 154, 155, 156, 157, 224, 225, 226, 227, 228, 229, 230, 231] (by decide +kernel) (by decide +kernel)) (goodIn_sub (fun _ h => List.mem_append_left _ (List.mem_append_right _ h)) (by decide +kernel))
set_option maxRecDepth 20000 in
theorem gL_law_X0_word : GoodIn wsL_law (wsV RL 78 RX0 yX0_word wsX0_word) := goodIn_app (goodIn_of _ (by decide +kernel)) ggL_law_X0_word
set_option maxRecDepth 20000 in
theorem ggL_law_X0_letter : GoodIn wsL_law wsX0_letter := goodIn_ca (goodIn_r _ [169, 66, 67, 131, 132, 133, 2, 134, 14, 224, 225, 226, 227, 228, 229, 230, 231] (by decide +kernel) (by decide +kernel)) (goodIn_sub (fun _ h => List.mem_append_left _ (List.mem_append_right _ h)) (by decide +kernel))
set_option maxRecDepth 20000 in
theorem gL_law_X0_letter : GoodIn wsL_law (wsV RL 81 RX0 yX0_letter wsX0_letter) := goodIn_app (goodIn_of _ (by decide +kernel)) ggL_law_X0_letter
set_option maxRecDepth 20000 in
theorem ggL_law_X0_value : GoodIn wsL_law wsX0_value := goodIn_ca (goodIn_r _ [173, 107, 108, 2, 109, 110, 111, 112, 113, 114, 115, 127, 128, 129, 130, 88, 89, 90, 91, 92, 93, 131, 132, 133, 134, 14, 224, 225, 226, 227, 228, 229, 230, 231] (by decide +kernel) (by decide +kernel)) (goodIn_sub (fun _ h => List.mem_append_right _ h) (by decide +kernel))
set_option maxRecDepth 20000 in
theorem gL_law_X0_value : GoodIn wsL_law (wsV RL 84 RX0 yX0_value wsX0_value) := goodIn_app (goodIn_of _ (by decide +kernel)) ggL_law_X0_value
set_option maxRecDepth 20000 in
theorem ggL_law_X0_hidden : GoodIn wsL_law wsX0_hidden := goodIn_ca (goodIn_r _ [177, 16, 72, 73, 74, 2, 75, 66, 67, 15, 178, 179, 180, 181, 18, 127, 128, 129, 130, 88, 89, 90, 91, 92, 93, 131, 132, 133, 134, 14, 224, 225, 226, 227, 228, 229, 230, 231] (by decide +kernel) (by decide +kernel)) (goodIn_sub (fun _ h => List.mem_append_left _ (List.mem_append_right _ h)) (by decide +kernel))
set_option maxRecDepth 20000 in
theorem gL_law_X0_hidden : GoodIn wsL_law (wsV RL 87 RX0 yX0_hidden wsX0_hidden) := goodIn_app (goodIn_of _ (by decide +kernel)) ggL_law_X0_hidden
set_option maxRecDepth 20000 in
theorem ggL_law_X0_lacks : GoodIn wsL_law wsX0_lacks := goodIn_ca (goodIn_r _ [185, 72, 73, 74, 2, 75, 66, 67, 15, 143, 144, 145, 146, 16, 147, 148, 149, 150, 18, 19, 88, 89, 90, 127, 128, 129, 130, 91, 92, 93, 131, 132, 133, 134, 14, 151, 152, 153, 154, 155, 156, 157, 224, 225, 226, 227, 228, 229, 230, 231] (by decide +kernel) (by decide +kernel)) (goodIn_sub (fun _ h => List.mem_append_left _ (List.mem_append_right _ h)) (by decide +kernel))
set_option maxRecDepth 20000 in
theorem gL_law_X0_lacks : GoodIn wsL_law (wsV RL 90 RX0 yX0_lacks wsX0_lacks) := goodIn_app (goodIn_of _ (by decide +kernel)) ggL_law_X0_lacks
set_option maxRecDepth 20000 in
theorem ggL_law_X0_hides : GoodIn wsL_law wsX0_hides := goodIn_r _ [189, 15, 16, 178, 179, 180, 2, 181, 18, 127, 128, 129, 130, 88, 89, 90, 91, 92, 93, 131, 132, 133, 134, 14, 224, 225, 226, 227, 228, 229, 230, 231] (by decide +kernel) (by decide +kernel)
set_option maxRecDepth 20000 in
theorem gL_law_X0_hides : GoodIn wsL_law (wsV RL 98 RX0 yX0_hides wsX0_hides) := goodIn_app (goodIn_of _ (by decide +kernel)) ggL_law_X0_hides
set_option maxRecDepth 20000 in
theorem ggL_law_X0_nearest : GoodIn wsL_law wsX0_nearest := goodIn_r _ [193, 15, 194, 195, 6, 196, 143, 144, 145, 2, 146, 16, 147, 148, 149, 150, 18, 19, 88, 89, 90, 127, 128, 129, 130, 91, 92, 93, 131, 132, 133, 134, 14, 151, 152, 153, 154, 155, 156, 157, 224, 225, 226, 227, 228, 229, 230, 231] (by decide +kernel) (by decide +kernel)
set_option maxRecDepth 20000 in
theorem gL_law_X0_nearest : GoodIn wsL_law (wsV RL 101 RX0 yX0_nearest wsX0_nearest) := goodIn_app (goodIn_of _ (by decide +kernel)) ggL_law_X0_nearest
set_option maxRecDepth 20000 in
theorem ggL_law_X0_mean : GoodIn wsL_law wsX0_mean := goodIn_r _ [200, 139, 140, 141, 2, 142, 15, 143, 144, 145, 146, 16, 147, 148, 149, 150, 18, 19, 88, 89, 90, 127, 128, 129, 130, 91, 92, 93, 131, 132, 133, 134, 14, 151, 152, 153, 154, 155, 156, 157, 224, 225, 226, 227, 228, 229, 230, 231] (by decide +kernel) (by decide +kernel)
set_option maxRecDepth 20000 in
theorem gL_law_X0_mean : GoodIn wsL_law (wsV RL 104 RX0 yX0_mean wsX0_mean) := goodIn_app (goodIn_of _ (by decide +kernel)) ggL_law_X0_mean
set_option maxRecDepth 20000 in
theorem ggL_law_X1_isSame : GoodIn wsL_law wsX1_isSame := goodIn_ca (goodIn_r _ [204, 3, 35, 205, 206, 207, 30, 208, 209, 210, 211, 212, 36, 213, 101, 26, 102, 214, 215, 216, 217, 218, 219, 220, 159, 160, 2, 161, 72, 73, 74, 75, 66, 67, 15, 120, 121, 122, 143, 144, 145, 146, 16, 147, 148, 149, 150, 18, 19, 88, 89, 90, 127, 128, 129, 130, 91, 92, 93, 131, 132, 133, 134, 14, 151, 152, 153, 154, 155, 156, 157, 221, 163, 164, 165, 84, 85, 86, 87, 222, 117, 118, 119, 123, 124, 125, 126, 20, 135, 136, 137, 138, 139, 140, 141, 142, 223, 198, 199, 200, 232, 233, 234, 224, 225, 226, 227, 228, 229, 230, 231] (by decide +kernel) (by decide +kernel)) (goodIn_sub (fun _ h => List.mem_append_left _ (List.mem_append_right _ h)) (by decide +kernel))
set_option maxRecDepth 20000 in
theorem gL_law_X1_isSame : GoodIn wsL_law (wsV RL 108 RX1 yX1_isSame wsX1_isSame) := goodIn_app (goodIn_of _ (by decide +kernel)) ggL_law_X1_isSame
theorem dL_law_0 : decode cL_law 0 = .ok (.new 25, 3) := by decide +kernel
theorem dL_law_3 : decode cL_law 3 = .ok (.dup, 1) := by decide +kernel
theorem dL_law_4 : decode cL_law 4 = .ok (.invokespecial 67, 3) := by decide +kernel
theorem dL_law_7 : decode cL_law 7 = .ok (.astore_n 1, 1) := by decide +kernel
theorem dL_law_8 : decode cL_law 8 = .ok (.aload_n 1, 1) := by decide +kernel
theorem dL_law_9 : decode cL_law 9 = .ok (.aload_n 0, 1) := by decide +kernel
theorem dL_law_10 : decode cL_law 10 = .ok (.invokestatic 68, 3) := by decide +kernel
theorem dL_law_13 : decode cL_law 13 = .ok (.astore_n 2, 1) := by decide +kernel
theorem dL_law_14 : decode cL_law 14 = .ok (.aload_n 2, 1) := by decide +kernel
theorem dL_law_15 : decode cL_law 15 = .ok (.ifnonnull 5, 3) := by decide +kernel
theorem dL_law_18 : decode cL_law 18 = .ok (.iconst 0, 1) := by decide +kernel
theorem dL_law_19 : decode cL_law 19 = .ok (.ireturn, 1) := by decide +kernel
theorem dL_law_20 : decode cL_law 20 = .ok (.iconst 0, 1) := by decide +kernel
theorem dL_law_21 : decode cL_law 21 = .ok (.istore_n 3, 1) := by decide +kernel
theorem dL_law_22 : decode cL_law 22 = .ok (.iload_n 3, 1) := by decide +kernel
theorem dL_law_23 : decode cL_law 23 = .ok (.bipush 16, 2) := by decide +kernel
theorem dL_law_25 : decode cL_law 25 = .ok (.if_icmp .ge 748, 3) := by decide +kernel
theorem dL_law_28 : decode cL_law 28 = .ok (.aload_n 0, 1) := by decide +kernel
theorem dL_law_29 : decode cL_law 29 = .ok (.iload_n 3, 1) := by decide +kernel
theorem dL_law_30 : decode cL_law 30 = .ok (.invokestatic 59, 3) := by decide +kernel
theorem dL_law_33 : decode cL_law 33 = .ok (.sipush 239, 3) := by decide +kernel
theorem dL_law_36 : decode cL_law 36 = .ok (.iload_n 3, 1) := by decide +kernel
theorem dL_law_37 : decode cL_law 37 = .ok (.imul, 1) := by decide +kernel
theorem dL_law_38 : decode cL_law 38 = .ok (.iadd, 1) := by decide +kernel
theorem dL_law_39 : decode cL_law 39 = .ok (.istore 4, 2) := by decide +kernel
theorem dL_law_41 : decode cL_law 41 = .ok (.iconst 0, 1) := by decide +kernel
theorem dL_law_42 : decode cL_law 42 = .ok (.istore 5, 2) := by decide +kernel
theorem dL_law_44 : decode cL_law 44 = .ok (.iload 5, 2) := by decide +kernel
theorem dL_law_46 : decode cL_law 46 = .ok (.iconst 2, 1) := by decide +kernel
theorem dL_law_47 : decode cL_law 47 = .ok (.if_icmp .ge 33, 3) := by decide +kernel
theorem dL_law_50 : decode cL_law 50 = .ok (.aload_n 1, 1) := by decide +kernel
theorem dL_law_51 : decode cL_law 51 = .ok (.aload_n 2, 1) := by decide +kernel
theorem dL_law_52 : decode cL_law 52 = .ok (.iload 4, 2) := by decide +kernel
theorem dL_law_54 : decode cL_law 54 = .ok (.iconst 2, 1) := by decide +kernel
theorem dL_law_55 : decode cL_law 55 = .ok (.iload 5, 2) := by decide +kernel
theorem dL_law_57 : decode cL_law 57 = .ok (.imul, 1) := by decide +kernel
theorem dL_law_58 : decode cL_law 58 = .ok (.ishr, 1) := by decide +kernel
theorem dL_law_59 : decode cL_law 59 = .ok (.sipush 163, 3) := by decide +kernel
theorem dL_law_62 : decode cL_law 62 = .ok (.iload 5, 2) := by decide +kernel
theorem dL_law_64 : decode cL_law 64 = .ok (.imul, 1) := by decide +kernel
theorem dL_law_65 : decode cL_law 65 = .ok (.iadd, 1) := by decide +kernel
theorem dL_law_66 : decode cL_law 66 = .ok (.invokestatic 63, 3) := by decide +kernel
theorem dL_law_69 : decode cL_law 69 = .ok (.ifCond .ne 5, 3) := by decide +kernel
theorem dL_law_72 : decode cL_law 72 = .ok (.iconst 0, 1) := by decide +kernel
theorem dL_law_73 : decode cL_law 73 = .ok (.ireturn, 1) := by decide +kernel
theorem dL_law_74 : decode cL_law 74 = .ok (.iinc 5 1, 3) := by decide +kernel
theorem dL_law_77 : decode cL_law 77 = .ok (.goto (-33), 3) := by decide +kernel
theorem dL_law_80 : decode cL_law 80 = .ok (.aload_n 1, 1) := by decide +kernel
theorem dL_law_81 : decode cL_law 81 = .ok (.iconst 0, 1) := by decide +kernel
theorem dL_law_82 : decode cL_law 82 = .ok (.invokevirtual 72, 3) := by decide +kernel
theorem dL_law_85 : decode cL_law 85 = .ok (.istore 5, 2) := by decide +kernel
theorem dL_law_87 : decode cL_law 87 = .ok (.iconst 5, 1) := by decide +kernel
theorem dL_law_88 : decode cL_law 88 = .ok (.newarray .int, 2) := by decide +kernel
theorem dL_law_90 : decode cL_law 90 = .ok (.astore 6, 2) := by decide +kernel
theorem dL_law_92 : decode cL_law 92 = .ok (.iload 4, 2) := by decide +kernel
theorem dL_law_94 : decode cL_law 94 = .ok (.iconst 3, 1) := by decide +kernel
theorem dL_law_95 : decode cL_law 95 = .ok (.ishr, 1) := by decide +kernel
theorem dL_law_96 : decode cL_law 96 = .ok (.sipush 500, 3) := by decide +kernel
theorem dL_law_99 : decode cL_law 99 = .ok (.invokestatic 9, 3) := by decide +kernel
theorem dL_law_102 : decode cL_law 102 = .ok (.istore 7, 2) := by decide +kernel
theorem dL_law_104 : decode cL_law 104 = .ok (.iconst 0, 1) := by decide +kernel
theorem dL_law_105 : decode cL_law 105 = .ok (.istore 8, 2) := by decide +kernel
theorem dL_law_107 : decode cL_law 107 = .ok (.iconst (-1), 1) := by decide +kernel
theorem dL_law_108 : decode cL_law 108 = .ok (.istore 9, 2) := by decide +kernel
theorem dL_law_110 : decode cL_law 110 = .ok (.iconst 0, 1) := by decide +kernel
theorem dL_law_111 : decode cL_law 111 = .ok (.istore 10, 2) := by decide +kernel
theorem dL_law_113 : decode cL_law 113 = .ok (.iload 10, 2) := by decide +kernel
theorem dL_law_115 : decode cL_law 115 = .ok (.iload 5, 2) := by decide +kernel
theorem dL_law_117 : decode cL_law 117 = .ok (.if_icmp .ge 532, 3) := by decide +kernel
theorem dL_law_120 : decode cL_law 120 = .ok (.aload_n 1, 1) := by decide +kernel
theorem dL_law_121 : decode cL_law 121 = .ok (.iload 10, 2) := by decide +kernel
theorem dL_law_123 : decode cL_law 123 = .ok (.iconst 0, 1) := by decide +kernel
theorem dL_law_124 : decode cL_law 124 = .ok (.invokevirtual 75, 3) := by decide +kernel
theorem dL_law_127 : decode cL_law 127 = .ok (.istore 11, 2) := by decide +kernel
theorem dL_law_129 : decode cL_law 129 = .ok (.iconst 5, 1) := by decide +kernel
theorem dL_law_130 : decode cL_law 130 = .ok (.newarray .int, 2) := by decide +kernel
theorem dL_law_132 : decode cL_law 132 = .ok (.astore 12, 2) := by decide +kernel
theorem dL_law_134 : decode cL_law 134 = .ok (.aload 12, 2) := by decide +kernel
theorem dL_law_136 : decode cL_law 136 = .ok (.iconst 0, 1) := by decide +kernel
theorem dL_law_137 : decode cL_law 137 = .ok (.iload 11, 2) := by decide +kernel
theorem dL_law_139 : decode cL_law 139 = .ok (.iastore, 1) := by decide +kernel
theorem dL_law_140 : decode cL_law 140 = .ok (.iconst 0, 1) := by decide +kernel
theorem dL_law_141 : decode cL_law 141 = .ok (.istore 13, 2) := by decide +kernel
theorem dL_law_143 : decode cL_law 143 = .ok (.iload 13, 2) := by decide +kernel
theorem dL_law_145 : decode cL_law 145 = .ok (.iload 11, 2) := by decide +kernel
theorem dL_law_147 : decode cL_law 147 = .ok (.if_icmp .ge 242, 3) := by decide +kernel
theorem dL_law_150 : decode cL_law 150 = .ok (.aload_n 1, 1) := by decide +kernel
theorem dL_law_151 : decode cL_law 151 = .ok (.iload 10, 2) := by decide +kernel
theorem dL_law_153 : decode cL_law 153 = .ok (.iload 13, 2) := by decide +kernel
theorem dL_law_155 : decode cL_law 155 = .ok (.iconst 0, 1) := by decide +kernel
theorem dL_law_156 : decode cL_law 156 = .ok (.invokevirtual 78, 3) := by decide +kernel
theorem dL_law_159 : decode cL_law 159 = .ok (.istore 14, 2) := by decide +kernel
theorem dL_law_161 : decode cL_law 161 = .ok (.iconst 0, 1) := by decide +kernel
theorem dL_law_162 : decode cL_law 162 = .ok (.istore 15, 2) := by decide +kernel
theorem dL_law_164 : decode cL_law 164 = .ok (.iconst 0, 1) := by decide +kernel
theorem dL_law_165 : decode cL_law 165 = .ok (.istore 16, 2) := by decide +kernel
theorem dL_law_167 : decode cL_law 167 = .ok (.iload 14, 2) := by decide +kernel
theorem dL_law_169 : decode cL_law 169 = .ok (.istore 17, 2) := by decide +kernel
theorem dL_law_171 : decode cL_law 171 = .ok (.iload 17, 2) := by decide +kernel
theorem dL_law_173 : decode cL_law 173 = .ok (.ifCond .le 30, 3) := by decide +kernel
theorem dL_law_176 : decode cL_law 176 = .ok (.iload 16, 2) := by decide +kernel
theorem dL_law_178 : decode cL_law 178 = .ok (.aload_n 1, 1) := by decide +kernel
theorem dL_law_179 : decode cL_law 179 = .ok (.iload 17, 2) := by decide +kernel
theorem dL_law_181 : decode cL_law 181 = .ok (.bipush 27, 2) := by decide +kernel
theorem dL_law_183 : decode cL_law 183 = .ok (.irem, 1) := by decide +kernel
theorem dL_law_184 : decode cL_law 184 = .ok (.invokevirtual 81, 3) := by decide +kernel
theorem dL_law_187 : decode cL_law 187 = .ok (.iadd, 1) := by decide +kernel
theorem dL_law_188 : decode cL_law 188 = .ok (.istore 16, 2) := by decide +kernel
theorem dL_law_190 : decode cL_law 190 = .ok (.iinc 15 1, 3) := by decide +kernel
theorem dL_law_193 : decode cL_law 193 = .ok (.iload 17, 2) := by decide +kernel
theorem dL_law_195 : decode cL_law 195 = .ok (.bipush 27, 2) := by decide +kernel
theorem dL_law_197 : decode cL_law 197 = .ok (.idiv, 1) := by decide +kernel
theorem dL_law_198 : decode cL_law 198 = .ok (.istore 17, 2) := by decide +kernel
theorem dL_law_200 : decode cL_law 200 = .ok (.goto (-29), 3) := by decide +kernel
theorem dL_law_203 : decode cL_law 203 = .ok (.aload_n 1, 1) := by decide +kernel
theorem dL_law_204 : decode cL_law 204 = .ok (.iload 10, 2) := by decide +kernel
theorem dL_law_206 : decode cL_law 206 = .ok (.iload 13, 2) := by decide +kernel
theorem dL_law_208 : decode cL_law 208 = .ok (.iconst 1, 1) := by decide +kernel
theorem dL_law_209 : decode cL_law 209 = .ok (.invokevirtual 78, 3) := by decide +kernel
theorem dL_law_212 : decode cL_law 212 = .ok (.iload 15, 2) := by decide +kernel
theorem dL_law_214 : decode cL_law 214 = .ok (.if_icmp .ne 134, 3) := by decide +kernel
theorem dL_law_217 : decode cL_law 217 = .ok (.aload_n 1, 1) := by decide +kernel
theorem dL_law_218 : decode cL_law 218 = .ok (.iload 10, 2) := by decide +kernel
theorem dL_law_220 : decode cL_law 220 = .ok (.iload 13, 2) := by decide +kernel
theorem dL_law_222 : decode cL_law 222 = .ok (.iconst 2, 1) := by decide +kernel
theorem dL_law_223 : decode cL_law 223 = .ok (.invokevirtual 78, 3) := by decide +kernel
theorem dL_law_226 : decode cL_law 226 = .ok (.iload 16, 2) := by decide +kernel
theorem dL_law_228 : decode cL_law 228 = .ok (.if_icmp .ne 120, 3) := by decide +kernel
theorem dL_law_231 : decode cL_law 231 = .ok (.aload_n 1, 1) := by decide +kernel
theorem dL_law_232 : decode cL_law 232 = .ok (.iload 14, 2) := by decide +kernel
theorem dL_law_234 : decode cL_law 234 = .ok (.invokevirtual 84, 3) := by decide +kernel
theorem dL_law_237 : decode cL_law 237 = .ok (.iload 16, 2) := by decide +kernel
theorem dL_law_239 : decode cL_law 239 = .ok (.if_icmp .ne 109, 3) := by decide +kernel
theorem dL_law_242 : decode cL_law 242 = .ok (.aload_n 1, 1) := by decide +kernel
theorem dL_law_243 : decode cL_law 243 = .ok (.iload 10, 2) := by decide +kernel
theorem dL_law_245 : decode cL_law 245 = .ok (.iload 13, 2) := by decide +kernel
theorem dL_law_247 : decode cL_law 247 = .ok (.iconst 3, 1) := by decide +kernel
theorem dL_law_248 : decode cL_law 248 = .ok (.invokevirtual 78, 3) := by decide +kernel
theorem dL_law_251 : decode cL_law 251 = .ok (.iload 15, 2) := by decide +kernel
theorem dL_law_253 : decode cL_law 253 = .ok (.if_icmp .gt 95, 3) := by decide +kernel
theorem dL_law_256 : decode cL_law 256 = .ok (.aload_n 1, 1) := by decide +kernel
theorem dL_law_257 : decode cL_law 257 = .ok (.iload 10, 2) := by decide +kernel
theorem dL_law_259 : decode cL_law 259 = .ok (.iload 13, 2) := by decide +kernel
theorem dL_law_261 : decode cL_law 261 = .ok (.iconst 4, 1) := by decide +kernel
theorem dL_law_262 : decode cL_law 262 = .ok (.invokevirtual 78, 3) := by decide +kernel
theorem dL_law_265 : decode cL_law 265 = .ok (.iload 16, 2) := by decide +kernel
theorem dL_law_267 : decode cL_law 267 = .ok (.if_icmp .gt 81, 3) := by decide +kernel
theorem dL_law_270 : decode cL_law 270 = .ok (.aload_n 1, 1) := by decide +kernel
theorem dL_law_271 : decode cL_law 271 = .ok (.iload 10, 2) := by decide +kernel
theorem dL_law_273 : decode cL_law 273 = .ok (.iload 13, 2) := by decide +kernel
theorem dL_law_275 : decode cL_law 275 = .ok (.iconst 3, 1) := by decide +kernel
theorem dL_law_276 : decode cL_law 276 = .ok (.invokevirtual 78, 3) := by decide +kernel
theorem dL_law_279 : decode cL_law 279 = .ok (.ifCond .ne 7, 3) := by decide +kernel
theorem dL_law_282 : decode cL_law 282 = .ok (.iconst 1, 1) := by decide +kernel
theorem dL_law_283 : decode cL_law 283 = .ok (.goto 4, 3) := by decide +kernel
theorem dL_law_286 : decode cL_law 286 = .ok (.iconst 0, 1) := by decide +kernel
theorem dL_law_287 : decode cL_law 287 = .ok (.aload_n 1, 1) := by decide +kernel
theorem dL_law_288 : decode cL_law 288 = .ok (.iload 10, 2) := by decide +kernel
theorem dL_law_290 : decode cL_law 290 = .ok (.iload 13, 2) := by decide +kernel
theorem dL_law_292 : decode cL_law 292 = .ok (.iconst 4, 1) := by decide +kernel
theorem dL_law_293 : decode cL_law 293 = .ok (.invokevirtual 78, 3) := by decide +kernel
theorem dL_law_296 : decode cL_law 296 = .ok (.ifCond .ne 7, 3) := by decide +kernel
theorem dL_law_299 : decode cL_law 299 = .ok (.iconst 1, 1) := by decide +kernel
theorem dL_law_300 : decode cL_law 300 = .ok (.goto 4, 3) := by decide +kernel
theorem dL_law_303 : decode cL_law 303 = .ok (.iconst 0, 1) := by decide +kernel
theorem dL_law_304 : decode cL_law 304 = .ok (.if_icmp .ne 44, 3) := by decide +kernel
theorem dL_law_307 : decode cL_law 307 = .ok (.aload_n 1, 1) := by decide +kernel
theorem dL_law_308 : decode cL_law 308 = .ok (.iload 10, 2) := by decide +kernel
theorem dL_law_310 : decode cL_law 310 = .ok (.iload 13, 2) := by decide +kernel
theorem dL_law_312 : decode cL_law 312 = .ok (.iconst 3, 1) := by decide +kernel
theorem dL_law_313 : decode cL_law 313 = .ok (.invokevirtual 78, 3) := by decide +kernel
theorem dL_law_316 : decode cL_law 316 = .ok (.iload 15, 2) := by decide +kernel
theorem dL_law_318 : decode cL_law 318 = .ok (.if_icmp .ne 7, 3) := by decide +kernel
theorem dL_law_321 : decode cL_law 321 = .ok (.iconst 1, 1) := by decide +kernel
theorem dL_law_322 : decode cL_law 322 = .ok (.goto 4, 3) := by decide +kernel
theorem dL_law_325 : decode cL_law 325 = .ok (.iconst 0, 1) := by decide +kernel
theorem dL_law_326 : decode cL_law 326 = .ok (.aload_n 1, 1) := by decide +kernel
theorem dL_law_327 : decode cL_law 327 = .ok (.iload 10, 2) := by decide +kernel
theorem dL_law_329 : decode cL_law 329 = .ok (.iload 13, 2) := by decide +kernel
theorem dL_law_331 : decode cL_law 331 = .ok (.iconst 4, 1) := by decide +kernel
theorem dL_law_332 : decode cL_law 332 = .ok (.invokevirtual 78, 3) := by decide +kernel
theorem dL_law_335 : decode cL_law 335 = .ok (.iload 16, 2) := by decide +kernel
theorem dL_law_337 : decode cL_law 337 = .ok (.if_icmp .ne 7, 3) := by decide +kernel
theorem dL_law_340 : decode cL_law 340 = .ok (.iconst 1, 1) := by decide +kernel
theorem dL_law_341 : decode cL_law 341 = .ok (.goto 4, 3) := by decide +kernel
theorem dL_law_344 : decode cL_law 344 = .ok (.iconst 0, 1) := by decide +kernel
theorem dL_law_345 : decode cL_law 345 = .ok (.if_icmp .eq 5, 3) := by decide +kernel
theorem dL_law_348 : decode cL_law 348 = .ok (.iconst 0, 1) := by decide +kernel
theorem dL_law_349 : decode cL_law 349 = .ok (.ireturn, 1) := by decide +kernel
theorem dL_law_350 : decode cL_law 350 = .ok (.iconst 1, 1) := by decide +kernel
theorem dL_law_351 : decode cL_law 351 = .ok (.istore 17, 2) := by decide +kernel
theorem dL_law_353 : decode cL_law 353 = .ok (.iload 17, 2) := by decide +kernel
theorem dL_law_355 : decode cL_law 355 = .ok (.iconst 5, 1) := by decide +kernel
theorem dL_law_356 : decode cL_law 356 = .ok (.if_icmp .ge 27, 3) := by decide +kernel
theorem dL_law_359 : decode cL_law 359 = .ok (.aload 12, 2) := by decide +kernel
theorem dL_law_361 : decode cL_law 361 = .ok (.iload 17, 2) := by decide +kernel
theorem dL_law_363 : decode cL_law 363 = .ok (.dup2, 1) := by decide +kernel
theorem dL_law_364 : decode cL_law 364 = .ok (.iaload, 1) := by decide +kernel
theorem dL_law_365 : decode cL_law 365 = .ok (.aload_n 1, 1) := by decide +kernel
theorem dL_law_366 : decode cL_law 366 = .ok (.iload 10, 2) := by decide +kernel
theorem dL_law_368 : decode cL_law 368 = .ok (.iload 13, 2) := by decide +kernel
theorem dL_law_370 : decode cL_law 370 = .ok (.iload 17, 2) := by decide +kernel
theorem dL_law_372 : decode cL_law 372 = .ok (.invokevirtual 78, 3) := by decide +kernel
theorem dL_law_375 : decode cL_law 375 = .ok (.iadd, 1) := by decide +kernel
theorem dL_law_376 : decode cL_law 376 = .ok (.iastore, 1) := by decide +kernel
theorem dL_law_377 : decode cL_law 377 = .ok (.iinc 17 1, 3) := by decide +kernel
theorem dL_law_380 : decode cL_law 380 = .ok (.goto (-27), 3) := by decide +kernel
theorem dL_law_383 : decode cL_law 383 = .ok (.iinc 13 1, 3) := by decide +kernel
theorem dL_law_386 : decode cL_law 386 = .ok (.goto (-243), 3) := by decide +kernel
theorem dL_law_389 : decode cL_law 389 = .ok (.iconst 0, 1) := by decide +kernel
theorem dL_law_390 : decode cL_law 390 = .ok (.istore 13, 2) := by decide +kernel
theorem dL_law_392 : decode cL_law 392 = .ok (.iload 13, 2) := by decide +kernel
theorem dL_law_394 : decode cL_law 394 = .ok (.iconst 5, 1) := by decide +kernel
theorem dL_law_395 : decode cL_law 395 = .ok (.if_icmp .ge 40, 3) := by decide +kernel
theorem dL_law_398 : decode cL_law 398 = .ok (.aload_n 1, 1) := by decide +kernel
theorem dL_law_399 : decode cL_law 399 = .ok (.iload 10, 2) := by decide +kernel
theorem dL_law_401 : decode cL_law 401 = .ok (.iload 13, 2) := by decide +kernel
theorem dL_law_403 : decode cL_law 403 = .ok (.invokevirtual 75, 3) := by decide +kernel
theorem dL_law_406 : decode cL_law 406 = .ok (.aload 12, 2) := by decide +kernel
theorem dL_law_408 : decode cL_law 408 = .ok (.iload 13, 2) := by decide +kernel
theorem dL_law_410 : decode cL_law 410 = .ok (.iaload, 1) := by decide +kernel
theorem dL_law_411 : decode cL_law 411 = .ok (.if_icmp .eq 5, 3) := by decide +kernel
theorem dL_law_414 : decode cL_law 414 = .ok (.iconst 0, 1) := by decide +kernel
theorem dL_law_415 : decode cL_law 415 = .ok (.ireturn, 1) := by decide +kernel
theorem dL_law_416 : decode cL_law 416 = .ok (.aload 6, 2) := by decide +kernel
theorem dL_law_418 : decode cL_law 418 = .ok (.iload 13, 2) := by decide +kernel
theorem dL_law_420 : decode cL_law 420 = .ok (.dup2, 1) := by decide +kernel
theorem dL_law_421 : decode cL_law 421 = .ok (.iaload, 1) := by decide +kernel
theorem dL_law_422 : decode cL_law 422 = .ok (.aload 12, 2) := by decide +kernel
theorem dL_law_424 : decode cL_law 424 = .ok (.iload 13, 2) := by decide +kernel
theorem dL_law_426 : decode cL_law 426 = .ok (.iaload, 1) := by decide +kernel
theorem dL_law_427 : decode cL_law 427 = .ok (.iadd, 1) := by decide +kernel
theorem dL_law_428 : decode cL_law 428 = .ok (.iastore, 1) := by decide +kernel
theorem dL_law_429 : decode cL_law 429 = .ok (.iinc 13 1, 3) := by decide +kernel
theorem dL_law_432 : decode cL_law 432 = .ok (.goto (-40), 3) := by decide +kernel
theorem dL_law_435 : decode cL_law 435 = .ok (.iconst (-1), 1) := by decide +kernel
theorem dL_law_436 : decode cL_law 436 = .ok (.istore 13, 2) := by decide +kernel
theorem dL_law_438 : decode cL_law 438 = .ok (.iload 11, 2) := by decide +kernel
theorem dL_law_440 : decode cL_law 440 = .ok (.iconst 1, 1) := by decide +kernel
theorem dL_law_441 : decode cL_law 441 = .ok (.isub, 1) := by decide +kernel
theorem dL_law_442 : decode cL_law 442 = .ok (.istore 14, 2) := by decide +kernel
theorem dL_law_444 : decode cL_law 444 = .ok (.iload 14, 2) := by decide +kernel
theorem dL_law_446 : decode cL_law 446 = .ok (.ifCond .lt 73, 3) := by decide +kernel
theorem dL_law_449 : decode cL_law 449 = .ok (.iconst 0, 1) := by decide +kernel
theorem dL_law_450 : decode cL_law 450 = .ok (.istore 15, 2) := by decide +kernel
theorem dL_law_452 : decode cL_law 452 = .ok (.iload 14, 2) := by decide +kernel
theorem dL_law_454 : decode cL_law 454 = .ok (.istore 16, 2) := by decide +kernel
theorem dL_law_456 : decode cL_law 456 = .ok (.iload 16, 2) := by decide +kernel
theorem dL_law_458 : decode cL_law 458 = .ok (.iload 11, 2) := by decide +kernel
theorem dL_law_460 : decode cL_law 460 = .ok (.if_icmp .ge 53, 3) := by decide +kernel
theorem dL_law_463 : decode cL_law 463 = .ok (.iload 15, 2) := by decide +kernel
theorem dL_law_465 : decode cL_law 465 = .ok (.iload 7, 2) := by decide +kernel
theorem dL_law_467 : decode cL_law 467 = .ok (.if_icmp .ge 46, 3) := by decide +kernel
theorem dL_law_470 : decode cL_law 470 = .ok (.iload 15, 2) := by decide +kernel
theorem dL_law_472 : decode cL_law 472 = .ok (.aload_n 1, 1) := by decide +kernel
theorem dL_law_473 : decode cL_law 473 = .ok (.iload 10, 2) := by decide +kernel
theorem dL_law_475 : decode cL_law 475 = .ok (.iload 16, 2) := by decide +kernel
theorem dL_law_477 : decode cL_law 477 = .ok (.iconst 2, 1) := by decide +kernel
theorem dL_law_478 : decode cL_law 478 = .ok (.invokevirtual 78, 3) := by decide +kernel
theorem dL_law_481 : decode cL_law 481 = .ok (.iadd, 1) := by decide +kernel
theorem dL_law_482 : decode cL_law 482 = .ok (.istore 15, 2) := by decide +kernel
theorem dL_law_484 : decode cL_law 484 = .ok (.iload 15, 2) := by decide +kernel
theorem dL_law_486 : decode cL_law 486 = .ok (.iload 7, 2) := by decide +kernel
theorem dL_law_488 : decode cL_law 488 = .ok (.if_icmp .eq 6, 3) := by decide +kernel
theorem dL_law_491 : decode cL_law 491 = .ok (.goto 16, 3) := by decide +kernel
theorem dL_law_494 : decode cL_law 494 = .ok (.iinc 8 1, 3) := by decide +kernel
theorem dL_law_497 : decode cL_law 497 = .ok (.bipush 10, 2) := by decide +kernel
theorem dL_law_499 : decode cL_law 499 = .ok (.iload 14, 2) := by decide +kernel
theorem dL_law_501 : decode cL_law 501 = .ok (.imul, 1) := by decide +kernel
theorem dL_law_502 : decode cL_law 502 = .ok (.iload 16, 2) := by decide +kernel
theorem dL_law_504 : decode cL_law 504 = .ok (.iadd, 1) := by decide +kernel
theorem dL_law_505 : decode cL_law 505 = .ok (.istore 13, 2) := by decide +kernel
theorem dL_law_507 : decode cL_law 507 = .ok (.iinc 16 1, 3) := by decide +kernel
theorem dL_law_510 : decode cL_law 510 = .ok (.goto (-54), 3) := by decide +kernel
theorem dL_law_513 : decode cL_law 513 = .ok (.iinc 14 (-1), 3) := by decide +kernel
theorem dL_law_516 : decode cL_law 516 = .ok (.goto (-72), 3) := by decide +kernel
theorem dL_law_519 : decode cL_law 519 = .ok (.aload_n 1, 1) := by decide +kernel
theorem dL_law_520 : decode cL_law 520 = .ok (.iload 10, 2) := by decide +kernel
theorem dL_law_522 : decode cL_law 522 = .ok (.iload 7, 2) := by decide +kernel
theorem dL_law_524 : decode cL_law 524 = .ok (.invokevirtual 87, 3) := by decide +kernel
theorem dL_law_527 : decode cL_law 527 = .ok (.iload 13, 2) := by decide +kernel
theorem dL_law_529 : decode cL_law 529 = .ok (.if_icmp .eq 5, 3) := by decide +kernel
theorem dL_law_532 : decode cL_law 532 = .ok (.iconst 0, 1) := by decide +kernel
theorem dL_law_533 : decode cL_law 533 = .ok (.ireturn, 1) := by decide +kernel
theorem dL_law_534 : decode cL_law 534 = .ok (.aload_n 1, 1) := by decide +kernel
theorem dL_law_535 : decode cL_law 535 = .ok (.iload 10, 2) := by decide +kernel
theorem dL_law_537 : decode cL_law 537 = .ok (.iload 7, 2) := by decide +kernel
theorem dL_law_539 : decode cL_law 539 = .ok (.invokevirtual 90, 3) := by decide +kernel
theorem dL_law_542 : decode cL_law 542 = .ok (.istore 14, 2) := by decide +kernel
theorem dL_law_544 : decode cL_law 544 = .ok (.iload 7, 2) := by decide +kernel
theorem dL_law_546 : decode cL_law 546 = .ok (.aload 12, 2) := by decide +kernel
theorem dL_law_548 : decode cL_law 548 = .ok (.iconst 2, 1) := by decide +kernel
theorem dL_law_549 : decode cL_law 549 = .ok (.iaload, 1) := by decide +kernel
theorem dL_law_550 : decode cL_law 550 = .ok (.isub, 1) := by decide +kernel
theorem dL_law_551 : decode cL_law 551 = .ok (.istore 15, 2) := by decide +kernel
theorem dL_law_553 : decode cL_law 553 = .ok (.iload 14, 2) := by decide +kernel
theorem dL_law_555 : decode cL_law 555 = .ok (.ifCond .lt 16, 3) := by decide +kernel
theorem dL_law_558 : decode cL_law 558 = .ok (.aload_n 1, 1) := by decide +kernel
theorem dL_law_559 : decode cL_law 559 = .ok (.iload 14, 2) := by decide +kernel
theorem dL_law_561 : decode cL_law 561 = .ok (.invokevirtual 81, 3) := by decide +kernel
theorem dL_law_564 : decode cL_law 564 = .ok (.iload 15, 2) := by decide +kernel
theorem dL_law_566 : decode cL_law 566 = .ok (.if_icmp .eq 5, 3) := by decide +kernel
theorem dL_law_569 : decode cL_law 569 = .ok (.iconst 0, 1) := by decide +kernel
theorem dL_law_570 : decode cL_law 570 = .ok (.ireturn, 1) := by decide +kernel
theorem dL_law_571 : decode cL_law 571 = .ok (.iconst 1, 1) := by decide +kernel
theorem dL_law_572 : decode cL_law 572 = .ok (.istore 16, 2) := by decide +kernel
theorem dL_law_574 : decode cL_law 574 = .ok (.iload 16, 2) := by decide +kernel
theorem dL_law_576 : decode cL_law 576 = .ok (.bipush 27, 2) := by decide +kernel
theorem dL_law_578 : decode cL_law 578 = .ok (.if_icmp .ge 35, 3) := by decide +kernel
theorem dL_law_581 : decode cL_law 581 = .ok (.aload_n 1, 1) := by decide +kernel
theorem dL_law_582 : decode cL_law 582 = .ok (.iload 16, 2) := by decide +kernel
theorem dL_law_584 : decode cL_law 584 = .ok (.invokevirtual 81, 3) := by decide +kernel
theorem dL_law_587 : decode cL_law 587 = .ok (.iload 15, 2) := by decide +kernel
theorem dL_law_589 : decode cL_law 589 = .ok (.if_icmp .ne 18, 3) := by decide +kernel
theorem dL_law_592 : decode cL_law 592 = .ok (.iload 14, 2) := by decide +kernel
theorem dL_law_594 : decode cL_law 594 = .ok (.iconst 1, 1) := by decide +kernel
theorem dL_law_595 : decode cL_law 595 = .ok (.if_icmp .lt 10, 3) := by decide +kernel
theorem dL_law_598 : decode cL_law 598 = .ok (.iload 14, 2) := by decide +kernel
theorem dL_law_600 : decode cL_law 600 = .ok (.iload 16, 2) := by decide +kernel
theorem dL_law_602 : decode cL_law 602 = .ok (.if_icmp .le 5, 3) := by decide +kernel
theorem dL_law_605 : decode cL_law 605 = .ok (.iconst 0, 1) := by decide +kernel
theorem dL_law_606 : decode cL_law 606 = .ok (.ireturn, 1) := by decide +kernel
theorem dL_law_607 : decode cL_law 607 = .ok (.iinc 16 1, 3) := by decide +kernel
theorem dL_law_610 : decode cL_law 610 = .ok (.goto (-36), 3) := by decide +kernel
theorem dL_law_613 : decode cL_law 613 = .ok (.iload 9, 2) := by decide +kernel
theorem dL_law_615 : decode cL_law 615 = .ok (.ifCond .lt 24, 3) := by decide +kernel
theorem dL_law_618 : decode cL_law 618 = .ok (.iload 15, 2) := by decide +kernel
theorem dL_law_620 : decode cL_law 620 = .ok (.invokestatic 93, 3) := by decide +kernel
theorem dL_law_623 : decode cL_law 623 = .ok (.iload 7, 2) := by decide +kernel
theorem dL_law_625 : decode cL_law 625 = .ok (.aload_n 1, 1) := by decide +kernel
theorem dL_law_626 : decode cL_law 626 = .ok (.iload 9, 2) := by decide +kernel
theorem dL_law_628 : decode cL_law 628 = .ok (.iconst 2, 1) := by decide +kernel
theorem dL_law_629 : decode cL_law 629 = .ok (.invokevirtual 75, 3) := by decide +kernel
theorem dL_law_632 : decode cL_law 632 = .ok (.isub, 1) := by decide +kernel
theorem dL_law_633 : decode cL_law 633 = .ok (.invokestatic 93, 3) := by decide +kernel
theorem dL_law_636 : decode cL_law 636 = .ok (.if_icmp .ge 7, 3) := by decide +kernel
theorem dL_law_639 : decode cL_law 639 = .ok (.iload 10, 2) := by decide +kernel
theorem dL_law_641 : decode cL_law 641 = .ok (.istore 9, 2) := by decide +kernel
theorem dL_law_643 : decode cL_law 643 = .ok (.iinc 10 1, 3) := by decide +kernel
theorem dL_law_646 : decode cL_law 646 = .ok (.goto (-533), 3) := by decide +kernel
theorem dL_law_649 : decode cL_law 649 = .ok (.iconst 0, 1) := by decide +kernel
theorem dL_law_650 : decode cL_law 650 = .ok (.istore 10, 2) := by decide +kernel
theorem dL_law_652 : decode cL_law 652 = .ok (.iload 10, 2) := by decide +kernel
theorem dL_law_654 : decode cL_law 654 = .ok (.iconst 5, 1) := by decide +kernel
theorem dL_law_655 : decode cL_law 655 = .ok (.if_icmp .ge 27, 3) := by decide +kernel
theorem dL_law_658 : decode cL_law 658 = .ok (.aload_n 1, 1) := by decide +kernel
theorem dL_law_659 : decode cL_law 659 = .ok (.iconst 1, 1) := by decide +kernel
theorem dL_law_660 : decode cL_law 660 = .ok (.iload 10, 2) := by decide +kernel
theorem dL_law_662 : decode cL_law 662 = .ok (.iadd, 1) := by decide +kernel
theorem dL_law_663 : decode cL_law 663 = .ok (.invokevirtual 72, 3) := by decide +kernel
theorem dL_law_666 : decode cL_law 666 = .ok (.aload 6, 2) := by decide +kernel
theorem dL_law_668 : decode cL_law 668 = .ok (.iload 10, 2) := by decide +kernel
theorem dL_law_670 : decode cL_law 670 = .ok (.iaload, 1) := by decide +kernel
theorem dL_law_671 : decode cL_law 671 = .ok (.if_icmp .eq 5, 3) := by decide +kernel
theorem dL_law_674 : decode cL_law 674 = .ok (.iconst 0, 1) := by decide +kernel
theorem dL_law_675 : decode cL_law 675 = .ok (.ireturn, 1) := by decide +kernel
theorem dL_law_676 : decode cL_law 676 = .ok (.iinc 10 1, 3) := by decide +kernel
theorem dL_law_679 : decode cL_law 679 = .ok (.goto (-27), 3) := by decide +kernel
theorem dL_law_682 : decode cL_law 682 = .ok (.aload_n 1, 1) := by decide +kernel
theorem dL_law_683 : decode cL_law 683 = .ok (.iload 7, 2) := by decide +kernel
theorem dL_law_685 : decode cL_law 685 = .ok (.invokevirtual 98, 3) := by decide +kernel
theorem dL_law_688 : decode cL_law 688 = .ok (.iload 8, 2) := by decide +kernel
theorem dL_law_690 : decode cL_law 690 = .ok (.if_icmp .ne 75, 3) := by decide +kernel
theorem dL_law_693 : decode cL_law 693 = .ok (.aload_n 1, 1) := by decide +kernel
theorem dL_law_694 : decode cL_law 694 = .ok (.iload 7, 2) := by decide +kernel
theorem dL_law_696 : decode cL_law 696 = .ok (.invokevirtual 101, 3) := by decide +kernel
theorem dL_law_699 : decode cL_law 699 = .ok (.iload 9, 2) := by decide +kernel
theorem dL_law_701 : decode cL_law 701 = .ok (.if_icmp .ne 64, 3) := by decide +kernel
theorem dL_law_704 : decode cL_law 704 = .ok (.aload_n 1, 1) := by decide +kernel
theorem dL_law_705 : decode cL_law 705 = .ok (.bipush 6, 2) := by decide +kernel
theorem dL_law_707 : decode cL_law 707 = .ok (.invokevirtual 72, 3) := by decide +kernel
theorem dL_law_710 : decode cL_law 710 = .ok (.ifCond .lt 55, 3) := by decide +kernel
theorem dL_law_713 : decode cL_law 713 = .ok (.aload_n 1, 1) := by decide +kernel
theorem dL_law_714 : decode cL_law 714 = .ok (.bipush 6, 2) := by decide +kernel
theorem dL_law_716 : decode cL_law 716 = .ok (.invokevirtual 72, 3) := by decide +kernel
theorem dL_law_719 : decode cL_law 719 = .ok (.aload 6, 2) := by decide +kernel
theorem dL_law_721 : decode cL_law 721 = .ok (.iconst 0, 1) := by decide +kernel
theorem dL_law_722 : decode cL_law 722 = .ok (.iaload, 1) := by decide +kernel
theorem dL_law_723 : decode cL_law 723 = .ok (.aload 6, 2) := by decide +kernel
theorem dL_law_725 : decode cL_law 725 = .ok (.iconst 0, 1) := by decide +kernel
theorem dL_law_726 : decode cL_law 726 = .ok (.iaload, 1) := by decide +kernel
theorem dL_law_727 : decode cL_law 727 = .ok (.iconst 1, 1) := by decide +kernel
theorem dL_law_728 : decode cL_law 728 = .ok (.isub, 1) := by decide +kernel
theorem dL_law_729 : decode cL_law 729 = .ok (.imul, 1) := by decide +kernel
theorem dL_law_730 : decode cL_law 730 = .ok (.iconst 2, 1) := by decide +kernel
theorem dL_law_731 : decode cL_law 731 = .ok (.idiv, 1) := by decide +kernel
theorem dL_law_732 : decode cL_law 732 = .ok (.if_icmp .gt 33, 3) := by decide +kernel
theorem dL_law_735 : decode cL_law 735 = .ok (.aload_n 1, 1) := by decide +kernel
theorem dL_law_736 : decode cL_law 736 = .ok (.invokevirtual 104, 3) := by decide +kernel
theorem dL_law_739 : decode cL_law 739 = .ok (.aload 6, 2) := by decide +kernel
theorem dL_law_741 : decode cL_law 741 = .ok (.iconst 0, 1) := by decide +kernel
theorem dL_law_742 : decode cL_law 742 = .ok (.iaload, 1) := by decide +kernel
theorem dL_law_743 : decode cL_law 743 = .ok (.ifCond .ne 7, 3) := by decide +kernel
theorem dL_law_746 : decode cL_law 746 = .ok (.dconst 0, 1) := by decide +kernel
theorem dL_law_747 : decode cL_law 747 = .ok (.goto 14, 3) := by decide +kernel
theorem dL_law_750 : decode cL_law 750 = .ok (.aload 6, 2) := by decide +kernel
theorem dL_law_752 : decode cL_law 752 = .ok (.iconst 2, 1) := by decide +kernel
theorem dL_law_753 : decode cL_law 753 = .ok (.iaload, 1) := by decide +kernel
theorem dL_law_754 : decode cL_law 754 = .ok (.i2d, 1) := by decide +kernel
theorem dL_law_755 : decode cL_law 755 = .ok (.aload 6, 2) := by decide +kernel
theorem dL_law_757 : decode cL_law 757 = .ok (.iconst 0, 1) := by decide +kernel
theorem dL_law_758 : decode cL_law 758 = .ok (.iaload, 1) := by decide +kernel
theorem dL_law_759 : decode cL_law 759 = .ok (.i2d, 1) := by decide +kernel
theorem dL_law_760 : decode cL_law 760 = .ok (.ddiv, 1) := by decide +kernel
theorem dL_law_761 : decode cL_law 761 = .ok (.dcmp .l, 1) := by decide +kernel
theorem dL_law_762 : decode cL_law 762 = .ok (.ifCond .eq 5, 3) := by decide +kernel
theorem dL_law_765 : decode cL_law 765 = .ok (.iconst 0, 1) := by decide +kernel
theorem dL_law_766 : decode cL_law 766 = .ok (.ireturn, 1) := by decide +kernel
theorem dL_law_767 : decode cL_law 767 = .ok (.iinc 3 1, 3) := by decide +kernel
theorem dL_law_770 : decode cL_law 770 = .ok (.goto (-748), 3) := by decide +kernel
theorem dL_law_773 : decode cL_law 773 = .ok (.aload_n 2, 1) := by decide +kernel
theorem dL_law_774 : decode cL_law 774 = .ok (.aload_n 1, 1) := by decide +kernel
theorem dL_law_775 : decode cL_law 775 = .ok (.invokevirtual 108, 3) := by decide +kernel
theorem dL_law_778 : decode cL_law 778 = .ok (.ireturn, 1) := by decide +kernel
abbrev vwCl : List vw_C := [(RX0, TX0, 8), (RX1, TX1, 3)]
end
section
/-! ===== the numbers of a poem ===== -/
def qs_ (f : Nat → Nat) : Nat → Nat
  | 0 => 0
  | n + 1 => qs_ f n + f n
theorem qs_s (f : Nat → Nat) (n : Nat) : qs_ f (n + 1) = qs_ f n + f n := rfl
theorem qs_c {f g : Nat → Nat} : ∀ {n : Nat}, (∀ k, k < n → f k = g k) → qs_ f n = qs_ g n
  | 0, _ => rfl
  | n + 1, h => by rw [qs_s, qs_s, qs_c (fun k hk => h k (by omega)), h n (by omega)]
theorem qs_f (f : Nat → Nat) : ∀ n, qs_ f (n + 1) = f 0 + qs_ (fun k => f (k + 1)) n
  | 0 => by simp [qs_]
  | n + 1 => by rw [qs_s, qs_f f n, qs_s]; omega
theorem qs_r (f : Nat → Nat) : ∀ n, qs_ (fun k => f (n - 1 - k)) n = qs_ f n
  | 0 => rfl
  | n + 1 => by
    rw [qs_f, qs_s, qs_c (g := fun k => f (n - 1 - k)) (fun k hk => by show f (n + 1 - 1 - (k + 1)) = f (n - 1 - k); congr 1; omega), qs_r f n]
    show f (n + 1 - 1 - 0) + _ = _
    rw [show n + 1 - 1 - 0 = n by omega]; omega
theorem qs_z {f : Nat → Nat} {n : Nat} : ∀ {N : Nat}, n ≤ N → (∀ k, n ≤ k → k < N → f k = 0) → qs_ f N = qs_ f n
  | 0, h, _ => by rw [show n = 0 by omega]
  | N + 1, h, hz => by
    by_cases e : n = N + 1
    · rw [e]
    · rw [qs_s, qs_z (by omega) (fun k h1 h2 => hz k h1 (by omega)), hz N (by omega) (by omega)]; omega
theorem qs_b {f : Nat → Nat} {b : Nat} : ∀ {n : Nat}, (∀ k, k < n → f k ≤ b) → qs_ f n ≤ n * b
  | 0, _ => by simp [qs_]
  | n + 1, h => by
    rw [qs_s, Nat.succ_mul]
    exact Nat.add_le_add (qs_b (fun k hk => h k (by omega))) (h n (by omega))
/-- order, lines, sizes, words, marks (a word of a line at 10 * line + word) -/
abbrev St_ : Type := Nat × Nat × (Nat → Nat) × (Nat → Nat) × (Nat → Nat)
def so (c : St_) : Nat := c.1
def sn (c : St_) : Nat := c.2.1
def ss (c : St_) : Nat → Nat := c.2.2.1
def sw (c : St_) : Nat → Nat := c.2.2.2.1
def sk (c : St_) : Nat → Nat := c.2.2.2.2
def up_ (f : Nat → Nat) (k v : Nat) : Nat → Nat := fun j => if j = k then v else f j
theorem up_s {f : Nat → Nat} {k v : Nat} : up_ f k v k = v := by simp [up_]
theorem up_n {f : Nat → Nat} {k v j : Nat} (h : j ≠ k) : up_ f k v j = f j := by simp [up_, h]
def st_count (c : St_) (o : Nat) : St_ := (o, sn c, ss c, sw c, sk c)
def st_write (c : St_) : St_ := (so c, sn c + 1, ss c, sw c, sk c)
def st_add (c : St_) (l w : Nat) : St_ := (so c, sn c, up_ (ss c) l (ss c l + 1), up_ (sw c) (10 * l + ss c l) w, up_ (sk c) (10 * l + ss c l) 0)
def st_cut (c : St_) (l : Nat) : St_ := (so c, sn c, up_ (ss c) l (ss c l - 1), sw c, sk c)
def st_mark (c : St_) (i p : Nat) : St_ := (so c, sn c, ss c, sw c, up_ (sk c) i (sk c i ^^^ 2 ^ p))
/-- a letter's value -/
def vl_ (o k : Nat) : Nat := if o = 2 then k * k * 7 % 101 + 1 else if o = 1 then k else if k ≤ 9 then k else if k ≤ 18 then (k - 9) * 10 else (k - 18) * 100
/-- a word's letters -/
def lnf : Nat → Nat → Nat
  | 0, _ => 0
  | f + 1, w => if w = 0 then 0 else lnf f (w / 27) + 1
def ln_ (w : Nat) : Nat := lnf 7 w
theorem lnf_0 (f : Nat) : lnf f 0 = 0 := by cases f <;> simp [lnf]
theorem lnf_s {f w : Nat} (h : ¬ w = 0) : lnf (f + 1) w = lnf f (w / 27) + 1 := by rw [lnf, if_neg h]
theorem lnf_up : ∀ (f w : Nat), w < 27 ^ f → lnf (f + 1) w = lnf f w
  | 0, w, h => by
    have : w = 0 := by simpa using h
    subst this; rfl
  | f + 1, w, h => by
    by_cases e : w = 0
    · subst e; rw [lnf_0, lnf_0]
    · rw [lnf_s e, lnf_s (f := f) e, lnf_up f (w / 27) (by rw [Nat.pow_succ] at h; omega)]
theorem lnf_le : ∀ (f w : Nat), lnf f w ≤ f
  | 0, _ => Nat.le_refl _
  | f + 1, w => by
    rw [lnf]
    by_cases e : w = 0
    · simp [e]
    · rw [if_neg e]; have := lnf_le f (w / 27); omega
theorem ln_6 {w : Nat} (h : w < 387420489) : ln_ w = lnf 6 w := lnf_up 6 w (by simpa using h)
theorem ln_le {w : Nat} (h : w < 387420489) : ln_ w ≤ 6 := by rw [ln_6 h]; exact lnf_le 6 w
theorem lnf_lt : ∀ (f w : Nat), w < 27 ^ f → w < 27 ^ lnf f w
  | 0, w, h => h
  | f + 1, w, h => by
    rw [lnf]
    by_cases e : w = 0
    · simp [e]
    · rw [if_neg e, Nat.pow_succ]
      have := lnf_lt f (w / 27) (by rw [Nat.pow_succ] at h; omega)
      omega
theorem lnf_gt : ∀ (f w n : Nat), w < 27 ^ f → n ≤ f → 27 ^ n ≤ w → n < lnf f w
  | 0, w, n, h, hn, hw => by
    have : n = 0 := by omega
    subst this
    have : w = 0 := by simpa using h
    subst this; simp at hw
  | f + 1, w, 0, h, hn, hw => by
    rw [lnf, if_neg (by intro e; subst e; simp at hw)]; omega
  | f + 1, w, n + 1, h, hn, hw => by
    have h0 : w ≠ 0 := by intro e; subst e; have h27 : 0 < 27 ^ (n + 1) := Nat.pow_pos (by omega); omega
    rw [lnf, if_neg h0]
    have := lnf_gt f (w / 27) n (by rw [Nat.pow_succ] at h; omega) (by omega) (by rw [Nat.pow_succ] at hw; omega)
    omega
/-- the letter at a place, from the first one -/
def at_ (w p : Nat) : Nat := w / 27 ^ (ln_ w - 1 - p) % 27
theorem at_lt (w p : Nat) : at_ w p < 27 := Nat.mod_lt _ (by omega)
/-- a word's value; the value of its marked letters; how many they are -/
def ws0 (o w : Nat) : Nat := qs_ (fun p => vl_ o (at_ w p)) (ln_ w)
def wm_ (o w m : Nat) : Nat := qs_ (fun p => if m.testBit p then vl_ o (at_ w p) else 0) (ln_ w)
def wc_ (w m : Nat) : Nat := qs_ (fun p => if m.testBit p then 1 else 0) (ln_ w)
def wt_ (c : St_) (l w what : Nat) : Nat := if what = 0 then sw c (10 * l + w) else if what = 1 then ln_ (sw c (10 * l + w)) else if what = 2 then ws0 (so c) (sw c (10 * l + w)) else if what = 3 then wc_ (sw c (10 * l + w)) (sk c (10 * l + w)) else wm_ (so c) (sw c (10 * l + w)) (sk c (10 * l + w))
def lt_ (c : St_) (l what : Nat) : Nat := if what = 0 then ss c l else qs_ (fun w => wt_ c l w what) (ss c l)
def al_ (c : St_) (what : Nat) : Nat := qs_ (fun l => lt_ c l what) (sn c)
def on_ (c : St_) (i : Nat) : Bool := decide (i / 10 < sn c) && decide (i % 10 < ss c (i / 10))
def eq_ (c : St_) (a b : Nat) : Nat := if on_ c b && decide (ws0 (so c) (sw c a) = ws0 (so c) (sw c b)) then 1 else 0
def pr_ (c : St_) : Nat := qs_ (fun a => if on_ c a then qs_ (fun b => eq_ c a b) a else 0) (10 * sn c)
def to_ (c : St_) (what : Nat) : Nat := if what = 0 then sn c else if what = 6 then pr_ c else al_ c (what - 1)
/-- the last word of a run that comes to y, from w on with x so far, n words to go; -1 -/
def rn_ (c : St_) (l : Nat) (y : Int32) : Nat → Nat → Nat → Int32
  | 0, _, _ => -1
  | n + 1, w, x => if nI (x + ws0 (so c) (sw c (10 * l + w))) = y then nI w else rn_ c l y n (w + 1) (x + ws0 (so c) (sw c (10 * l + w)))
def ru_ (c : St_) (l : Nat) (y : Int32) (w : Nat) : Int32 := rn_ c l y (ss c l - w) w 0
def hd_ (c : St_) (l : Nat) (y : Int32) : Nat → Nat → Int32
  | 0, _ => -1
  | n + 1, w => if ru_ c l y w = -1 then hd_ c l y n (w + 1) else nI (10 * w) + ru_ c l y w
def hl_ (c : St_) (y : Int32) (l : Nat) : Nat := qs_ (fun w => if ru_ c l y w = -1 then 0 else 1) (ss c l)
def hs_ (c : St_) (y : Int32) : Nat := qs_ (fun l => hl_ c y l) (sn c)
def lk_ (c : St_) (l : Nat) (y : Int32) : Nat → Nat → Int32
  | 0, _ => -1
  | n + 1, k => if nI (lt_ c l 2 + vl_ (so c) k) = y then nI k else lk_ c l y n (k + 1)
def gp_ (c : St_) (y : Int32) (l : Nat) : Int64 := if 0 < (nI (lt_ c l 2)).toInt64 - y.toInt64 then (nI (lt_ c l 2)).toInt64 - y.toInt64 else -((nI (lt_ c l 2)).toInt64 - y.toInt64)
def nr_ (c : St_) (y : Int32) : Nat → Option Nat
  | 0 => none
  | n + 1 => match nr_ c y n with
    | none => some n
    | some b => if gp_ c y n < gp_ c y b then some n else some b
def ni_ (b : Option Nat) : Int32 := match b with
  | none => -1
  | some k => nI k
/-- the fewest letters for years -/
def bs_ (o : Nat) (t : Nat → Nat) (y : Nat) : Nat → Nat
  | 0 => 9999
  | n + 1 => if vl_ o (n + 1) ≤ y then Nat.min (bs_ o t y n) (t (y - vl_ o (n + 1)) + 1) else bs_ o t y n
def tb_ (o : Nat) : Nat → Nat → Nat
  | 0 => fun _ => 0
  | n + 1 => fun j => if j = n + 1 then bs_ o (tb_ o n) (n + 1) 26 else tb_ o n j
def fe_ (o y : Nat) : Nat := tb_ o y y
def en_ (g : Nat) : Int32 := if g < 9999 then nI g else -1
def gs_ (o y : Nat) : Nat → Nat
  | 0 => 0
  | n + 1 => if vl_ o (n + 1) ≤ y ∧ fe_ o (y - vl_ o (n + 1)) + 1 = fe_ o y then n + 1 else gs_ o y n
def gf_ (o y : Nat) : Nat := gs_ o y 26
def sp_ (o y : Nat) : Nat → Nat
  | 0 => y
  | k + 1 => sp_ o y k - vl_ o (gf_ o (sp_ o y k))
def sl_ (o y p : Nat) : Nat := if fe_ o y < 9999 ∧ p < fe_ o y then gf_ o (sp_ o y p) else 0
/-- the checksum -/
def df_ (f : Nat → Nat) : Nat → Int64 → Int64
  | 0, d => d
  | n + 1, d => df_ f n d * 31 + (nI (f n)).toInt64
def dw_ (c : St_) (l : Nat) : Nat → Int64 → Int64
  | 0, d => d
  | n + 1, d => df_ (fun what => wt_ c l n what) 5 (dw_ c l n d)
def dl_ (c : St_) : Nat → Int64 → Int64
  | 0, d => d
  | n + 1, d => dw_ c n (ss c n) (df_ (fun what => lt_ c n what) 5 (dl_ c n d))
def dg_ (c : St_) : Int64 := dl_ c (sn c) (df_ (fun what => to_ c what) 7 (40207 + (nI (so c)).toInt64))
/-- no letter is 0 -/
def nz_ : Nat → Nat → Bool
  | 0, _ => true
  | f + 1, n => if n = 0 then true else if n % 27 = 0 then false else nz_ f (n / 27)
def iw_ (n : Nat) : Bool := decide (0 < n) && decide (n < 387420489) && nz_ 7 n
def oc_ (w x : Nat) : Nat := qs_ (fun k => if w / 27 ^ k % 27 = x then 1 else 0) 6
/-- both have the letters k, k + 1 .. (n of them) as often -/
def ak_ (a b : Nat) : Nat → Nat → Bool
  | 0, _ => true
  | n + 1, k => decide (oc_ a k = oc_ b k) && ak_ a b n (k + 1)
/-- what always holds of a poem -/
def Iv_ (c : St_) : Prop := so c < 3 ∧ sn c ≤ 12 ∧ (∀ l, ss c l ≤ 10) ∧ (∀ i, sw c i < 387420489) ∧ (∀ i, sk c i < 64) ∧ ∀ l w, w < ss c l → sk c (10 * l + w) < 2 ^ ln_ (sw c (10 * l + w))
end
section
/-! ===== plain facts ===== -/
theorem eq0_ {a : Nat} (h : a < 2 ^ 31) : nI a = 0 ↔ a = 0 := by rw [← nI_0]; exact nI_eq h (by omega)
theorem gt0_ {a : Nat} (h : a < 2 ^ 31) : 0 < nI a ↔ 0 < a := by rw [← nI_0]; exact nI_ltI (by omega) h
theorem nle0_ {a : Nat} (h : a < 2 ^ 31) : nI a ≤ 0 ↔ a = 0 := by
  rw [← nI_0, nI_leI h (by omega)]; omega
theorem le0_ {a : Nat} (h : a < 2 ^ 31) (q : ¬ 0 < nI a) : a = 0 := by rw [gt0_ h] at q; omega
def b2_ (b : Bool) : Int32 := if b then 1 else 0
theorem b2_t : b2_ true = 1 := rfl
theorem b2_f : b2_ false = 0 := rfl
theorem b2_0 {b : Bool} : b2_ b = 0 ↔ b = false := by cases b <;> decide
theorem b2_n {b : Bool} : narrow .boolean (.int (b2_ b)) = .int (b2_ b) := by cases b <;> rfl
theorem nI1 : nI 1 = 1 := rfl
theorem nI0 : nI 0 = 0 := rfl
/-- letters' values -/
theorem vl_pos : ∀ o, o < 3 → ∀ k, k < 27 → 0 < k → 0 < vl_ o k := by decide +kernel
theorem vl_le : ∀ o, o < 3 → ∀ k, k < 27 → vl_ o k ≤ 900 := by decide +kernel
theorem vA1 : ∀ o, o < 3 → ∀ k, k < 27 → o = 2 → k * k * 7 % 101 + 1 = vl_ o k := by decide +kernel
theorem vA2 : ∀ o, o < 3 → ∀ k, k < 27 → ¬ o = 2 → o = 1 → k = vl_ o k := by decide +kernel
theorem vA3 : ∀ o, o < 3 → ∀ k, k < 27 → ¬ o = 2 → ¬ o = 1 → k ≤ 9 → k = vl_ o k := by intro o _ k _ h1 h2 h3; unfold vl_; rw [if_neg h1, if_neg h2, if_pos h3]
theorem vA4 : ∀ o, o < 3 → ∀ k, k < 27 → ¬ o = 2 → ¬ o = 1 → ¬ k ≤ 9 → k ≤ 18 → (k - 9) * 10 = vl_ o k := by intro o _ k _ h1 h2 h3 h4; unfold vl_; rw [if_neg h1, if_neg h2, if_neg h3, if_pos h4]
theorem vA5 : ∀ o, o < 3 → ∀ k, k < 27 → ¬ o = 2 → ¬ o = 1 → ¬ k ≤ 9 → ¬ k ≤ 18 → (k - 18) * 100 = vl_ o k := by intro o _ k _ h1 h2 h3 h4; unfold vl_; rw [if_neg h1, if_neg h2, if_neg h3, if_neg h4]
theorem im_ : ∀ m, m < 64 → ∀ p, p < 6 → ((nI m >>> (nI p &&& 31)) &&& nI 1 = nI 1 ↔ m.testBit p = true) := by decide +kernel
theorem xm_ : ∀ m, m < 64 → ∀ p, p < 6 → (nI m ^^^ (nI 1 <<< (nI p &&& 31))) = nI (m ^^^ 2 ^ p) := by decide +kernel
theorem xl_ : ∀ m, m < 64 → ∀ p, p < 6 → m ^^^ 2 ^ p < 64 := by decide +kernel
theorem dv_ (w k : Nat) : w / 27 ^ k / 27 = w / 27 ^ (k + 1) := by rw [Nat.div_div_eq_div_mul, Nat.pow_succ]
theorem wm_63 {o w : Nat} (h : w < 387420489) : wm_ o w 63 = ws0 o w := by
  unfold wm_ ws0
  refine qs_c (fun k hk => ?_)
  have h6 := ln_le h
  have : ∀ p, p < 6 → (63 : Nat).testBit p = true := by decide
  rw [this k (by omega)]; rfl
theorem oc_b (w x : Nat) : oc_ w x ≤ 6 := by
  unfold oc_
  have := qs_b (f := fun k => if w / 27 ^ k % 27 = x then 1 else 0) (b := 1) (n := 6) (fun k _ => by show (if _ then 1 else 0) ≤ 1; split <;> omega)
  omega
theorem b2_ne {b : Bool} (h : ¬ b2_ b = 0) : b = true := by cases b with
  | false => exact absurd rfl h
  | true => rfl
theorem pm_ {p : Nat} (h : p < 2 ^ 31) : nI p - nI 1 < 0 ↔ p = 0 := by
  constructor
  · intro q
    by_cases e : p = 0
    · exact e
    · rw [pk_sub (show 1 ≤ p by omega)] at q
      exact absurd q (nI_pos (by omega))
  · intro e; subst e; decide
theorem im1_ (x : Int32) : x + Int32.ofInt (-1) = x - nI 1 := by
  rw [Int32.sub_eq_add_neg]; rfl
theorem im2_ {p : Nat} (h : 0 < p) : nI p + Int32.ofInt (-1) = nI (p - 1) := by
  rw [im1_, pk_sub h]
def wq_ (o w m n : Nat) : Nat := qs_ (fun p => if m.testBit p then vl_ o (at_ w p) else 0) n
theorem wq_t {o w m p : Nat} (h : 0 < p) (hb : m.testBit (p - 1) = true) : wq_ o w m p = wq_ o w m (p - 1) + vl_ o (at_ w (p - 1)) := by
  obtain ⟨q, rfl⟩ : ∃ q, p = q + 1 := ⟨p - 1, by omega⟩
  simp only [Nat.add_sub_cancel] at hb ⊢
  show qs_ _ (q + 1) = _
  rw [qs_s]
  simp only [hb, if_true]
  rfl
theorem wq_f {o w m p : Nat} (h : 0 < p) (hb : m.testBit (p - 1) = false) : wq_ o w m p = wq_ o w m (p - 1) := by
  obtain ⟨q, rfl⟩ : ∃ q, p = q + 1 := ⟨p - 1, by omega⟩
  simp only [Nat.add_sub_cancel] at hb ⊢
  show qs_ _ (q + 1) = _
  rw [qs_s]
  simp only [hb]
  rfl
theorem rn_s {c : St_} {l w x : Nat} {y : Int32} (h : w < ss c l) : rn_ c l y (ss c l - w) w x = if nI (x + ws0 (so c) (sw c (10 * l + w))) = y then nI w else rn_ c l y (ss c l - (w + 1)) (w + 1) (x + ws0 (so c) (sw c (10 * l + w))) := by
  obtain ⟨n, hn⟩ : ∃ n, ss c l - w = n + 1 := ⟨ss c l - w - 1, by omega⟩
  rw [hn, rn_, show ss c l - (w + 1) = n by omega]
theorem rn_e {c : St_} {l w x : Nat} {y : Int32} (h : ¬ w < ss c l) : rn_ c l y (ss c l - w) w x = -1 := by
  rw [show ss c l - w = 0 by omega]; rfl
theorem rn_r (c : St_) (l : Nat) (y : Int32) : ∀ (n w x : Nat), rn_ c l y n w x = -1 ∨ ∃ k, k < w + n ∧ rn_ c l y n w x = nI k
  | 0, _, _ => Or.inl rfl
  | n + 1, w, x => by
    rw [rn_]
    split
    · exact Or.inr ⟨w, by omega, rfl⟩
    · rcases rn_r c l y n (w + 1) _ with h | ⟨k, h1, h2⟩
      · exact Or.inl h
      · exact Or.inr ⟨k, by omega, h2⟩
theorem ru_r {c : St_} {l w : Nat} {y : Int32} (h : w < ss c l) : ru_ c l y w = -1 ∨ ∃ k, k < ss c l ∧ ru_ c l y w = nI k := by
  rcases rn_r c l y (ss c l - w) w 0 with h1 | ⟨k, h1, h2⟩
  · exact Or.inl h1
  · exact Or.inr ⟨k, by omega, h2⟩
theorem ru_i {c : St_} (hs : ∀ l, ss c l ≤ 10) {l w : Nat} {y : Int32} (h : w < ss c l) : ru_ c l y w < 0 ↔ ru_ c l y w = -1 := by
  rcases ru_r (y := y) h with h1 | ⟨k, h1, h2⟩
  · rw [h1]; decide
  · rw [h2]
    have := hs l
    constructor
    · intro q; exact absurd q (nI_pos (by omega))
    · intro q
      have h3 : nI k < 0 := by rw [q]; decide
      exact absurd h3 (nI_pos (by omega))
end
section
/-! ===== the world: the class's cells, and all others in one pool ===== -/
/-- a pool: its addresses, and what each holds -/
abbrev Pl_ : Type := List Nat × (Nat → va_E)
/-- the row worths -/
abbrev Ax_ : Type := Nat → Int32
def xw (x : Ax_) : Nat → Int32 := x
def ax_w (_ : Ax_) (v : Nat → Int32) : Ax_ := v
/-- a mark's bit, as a row of booleans holds it -/
def mb_ (f : Nat → Nat) (j : Nat) : Int32 := if (f (j / 6)).testBit (j % 6) then 1 else 0
def e_o (ct : Nat → Nat) (t n : Nat) (f : Nat → Option Nat) : va_E := .inl (ct t, n, .inr (.inr (.inr (.inr f))))
def e_q (ct : Nat → Nat) (n : Nat) (f : Nat → Nat) : va_E := .inl (ct 1, n, .inr (.inr (.inr (.inr (fun i => some (f i))))))
def e_i (ct : Nat → Nat) (n : Nat) (f : Nat → Int32) : va_E := .inl (ct 0, n, .inl f)
def e_z (ct : Nat → Nat) (n : Nat) (f : Nat → Int32) : va_E := .inl (ct 2, n, .inl f)
def wl_a (ct ad : Nat → Nat) (c : St_) (x : Ax_) : va_W :=
  [(ad 0, .inr (0, [.int (nI (so c)), .int (nI (sn c)), .ref (ad 1), .ref (ad 2), .ref (ad 3), .ref (ad 4), .ref (ad 5), .ref (ad 6)])),
   (ad 1, e_i ct 12 (fun l => nI (ss c l))),
   (ad 2, e_q ct 12 (fun i => ad (12 + i))),
   (ad 3, e_q ct 12 (fun i => ad (24 + i))),
   (ad 4, e_i ct 120 (xw x))]
def gd_ (f : Nat → Nat) (i w : Nat) : Nat := if w < 10 then f (10 * i + w) else 0
theorem gd_t {f : Nat → Nat} {i w : Nat} (h : w < 10) : gd_ f i w = f (10 * i + w) := if_pos h
def wl_w (ct ad : Nat → Nat) (c : St_) : va_W := (List.range 12).map (fun i => (ad (12 + i), e_i ct 10 (fun w => nI (gd_ (sw c) i w))))
def wl_k (ct ad : Nat → Nat) (c : St_) : va_W := (List.range 12).map (fun i => (ad (24 + i), e_i ct 10 (fun w => nI (gd_ (sk c) i w))))
def wl_c (ct ad : Nat → Nat) (c : St_) (x : Ax_) : va_W := wl_a ct ad c x ++ (wl_w ct ad c ++ wl_k ct ad c)
def wl_ (ct ad : Nat → Nat) (c : St_) (m : Pl_) (x : Ax_) : va_W := wl_c ct ad c x ++ va_pl m.1 m.2
theorem wl_len {ct ad : Nat → Nat} {c : St_} {x : Ax_} : (wl_c ct ad c x).length = 29 := by simp [wl_c, wl_a, wl_w, wl_k]
theorem wl_in {ct ad : Nat → Nat} {c : St_} {m : Pl_} {x : Ax_} {k : Nat} {q : Nat × va_E} (h : (wl_c ct ad c x)[k]? = some q) : (wl_ ct ad c m x)[k]? = some q := by
  unfold wl_
  rw [List.getElem?_append_left (List.getElem?_eq_some_iff.mp h).1]
  exact h
theorem wl_0 {ct ad : Nat → Nat} {c : St_} {m : Pl_} {x : Ax_} {k : Nat} (h : k < 5) : (wl_ ct ad c m x)[k]? = (wl_a ct ad c x)[k]? := by
  unfold wl_
  rw [List.getElem?_append_left (by rw [wl_len]; omega)]
  exact List.getElem?_append_left h
theorem wl_1 {ct ad : Nat → Nat} {c : St_} {m : Pl_} {x : Ax_} {i : Nat} (h : i < 12) : (wl_ ct ad c m x)[5 + i]? = some (ad (12 + i), e_i ct 10 (fun w => nI (gd_ (sw c) i w))) := by
  refine wl_in ?_
  unfold wl_c
  rw [List.getElem?_append_right (by show 5 ≤ 5 + i; omega)]
  show (wl_w ct ad c ++ _)[5 + i - 5]? = _
  rw [show 5 + i - 5 = i by omega, List.getElem?_append_left (by simp [wl_w]; omega)]
  simp [wl_w, h]
theorem wl_2 {ct ad : Nat → Nat} {c : St_} {m : Pl_} {x : Ax_} {i : Nat} (h : i < 12) : (wl_ ct ad c m x)[17 + i]? = some (ad (24 + i), e_i ct 10 (fun w => nI (gd_ (sk c) i w))) := by
  refine wl_in ?_
  unfold wl_c
  rw [List.getElem?_append_right (by show 5 ≤ 17 + i; omega)]
  show (wl_w ct ad c ++ _)[17 + i - 5]? = _
  rw [List.getElem?_append_right (by simp [wl_w]; omega), show 17 + i - 5 - (wl_w ct ad c).length = i by simp [wl_w]; omega]
  simp [wl_k, h]
theorem wl_cs {ct ad : Nat → Nat} {c c' : St_} {m : Pl_} {x x' : Ax_} {k : Nat} {q : Nat × va_E} (hk : k < 29) (h : (wl_c ct ad c x).set k q = wl_c ct ad c' x') : (wl_ ct ad c m x).set k q = wl_ ct ad c' m x' := by
  unfold wl_
  rw [List.set_append_left _ _ (by rw [wl_len]; exact hk), h]
theorem mp_set {α : Type} (n l : Nat) (f f' : Nat → α) (h : ∀ i, i < n → i ≠ l → f i = f' i) : ((List.range n).map f).set l (f' l) = (List.range n).map f' := by
  apply List.ext_getElem?
  intro i
  rw [List.getElem?_set]
  by_cases hi : i < n
  · by_cases e : l = i
    · subst e; simp [hi]
    · simp [e, hi, h i hi (Ne.symm e)]
  · have h1 : ((List.range n).map f)[i]? = none := List.getElem?_eq_none (by simp; omega)
    have h2 : ((List.range n).map f')[i]? = none := List.getElem?_eq_none (by simp; omega)
    rw [h1, h2]
    by_cases e : l = i
    · rw [if_pos e, if_neg (by simp; omega)]
    · rw [if_neg e]
theorem wl_s1 {ct ad : Nat → Nat} {c c' : St_} {m : Pl_} {x : Ax_} {l : Nat} (hl : l < 12) (ha : wl_a ct ad c x = wl_a ct ad c' x) (hk : sk c = sk c') (h : ∀ i w, i ≠ l → w < 10 → sw c (10 * i + w) = sw c' (10 * i + w)) {e : va_E} (he : e = e_i ct 10 (fun w => nI (gd_ (sw c') l w))) : (wl_ ct ad c m x).set (5 + l) (ad (12 + l), e) = wl_ ct ad c' m x := by
  subst he
  refine wl_cs (by omega) ?_
  unfold wl_c
  rw [List.set_append_right _ _ (by show 5 ≤ 5 + l; omega), ha]
  show _ ++ (wl_w ct ad c ++ _).set (5 + l - 5) _ = _
  rw [show 5 + l - 5 = l by omega, List.set_append_left _ _ (by simp [wl_w]; omega)]
  have hw : (wl_w ct ad c).set l (ad (12 + l), e_i ct 10 (fun w => nI (gd_ (sw c') l w))) = wl_w ct ad c' := mp_set 12 l _ (fun i => (ad (12 + i), e_i ct 10 (fun w => nI (gd_ (sw c') i w)))) (fun i _ hne => by
    have : (fun w => nI (gd_ (sw c) i w)) = (fun w => nI (gd_ (sw c') i w)) := funext fun w => by
      unfold gd_
      by_cases hw9 : w < 10
      · rw [if_pos hw9, if_pos hw9, h i w hne hw9]
      · rw [if_neg hw9, if_neg hw9]
    simp only [this])
  rw [hw]
  simp only [wl_k, hk]
theorem wl_s2 {ct ad : Nat → Nat} {c c' : St_} {m : Pl_} {x : Ax_} {l : Nat} (hl : l < 12) (ha : wl_a ct ad c x = wl_a ct ad c' x) (hw : sw c = sw c') (h : ∀ i w, i ≠ l → w < 10 → sk c (10 * i + w) = sk c' (10 * i + w)) {e : va_E} (he : e = e_i ct 10 (fun w => nI (gd_ (sk c') l w))) : (wl_ ct ad c m x).set (17 + l) (ad (24 + l), e) = wl_ ct ad c' m x := by
  subst he
  refine wl_cs (by omega) ?_
  unfold wl_c
  rw [List.set_append_right _ _ (by show 5 ≤ 17 + l; omega), ha]
  show _ ++ (wl_w ct ad c ++ _).set (17 + l - 5) _ = _
  rw [List.set_append_right _ _ (by simp [wl_w]; omega), show 17 + l - 5 - (wl_w ct ad c).length = l by simp [wl_w]; omega]
  have hk : (wl_k ct ad c).set l (ad (24 + l), e_i ct 10 (fun w => nI (gd_ (sk c') l w))) = wl_k ct ad c' := mp_set 12 l _ (fun i => (ad (24 + i), e_i ct 10 (fun w => nI (gd_ (sk c') i w)))) (fun i _ hne => by
    have : (fun w => nI (gd_ (sk c) i w)) = (fun w => nI (gd_ (sk c') i w)) := funext fun w => by
      unfold gd_
      by_cases hw9 : w < 10
      · rw [if_pos hw9, if_pos hw9, h i w hne hw9]
      · rw [if_neg hw9, if_neg hw9]
    simp only [this])
  rw [hk]
  simp only [wl_w, hw]
/-- cells of the world lie from B0 on -/
def AA (B0 : Nat) : Nat → Prop := fun q => B0 ≤ q
def ty_ (ct : Nat → Nat) : List (ClassId × FieldType) := [(ct 0, .int), (ct 1, .array .int), (ct 2, .boolean), (ct 3, .array .boolean), (ct 4, .array (.array .boolean))]
/-- the heap's part -/
def CW (B0 : Nat) (g : va_G) (ct ad : Nat → Nat) (c : St_) (m : Pl_) (x : Ax_) (H : Heap) : Prop :=
  va_P g vwCl (wl_ ct ad c m x) H ∧ va_D (AA B0) (wl_ ct ad c m x) ∧ B0 ≤ H.size ∧ Iv_ c
theorem va_AOA.moved {t : FieldType} {u U : State} (hvm : u.vm.Alike U.vm) (h : va_AOA t u) : va_AOA t U := by
  obtain ⟨comp, c, k, h1, h2, h3, h4, h5⟩ := arrayOverA_spec h
  obtain ⟨k', hk', he⟩ := hvm.2.2 _ _ h3
  have hi : (U.vm.classes.findIdx? fun (x : Class) => match x.kind with | .array component _ => component == comp | _ => false) = some c := by
    have b1 := va_idx_bare U.vm comp
    have b2 := va_idx_bare u.vm comp
    rw [hvm.bare_eq] at b1
    exact (b1.symm.trans b2).trans h2
  have hkind : k'.kind = .array comp (.array t) := by rw [he]; exact h4
  have f1 : U.vm.findClass (FieldType.array t).toString = some comp := by rw [hvm.findClass]; exact h1
  have f2 : U.vm.findClass ("[" ++ (FieldType.array t).toString) = some c := by rw [hvm.findClass]; exact h5
  unfold va_AOA Cond.before Cond.holds
  simp only [Cond.value]
  rw [f1, Option.bind_some]
  refine (congrArg (fun o : Option Nat => (o.bind (fun c => (U.vm.classes[c]?).map fun (k : Class) => match k.kind with | .array _ ty => decide (ty = FieldType.array t) && decide (U.vm.findClass ("[" ++ (FieldType.array t).toString) = some c) | _ => false) == some true)) hi).trans ?_
  simp [hk', hkind, f2]
/-- the links between nest mates -/
def CN (s : State) : Prop := va_Nw (.methodLinkNest RX1 21 yL_letters RL) s ∧ va_Nw (.methodLinkNest RX1 31 yL_value RL) s ∧ va_Nw (.methodLinkNest RL 58 yX1_init RL) s ∧ va_Nw (.classLink RX1 15 "[[Z") s
/-- the tables' part -/
def CK (g : va_G) (ct : Nat → Nat) (s : State) : Prop :=
  va_K g vwCl (ty_ ct) s ∧ va_AOA .int s ∧ va_AOA .boolean s ∧ va_AOA (.array .boolean) s ∧ CN s
def CX (B0 : Nat) (g : va_G) (ct ad : Nat → Nat) (c : St_) (m : Pl_) (x : Ax_) (s : State) (H : Heap) : Prop := CW B0 g ct ad c m x H ∧ CK g ct s
theorem CN.warm {s U : State} (hW : s.WarmedH U.vm) (h : CN s) : CN U := ⟨va_Nw.warmM hW h.1, va_Nw.warmM hW h.2.1, va_Nw.warmM hW h.2.2.1, word_at hW (good_of_word (by decide)) h.2.2.2⟩
theorem CN.same {s U : State} (hv : s.vm = U.vm) (h : CN s) : CN U := ⟨va_Nw.same rfl hv h.1, va_Nw.same rfl hv h.2.1, va_Nw.same rfl hv h.2.2.1, va_Nw.same rfl hv h.2.2.2⟩
theorem CK.warm {g : va_G} {ct : Nat → Nat} {s U : State} (hW : s.WarmedH U.vm) (h : CK g ct s) : CK g ct U :=
  ⟨va_K.moved hW.alike h.1, h.2.1.moved hW.alike, h.2.2.1.moved hW.alike, h.2.2.2.1.moved hW.alike, h.2.2.2.2.warm hW⟩
theorem CK.same {g : va_G} {ct : Nat → Nat} {s U : State} (hv : s.vm = U.vm) (h : CK g ct s) : CK g ct U :=
  have hal : s.vm.Alike U.vm := by rw [hv]; exact Vm.Alike.refl _
  ⟨va_K.moved hal h.1, h.2.1.moved hal, h.2.2.1.moved hal, h.2.2.2.1.moved hal, h.2.2.2.2.same hv⟩
theorem CX.warm {B0 : Nat} {g : va_G} {ct ad : Nat → Nat} {c : St_} {m : Pl_} {x : Ax_} {s U : State} {H : Heap} (h : CX B0 g ct ad c m x s H) (hU : U.heap = H) (hW : s.WarmedH U.vm) : CX B0 g ct ad c m x U U.heap := by
  rw [hU]
  exact ⟨h.1, CK.warm hW h.2⟩
theorem CX.blind {B0 : Nat} {g : va_G} {ct ad : Nat → Nat} {c : St_} {m : Pl_} {x : Ax_} {av : List Value} : FrameBlind (va_Pc av (fun U => CX B0 g ct ad c m x U U.heap)) := by
  intro a U f mk h
  obtain ⟨h1, h2, h3⟩ := h
  exact ⟨h1, h2, CK.same (s := U) (U := U.calling f mk a) rfl h3⟩
theorem tr_blind {av : List Value} : FrameBlind (va_Pc av (fun _ => True)) := fun _ _ _ _ h => h
end
section
/-! ===== rows over the world: reads, writes, calls, throws ===== -/
abbrev rm_ (d k n : Nat) : Room := { frames := d, cells := k, slots := n, locals := 36 * d }
def f0_ (ad : Nat → Nat) (c : St_) : List Value := [.int (nI (so c)), .int (nI (sn c)), .ref (ad 1), .ref (ad 2), .ref (ad 3), .ref (ad 4), .ref (ad 5), .ref (ad 6)]
theorem tx0_own (k : Nat) : (TX0 k).1 = RX0 := by unfold TX0; split <;> rfl
abbrev PX (B0 : Nat) (g : va_G) (ct ad : Nat → Nat) (c : St_) (m : Pl_) (x : Ax_) (av : List Value) : Array Value → State → Prop := va_Pc av (fun U => CX B0 g ct ad c m x U U.heap)
/-- a method that reads: an int, a long, nothing -/
abbrev RI (l : Launch) (y : MethodName) (ws : List Cond) (d : Nat) (P : Array Value → State → Prop) (v : Int32) : Prop := Met l y ws (rm_ d 0 0) P (vp_Si (fun r => r = v)) 0 0 (fun _ => False)
abbrev RL_ (l : Launch) (y : MethodName) (ws : List Cond) (d : Nat) (P : Array Value → State → Prop) (v : Int64) : Prop := Met l y ws (rm_ d 0 0) P (vp_Sl (fun r => r = v)) 0 0 (fun _ => False)
abbrev RD_ (l : Launch) (y : MethodName) (ws : List Cond) (d : Nat) (P : Array Value → State → Prop) (v : UInt64) : Prop := Met l y ws (rm_ d 0 0) P (vp_Sd (fun r => r = v)) 0 0 (fun _ => False)
abbrev RV (l : Launch) (y : MethodName) (ws : List Cond) (d : Nat) (P : Array Value → State → Prop) : Prop := Met l y ws (rm_ d 0 0) P (va_Sv (fun _ => True)) 0 0 (fun _ => False)
/-- a method that writes the world, and answers -/
abbrev WI (l : Launch) (y : MethodName) (ws : List Cond) (d k n : Nat) (B0 : Nat) (g : va_G) (ct ad : Nat → Nat) (c : St_) (m : Pl_) (x : Ax_) (av : List Value) (v : Int32) (c' : St_) (m' : Pl_) (px : Ax_ → Prop) : Prop := Met l y ws (rm_ d k n) (PX B0 g ct ad c m x av) (va_Qi (fun r (u : Ax_) => r = v ∧ px u) (fun u t => CW B0 g ct ad c' m' u t.heap) (AA B0)) k n (AA B0)
abbrev WV (l : Launch) (y : MethodName) (ws : List Cond) (d k n : Nat) (B0 : Nat) (g : va_G) (ct ad : Nat → Nat) (c : St_) (m : Pl_) (x : Ax_) (av : List Value) (c' : St_) (m' : Pl_) (px : Ax_ → Prop) : Prop := Met l y ws (rm_ d k n) (PX B0 g ct ad c m x av) (va_Qv (fun (u : Ax_) => px u) (fun u t => CW B0 g ct ad c' m' u t.heap) (AA B0)) k n (AA B0)
section RW1
variable {p : Program} {l : Launch} {e : Env} {R : Room} {s : State} {m : MethodId} {args : Array Value} {below : List Frame} {meth : Method} {c : Code} {H : Heap} {locs : List Loc} {cells slots : Nat} {Q : State → Prop}
variable {cc : ByteArray} {pc : Nat} {ls : Array Slot} {rest : List Value} {B0 : Nat} {g : va_G} {ct ad : Nat → Nat} {cS : St_} {mS : Pl_} {x : Ax_} {Ts : List Cond}
theorem lv_tn {v w : Int32} (h : v = w) (kk : W p l e R s m args below meth c H locs cells slots Q (F0 m pc ls (.int w :: rest))) : W p l e R s m args below meth c H locs cells slots Q (F0 m pc ls (.int v :: rest)) := h ▸ kk
theorem lv_tl {v w : Int64} (h : v = w) (kk : W p l e R s m args below meth c H locs cells slots Q (F0 m pc ls (.long w :: rest))) : W p l e R s m args below meth c H locs cells slots Q (F0 m pc ls (.long v :: rest)) := h ▸ kk
theorem r_g0 (hC : CX B0 g ct ad cS mS x s H) (hexec : p.tables.exec = Jvm.exec) (hb : c.code = cc) (hts : ∀ w ∈ Ts, w.before args s = true) (hin : ∀ w ∈ wsX00, w ∈ Ts) (hown : s.vm.findClass RX0 = some m.cls) {index : Nat} (k : Nat) (hk : k < 8) (hlink : (Cond.fieldLink RX0 index RX0 (TX0 k).2.1 (TX0 k).2.2.1).before args s = true) {v : Value} (hv : (f0_ ad cS)[k]? = some v) (hdg : decode cc pc = .ok (.getfield index, 3))
    (kk : W p l e R s m args below meth c H locs cells slots Q (F0 m (pc + 3) ls (v :: rest))) : W p l e R s m args below meth c H locs cells slots Q (F0 m pc ls (.ref (ad 0) :: rest)) :=
  va_get (D := g) (ci := 0) (C := RX0) (T := TX0) (N := 8) (ref := RX0) (fs := f0_ ad cS) hexec hb hts hin hown hC.2.1 hC.1.1 0 ((wl_0 (k := 0) (by omega)).trans rfl) rfl k hk hlink (fun y h => by rw [tx0_own] at h; exact h) hv hdg kk
theorem r_ia (hC : CX B0 g ct ad cS mS x s H) (hexec : p.tables.exec = Jvm.exec) (hb : c.code = cc) (q : Nat) {a n : Nat} {f : Nat → Int32} (hq : (wl_ ct ad cS mS x)[q]? = some (a, e_i ct n f)) (hdg : decode cc pc = .ok (.iaload, 1)) {j : Nat} (hj : j < n) (hn : n < 2 ^ 31)
    (kk : W p l e R s m args below meth c H locs cells slots Q (F0 m (pc + 1) ls (.int (f j) :: rest))) : W p l e R s m args below meth c H locs cells slots Q (F0 m pc ls (.int (nI j) :: .ref a :: rest)) := by
  refine va_iald hexec hb hC.2.1 hC.1.1 q 0 hq rfl (vp_in_nI hj hn) hdg ?_
  rw [nI_clamp (by omega)]
  exact kk
theorem r_qa (hC : CX B0 g ct ad cS mS x s H) (hexec : p.tables.exec = Jvm.exec) (hb : c.code = cc) (q : Nat) {a n : Nat} {f : Nat → Nat} (hq : (wl_ ct ad cS mS x)[q]? = some (a, e_q ct n f)) (hdg : decode cc pc = .ok (.aaload, 1)) {j : Nat} (hj : j < n) (hn : n < 2 ^ 31)
    (kk : W p l e R s m args below meth c H locs cells slots Q (F0 m (pc + 1) ls (.ref (f j) :: rest))) : W p l e R s m args below meth c H locs cells slots Q (F0 m pc ls (.int (nI j) :: .ref a :: rest)) := by
  have hc : (nI j).toNatClampNeg = j := nI_clamp (by omega)
  refine W.aald (v := .ref (f j)) (ty := .array .int) hexec hb (hC.1.1 q _ hq) ((hC.2.1.2 1 _ rfl).1 n (fun j => va_rf (some (f j)))) rfl (fun q => by cases q) (by show ¬ (nI j < 0 ∨ (arrV _ _ _).slots.size ≤ _); rw [arrV_size]; exact vp_in_nI hj hn) (by show (arrV _ _ _).slots[_]? = _; rw [arrV_read _ _ (by rw [hc]; exact hj), hc]; rfl) rfl rfl hdg kk
/-- the class's arrays -/
theorem r_sz (hC : CX B0 g ct ad cS mS x s H) (hexec : p.tables.exec = Jvm.exec) (hb : c.code = cc) (hdg : decode cc pc = .ok (.iaload, 1)) {j : Nat} (hj : j < 12) (kk : W p l e R s m args below meth c H locs cells slots Q (F0 m (pc + 1) ls (.int (nI (ss cS j)) :: rest))) : W p l e R s m args below meth c H locs cells slots Q (F0 m pc ls (.int (nI j) :: .ref (ad 1) :: rest)) :=
  r_ia hC hexec hb 1 ((wl_0 (k := 1) (by omega)).trans rfl) hdg hj (by omega) kk
theorem r_wo (hC : CX B0 g ct ad cS mS x s H) (hexec : p.tables.exec = Jvm.exec) (hb : c.code = cc) (hdg : decode cc pc = .ok (.aaload, 1)) {j : Nat} (hj : j < 12) (kk : W p l e R s m args below meth c H locs cells slots Q (F0 m (pc + 1) ls (.ref (ad (12 + j)) :: rest))) : W p l e R s m args below meth c H locs cells slots Q (F0 m pc ls (.int (nI j) :: .ref (ad 2) :: rest)) :=
  r_qa hC hexec hb 2 ((wl_0 (k := 2) (by omega)).trans rfl) hdg hj (by omega) kk
theorem r_ko (hC : CX B0 g ct ad cS mS x s H) (hexec : p.tables.exec = Jvm.exec) (hb : c.code = cc) (hdg : decode cc pc = .ok (.aaload, 1)) {j : Nat} (hj : j < 12) (kk : W p l e R s m args below meth c H locs cells slots Q (F0 m (pc + 1) ls (.ref (ad (24 + j)) :: rest))) : W p l e R s m args below meth c H locs cells slots Q (F0 m pc ls (.int (nI j) :: .ref (ad 3) :: rest)) :=
  r_qa hC hexec hb 3 ((wl_0 (k := 3) (by omega)).trans rfl) hdg hj (by omega) kk
theorem r_wr (hC : CX B0 g ct ad cS mS x s H) (hexec : p.tables.exec = Jvm.exec) (hb : c.code = cc) (hdg : decode cc pc = .ok (.iaload, 1)) {i j : Nat} (hi : i < 12) (hj : j < 10) (kk : W p l e R s m args below meth c H locs cells slots Q (F0 m (pc + 1) ls (.int (nI (sw cS (10 * i + j))) :: rest))) : W p l e R s m args below meth c H locs cells slots Q (F0 m pc ls (.int (nI j) :: .ref (ad (12 + i)) :: rest)) :=
  r_ia hC hexec hb (5 + i) (wl_1 hi) hdg hj (by omega) (by simp only [gd_t hj]; exact kk)
theorem r_kr (hC : CX B0 g ct ad cS mS x s H) (hexec : p.tables.exec = Jvm.exec) (hb : c.code = cc) (hdg : decode cc pc = .ok (.iaload, 1)) {i j : Nat} (hi : i < 12) (hj : j < 10) (kk : W p l e R s m args below meth c H locs cells slots Q (F0 m (pc + 1) ls (.int (nI (sk cS (10 * i + j))) :: rest))) : W p l e R s m args below meth c H locs cells slots Q (F0 m pc ls (.int (nI j) :: .ref (ad (24 + i)) :: rest)) :=
  r_ia hC hexec hb (17 + i) (wl_2 hi) hdg hj (by omega) (by simp only [gd_t hj]; exact kk)
theorem r_wt (hC : CX B0 g ct ad cS mS x s H) (hexec : p.tables.exec = Jvm.exec) (hb : c.code = cc) (hdg : decode cc pc = .ok (.iaload, 1)) {j : Nat} (hj : j < 120) (kk : W p l e R s m args below meth c H locs cells slots Q (F0 m (pc + 1) ls (.int (xw x j) :: rest))) : W p l e R s m args below meth c H locs cells slots Q (F0 m pc ls (.int (nI j) :: .ref (ad 4) :: rest)) :=
  r_ia hC hexec hb 4 ((wl_0 (k := 4) (by omega)).trans rfl) hdg hj (by omega) kk
/-- the receivers -/
theorem rc0 (hC : CX B0 g ct ad cS mS x s H) : ∃ cell : Cell, H[ad 0]? = some cell ∧ cell.vm.isStatics = false ∧ s.vm.findClass RX0 = some cell.cls := va_recv hC.2.1 hC.1.1 (ci := 0) (q0 := 0) rfl ((wl_0 (k := 0) (by omega)).trans rfl)
/-- calls of readers -/
theorem k_rV {own C : String} {y : MethodName} {bytes : ByteArray} {maxL nL n index d : Nat} {ret : Option FieldType} {ws : List Cond} {a : Nat} {As st : List Value} {v : Int32} (hM : RI l y ws d (PX B0 g ct ad cS mS x (.ref a :: As)) v) (hC : CX B0 g ct ad cS mS x s H) (S : CallFix p m c cc nL s args Ts own) (cw : CallW R s args own C index y bytes maxL ret ws (rm_ d 0 0) 0 0 n) (hrec : ∃ cellB : Cell, H[a]? = some cellB ∧ cellB.vm.isStatics = false ∧ s.vm.findClass C = some cellB.cls) (hn : As.length = n) (hsize : ls.size = nL) (hst : st = As.reverse ++ .ref a :: rest) (hW : (rest.map fun v => v.category).sum ≤ 8) (hdg : decode cc pc = .ok (.invokevirtual index, 3)) (hf : cells ≤ R.cells ∧ slots ≤ R.slots)
    (kk : W p l e R s m args below meth c H locs cells slots Q (F0 m (pc + 3) ls (.int v :: rest))) : W p l e R s m args below meth c H locs cells slots Q (F0 m pc ls st) :=
  vp_callSi (W.runV S hM cw ⟨CX.blind, hrec, fun U hU hW => ⟨rfl, hC.warm hU hW⟩⟩ rfl hn hsize hst (lv_room hW) hdg ⟨hf.1, hf.2⟩) (fun r hr => by rw [hr]; exact kk)
theorem k_dV {own C : String} {y : MethodName} {bytes : ByteArray} {maxL nL n index d : Nat} {ret : Option FieldType} {ws : List Cond} {a : Nat} {As st : List Value} {v : UInt64} (hM : RD_ l y ws d (PX B0 g ct ad cS mS x (.ref a :: As)) v) (hC : CX B0 g ct ad cS mS x s H) (S : CallFix p m c cc nL s args Ts own) (cw : CallW R s args own C index y bytes maxL ret ws (rm_ d 0 0) 0 0 n) (hrec : ∃ cellB : Cell, H[a]? = some cellB ∧ cellB.vm.isStatics = false ∧ s.vm.findClass C = some cellB.cls) (hn : As.length = n) (hsize : ls.size = nL) (hst : st = As.reverse ++ .ref a :: rest) (hW : (rest.map fun v => v.category).sum ≤ 8) (hdg : decode cc pc = .ok (.invokevirtual index, 3)) (hf : cells ≤ R.cells ∧ slots ≤ R.slots)
    (kk : W p l e R s m args below meth c H locs cells slots Q (F0 m (pc + 3) ls (.double v :: rest))) : W p l e R s m args below meth c H locs cells slots Q (F0 m pc ls st) :=
  vp_callSd (W.runV S hM cw ⟨CX.blind, hrec, fun U hU hW => ⟨rfl, hC.warm hU hW⟩⟩ rfl hn hsize hst (lv_room hW) hdg ⟨hf.1, hf.2⟩) (fun r hr => by rw [hr]; exact kk)
theorem k_vV {own C : String} {y : MethodName} {bytes : ByteArray} {maxL nL n index d : Nat} {ret : Option FieldType} {ws : List Cond} {a : Nat} {As st : List Value} (hM : RV l y ws d (PX B0 g ct ad cS mS x (.ref a :: As))) (hC : CX B0 g ct ad cS mS x s H) (S : CallFix p m c cc nL s args Ts own) (cw : CallW R s args own C index y bytes maxL ret ws (rm_ d 0 0) 0 0 n) (hrec : ∃ cellB : Cell, H[a]? = some cellB ∧ cellB.vm.isStatics = false ∧ s.vm.findClass C = some cellB.cls) (hn : As.length = n) (hsize : ls.size = nL) (hst : st = As.reverse ++ .ref a :: rest) (hW : (rest.map fun v => v.category).sum ≤ 8) (hdg : decode cc pc = .ok (.invokevirtual index, 3)) (hf : cells ≤ R.cells ∧ slots ≤ R.slots)
    (kk : W p l e R s m args below meth c H locs cells slots Q (F0 m (pc + 3) ls rest)) : W p l e R s m args below meth c H locs cells slots Q (F0 m pc ls st) :=
  va_csv (W.runV S hM cw ⟨CX.blind, hrec, fun U hU hW => ⟨rfl, hC.warm hU hW⟩⟩ rfl hn hsize hst (lv_room hW) hdg ⟨hf.1, hf.2⟩) (fun _ => kk)
theorem k_vS {own : String} {y : MethodName} {bytes : ByteArray} {maxL nL n index d : Nat} {ret : Option FieldType} {ws : List Cond} {As st : List Value} (hM : RV l y ws d (PX B0 g ct ad cS mS x As)) (hC : CX B0 g ct ad cS mS x s H) (S : CallFix p m c cc nL s args Ts own) (cw : CallB R s args own index y bytes maxL ret ws (rm_ d 0 0) 0 0 n ∧ (Cond.static y).before args s = true) (hn : As.length = n) (hsize : ls.size = nL) (hst : st = As.reverse ++ rest) (hW : (rest.map fun v => v.category).sum ≤ 8) (hdg : decode cc pc = .ok (.invokestatic index, 3)) (hf : cells ≤ R.cells ∧ slots ≤ R.slots)
    (kk : W p l e R s m args below meth c H locs cells slots Q (F0 m (pc + 3) ls rest)) : W p l e R s m args below meth c H locs cells slots Q (F0 m pc ls st) :=
  va_csv (W.runS S hM cw ⟨CX.blind, fun U hU hW => ⟨rfl, hC.warm hU hW⟩⟩ rfl hn hsize hst (lv_room hW) hdg ⟨hf.1, hf.2⟩) (fun _ => kk)
/-- .. of a function of its arguments alone -/
theorem k_pS {own : String} {y : MethodName} {bytes : ByteArray} {maxL nL n index d : Nat} {ret : Option FieldType} {ws : List Cond} {As st : List Value} {v : Int32} (hM : RI l y ws d (va_Pc As (fun _ => True)) v) (S : CallFix p m c cc nL s args Ts own) (cw : CallB R s args own index y bytes maxL ret ws (rm_ d 0 0) 0 0 n ∧ (Cond.static y).before args s = true) (hn : As.length = n) (hsize : ls.size = nL) (hst : st = As.reverse ++ rest) (hW : (rest.map fun v => v.category).sum ≤ 8) (hdg : decode cc pc = .ok (.invokestatic index, 3)) (hf : cells ≤ R.cells ∧ slots ≤ R.slots)
    (kk : W p l e R s m args below meth c H locs cells slots Q (F0 m (pc + 3) ls (.int v :: rest))) : W p l e R s m args below meth c H locs cells slots Q (F0 m pc ls st) :=
  vp_callSi (W.runS S hM cw ⟨tr_blind, fun U hU hW => ⟨rfl, trivial⟩⟩ rfl hn hsize hst (lv_room hW) hdg ⟨hf.1, hf.2⟩) (fun r hr => by rw [hr]; exact kk)
end RW1
end
section
/-! ===== rows that change the heap: writes, calls of writers ===== -/
section RW2
variable {p : Program} {l : Launch} {e : Env} {R : Room} {s : State} {m : MethodId} {args : Array Value} {below : List Frame} {meth : Method} {c : Code} {H : Heap} {locs : List Loc} {cells slots : Nat} {Q : State → Prop}
variable {cc : ByteArray} {pc : Nat} {ls : Array Slot} {rest : List Value} {B0 : Nat} {g : va_G} {ct ad : Nat → Nat} {cS c' : St_} {mS m' : Pl_} {x x' : Ax_} {Ts : List Cond}
theorem CX.next {H1 : Heap} {l0 l1 : List Loc} {ws : va_W} (h : CX B0 g ct ad cS mS x s H) (hB : B0 ≤ s.heap.size) (hS : va_S (AA B0) s.heap H l0) (hS1 : va_S (AA B0) s.heap H1 l1) (hP : va_P g vwCl ws H1) (hD : va_D (AA B0) ws) (e : ws = wl_ ct ad c' m' x') (I1 : Iv_ c') : CX B0 g ct ad c' m' x' s H1 := by
  subst e
  exact ⟨⟨hP, hD, Nat.le_trans hB hS1.1, I1⟩, h.2⟩
theorem CX.nextW {H1 : Heap} (h : CX B0 g ct ad cS mS x s H) (hW : CW B0 g ct ad c' m' x' H1) : CX B0 g ct ad c' m' x' s H1 := ⟨hW, h.2⟩
/-- field writes -/
theorem w_f0 (hC : CX B0 g ct ad cS mS x s H) (hB : B0 ≤ s.heap.size) (hS : va_S (AA B0) s.heap H locs) (hexec : p.tables.exec = Jvm.exec) (hb : c.code = cc) (hts : ∀ w ∈ Ts, w.before args s = true) (hin : ∀ w ∈ wsX00, w ∈ Ts) (hown : s.vm.findClass RX0 = some m.cls) {index : Nat} (k : Nat) (hk : k < 2) (hlink : (Cond.fieldLink RX0 index RX0 (TX0 k).2.1 (TX0 k).2.2.1).before args s = true) {v : Int32} (hv : (f0_ ad cS).set k (.int v) = f0_ ad c') (hss : c'.2.2 = cS.2.2) (I1 : Iv_ c') (hdg : decode cc pc = .ok (.putfield index, 3))
    (kk : ∀ (H1 : Heap) (locs1 : List Loc), CX B0 g ct ad c' mS x s H1 → va_S (AA B0) s.heap H1 locs1 → W p l e R s m args below meth c H1 locs1 cells slots Q (F0 m (pc + 3) ls rest)) : W p l e R s m args below meth c H locs cells slots Q (F0 m pc ls (.int v :: .ref (ad 0) :: rest)) := by
  have hd : parseFieldDescriptor (TX0 k).2.2.1 = some .int := by
    rcases (show k = 0 ∨ k = 1 by omega) with rfl | rfl <;> decide +kernel
  have hf : (TX0 k).2.2.2 = false := by rcases (show k = 0 ∨ k = 1 by omega) with rfl | rfl <;> rfl
  refine va_put (D := g) (ci := 0) (C := RX0) (T := TX0) (N := 8) (ref := RX0) (fs := f0_ ad cS) hexec hb hts hin tyX0 tyX0_ok nmX0 hown hC.2.1 hC.1.1 hC.1.2.1 hS 0 ((wl_0 (k := 0) (by omega)).trans rfl) rfl k (by omega) hlink (fun y h => by rw [tx0_own] at h; exact h) hf hd rfl rfl (by show k < 8; omega) hdg (fun H1 locs1 hP hD hS1 => kk H1 locs1 (CX.next hC hB hS hS1 hP hD ?_ I1) hS1)
  rw [hv]
  obtain ⟨o, n, z⟩ := cS
  obtain ⟨o', n', z'⟩ := c'
  simp only at hss
  subst hss
  rfl
theorem w_ia (hC : CX B0 g ct ad cS mS x s H) (hB : B0 ≤ s.heap.size) (hS : va_S (AA B0) s.heap H locs) (hexec : p.tables.exec = Jvm.exec) (hb : c.code = cc) (q : Nat) {a n : Nat} {f : Nat → Int32} (hq : (wl_ ct ad cS mS x)[q]? = some (a, e_i ct n f)) (hdg : decode cc pc = .ok (.iastore, 1)) {j : Nat} {v : Int32} (hj : j < n) (hn : n < 2 ^ 31)
    (he : (wl_ ct ad cS mS x).set q (a, e_i ct n (upd f j v)) = wl_ ct ad c' m' x') (I1 : Iv_ c')
    (kk : ∀ (H1 : Heap) (locs1 : List Loc), CX B0 g ct ad c' m' x' s H1 → va_S (AA B0) s.heap H1 locs1 → W p l e R s m args below meth c H1 locs1 cells slots Q (F0 m (pc + 1) ls rest)) : W p l e R s m args below meth c H locs cells slots Q (F0 m pc ls (.int v :: .int (nI j) :: .ref a :: rest)) := by
  refine va_iast hexec hb hC.2.1 hC.1.1 hC.1.2.1 hS q 0 hq rfl (vp_in_nI hj hn) hdg (fun H1 locs1 hP hD hS1 => kk H1 locs1 (CX.next hC hB hS hS1 hP hD ?_ I1) hS1)
  rw [nI_clamp (by omega)]
  exact he
end RW2
end
section
section RW3
variable {p : Program} {l : Launch} {e : Env} {R : Room} {s : State} {m : MethodId} {args : Array Value} {below : List Frame} {meth : Method} {c : Code} {H : Heap} {locs : List Loc} {cells slots : Nat} {Q : State → Prop}
variable {cc : ByteArray} {pc : Nat} {ls : Array Slot} {rest : List Value} {B0 : Nat} {g : va_G} {ct ad : Nat → Nat} {cS c' : St_} {mS m' : Pl_} {x x' : Ax_} {Ts : List Cond}
variable {own C : String} {y : MethodName} {bytes : ByteArray} {maxL nL n index d k0 n0 : Nat} {ret : Option FieldType} {ws : List Cond} {a : Nat} {As st : List Value} {px : Ax_ → Prop}
/-- calls of writers -/
theorem k_wV {v : Int32} (hM : WI l y ws d k0 n0 B0 g ct ad cS mS x (.ref a :: As) v c' m' px) (hC : CX B0 g ct ad cS mS x s H) (hB : B0 ≤ s.heap.size) (hS : va_S (AA B0) s.heap H locs) (S : CallFix p m c cc nL s args Ts own) (cw : CallW R s args own C index y bytes maxL ret ws (rm_ d k0 n0) k0 n0 n) (hrec : ∃ cellB : Cell, H[a]? = some cellB ∧ cellB.vm.isStatics = false ∧ s.vm.findClass C = some cellB.cls) (hn : As.length = n) (hsize : ls.size = nL) (hst : st = As.reverse ++ .ref a :: rest) (hW : (rest.map fun v => v.category).sum ≤ 8) (hdg : decode cc pc = .ok (.invokevirtual index, 3)) (hf : cells + k0 ≤ R.cells ∧ slots + n0 ≤ R.slots)
    (kk : ∀ (u : Ax_) (H1 : Heap) (locs1 : List Loc), px u → CX B0 g ct ad c' m' u s H1 → va_S (AA B0) s.heap H1 locs1 → W p l e R s m args below meth c H1 locs1 (cells + k0) (slots + n0) Q (F0 m (pc + 3) ls (.int v :: rest))) : W p l e R s m args below meth c H locs cells slots Q (F0 m pc ls st) :=
  va_calli (va_runV S hM cw ⟨CX.blind, hrec, fun U hU hW => ⟨rfl, hC.warm hU hW⟩⟩ rfl hn hsize hst (lv_room hW) hdg hf) hS (fun q _ h => h) (fun q h => h) (fun r u t H1 locs1 ht hvm hw hB1 hz hk hS1 => by
    obtain ⟨rfl, hp⟩ := hw
    rw [ht] at hB1
    exact kk u H1 locs1 hp (CX.nextW hC hB1) hS1)
theorem k_wVv (hM : WV l y ws d k0 n0 B0 g ct ad cS mS x (.ref a :: As) c' m' px) (hC : CX B0 g ct ad cS mS x s H) (hB : B0 ≤ s.heap.size) (hS : va_S (AA B0) s.heap H locs) (S : CallFix p m c cc nL s args Ts own) (cw : CallW R s args own C index y bytes maxL ret ws (rm_ d k0 n0) k0 n0 n) (hrec : ∃ cellB : Cell, H[a]? = some cellB ∧ cellB.vm.isStatics = false ∧ s.vm.findClass C = some cellB.cls) (hn : As.length = n) (hsize : ls.size = nL) (hst : st = As.reverse ++ .ref a :: rest) (hW : (rest.map fun v => v.category).sum ≤ 8) (hdg : decode cc pc = .ok (.invokevirtual index, 3)) (hf : cells + k0 ≤ R.cells ∧ slots + n0 ≤ R.slots)
    (kk : ∀ (u : Ax_) (H1 : Heap) (locs1 : List Loc), px u → CX B0 g ct ad c' m' u s H1 → va_S (AA B0) s.heap H1 locs1 → W p l e R s m args below meth c H1 locs1 (cells + k0) (slots + n0) Q (F0 m (pc + 3) ls rest)) : W p l e R s m args below meth c H locs cells slots Q (F0 m pc ls st) :=
  va_callv (va_runV S hM cw ⟨CX.blind, hrec, fun U hU hW => ⟨rfl, hC.warm hU hW⟩⟩ rfl hn hsize hst (lv_room hW) hdg hf) hS (fun q _ h => h) (fun q h => h) (fun u t H1 locs1 ht hvm hw hB1 hz hk hS1 => by
    rw [ht] at hB1
    exact kk u H1 locs1 hw (CX.nextW hC hB1) hS1)
end RW3
end
section
/-! ===== facts for the readers' walks ===== -/
theorem qs_1 {f : Nat → Nat} {k v : Nat} (h : f k = v) : qs_ f (k + 1) = qs_ f k + v := by rw [qs_s, h]
def of_ (w x j : Nat) : Nat := if w / 27 ^ j % 27 = x then 1 else 0
theorem of_t {w x k : Nat} (h : w / 27 ^ k % 27 = x) : qs_ (of_ w x) (k + 1) = qs_ (of_ w x) k + 1 := qs_1 (f := of_ w x) (if_pos h)
theorem of_f {w x k : Nat} (h : ¬ w / 27 ^ k % 27 = x) : qs_ (of_ w x) (k + 1) = qs_ (of_ w x) k := qs_1 (f := of_ w x) (v := 0) (if_neg h)
theorem nz_0 (f : Nat) : nz_ f 0 = true := by cases f <;> simp [nz_]
theorem nz_n {f r : Nat} (h : ¬ r = 0) (h2 : r % 27 = 0) : nz_ (f + 1) r = false := by rw [nz_, if_neg h, if_pos h2]
theorem nz_y {f r : Nat} (h : ¬ r = 0) (h2 : ¬ r % 27 = 0) : nz_ (f + 1) r = nz_ f (r / 27) := by rw [nz_, if_neg h, if_neg h2]
theorem iw_b {n : Nat} (h : ¬ n < 387420489) : iw_ n = false := by simp [iw_, h]
theorem iw_y {n : Nat} (h0 : 0 < n) (h : n < 387420489) (h2 : nz_ 7 n = true) : iw_ n = true := by simp [iw_, h0, h, h2]
theorem iw_n {n : Nat} (h2 : nz_ 7 n = false) : iw_ n = false := by simp [iw_, h2]
theorem iw_lt {n : Nat} (h : iw_ n = true) : n < 387420489 := by
  simp only [iw_, Bool.and_eq_true, decide_eq_true_eq] at h
  exact h.1.2
theorem pw_ {k r : Nat} (h : k < 6) (h2 : r < 27 ^ (6 - k)) : r / 27 < 27 ^ (6 - (k + 1)) := by
  rw [show 6 - k = (6 - (k + 1)) + 1 by omega, Nat.pow_succ] at h2
  omega
def wd_ (w : Int32) : Bool := decide (0 < w) && iw_ w.toNatClampNeg
theorem wd_n {n : Nat} (h : n < 2 ^ 31) : wd_ (nI n) = iw_ n := by
  unfold wd_
  rw [nI_clamp h]
  by_cases e : n = 0
  · subst e; rfl
  · rw [decide_eq_true ((gt0_ h).mpr (by omega)), Bool.true_and]
theorem gt_i {w : Int32} (h : ¬ w ≤ 0) : 0 < w := Int32.not_le.mp h
theorem wd_0 {w : Int32} (h : w ≤ 0) : wd_ w = false := by
  unfold wd_
  rw [decide_eq_false (fun q => Int32.not_le.mpr q h), Bool.false_and]
theorem wd_of {w : Int32} (h : wd_ w = true) : ∃ n, n < 387420489 ∧ iw_ n = true ∧ w = nI n := by
  by_cases q : w ≤ 0
  · rw [wd_0 q] at h; cases h
  · obtain ⟨n, hn, rfl⟩ := nI_of (x := w) (fun z => q (Int32.le_of_lt z))
    rw [wd_n hn] at h
    exact ⟨n, iw_lt h, h, rfl⟩
theorem lt_n {c : St_} {l what : Nat} (h : ¬ what = 0) : lt_ c l what = qs_ (fun w => wt_ c l w what) (ss c l) := if_neg h
theorem wc_6 {w m : Nat} (h : w < 387420489) (h2 : m < 2 ^ ln_ w) : qs_ (fun p => if m.testBit p then 1 else 0) 6 = wc_ w m := by
  unfold wc_
  refine qs_z (ln_le h) (fun k h3 _ => ?_)
  rw [Nat.testBit_lt_two_pow (Nat.lt_of_lt_of_le h2 (Nat.pow_le_pow_right (by omega) h3))]
  rfl
end
section
theorem ak_e {a b n k : Nat} (h : oc_ a k = oc_ b k) : ak_ a b (n + 1) k = ak_ a b n (k + 1) := by rw [ak_, decide_eq_true h, Bool.true_and]
theorem ak_n {a b n k : Nat} (h : ¬ oc_ a k = oc_ b k) : ak_ a b (n + 1) k = false := by rw [ak_, decide_eq_false h, Bool.false_and]
theorem hd_s {c : St_} {l w : Nat} {y : Int32} (h : w < ss c l) : hd_ c l y (ss c l - w) w = if ru_ c l y w = -1 then hd_ c l y (ss c l - (w + 1)) (w + 1) else nI (10 * w) + ru_ c l y w := by
  obtain ⟨n, hn⟩ : ∃ n, ss c l - w = n + 1 := ⟨ss c l - w - 1, by omega⟩
  rw [hn, hd_, show ss c l - (w + 1) = n by omega]
theorem hd_e {c : St_} {l w : Nat} {y : Int32} (h : ¬ w < ss c l) : hd_ c l y (ss c l - w) w = -1 := by
  rw [show ss c l - w = 0 by omega]; rfl
def hf_ (c : St_) (y : Int32) (l w : Nat) : Nat := if ru_ c l y w = -1 then 0 else 1
theorem hf_t {c : St_} {y : Int32} {l w : Nat} (h : ru_ c l y w = -1) : qs_ (hf_ c y l) (w + 1) = qs_ (hf_ c y l) w := qs_1 (f := hf_ c y l) (v := 0) (if_pos h)
theorem hf_f {c : St_} {y : Int32} {l w : Nat} (h : ¬ ru_ c l y w = -1) : qs_ (hf_ c y l) (w + 1) = qs_ (hf_ c y l) w + 1 := qs_1 (f := hf_ c y l) (if_neg h)
theorem lk_s {c : St_} {l k : Nat} {y : Int32} (h : k < 27) : lk_ c l y (27 - k) k = if nI (lt_ c l 2 + vl_ (so c) k) = y then nI k else lk_ c l y (27 - (k + 1)) (k + 1) := by
  obtain ⟨n, hn⟩ : ∃ n, 27 - k = n + 1 := ⟨27 - k - 1, by omega⟩
  rw [hn, lk_, show 27 - (k + 1) = n by omega]
theorem lc_ (x y : Int64) : 0 ≤ lg_cmp x y ↔ ¬ x < y := by
  by_cases h1 : y < x
  · have e1 : lg_cmp x y = 1 := by simp [lg_cmp, h1]
    rw [e1]
    exact ⟨fun _ q => Int64.lt_irrefl (Int64.lt_trans h1 q), fun _ => by decide⟩
  · by_cases h2 : x = y
    · subst h2
      have e1 : lg_cmp x x = 0 := by simp [lg_cmp]
      rw [e1]
      exact ⟨fun _ => Int64.lt_irrefl, fun _ => by decide⟩
    · have e1 : lg_cmp x y = -1 := by simp [lg_cmp, h1, h2]
      rw [e1]
      refine ⟨fun q => absurd q (by decide), fun q => absurd ?_ q⟩
      exact Int64.lt_of_le_of_ne (Int64.not_lt.mp h1) h2
theorem nr_lt {c : St_} {y : Int32} : ∀ {n b : Nat}, nr_ c y n = some b → b < n
  | 0, b, h => by cases h
  | n + 1, b, h => by
    rw [nr_] at h
    cases e : nr_ c y n with
    | none => rw [e] at h; cases h; omega
    | some b' =>
      rw [e] at h
      simp only at h
      have := nr_lt e
      split at h
      · cases h; omega
      · cases h; omega
theorem ni_neg {b : Option Nat} (h : ∀ k, b = some k → k < 2 ^ 31) : ni_ b < 0 ↔ b = none := by
  cases b with
  | none => exact ⟨fun _ => rfl, fun _ => by decide⟩
  | some k => exact ⟨fun q => absurd q (nI_pos (h k rfl)), fun q => by cases q⟩
/-- the fewest letters -/
theorem bs_le (o : Nat) (t : Nat → Nat) (y : Nat) : ∀ n, bs_ o t y n ≤ 9999
  | 0 => Nat.le_refl _
  | n + 1 => by
    rw [bs_]
    have := bs_le o t y n
    split
    · exact Nat.le_trans (Nat.min_le_left _ _) this
    · exact this
theorem bs_c {o y : Nat} (ho : o < 3) {t u : Nat → Nat} (h : ∀ j, j < y → t j = u j) : ∀ {n}, n ≤ 26 → bs_ o t y n = bs_ o u y n
  | 0, _ => rfl
  | n + 1, hn => by
    have hv := vl_pos o ho (n + 1) (by omega) (by omega)
    rw [bs_, bs_, bs_c ho h (n := n) (by omega)]
    split
    · rw [h _ (by omega)]
    · rfl
theorem tb_s (o n j : Nat) : tb_ o (n + 1) j = if j = n + 1 then bs_ o (tb_ o n) (n + 1) 26 else tb_ o n j := rfl
theorem tb_fe (o : Nat) : ∀ n j, j ≤ n → tb_ o n j = fe_ o j
  | 0, j, h => by rw [show j = 0 by omega]; rfl
  | n + 1, j, h => by
    by_cases e : j = n + 1
    · rw [e]; rfl
    · rw [tb_s, if_neg e]; exact tb_fe o n j (by omega)
theorem fe_0 (o : Nat) : fe_ o 0 = 0 := rfl
theorem fe_s {o y : Nat} (ho : o < 3) (h : 0 < y) : fe_ o y = bs_ o (fe_ o) y 26 := by
  obtain ⟨n, rfl⟩ : ∃ n, y = n + 1 := ⟨y - 1, by omega⟩
  show tb_ o (n + 1) (n + 1) = _
  rw [tb_s, if_pos rfl]
  exact bs_c ho (fun j hj => tb_fe o n j (by omega)) (Nat.le_refl _)
theorem fe_le (o y : Nat) (ho : o < 3) : fe_ o y ≤ 9999 := by
  by_cases h : y = 0
  · subst h; rw [fe_0]; omega
  · rw [fe_s ho (by omega)]; exact bs_le _ _ _ _
theorem bs_b {o y : Nat} (ho : o < 3) (ih : ∀ j, j < y → fe_ o j < 9999 → fe_ o j ≤ j) : ∀ n, n ≤ 26 → bs_ o (fe_ o) y n < 9999 → bs_ o (fe_ o) y n ≤ y
  | 0, _, h => by rw [bs_] at h; omega
  | n + 1, hn, h => by
    have hv := vl_pos o ho (n + 1) (by omega) (by omega)
    have i2 := bs_b ho ih n (by omega)
    rw [bs_] at h ⊢
    split
    · rename_i hle
      rw [if_pos hle] at h
      have i3 := ih (y - vl_ o (n + 1)) (by omega)
      have e1 : Nat.min (bs_ o (fe_ o) y n) (fe_ o (y - vl_ o (n + 1)) + 1) = if bs_ o (fe_ o) y n ≤ fe_ o (y - vl_ o (n + 1)) + 1 then bs_ o (fe_ o) y n else fe_ o (y - vl_ o (n + 1)) + 1 := Nat.min_def
      rw [e1] at h ⊢
      split
      · rename_i q; rw [if_pos q] at h; exact i2 h
      · rename_i q; rw [if_neg q] at h; have := i3 (by omega); omega
    · rename_i hle
      rw [if_neg hle] at h
      exact i2 h
theorem fe_b {o : Nat} (ho : o < 3) : ∀ n y, y < n → fe_ o y < 9999 → fe_ o y ≤ y
  | 0, y, h, _ => by omega
  | n + 1, y, h, h2 => by
    by_cases e : y = 0
    · subst e; rw [fe_0]; omega
    · rw [fe_s ho (by omega)] at h2 ⊢
      exact bs_b ho (fun j hj => fe_b ho n j (by omega)) 26 (Nat.le_refl _) h2
theorem fe_y {o y : Nat} (ho : o < 3) (h : fe_ o y < 9999) : fe_ o y ≤ y := fe_b ho (y + 1) y (by omega) h
theorem en_neg {g : Nat} (h : g ≤ 9999) : en_ g < 0 ↔ ¬ g < 9999 := by
  unfold en_
  split
  · exact ⟨fun q => absurd q (nI_pos (by omega)), fun q => absurd ‹_› q⟩
  · exact ⟨fun _ => by assumption, fun _ => by decide⟩
theorem en_t {g : Nat} (h : g < 9999) : en_ g = nI g := if_pos h
theorem en_f {g : Nat} (h : ¬ g < 9999) : en_ g = -1 := if_neg h
/-- one letter more is looked at: how the best so far goes on -/
theorem bs_0 {o y k : Nat} (hk : 0 < k) (h : ¬ vl_ o k ≤ y) : bs_ o (fe_ o) y k = bs_ o (fe_ o) y (k - 1) := by
  obtain ⟨n, rfl⟩ : ∃ n, k = n + 1 := ⟨k - 1, by omega⟩
  rw [bs_, if_neg h]; rfl
theorem bs_1 {o y k : Nat} (hk : 0 < k) (h : vl_ o k ≤ y) (h2 : bs_ o (fe_ o) y (k - 1) ≤ fe_ o (y - vl_ o k) + 1) : bs_ o (fe_ o) y k = bs_ o (fe_ o) y (k - 1) := by
  obtain ⟨n, rfl⟩ : ∃ n, k = n + 1 := ⟨k - 1, by omega⟩
  rw [bs_, if_pos h]
  exact Nat.min_eq_left h2
theorem bs_2 {o y k : Nat} (hk : 0 < k) (h : vl_ o k ≤ y) (h2 : ¬ bs_ o (fe_ o) y (k - 1) ≤ fe_ o (y - vl_ o k) + 1) : bs_ o (fe_ o) y k = fe_ o (y - vl_ o k) + 1 := by
  obtain ⟨n, rfl⟩ : ∃ n, k = n + 1 := ⟨k - 1, by omega⟩
  rw [bs_, if_pos h]
  exact Nat.min_eq_right (by simp only [Nat.add_sub_cancel] at h2; omega)
theorem sb_lt {a b : Nat} (ha : a < 2 ^ 30) (hb : b < 2 ^ 30) : nI a - nI b < 0 ↔ a < b := by
  constructor
  · intro q
    by_cases h : a < b
    · exact h
    · rw [pk_sub (by omega)] at q
      exact absurd q (nI_pos (by omega))
  · intro q; exact pk_sneg hb q
theorem gs_t {o y k : Nat} (hk : 0 < k) (h : vl_ o k ≤ y ∧ fe_ o (y - vl_ o k) + 1 = fe_ o y) : gs_ o y k = k := by
  obtain ⟨n, rfl⟩ : ∃ n, k = n + 1 := ⟨k - 1, by omega⟩
  rw [gs_, if_pos h]
theorem gs_f {o y k : Nat} (hk : 0 < k) (h : ¬ (vl_ o k ≤ y ∧ fe_ o (y - vl_ o k) + 1 = fe_ o y)) : gs_ o y k = gs_ o y (k - 1) := by
  obtain ⟨n, rfl⟩ : ∃ n, k = n + 1 := ⟨k - 1, by omega⟩
  rw [gs_, if_neg h]; rfl
theorem en_eq {a b : Nat} (h0 : 0 < b) (hb : b < 9999) : en_ a = en_ b - nI 1 ↔ a + 1 = b := by
  rw [en_t hb, pk_sub (show 1 ≤ b by omega)]
  by_cases h : a < 9999
  · rw [en_t h, nI_eq (by omega) (by omega)]; omega
  · rw [en_f h]
    constructor
    · intro q
      have h3 : nI (b - 1) < 0 := by rw [← q]; decide
      exact absurd h3 (nI_pos (by omega))
    · intro q; omega
end
section
/-! ===== the elementary changes of a poem, and their rows ===== -/
def st_w (c : St_) (i v : Nat) : St_ := (so c, sn c, ss c, up_ (sw c) i v, sk c)
def st_k (c : St_) (i v : Nat) : St_ := (so c, sn c, ss c, sw c, up_ (sk c) i v)
def st_s (c : St_) (l v : Nat) : St_ := (so c, sn c, up_ (ss c) l v, sw c, sk c)
theorem iv_o {c : St_} {o : Nat} (h : Iv_ c) (ho : o < 3) : Iv_ (st_count c o) := ⟨ho, h.2⟩
theorem iv_n {c : St_} (h : Iv_ c) (hn : sn c < 12) : Iv_ (st_write c) := ⟨h.1, hn, h.2.2⟩
theorem iv_w {c : St_} {i v : Nat} (h : Iv_ c) (hv : v < 387420489) (hi : ∀ l w, w < ss c l → 10 * l + w ≠ i) : Iv_ (st_w c i v) := by
  refine ⟨h.1, h.2.1, h.2.2.1, fun j => ?_, h.2.2.2.2.1, fun l w hw => ?_⟩
  · show up_ (sw c) i v j < _
    unfold up_
    split
    · exact hv
    · exact h.2.2.2.1 j
  · show sk c (10 * l + w) < 2 ^ ln_ (up_ (sw c) i v (10 * l + w))
    rw [up_n (hi l w hw)]
    exact h.2.2.2.2.2 l w hw
theorem iv_k {c : St_} {i v : Nat} (h : Iv_ c) (hv : v < 64) (hi : ∀ l w, w < ss c l → 10 * l + w = i → v < 2 ^ ln_ (sw c (10 * l + w))) : Iv_ (st_k c i v) := by
  refine ⟨h.1, h.2.1, h.2.2.1, h.2.2.2.1, fun j => ?_, fun l w hw => ?_⟩
  · show up_ (sk c) i v j < _
    unfold up_
    split
    · exact hv
    · exact h.2.2.2.2.1 j
  · show up_ (sk c) i v (10 * l + w) < 2 ^ ln_ (sw c (10 * l + w))
    unfold up_
    split
    · exact hi l w hw (by assumption)
    · exact h.2.2.2.2.2 l w hw
theorem iv_s {c : St_} {l v : Nat} (h : Iv_ c) (hv : v ≤ 10) (hi : ∀ w, w < v → sk c (10 * l + w) < 2 ^ ln_ (sw c (10 * l + w))) : Iv_ (st_s c l v) := by
  refine ⟨h.1, h.2.1, fun j => ?_, h.2.2.2.1, h.2.2.2.2.1, fun j w hw => ?_⟩
  · show up_ (ss c) l v j ≤ _
    unfold up_
    split
    · exact hv
    · exact h.2.2.1 j
  · have hw : w < up_ (ss c) l v j := hw
    show sk c (10 * j + w) < 2 ^ ln_ (sw c (10 * j + w))
    by_cases e : j = l
    · subst e; rw [up_s] at hw; exact hi w hw
    · rw [up_n e] at hw; exact h.2.2.2.2.2 j w hw
/-- the place behind a line's last word is no other word's -/
theorem ix_ {c : St_} (h : Iv_ c) {l0 : Nat} (h0 : ss c l0 < 10) : ∀ l w, w < ss c l → 10 * l + w ≠ 10 * l0 + ss c l0 := by
  intro l w hw e
  have := h.2.2.1 l
  have e1 : l = l0 := by omega
  subst e1
  omega
def sx_ (_ _ : Ax_) : Prop := True
theorem sx_r (x : Ax_) : sx_ x x := trivial
theorem sx_t {x u v : Ax_} (_ : sx_ x u) (_ : sx_ u v) : sx_ x v := trivial
theorem up_nI (f : Nat → Nat) (k v : Nat) : upd (fun l => nI (f l)) k (nI v) = fun l => nI (up_ f k v l) := by
  funext j
  unfold upd up_
  split <;> rfl
theorem up_gd {f : Nat → Nat} {i j v : Nat} (hj : j < 10) : upd (fun w => nI (gd_ f i w)) j (nI v) = fun w => nI (gd_ (up_ f (10 * i + j) v) i w) := by
  funext w
  unfold upd gd_ up_
  by_cases e : w = j
  · subst e; rw [if_pos rfl, if_pos hj, if_pos rfl]
  · rw [if_neg e, if_neg (show ¬ 10 * i + w = 10 * i + j by omega)]
section RW5
variable {p : Program} {l : Launch} {e : Env} {R : Room} {s : State} {m : MethodId} {args : Array Value} {below : List Frame} {meth : Method} {c : Code} {H : Heap} {locs : List Loc} {cells slots : Nat} {Q : State → Prop}
variable {cc : ByteArray} {pc : Nat} {ls : Array Slot} {rest : List Value} {B0 : Nat} {g : va_G} {ct ad : Nat → Nat} {cS c' : St_} {mS m' : Pl_} {x x' : Ax_} {Ts : List Cond}
theorem w_sz (hC : CX B0 g ct ad cS mS x s H) (hB : B0 ≤ s.heap.size) (hS : va_S (AA B0) s.heap H locs) (hexec : p.tables.exec = Jvm.exec) (hb : c.code = cc) (hdg : decode cc pc = .ok (.iastore, 1)) {j v : Nat} (hj : j < 12) (hI : Iv_ (st_s cS j v))
    (kk : ∀ (H1 : Heap) (locs1 : List Loc), CX B0 g ct ad (st_s cS j v) mS x s H1 → va_S (AA B0) s.heap H1 locs1 → W p l e R s m args below meth c H1 locs1 cells slots Q (F0 m (pc + 1) ls rest)) : W p l e R s m args below meth c H locs cells slots Q (F0 m pc ls (.int (nI v) :: .int (nI j) :: .ref (ad 1) :: rest)) :=
  w_ia (c' := st_s cS j v) (m' := mS) (x' := x) hC hB hS hexec hb 1 ((wl_0 (k := 1) (by omega)).trans rfl) hdg hj (by omega) (by rw [up_nI]; rfl) hI kk
theorem w_wr (hC : CX B0 g ct ad cS mS x s H) (hB : B0 ≤ s.heap.size) (hS : va_S (AA B0) s.heap H locs) (hexec : p.tables.exec = Jvm.exec) (hb : c.code = cc) (hdg : decode cc pc = .ok (.iastore, 1)) {i j v : Nat} (hi : i < 12) (hj : j < 10) (hI : Iv_ (st_w cS (10 * i + j) v))
    (kk : ∀ (H1 : Heap) (locs1 : List Loc), CX B0 g ct ad (st_w cS (10 * i + j) v) mS x s H1 → va_S (AA B0) s.heap H1 locs1 → W p l e R s m args below meth c H1 locs1 cells slots Q (F0 m (pc + 1) ls rest)) : W p l e R s m args below meth c H locs cells slots Q (F0 m pc ls (.int (nI v) :: .int (nI j) :: .ref (ad (12 + i)) :: rest)) := by
  have he : (wl_ ct ad cS mS x).set (5 + i) (ad (12 + i), e_i ct 10 (upd (fun w => nI (gd_ (sw cS) i w)) j (nI v))) = wl_ ct ad (st_w cS (10 * i + j) v) mS x := by
    refine wl_s1 (ct := ct) (ad := ad) (c := cS) (c' := st_w cS (10 * i + j) v) (m := mS) (x := x) hi rfl rfl (fun i' w hne hw => ?_) ?_
    · show sw cS (10 * i' + w) = up_ (sw cS) (10 * i + j) v (10 * i' + w)
      rw [up_n (show 10 * i' + w ≠ 10 * i + j by omega)]
    · rw [up_gd hj]; rfl
  exact w_ia hC hB hS hexec hb (5 + i) (wl_1 hi) hdg hj (by omega) he hI kk
theorem w_kr (hC : CX B0 g ct ad cS mS x s H) (hB : B0 ≤ s.heap.size) (hS : va_S (AA B0) s.heap H locs) (hexec : p.tables.exec = Jvm.exec) (hb : c.code = cc) (hdg : decode cc pc = .ok (.iastore, 1)) {i j v : Nat} (hi : i < 12) (hj : j < 10) (hI : Iv_ (st_k cS (10 * i + j) v))
    (kk : ∀ (H1 : Heap) (locs1 : List Loc), CX B0 g ct ad (st_k cS (10 * i + j) v) mS x s H1 → va_S (AA B0) s.heap H1 locs1 → W p l e R s m args below meth c H1 locs1 cells slots Q (F0 m (pc + 1) ls rest)) : W p l e R s m args below meth c H locs cells slots Q (F0 m pc ls (.int (nI v) :: .int (nI j) :: .ref (ad (24 + i)) :: rest)) := by
  have he : (wl_ ct ad cS mS x).set (17 + i) (ad (24 + i), e_i ct 10 (upd (fun w => nI (gd_ (sk cS) i w)) j (nI v))) = wl_ ct ad (st_k cS (10 * i + j) v) mS x := by
    refine wl_s2 (ct := ct) (ad := ad) (c := cS) (c' := st_k cS (10 * i + j) v) (m := mS) (x := x) hi rfl rfl (fun i' w hne hw => ?_) ?_
    · show sk cS (10 * i' + w) = up_ (sk cS) (10 * i + j) v (10 * i' + w)
      rw [up_n (show 10 * i' + w ≠ 10 * i + j by omega)]
    · rw [up_gd hj]; rfl
  exact w_ia hC hB hS hexec hb (17 + i) (wl_2 hi) hdg hj (by omega) he hI kk
theorem w_wt (hC : CX B0 g ct ad cS mS x s H) (hB : B0 ≤ s.heap.size) (hS : va_S (AA B0) s.heap H locs) (hexec : p.tables.exec = Jvm.exec) (hb : c.code = cc) (hdg : decode cc pc = .ok (.iastore, 1)) {j : Nat} {v : Int32} (hj : j < 120)
    (kk : ∀ (H1 : Heap) (locs1 : List Loc), CX B0 g ct ad cS mS (ax_w x (upd (xw x) j v)) s H1 → va_S (AA B0) s.heap H1 locs1 → W p l e R s m args below meth c H1 locs1 cells slots Q (F0 m (pc + 1) ls rest)) : W p l e R s m args below meth c H locs cells slots Q (F0 m pc ls (.int v :: .int (nI j) :: .ref (ad 4) :: rest)) :=
  w_ia (c' := cS) (m' := mS) (x' := ax_w x (upd (xw x) j v)) hC hB hS hexec hb 4 ((wl_0 (k := 4) (by omega)).trans rfl) hdg hj (by omega) rfl hC.1.2.2.2 kk
end RW5
end
section
theorem iv_add {c : St_} {l v : Nat} (h : Iv_ c) (hs : ss c l < 10) (hv : v < 387420489) : Iv_ (st_add c l v) := by
  have h1 : Iv_ (st_w c (10 * l + ss c l) v) := iv_w h hv (ix_ h hs)
  have h2 : Iv_ (st_k (st_w c (10 * l + ss c l) v) (10 * l + ss c l) 0) := iv_k h1 (by omega) (fun l' w hw e => absurd e (ix_ h hs l' w hw))
  have h3 : Iv_ (st_s (st_k (st_w c (10 * l + ss c l) v) (10 * l + ss c l) 0) l (ss c l + 1)) := by
    refine iv_s h2 (by omega) (fun w hw => ?_)
    by_cases e : w = ss c l
    · subst e
      show up_ (sk c) (10 * l + ss c l) 0 (10 * l + ss c l) < _
      rw [up_s]
      exact Nat.pow_pos (by omega)
    · exact h2.2.2.2.2.2 l w (by show w < ss c l; omega)
  exact h3
theorem iv_mark {c : St_} {l w p : Nat} (h : Iv_ c) (hw : w < ss c l) (hp : p < ln_ (sw c (10 * l + w))) : Iv_ (st_k c (10 * l + w) (sk c (10 * l + w) ^^^ 2 ^ p)) := by
  have h6 := ln_le (h.2.2.2.1 (10 * l + w))
  have h10 := h.2.2.1 l
  refine iv_k h (xl_ _ (h.2.2.2.2.1 _) _ (by omega)) (fun l' w' hw' e => ?_)
  have h11 := h.2.2.1 l'
  have e1 : l' = l := by omega
  subst e1
  have e2 : w' = w := by omega
  subst e2
  exact Nat.xor_lt_two_pow (h.2.2.2.2.2 _ _ hw) (Nat.pow_lt_pow_right (by omega) hp)
theorem ws_le {o w : Nat} (ho : o < 3) (h : w < 387420489) : ws0 o w ≤ 5400 := by
  have h6 := ln_le h
  have h1 := qs_b (f := fun p => vl_ o (at_ w p)) (b := 900) (n := ln_ w) (fun k _ => vl_le o ho _ (at_lt _ _))
  unfold ws0
  omega
/-- pairs -/
def pF_ (c : St_) (a : Nat) : Nat := if on_ c a then qs_ (fun b => eq_ c a b) a else 0
def pV_ (c : St_) (v : Int32) (b : Nat) : Nat := if on_ c b && decide (nI (ws0 (so c) (sw c b)) = v) then 1 else 0
theorem on_i {c : St_} {k w : Nat} (hw : w < 10) : on_ c (10 * k + w) = (decide (k < sn c) && decide (w < ss c k)) := by
  unfold on_
  rw [show (10 * k + w) / 10 = k by omega, show (10 * k + w) % 10 = w by omega]
theorem on_t {c : St_} {k w : Nat} (hw : w < 10) (h1 : k < sn c) (h2 : w < ss c k) : on_ c (10 * k + w) = true := by
  rw [on_i hw, decide_eq_true h1, decide_eq_true h2]; rfl
theorem on_f {c : St_} {k w : Nat} (hw : w < 10) (h2 : ¬ w < ss c k) : on_ c (10 * k + w) = false := by
  rw [on_i hw, decide_eq_false h2, Bool.and_false]
theorem pF_e {c : St_} {k : Nat} (hz : ss c k ≤ 10) : qs_ (pF_ c) (10 * (k + 1)) = qs_ (pF_ c) (10 * k + ss c k) := by
  refine qs_z (by omega) (fun j h1 h2 => ?_)
  unfold pF_
  rw [show j = 10 * k + (j - 10 * k) by omega, on_f (by omega) (by omega)]
  rfl
theorem pV_e {c : St_} {k : Nat} {v : Int32} (hz : ss c k ≤ 10) : qs_ (pV_ c v) (10 * (k + 1)) = qs_ (pV_ c v) (10 * k + ss c k) := by
  refine qs_z (by omega) (fun j h1 h2 => ?_)
  unfold pV_
  rw [show j = 10 * k + (j - 10 * k) by omega, on_f (by omega) (by omega)]
  rfl
theorem pV_a {c : St_} (h : Iv_ c) (a n : Nat) : qs_ (pV_ c (nI (ws0 (so c) (sw c a)))) n = qs_ (fun b => eq_ c a b) n := by
  refine qs_c (fun b _ => ?_)
  unfold pV_ eq_
  have h1 := ws_le h.1 (h.2.2.2.1 a)
  have h2 := ws_le h.1 (h.2.2.2.1 b)
  by_cases e : ws0 (so c) (sw c a) = ws0 (so c) (sw c b)
  · rw [decide_eq_true e, decide_eq_true (show nI (ws0 (so c) (sw c b)) = nI (ws0 (so c) (sw c a)) by rw [e])]
  · rw [decide_eq_false e, decide_eq_false (fun q => e ((nI_eq (by omega) (by omega)).mp q).symm)]
theorem pF_t {c : St_} {a : Nat} (h : on_ c a = true) : qs_ (pF_ c) (a + 1) = qs_ (pF_ c) a + qs_ (fun b => eq_ c a b) a := qs_1 (f := pF_ c) (if_pos h)
/-- the worths seen so far, one more -/
theorem pw_n {c : St_} {a n : Nat} {f : Nat → Int32} (ho : on_ c a = true) (h : ∀ v : Int32, qs_ (fun j => if f j = v then 1 else 0) n = qs_ (pV_ c v) a) (v : Int32) : qs_ (fun j => if upd f n (nI (ws0 (so c) (sw c a))) j = v then 1 else 0) (n + 1) = qs_ (pV_ c v) (a + 1) := by
  rw [qs_s, qs_s, ← h v, qs_c (g := fun j => if f j = v then 1 else 0) (fun k hk => by
    have e : upd f n (nI (ws0 (so c) (sw c a))) k = f k := if_neg (by omega)
    simp only [e])]
  congr 1
  unfold pV_ upd
  rw [if_pos rfl, ho, Bool.true_and]
  by_cases e : nI (ws0 (so c) (sw c a)) = v
  · rw [if_pos e, decide_eq_true e]; rfl
  · rw [if_neg e, decide_eq_false e]; rfl
/-- spelling -/
theorem gs_in {o y : Nat} : ∀ n, (∃ k, 0 < k ∧ k ≤ n ∧ vl_ o k ≤ y ∧ fe_ o (y - vl_ o k) + 1 = fe_ o y) → 0 < gs_ o y n ∧ gs_ o y n ≤ n ∧ vl_ o (gs_ o y n) ≤ y ∧ fe_ o (y - vl_ o (gs_ o y n)) + 1 = fe_ o y
  | 0, ⟨k, h1, h2, _⟩ => by omega
  | n + 1, ⟨k, h1, h2, h3⟩ => by
    by_cases e : vl_ o (n + 1) ≤ y ∧ fe_ o (y - vl_ o (n + 1)) + 1 = fe_ o y
    · rw [gs_, if_pos e]; exact ⟨by omega, by omega, e.1, e.2⟩
    · rw [gs_, if_neg e]
      have h4 : k ≤ n := by
        by_cases e2 : k = n + 1
        · subst e2; exact absurd h3 e
        · omega
      have h5 := gs_in n ⟨k, h1, h4, h3⟩
      exact ⟨h5.1, by omega, h5.2.2⟩
theorem bs_in {o y : Nat} : ∀ n, bs_ o (fe_ o) y n < 9999 → ∃ k, 0 < k ∧ k ≤ n ∧ vl_ o k ≤ y ∧ fe_ o (y - vl_ o k) + 1 = bs_ o (fe_ o) y n
  | 0, h => by rw [bs_] at h; omega
  | n + 1, h => by
    by_cases e : vl_ o (n + 1) ≤ y
    · by_cases e2 : bs_ o (fe_ o) y n ≤ fe_ o (y - vl_ o (n + 1)) + 1
      · have h3 : bs_ o (fe_ o) y (n + 1) = bs_ o (fe_ o) y n := by rw [bs_, if_pos e]; exact Nat.min_eq_left e2
        rw [h3] at h ⊢
        obtain ⟨k, h4, h5, h6⟩ := bs_in n h
        exact ⟨k, h4, by omega, h6⟩
      · have h3 : bs_ o (fe_ o) y (n + 1) = fe_ o (y - vl_ o (n + 1)) + 1 := by rw [bs_, if_pos e]; exact Nat.min_eq_right (by omega)
        exact ⟨n + 1, by omega, by omega, e, h3.symm⟩
    · have h3 : bs_ o (fe_ o) y (n + 1) = bs_ o (fe_ o) y n := by rw [bs_, if_neg e]
      rw [h3] at h ⊢
      obtain ⟨k, h4, h5, h6⟩ := bs_in n h
      exact ⟨k, h4, by omega, h6⟩
theorem gf_in {o y : Nat} (ho : o < 3) (h0 : 0 < fe_ o y) (h : fe_ o y < 9999) : 0 < gf_ o y ∧ gf_ o y ≤ 26 ∧ vl_ o (gf_ o y) ≤ y ∧ fe_ o (y - vl_ o (gf_ o y)) + 1 = fe_ o y := by
  have hy : 0 < y := by
    by_cases e : y = 0
    · subst e; rw [fe_0] at h0; omega
    · omega
  have h2 := bs_in (o := o) (y := y) 26 (by rw [← fe_s ho hy]; exact h)
  rw [← fe_s ho hy] at h2
  exact gs_in 26 h2
/-- k letters on: what is left is spelled with k letters less -/
theorem sp_in {o y : Nat} (ho : o < 3) (h : fe_ o y < 9999) : ∀ k, k ≤ fe_ o y → fe_ o (sp_ o y k) + k = fe_ o y ∧ sp_ o y k ≤ y
  | 0, _ => ⟨rfl, Nat.le_refl _⟩
  | k + 1, hk => by
    obtain ⟨h1, h2⟩ := sp_in ho h k (by omega)
    obtain ⟨g1, g2, g3, g4⟩ := gf_in (o := o) (y := sp_ o y k) ho (by omega) (by omega)
    refine ⟨?_, ?_⟩
    · show fe_ o (sp_ o y k - vl_ o (gf_ o (sp_ o y k))) + (k + 1) = _
      omega
    · show sp_ o y k - vl_ o (gf_ o (sp_ o y k)) ≤ y
      omega
theorem to_n {c : St_} {q : Nat} (h : ¬ q = 0) (h2 : ¬ q = 6) : to_ c q = al_ c (q - 1) := by unfold to_; rw [if_neg h, if_neg h2]
theorem sl_c {o y p : Nat} (h9 : fe_ o y ≤ 9999) (hp : p < 2 ^ 31) : nI p < en_ (fe_ o y) ↔ fe_ o y < 9999 ∧ p < fe_ o y := by
  by_cases h : fe_ o y < 9999
  · rw [en_t h, nI_ltI hp (by omega)]
    exact ⟨fun q => ⟨h, q⟩, fun q => q.2⟩
  · rw [en_f h]
    constructor
    · intro q
      have h3 : nI p < 0 := Int32.lt_trans q (by decide)
      exact absurd h3 (nI_pos hp)
    · intro q; exact absurd q.1 h
theorem sl_0 {o y p : Nat} (h9 : fe_ o y ≤ 9999) (hp : p < 2 ^ 31) (h : ¬ nI p < en_ (fe_ o y)) : sl_ o y p = 0 := if_neg (fun q => h ((sl_c h9 hp).mpr q))
end
section
/-! ===== facts for the model's walks ===== -/
def ii_ (v lo hi : Int32) : Bool := decide (lo ≤ v) && decide (v ≤ hi)
theorem ii_1 {v lo hi : Int32} (h : v < lo) : ii_ v lo hi = false := by
  unfold ii_; rw [decide_eq_false (fun q => Int32.not_le.mpr h q), Bool.false_and]
theorem ii_2 {v lo hi : Int32} (h : hi < v) : ii_ v lo hi = false := by
  unfold ii_; rw [decide_eq_false (p := v ≤ hi) (fun q => Int32.not_le.mpr h q), Bool.and_false]
theorem ii_3 {v lo hi : Int32} (h : ¬ v < lo) (h2 : ¬ hi < v) : ii_ v lo hi = true := by
  unfold ii_; rw [decide_eq_true (Int32.not_lt.mp h), decide_eq_true (Int32.not_lt.mp h2)]; rfl
def li_ (n : Nat) (v : Int32) : Bool := ii_ v (nI 0) (nI n - nI 1)
theorem li_t {n j : Nat} (h : j < n) (hn : n < 2 ^ 30) : li_ n (nI j) = true := by
  unfold li_
  refine ii_3 (nI_pos (by omega)) ?_
  rw [pk_sub (show 1 ≤ n by omega), nI_ltI (by omega) (by omega)]
  omega
theorem li_f {n : Nat} {v : Int32} (h : v < 0 ∨ nI n ≤ v) (hn : n < 2 ^ 30) : li_ n v = false := by
  unfold li_
  rcases h with h | h
  · exact ii_1 h
  · refine ii_2 (Int32.lt_of_lt_of_le ?_ h)
    rw [Int32.lt_iff_toInt_lt, pk_sub_toInt hn (by omega), nI_toInt (by omega)]
    omega
theorem li_i {n j : Nat} (hn : n < 2 ^ 30) (hj : j < 2 ^ 30) : li_ n (nI j) = decide (j < n) := by
  by_cases h : j < n
  · rw [li_t h hn, decide_eq_true h]
  · rw [li_f (Or.inr (by rw [nI_leI (by omega) (by omega)]; omega)) hn, decide_eq_false h]
theorem lnf_p {f r : Nat} (h2 : r < 27 ^ f) (h : ¬ r = 0) : lnf f r = lnf (f - 1) (r / 27) + 1 ∧ r / 27 < 27 ^ (f - 1) ∧ 0 < f := by
  cases f with
  | zero => exact absurd (by simpa using h2) h
  | succ f =>
    refine ⟨lnf_s h, ?_, by omega⟩
    rw [Nat.pow_succ] at h2
    show r / 27 < 27 ^ f
    omega
theorem nz_p {f r : Nat} (hf : 0 < f) (h : ¬ r = 0) (h2 : ¬ r % 27 = 0) : nz_ f r = nz_ (f - 1) (r / 27) := by
  obtain ⟨k, rfl⟩ : ∃ k, f = k + 1 := ⟨f - 1, by omega⟩
  exact nz_y h h2
theorem nz_q {f r : Nat} (hf : 0 < f) (h : ¬ r = 0) (h2 : r % 27 = 0) : nz_ f r = false := by
  obtain ⟨k, rfl⟩ : ∃ k, f = k + 1 := ⟨f - 1, by omega⟩
  exact nz_n h h2
theorem ln_i {n : Nat} (h : n < 2 ^ 31) : 6 < ln_ n ↔ ¬ n < 387420489 := by
  have h7 : n < 27 ^ 7 := by omega
  constructor
  · intro q e
    have := ln_le e
    omega
  · intro q
    exact lnf_gt 7 n 6 h7 (by omega) (by omega)
theorem ln_7 (n : Nat) : ln_ n ≤ 7 := lnf_le 7 n
/-- how often a letter stands in a word, from either end -/
theorem oc_at {w x : Nat} (hw : w < 387420489) (hx : 0 < x) : qs_ (fun p => if at_ w p = x then 1 else 0) (ln_ w) = oc_ w x := by
  have h6 := ln_le hw
  have h1 : qs_ (fun p => if at_ w p = x then 1 else 0) (ln_ w) = qs_ (of_ w x) (ln_ w) := by
    rw [← qs_r (of_ w x) (ln_ w)]
    rfl
  rw [h1]
  have h2 : qs_ (of_ w x) 6 = qs_ (of_ w x) (ln_ w) := by
    refine qs_z h6 (fun k hk _ => ?_)
    unfold of_
    have h3 : w < 27 ^ ln_ w := lnf_lt 7 w (by omega)
    have h4 : 27 ^ ln_ w ≤ 27 ^ k := Nat.pow_le_pow_right (by omega) hk
    rw [Nat.div_eq_of_lt (by omega), if_neg (by omega)]
  rw [← h2]
  rfl
theorem mb_i {f : Nat → Nat} {i k : Nat} (h : k < 6) : mb_ f (6 * i + k) = b2_ ((f i).testBit k) := by
  unfold mb_ b2_
  rw [show (6 * i + k) / 6 = i by omega, show (6 * i + k) % 6 = k by omega]
theorem wq_1 {o w m k : Nat} (h : m.testBit k = true) : wq_ o w m (k + 1) = wq_ o w m k + vl_ o (at_ w k) := by
  have := wq_t (o := o) (w := w) (m := m) (p := k + 1) (by omega) h
  exact this
theorem wq_2 {o w m k : Nat} (h : m.testBit k = false) : wq_ o w m (k + 1) = wq_ o w m k := by
  have := wq_f (o := o) (w := w) (m := m) (p := k + 1) (by omega) h
  exact this
def wb_ (m p : Nat) : Nat := if m.testBit p then 1 else 0
theorem wb_1 {m k : Nat} (h : m.testBit k = true) : qs_ (wb_ m) (k + 1) = qs_ (wb_ m) k + 1 := qs_1 (f := wb_ m) (if_pos h)
theorem wb_2 {m k : Nat} (h : m.testBit k = false) : qs_ (wb_ m) (k + 1) = qs_ (wb_ m) k := qs_1 (f := wb_ m) (v := 0) (if_neg (by rw [h]; decide))
theorem on_li {c : St_} {a : Nat} (h : Iv_ c) (ha : a < 10 * sn c) : li_ (ss c (a / 10)) (nI (a % 10)) = on_ c a := by
  have := h.2.2.1 (a / 10)
  rw [li_i (by omega) (by omega)]
  unfold on_
  rw [decide_eq_true (show a / 10 < sn c by omega), Bool.true_and]
theorem pF_f {c : St_} {a : Nat} (h : on_ c a = false) : qs_ (pF_ c) (a + 1) = qs_ (pF_ c) a := qs_1 (f := pF_ c) (v := 0) (if_neg (by rw [h]; decide))
theorem eq_1 {c : St_} {a b : Nat} (h : on_ c b = true) (h2 : ws0 (so c) (sw c a) = ws0 (so c) (sw c b)) : qs_ (fun b => eq_ c a b) (b + 1) = qs_ (fun b => eq_ c a b) b + 1 := qs_1 (f := fun b => eq_ c a b) (by unfold eq_; rw [h, decide_eq_true h2]; rfl)
theorem eq_2 {c : St_} {a b : Nat} (h : on_ c b = false) : qs_ (fun b => eq_ c a b) (b + 1) = qs_ (fun b => eq_ c a b) b := qs_1 (f := fun b => eq_ c a b) (v := 0) (by unfold eq_; rw [h]; rfl)
theorem eq_3 {c : St_} {a b : Nat} (h2 : ¬ ws0 (so c) (sw c a) = ws0 (so c) (sw c b)) : qs_ (fun b => eq_ c a b) (b + 1) = qs_ (fun b => eq_ c a b) b := qs_1 (f := fun b => eq_ c a b) (v := 0) (by unfold eq_; rw [decide_eq_false h2, Bool.and_false]; rfl)
end
section
theorem ii_n {j lo hi : Nat} (h1 : lo ≤ j) (h2 : j ≤ hi) (h3 : hi < 2 ^ 31) : ii_ (nI j) (nI lo) (nI hi) = true := by
  refine ii_3 ?_ ?_
  · rw [nI_ltI (by omega) (by omega)]; omega
  · rw [nI_ltI (by omega) (by omega)]; omega
theorem b2_u {b : Bool} (h : b2_ b = 0) : b = false := b2_0.mp h
theorem b2_w {b : Bool} (h : b = true) : ¬ b2_ b = 0 := by rw [h]; decide
theorem b2_v {b : Bool} (h : b = false) : b2_ b = 0 := by rw [h]; rfl
/-- the model's row of marks, when one word's mask changes -/
def cl_ (m k : Nat) : Nat := m / 2 ^ k * 2 ^ k
theorem cl_0 (m : Nat) : cl_ m 0 = m := by simp [cl_]
theorem cl_6 : ∀ m, m < 64 → cl_ m 6 = 0 := by decide +kernel
theorem cl_lt : ∀ m, m < 64 → ∀ k, k < 7 → cl_ m k < 64 := by decide +kernel
theorem cl_b : ∀ m, m < 64 → ∀ k, k < 6 → ∀ j, j < 6 → (cl_ m (k + 1)).testBit j = (if j = k then false else (cl_ m k).testBit j) := by decide +kernel
theorem xb_ : ∀ m, m < 64 → ∀ p, p < 6 → ∀ j, j < 6 → (m ^^^ 2 ^ p).testBit j = (if j = p then !m.testBit p else m.testBit j) := by decide +kernel
theorem st_kk (c : St_) (i a b : Nat) : st_k (st_k c i a) i b = st_k c i b := by
  unfold st_k
  have : up_ (up_ (sk c) i a) i b = up_ (sk c) i b := by
    funext j
    unfold up_
    by_cases e : j = i
    · rw [if_pos e, if_pos e]
    · rw [if_neg e, if_neg e, if_neg e]
  show (so c, sn c, ss c, sw c, up_ (up_ (sk c) i a) i b) = _
  rw [this]
theorem st_ks (c : St_) (i : Nat) : st_k c i (sk c i) = c := by
  have : up_ (sk c) i (sk c i) = sk c := by
    funext j
    unfold up_
    by_cases e : j = i
    · rw [if_pos e, e]
    · rw [if_neg e]
  unfold st_k
  rw [this]
  rfl
theorem mb_u {f : Nat → Nat} {i k b : Nat} {v : Int32} (hk : k < 6) (h : ∀ j, j < 6 → b2_ (b.testBit j) = if j = k then v else b2_ ((f i).testBit j)) : upd (mb_ f) (6 * i + k) v = mb_ (up_ f i b) := by
  funext q
  have hq : q = 6 * (q / 6) + q % 6 := by omega
  have h6 : q % 6 < 6 := Nat.mod_lt _ (by omega)
  unfold upd
  by_cases e : q / 6 = i
  · have h1 := h (q % 6) h6
    have h2 : mb_ (up_ f i b) q = b2_ (b.testBit (q % 6)) := by
      show b2_ ((up_ f i b (q / 6)).testBit (q % 6)) = _
      rw [e, up_s]
    rw [h2, h1]
    by_cases e2 : q % 6 = k
    · rw [if_pos (by omega), if_pos e2]
    · rw [if_neg (by omega), if_neg e2]
      show b2_ ((f (q / 6)).testBit (q % 6)) = _
      rw [e]
  · rw [if_neg (by omega)]
    show b2_ ((f (q / 6)).testBit (q % 6)) = b2_ ((up_ f i b (q / 6)).testBit (q % 6))
    rw [up_n e]
theorem mb_x {f : Nat → Nat} {i p : Nat} {v : Int32} (hp : p < 6) (hm : f i < 64) (hv : v = b2_ (!(f i).testBit p)) : upd (mb_ f) (6 * i + p) v = mb_ (up_ f i (f i ^^^ 2 ^ p)) := by
  refine mb_u hp (fun j hj => ?_)
  rw [xb_ _ hm p hp j hj, hv]
  by_cases e : j = p
  · rw [if_pos e, if_pos e]
  · rw [if_neg e, if_neg e]
theorem mb_c {f : Nat → Nat} {i k m : Nat} {v : Int32} (hk : k < 6) (hm : m < 64) (hf : f i = cl_ m k) (hv : v = 0) : upd (mb_ f) (6 * i + k) v = mb_ (up_ f i (cl_ m (k + 1))) := by
  refine mb_u hk (fun j hj => ?_)
  rw [cl_b m hm k hk j hj, hv, hf]
  by_cases e : j = k
  · rw [if_pos e, if_pos e]; rfl
  · rw [if_neg e, if_neg e]
theorem nr_1 {c : St_} {y : Int32} {k : Nat} (h : nr_ c y k = none) : nr_ c y (k + 1) = some k := by rw [nr_, h]
theorem nr_2 {c : St_} {y : Int32} {k b : Nat} (h : nr_ c y k = some b) (h2 : gp_ c y k < gp_ c y b) : nr_ c y (k + 1) = some k := by rw [nr_, h]; exact if_pos h2
theorem nr_3 {c : St_} {y : Int32} {k b : Nat} (h : nr_ c y k = some b) (h2 : ¬ gp_ c y k < gp_ c y b) : nr_ c y (k + 1) = some b := by rw [nr_, h]; exact if_neg h2
end
section
/-! ===== rows over the pool: reads, writes, what is made ===== -/
/-- a pool goes on: no old cell is changed -/
def Ex_ (m m' : Pl_) : Prop := ∀ a, a ∈ m.1 → a ∈ m'.1 ∧ m'.2 a = m.2 a
theorem Ex_r (m : Pl_) : Ex_ m m := fun _ h => ⟨h, rfl⟩
theorem Ex_t {m m1 m2 : Pl_} (h : Ex_ m m1) (h2 : Ex_ m1 m2) : Ex_ m m2 := fun a ha => ⟨(h2 a (h a ha).1).1, ((h2 a (h a ha).1).2).trans (h a ha).2⟩
/-- one cell is changed -/
def PU_ (m : Pl_) (a : Nat) (m' : Pl_) : Prop := m'.1 = m.1 ∧ ∀ b, b ≠ a → m'.2 b = m.2 b
theorem Ex_.pu {m0 m m' : Pl_} {a : Nat} (h : Ex_ m0 m) (ha : a ∉ m0.1) (h2 : PU_ m a m') : Ex_ m0 m' := fun b hb => ⟨by rw [h2.1]; exact (h b hb).1, by rw [h2.2 b (fun e => ha (e ▸ hb))]; exact (h b hb).2⟩
theorem Ex_.nin {m m' : Pl_} {a : Nat} (h : Ex_ m m') (ha : a ∉ m'.1) : a ∉ m.1 := fun q => ha (h a q).1
/-- what a cell holds: ints, booleans, references; the poem by hand -/
def AI_ (ct : Nat → Nat) (m : Pl_) (a n : Nat) (P : Nat → Int32) : Prop := a ∈ m.1 ∧ ∃ f, m.2 a = e_i ct n f ∧ ∀ k, k < n → f k = P k
def AZ_ (ct : Nat → Nat) (m : Pl_) (a n : Nat) (P : Nat → Int32) : Prop := a ∈ m.1 ∧ ∃ f, m.2 a = e_z ct n f ∧ ∀ k, k < n → f k = P k
def AO_ (ct : Nat → Nat) (t : Nat) (m : Pl_) (a n : Nat) (P : Nat → Option Nat) : Prop := a ∈ m.1 ∧ ∃ f, m.2 a = e_o ct t n f ∧ ∀ k, k < n → f k = P k
def ob_ (o : Int32) (lo mo : Option Nat) : List Value := [.int o, va_rf lo, va_rf mo]
def OB_ (m : Pl_) (a : Nat) (o : Int32) (lo mo : Option Nat) : Prop := a ∈ m.1 ∧ m.2 a = .inr (1, ob_ o lo mo)
theorem AI_.to {ct : Nat → Nat} {m : Pl_} {a n : Nat} {P P' : Nat → Int32} (h : AI_ ct m a n P) (hp : ∀ k, k < n → P k = P' k) : AI_ ct m a n P' := by
  obtain ⟨h1, f, h2, h3⟩ := h
  exact ⟨h1, f, h2, fun k hk => (h3 k hk).trans (hp k hk)⟩
theorem AZ_.to {ct : Nat → Nat} {m : Pl_} {a n : Nat} {P P' : Nat → Int32} (h : AZ_ ct m a n P) (hp : ∀ k, k < n → P k = P' k) : AZ_ ct m a n P' := by
  obtain ⟨h1, f, h2, h3⟩ := h
  exact ⟨h1, f, h2, fun k hk => (h3 k hk).trans (hp k hk)⟩
theorem AO_.to {ct : Nat → Nat} {t : Nat} {m : Pl_} {a n : Nat} {P P' : Nat → Option Nat} (h : AO_ ct t m a n P) (hp : ∀ k, k < n → P k = P' k) : AO_ ct t m a n P' := by
  obtain ⟨h1, f, h2, h3⟩ := h
  exact ⟨h1, f, h2, fun k hk => (h3 k hk).trans (hp k hk)⟩
theorem AI_.ex {ct : Nat → Nat} {m m' : Pl_} {a n : Nat} {P : Nat → Int32} (h : AI_ ct m a n P) (hx : Ex_ m m') : AI_ ct m' a n P := by
  obtain ⟨h1, f, h2, h3⟩ := h
  exact ⟨(hx a h1).1, f, (hx a h1).2.trans h2, h3⟩
theorem AZ_.ex {ct : Nat → Nat} {m m' : Pl_} {a n : Nat} {P : Nat → Int32} (h : AZ_ ct m a n P) (hx : Ex_ m m') : AZ_ ct m' a n P := by
  obtain ⟨h1, f, h2, h3⟩ := h
  exact ⟨(hx a h1).1, f, (hx a h1).2.trans h2, h3⟩
theorem AO_.ex {ct : Nat → Nat} {t : Nat} {m m' : Pl_} {a n : Nat} {P : Nat → Option Nat} (h : AO_ ct t m a n P) (hx : Ex_ m m') : AO_ ct t m' a n P := by
  obtain ⟨h1, f, h2, h3⟩ := h
  exact ⟨(hx a h1).1, f, (hx a h1).2.trans h2, h3⟩
theorem OB_.ex {m m' : Pl_} {a : Nat} {o : Int32} {lo mo : Option Nat} (h : OB_ m a o lo mo) (hx : Ex_ m m') : OB_ m' a o lo mo := ⟨(hx a h.1).1, (hx a h.1).2.trans h.2⟩
theorem AI_.pu {ct : Nat → Nat} {m m' : Pl_} {a b n : Nat} {P : Nat → Int32} (h : AI_ ct m a n P) (hx : PU_ m b m') (hn : a ≠ b) : AI_ ct m' a n P := by
  obtain ⟨h1, f, h2, h3⟩ := h
  exact ⟨by rw [hx.1]; exact h1, f, (hx.2 a hn).trans h2, h3⟩
theorem AZ_.pu {ct : Nat → Nat} {m m' : Pl_} {a b n : Nat} {P : Nat → Int32} (h : AZ_ ct m a n P) (hx : PU_ m b m') (hn : a ≠ b) : AZ_ ct m' a n P := by
  obtain ⟨h1, f, h2, h3⟩ := h
  exact ⟨by rw [hx.1]; exact h1, f, (hx.2 a hn).trans h2, h3⟩
theorem AO_.pu {ct : Nat → Nat} {t : Nat} {m m' : Pl_} {a b n : Nat} {P : Nat → Option Nat} (h : AO_ ct t m a n P) (hx : PU_ m b m') (hn : a ≠ b) : AO_ ct t m' a n P := by
  obtain ⟨h1, f, h2, h3⟩ := h
  exact ⟨by rw [hx.1]; exact h1, f, (hx.2 a hn).trans h2, h3⟩
theorem OB_.pu {m m' : Pl_} {a b : Nat} {o : Int32} {lo mo : Option Nat} (h : OB_ m a o lo mo) (hx : PU_ m b m') (hn : a ≠ b) : OB_ m' a o lo mo := ⟨by rw [hx.1]; exact h.1, (hx.2 a hn).trans h.2⟩
theorem K_eq {g : va_G} {tys : List (ClassId × FieldType)} {s : State} {i j : Nat} {a b : ClassId} {t : FieldType} (hK : va_K g vwCl tys s) (ht : ∀ C, t ≠ .object C) (hi : tys[i]? = some (a, t)) (hj : tys[j]? = some (b, t)) : a = b := by
  have h1 := (hK.2 i _ hi).2
  have h2 := (hK.2 j _ hj).2
  cases t with
  | object C => exact absurd rfl (ht C)
  | _ => exact Option.some.inj (h1.symm.trans h2)
/-- the classes of the rows of the poem by hand -/
theorem ct_1 {g : va_G} {ct : Nat → Nat} {s : State} (h : CK g ct s) {i t : Nat} {ty : FieldType} (hi : (ty_ ct)[i]? = some (ct i, ty)) (ht : (ty_ ct)[t]? = some (ct t, .array ty)) (ho : ∀ C, ty ≠ .object C) (ha : va_AOA ty s) : ∃ k kc, s.vm.classes[ct t]? = some k ∧ k.kind = .array (ct i) (.array ty) ∧ s.vm.classes[ct i]? = some kc ∧ s.vm.findClass (FieldType.array ty).toString = some (ct i) := by
  obtain ⟨comp, c, k, h1, h2, h3, h4, h5⟩ := arrayOverA_spec ha
  have e1 : c = ct t := Option.some.inj (h5.symm.trans (h.1.2 t _ ht).2)
  have e2 : comp = ct i := by
    have := (h.1.2 i _ hi).2
    cases ty with
    | object C => exact absurd rfl (ho C)
    | _ => exact Option.some.inj (h1.symm.trans this)
  subst e1
  subst e2
  obtain ⟨kc, hkc, -⟩ := Vm.findClass_spec h1
  exact ⟨k, kc, h3, h4, hkc, h1⟩
section RW8
variable {p : Program} {l : Launch} {e : Env} {R : Room} {s : State} {m : MethodId} {args : Array Value} {below : List Frame} {meth : Method} {c : Code} {H : Heap} {locs : List Loc} {cells slots : Nat} {Q : State → Prop}
variable {cc : ByteArray} {pc : Nat} {ls : Array Slot} {rest : List Value} {B0 : Nat} {g : va_G} {ct ad : Nat → Nat} {cS c' : St_} {mS m' : Pl_} {x x' : Ax_} {Ts : List Cond}
/-- a cell more in the pool -/
theorem pl_new {q : Nat} {ev : va_E} {H1 : Heap} (hI : Iv_ cS) (hB : B0 ≤ H1.size) (hP : va_P g vwCl (wl_ ct ad cS mS x ++ [(q, ev)]) H1) (hD : va_D (AA B0) (wl_ ct ad cS mS x ++ [(q, ev)])) : ∃ m1 : Pl_, q ∉ mS.1 ∧ Ex_ mS m1 ∧ q ∈ m1.1 ∧ m1.2 q = ev ∧ CW B0 g ct ad cS m1 x H1 := by
  have hq : q ∉ mS.1 := va_pl_fresh2 (X := wl_c ct ad cS x) hD
  have e1 : wl_ ct ad cS mS x ++ [(q, ev)] = wl_ ct ad cS (mS.1 ++ [q], va_up mS.2 q ev) x := by
    unfold wl_
    rw [List.append_assoc, va_pl_push hq]
  refine ⟨(mS.1 ++ [q], va_up mS.2 q ev), hq, fun a ha => ⟨List.mem_append_left _ ha, ?_⟩, List.mem_append_right _ List.mem_cons_self, ?_, by rw [← e1]; exact hP, by rw [← e1]; exact hD, hB, hI⟩
  · exact if_neg (fun z : a = q => hq (z ▸ ha))
  · exact if_pos rfl
/-- a cell of the pool changed -/
theorem pl_set {a k : Nat} {ev : va_E} {H1 : Heap} (hC : CW B0 g ct ad cS mS x H) (hB : B0 ≤ H1.size) (ha : a ∈ mS.1) (hk : (wl_c ct ad cS x ++ va_pl mS.1 mS.2)[k]? = some (a, mS.2 a)) (hP : va_P g vwCl ((wl_ ct ad cS mS x).set k (a, ev)) H1) (hD : va_D (AA B0) ((wl_ ct ad cS mS x).set k (a, ev))) : ∃ m1 : Pl_, PU_ mS a m1 ∧ a ∈ m1.1 ∧ m1.2 a = ev ∧ CW B0 g ct ad cS m1 x H1 := by
  have e1 : (wl_ ct ad cS mS x).set k (a, ev) = wl_ ct ad cS (mS.1, va_up mS.2 a ev) x := va_pl_set (A := AA B0) (X := wl_c ct ad cS x) hC.2.1 ha hk
  refine ⟨(mS.1, va_up mS.2 a ev), ⟨rfl, fun b hb => ?_⟩, ha, ?_, by rw [← e1]; exact hP, by rw [← e1]; exact hD, hB, hC.2.2.2⟩
  · exact if_neg hb
  · exact if_pos rfl
theorem pl_at {a : Nat} (ha : a ∈ mS.1) : ∃ k : Nat, (wl_ ct ad cS mS x)[k]? = some (a, mS.2 a) := va_pl_get (X := wl_c ct ad cS x) ha
/-- new rows -/
theorem n_i (hC : CX B0 g ct ad cS mS x s H) (hB : B0 ≤ s.heap.size) (hS : va_S (AA B0) s.heap H locs) (hexec : p.tables.exec = Jvm.exec) (hb : c.code = cc) (harr : (Cond.arrayClass .int).before args s = true) {j : Nat} (hj : j ≤ 3001) (hcells : cells + 1 ≤ R.cells) (hslots : slots + j ≤ R.slots) (hdg : decode cc pc = .ok (.newarray .int, 2))
    (kk : ∀ (q : Nat) (m1 : Pl_) (H1 : Heap), q ∉ mS.1 → Ex_ mS m1 → AI_ ct m1 q j (fun _ => 0) → CX B0 g ct ad cS m1 x s H1 → va_S (AA B0) s.heap H1 locs → W p l e R s m args below meth c H1 locs (cells + 1) (slots + j) Q (F0 m (pc + 2) ls (.ref q :: rest))) : W p l e R s m args below meth c H locs cells slots Q (F0 m pc ls (.int (nI j) :: rest)) := by
  refine va_newa (atype := .int) (ty := .int) (N' := j) (a0 := (j, .inl (fun _ => 0))) hexec hb harr rfl hC.2.1 hC.1.1 hC.1.2.1 hS (fun q h => Nat.le_trans hB h) (fun cA => rfl) (nI_pos (by omega)) (nI_clamp (by omega)) (by show j * 4 ≤ _; omega) hcells hslots hdg (fun q cA H1 hK hP hD hS1 => ?_)
  have e1 : cA = ct 0 := K_eq (i := 5) (j := 0) hK (fun C h => by cases h) rfl rfl
  subst e1
  obtain ⟨m1, h1, h2, h3, h4, h5⟩ := pl_new hC.1.2.2.2 (Nat.le_trans hB hS1.1) hP hD
  exact kk q m1 H1 h1 h2 ⟨h3, _, h4, fun _ _ => rfl⟩ ⟨h5, hC.2⟩ hS1
theorem n_z (hC : CX B0 g ct ad cS mS x s H) (hB : B0 ≤ s.heap.size) (hS : va_S (AA B0) s.heap H locs) (hexec : p.tables.exec = Jvm.exec) (hb : c.code = cc) (harr : (Cond.arrayClass .boolean).before args s = true) {j : Nat} (hj : j ≤ 3001) (hcells : cells + 1 ≤ R.cells) (hslots : slots + j ≤ R.slots) (hdg : decode cc pc = .ok (.newarray .boolean, 2))
    (kk : ∀ (q : Nat) (m1 : Pl_) (H1 : Heap), q ∉ mS.1 → Ex_ mS m1 → AZ_ ct m1 q j (fun _ => 0) → CX B0 g ct ad cS m1 x s H1 → va_S (AA B0) s.heap H1 locs → W p l e R s m args below meth c H1 locs (cells + 1) (slots + j) Q (F0 m (pc + 2) ls (.ref q :: rest))) : W p l e R s m args below meth c H locs cells slots Q (F0 m pc ls (.int (nI j) :: rest)) := by
  refine va_newa (atype := .boolean) (ty := .boolean) (N' := j) (a0 := (j, .inl (fun _ => 0))) hexec hb harr rfl hC.2.1 hC.1.1 hC.1.2.1 hS (fun q h => Nat.le_trans hB h) (fun cA => rfl) (nI_pos (by omega)) (nI_clamp (by omega)) (by show j * 1 ≤ _; omega) hcells hslots hdg (fun q cA H1 hK hP hD hS1 => ?_)
  have e1 : cA = ct 2 := K_eq (i := 5) (j := 2) hK (fun C h => by cases h) rfl rfl
  subst e1
  obtain ⟨m1, h1, h2, h3, h4, h5⟩ := pl_new hC.1.2.2.2 (Nat.le_trans hB hS1.1) hP hD
  exact kk q m1 H1 h1 h2 ⟨h3, _, h4, fun _ _ => rfl⟩ ⟨h5, hC.2⟩ hS1
theorem n_o (hC : CX B0 g ct ad cS mS x s H) (hB : B0 ≤ s.heap.size) (hS : va_S (AA B0) s.heap H locs) (hexec : p.tables.exec = Jvm.exec) (hb : c.code = cc) {own C : String} {index t : Nat} {ty : FieldType} (hown : s.vm.findClass own = some m.cls) (hlink : (Cond.classLink own index C).before args s = true) (hC2 : (FieldType.array ty).toString = C) (ht : (ty_ ct)[t]? = some (ct t, .array ty)) (ha : va_AOA ty s) {j : Nat} (hj : j ≤ 3001) (hcells : cells + 1 ≤ R.cells) (hslots : slots + j ≤ R.slots) (hdg : decode cc pc = .ok (.anewarray index, 3))
    (kk : ∀ (q : Nat) (m1 : Pl_) (H1 : Heap), q ∉ mS.1 → Ex_ mS m1 → AO_ ct t m1 q j (fun _ => none) → CX B0 g ct ad cS m1 x s H1 → va_S (AA B0) s.heap H1 locs → W p l e R s m args below meth c H1 locs (cells + 1) (slots + j) Q (F0 m (pc + 3) ls (.ref q :: rest))) : W p l e R s m args below meth c H locs cells slots Q (F0 m pc ls (.int (nI j) :: rest)) := by
  subst hC2
  have hn : (nI j).toNatClampNeg = j := nI_clamp (by omega)
  refine W.anewA hexec hb hown hlink (va_AOA.use ha) rfl hdg rfl (nI_pos (by omega)) (by rw [hn]; omega) hcells (by rw [hn]; exact hslots) fun cA kA comp f1 f2 f3 f4 => ?_
  rw [hn]
  have ecA : cA = ct t := Option.some.inj (f1.symm.trans (hC.2.1.2 t _ ht).2)
  subst ecA
  generalize hH1 : H.push ({ cls := ct t, slots := Array.replicate j .null, vm := .none } : Cell) = H1
  have z1 : H1.size = H.size + 1 := by rw [← hH1, Array.size_push]
  have e1 : H1[H.size]? = some (arrV (ct t) j (fun _ => .null)) := by rw [← hH1, Array.getElem?_push_size, ← arrV_new]
  have o1 : ∀ q : Nat, q < H.size → H1[q]? = H[q]? := fun q hq => by rw [← hH1, Array.getElem?_push, if_neg (Nat.ne_of_lt hq)]
  have hk : ∀ (k : Nat) (y : Nat × va_E), (wl_ ct ad cS mS x)[k]? = some y → H1[y.1]? = H[y.1]? := fun k y hy => o1 y.1 ((hC.1.1 k y hy).lt)
  have hS1 : va_S (AA B0) s.heap H1 locs := ⟨Nat.le_trans hS.1 (by omega), fun y h1 h2 => (o1 y (Nat.lt_of_lt_of_le h1 hS.1)).trans (hS.2.1 y h1 h2), hS.2.2⟩
  have hP : va_P g vwCl (wl_ ct ad cS mS x ++ [(H.size, e_o ct t j (fun _ => none))]) H1 := (hC.1.1.kept hk).app (fun k y hy => by
    have hz : k < 1 := (List.getElem?_eq_some_iff.mp hy).1
    rw [show k = 0 by omega] at hy
    cases hy
    show H1[H.size]? = some (vp_cell _ _)
    rw [vp_cell_q]
    exact e1)
  have hD : va_D (AA B0) (wl_ ct ad cS mS x ++ [(H.size, e_o ct t j (fun _ => none))]) := hC.1.2.1.push hC.1.1 rfl (Nat.le_trans hB hS.1)
  obtain ⟨m1, h1, h2, h3, h4, h5⟩ := pl_new hC.1.2.2.2 (Nat.le_trans hB hS1.1) hP hD
  exact kk _ m1 H1 h1 h2 ⟨h3, _, h4, fun _ _ => rfl⟩ ⟨h5, hC.2⟩ hS1
/-- reads -/
theorem q_i (hC : CX B0 g ct ad cS mS x s H) (hexec : p.tables.exec = Jvm.exec) (hb : c.code = cc) {a n : Nat} {P : Nat → Int32} (hA : AI_ ct mS a n P) (hdg : decode cc pc = .ok (.iaload, 1)) {j : Nat} (hj : j < n) (hn : n < 2 ^ 31)
    (kk : W p l e R s m args below meth c H locs cells slots Q (F0 m (pc + 1) ls (.int (P j) :: rest))) : W p l e R s m args below meth c H locs cells slots Q (F0 m pc ls (.int (nI j) :: .ref a :: rest)) := by
  obtain ⟨h1, f, h2, h3⟩ := hA
  obtain ⟨k, hk⟩ := pl_at (ct := ct) (ad := ad) (cS := cS) (x := x) h1
  rw [h2] at hk
  refine va_iald hexec hb hC.2.1 hC.1.1 k 0 hk rfl (vp_in_nI hj hn) hdg ?_
  rw [nI_clamp (by omega), h3 j hj]
  exact kk
theorem q_z (hC : CX B0 g ct ad cS mS x s H) (hexec : p.tables.exec = Jvm.exec) (hb : c.code = cc) {a n : Nat} {P : Nat → Int32} (hA : AZ_ ct mS a n P) (hdg : decode cc pc = .ok (.baload, 1)) {j : Nat} (hj : j < n) (hn : n < 2 ^ 31)
    (kk : W p l e R s m args below meth c H locs cells slots Q (F0 m (pc + 1) ls (.int (P j) :: rest))) : W p l e R s m args below meth c H locs cells slots Q (F0 m pc ls (.int (nI j) :: .ref a :: rest)) := by
  obtain ⟨h1, f, h2, h3⟩ := hA
  obtain ⟨k, hk⟩ := pl_at (ct := ct) (ad := ad) (cS := cS) (x := x) h1
  rw [h2] at hk
  refine va_zald hexec hb hC.2.1 hC.1.1 k 2 hk rfl (vp_in_nI hj hn) hdg ?_
  rw [nI_clamp (by omega), h3 j hj]
  exact kk
theorem q_o (hC : CX B0 g ct ad cS mS x s H) (hexec : p.tables.exec = Jvm.exec) (hb : c.code = cc) {a n t : Nat} {ty : FieldType} {P : Nat → Option Nat} (hA : AO_ ct t mS a n P) (ht : (ty_ ct)[t]? = some (ct t, ty)) (hty : ty.isReference = true) (hdg : decode cc pc = .ok (.aaload, 1)) {j v : Nat} (hj : j < n) (hn : n < 2 ^ 31) (hv : P j = some v)
    (kk : W p l e R s m args below meth c H locs cells slots Q (F0 m (pc + 1) ls (.ref v :: rest))) : W p l e R s m args below meth c H locs cells slots Q (F0 m pc ls (.int (nI j) :: .ref a :: rest)) := by
  obtain ⟨h1, f, h2, h3⟩ := hA
  obtain ⟨k, hk⟩ := pl_at (ct := ct) (ad := ad) (cS := cS) (x := x) h1
  rw [h2] at hk
  have hc : (nI j).toNatClampNeg = j := nI_clamp (by omega)
  refine W.aald (v := .ref v) (ty := ty) hexec hb (hC.1.1 k _ hk) ((hC.2.1.2 t _ ht).1 n (fun j => va_rf (f j))) hty (fun q => by cases q) (by show ¬ (nI j < 0 ∨ (arrV _ _ _).slots.size ≤ _); rw [arrV_size]; exact vp_in_nI hj hn) (by show (arrV _ _ _).slots[_]? = _; rw [arrV_read _ _ (by rw [hc]; exact hj), hc, h3 j hj, hv]; rfl) rfl rfl hdg kk
theorem q_l {t : Nat} {ty : FieldType} {a n : Nat} {d} (hC : CX B0 g ct ad cS mS x s H) (hexec : p.tables.exec = Jvm.exec) (hb : c.code = cc) (ha : a ∈ mS.1) (hd : mS.2 a = .inl (ct t, n, d)) (ht : (ty_ ct)[t]? = some (ct t, ty)) (hdg : decode cc pc = .ok (.arraylength, 1))
    (kk : W p l e R s m args below meth c H locs cells slots Q (F0 m (pc + 1) ls (.int (nI n) :: rest))) : W p l e R s m args below meth c H locs cells slots Q (F0 m pc ls (.ref a :: rest)) := by
  obtain ⟨k, hk⟩ := pl_at (ct := ct) (ad := ad) (cS := cS) (x := x) ha
  rw [hd] at hk
  exact va_alen hexec hb hC.2.1 hC.1.1 k t hk ht rfl hdg kk
theorem q_il {a n : Nat} {P : Nat → Int32} (hC : CX B0 g ct ad cS mS x s H) (hexec : p.tables.exec = Jvm.exec) (hb : c.code = cc) (hA : AI_ ct mS a n P) (hdg : decode cc pc = .ok (.arraylength, 1))
    (kk : W p l e R s m args below meth c H locs cells slots Q (F0 m (pc + 1) ls (.int (nI n) :: rest))) : W p l e R s m args below meth c H locs cells slots Q (F0 m pc ls (.ref a :: rest)) := by
  obtain ⟨h1, f, h2, h3⟩ := hA
  exact q_l hC hexec hb h1 (t := 0) h2 rfl hdg kk
theorem q_zl {a n : Nat} {P : Nat → Int32} (hC : CX B0 g ct ad cS mS x s H) (hexec : p.tables.exec = Jvm.exec) (hb : c.code = cc) (hA : AZ_ ct mS a n P) (hdg : decode cc pc = .ok (.arraylength, 1))
    (kk : W p l e R s m args below meth c H locs cells slots Q (F0 m (pc + 1) ls (.int (nI n) :: rest))) : W p l e R s m args below meth c H locs cells slots Q (F0 m pc ls (.ref a :: rest)) := by
  obtain ⟨h1, f, h2, h3⟩ := hA
  exact q_l hC hexec hb h1 (t := 2) h2 rfl hdg kk
theorem q_ol {a n t : Nat} {ty : FieldType} {P : Nat → Option Nat} (hC : CX B0 g ct ad cS mS x s H) (hexec : p.tables.exec = Jvm.exec) (hb : c.code = cc) (hA : AO_ ct t mS a n P) (ht : (ty_ ct)[t]? = some (ct t, ty)) (hdg : decode cc pc = .ok (.arraylength, 1))
    (kk : W p l e R s m args below meth c H locs cells slots Q (F0 m (pc + 1) ls (.int (nI n) :: rest))) : W p l e R s m args below meth c H locs cells slots Q (F0 m pc ls (.ref a :: rest)) := by
  obtain ⟨h1, f, h2, h3⟩ := hA
  exact q_l hC hexec hb h1 (t := t) h2 ht hdg kk
/-- writes -/
theorem u_i (hC : CX B0 g ct ad cS mS x s H) (hB : B0 ≤ s.heap.size) (hS : va_S (AA B0) s.heap H locs) (hexec : p.tables.exec = Jvm.exec) (hb : c.code = cc) {a n : Nat} {P : Nat → Int32} (hA : AI_ ct mS a n P) (hdg : decode cc pc = .ok (.iastore, 1)) {j : Nat} {v : Int32} (hj : j < n) (hn : n < 2 ^ 31)
    (kk : ∀ (m1 : Pl_) (H1 : Heap) (locs1 : List Loc), PU_ mS a m1 → AI_ ct m1 a n (upd P j v) → CX B0 g ct ad cS m1 x s H1 → va_S (AA B0) s.heap H1 locs1 → W p l e R s m args below meth c H1 locs1 cells slots Q (F0 m (pc + 1) ls rest)) : W p l e R s m args below meth c H locs cells slots Q (F0 m pc ls (.int v :: .int (nI j) :: .ref a :: rest)) := by
  obtain ⟨h1, f, h2, h3⟩ := hA
  obtain ⟨k, hk⟩ := pl_at (ct := ct) (ad := ad) (cS := cS) (x := x) h1
  have hk2 := hk
  rw [h2] at hk
  refine va_iast hexec hb hC.2.1 hC.1.1 hC.1.2.1 hS k 0 hk rfl (vp_in_nI hj hn) hdg (fun H1 locs1 hP hD hS1 => ?_)
  rw [nI_clamp (by omega)] at hP hD
  obtain ⟨m1, p1, p2, p3, p4⟩ := pl_set hC.1 (Nat.le_trans hB hS1.1) h1 hk2 hP hD
  refine kk m1 H1 locs1 p1 ⟨p2, _, p3, fun i hi => ?_⟩ ⟨p4, hC.2⟩ hS1
  unfold upd
  split
  · rfl
  · exact h3 i hi
theorem u_z (hC : CX B0 g ct ad cS mS x s H) (hB : B0 ≤ s.heap.size) (hS : va_S (AA B0) s.heap H locs) (hexec : p.tables.exec = Jvm.exec) (hb : c.code = cc) {a n : Nat} {P : Nat → Int32} (hA : AZ_ ct mS a n P) (hdg : decode cc pc = .ok (.bastore, 1)) {j : Nat} {v : Int32} (hj : j < n) (hn : n < 2 ^ 31) (hv : vp_nar .boolean v = v)
    (kk : ∀ (m1 : Pl_) (H1 : Heap) (locs1 : List Loc), PU_ mS a m1 → AZ_ ct m1 a n (upd P j v) → CX B0 g ct ad cS m1 x s H1 → va_S (AA B0) s.heap H1 locs1 → W p l e R s m args below meth c H1 locs1 cells slots Q (F0 m (pc + 1) ls rest)) : W p l e R s m args below meth c H locs cells slots Q (F0 m pc ls (.int v :: .int (nI j) :: .ref a :: rest)) := by
  obtain ⟨h1, f, h2, h3⟩ := hA
  obtain ⟨k, hk⟩ := pl_at (ct := ct) (ad := ad) (cS := cS) (x := x) h1
  have hk2 := hk
  rw [h2] at hk
  refine va_zast hexec hb hC.2.1 hC.1.1 hC.1.2.1 hS k 2 hk rfl (vp_in_nI hj hn) hdg (fun H1 locs1 hP hD hS1 => ?_)
  rw [nI_clamp (by omega), hv] at hP hD
  obtain ⟨m1, p1, p2, p3, p4⟩ := pl_set hC.1 (Nat.le_trans hB hS1.1) h1 hk2 hP hD
  refine kk m1 H1 locs1 p1 ⟨p2, _, p3, fun i hi => ?_⟩ ⟨p4, hC.2⟩ hS1
  unfold upd
  split
  · rfl
  · exact h3 i hi
theorem u_o (hC : CX B0 g ct ad cS mS x s H) (hB : B0 ≤ s.heap.size) (hS : va_S (AA B0) s.heap H locs) (hexec : p.tables.exec = Jvm.exec) (hb : c.code = cc) {a n t i nv : Nat} {ty : FieldType} {dv} {P : Nat → Option Nat} (hA : AO_ ct t mS a n P) (hi : (ty_ ct)[i]? = some (ct i, ty)) (ht : (ty_ ct)[t]? = some (ct t, .array ty)) (ho : ∀ C, ty ≠ .object C) (ha : va_AOA ty s) (hdg : decode cc pc = .ok (.aastore, 1)) {j v : Nat} (hj : j < n) (hn : n < 2 ^ 31) (hvm : v ∈ mS.1) (hvd : mS.2 v = .inl (ct i, nv, dv))
    (kk : ∀ (m1 : Pl_) (H1 : Heap) (locs1 : List Loc), PU_ mS a m1 → AO_ ct t m1 a n (va_up P j (some v)) → CX B0 g ct ad cS m1 x s H1 → va_S (AA B0) s.heap H1 locs1 → W p l e R s m args below meth c H1 locs1 cells slots Q (F0 m (pc + 1) ls rest)) : W p l e R s m args below meth c H locs cells slots Q (F0 m pc ls (.ref v :: .int (nI j) :: .ref a :: rest)) := by
  obtain ⟨h1, f, h2, h3⟩ := hA
  obtain ⟨k, hk⟩ := pl_at (ct := ct) (ad := ad) (cS := cS) (x := x) h1
  have hk2 := hk
  rw [h2] at hk
  obtain ⟨kv, hkv⟩ := pl_at (ct := ct) (ad := ad) (cS := cS) (x := x) hvm
  rw [hvd] at hkv
  have hc : (nI j).toNatClampNeg = j := nI_clamp (by omega)
  obtain ⟨kA, kI, k1, k2, k3, -⟩ := ct_1 hC.2 hi ht ho ha
  have hvc : H[v]? = some (vp_cell (ct i) (nv, dv)) := hC.1.1 kv _ hkv
  have hcl : (vp_cell (ct i) (nv, dv)).cls = ct i := by unfold vp_cell; split <;> rfl
  have hvv : (vp_cell (ct i) (nv, dv)).vm = .none := by unfold vp_cell; split <;> rfl
  refine W.aast hexec hb (hC.1.1 k _ hk) (fun q h => by cases h) (fun h => by cases h) k1 k2 rfl k3 ⟨nI_pos (by omega), by show _ < (arrV _ _ _).slots.size; rw [arrV_size, hc]; exact hj⟩ hvc (fun q h => by rw [hvv] at h; cases h) (by rw [hcl]; exact k3) (by rw [hcl]; exact Vm.assignable_self _ _) rfl rfl hdg fun H1 e z oq => ?_
  have hS1 : va_S (AA B0) s.heap H1 (locs ++ [⟨a, (nI j).toNatClampNeg⟩]) := hS.put z oq (hC.1.2.1.2 k _ hk)
  have hP : va_P g vwCl ((wl_ ct ad cS mS x).set k (a, e_o ct t n (va_up f j (some v)))) H1 := hC.1.1.set hC.1.2.1 hk (by
    show H1[a]? = some (vp_cell _ _)
    rw [e, hc]
    rw [vp_cell_q, vp_cell_q, arrV_store]
    congr 2
    funext q
    by_cases hq : q = j
    · subst hq
      simp [updV, va_up, va_rf]
    · simp [updV, va_up, hq]) oq
  have hD : va_D (AA B0) ((wl_ ct ad cS mS x).set k (a, e_o ct t n (va_up f j (some v)))) := hC.1.2.1.set hk
  obtain ⟨m1, p1, p2, p3, p4⟩ := pl_set hC.1 (Nat.le_trans hB hS1.1) h1 hk2 hP hD
  refine kk m1 H1 _ p1 ⟨p2, _, p3, fun q hq => ?_⟩ ⟨p4, hC.2⟩ hS1
  unfold va_up
  split
  · rfl
  · exact h3 q hq
/-- the poem by hand: its fields -/
theorem tx1_own {k : Nat} (hk : k < 3) : (TX1 k).1 = RX1 := by
  rcases (show k = 0 ∨ k = 1 ∨ k = 2 by omega) with rfl | rfl | rfl <;> rfl
theorem q_f (hC : CX B0 g ct ad cS mS x s H) (hexec : p.tables.exec = Jvm.exec) (hb : c.code = cc) (hts : ∀ w ∈ Ts, w.before args s = true) (hin : ∀ w ∈ wsX10, w ∈ Ts) {own : String} (hown : s.vm.findClass own = some m.cls) {index a : Nat} {o : Int32} {lo mo : Option Nat} (hA : OB_ mS a o lo mo) (k : Nat) (hk : k < 3) (hlink : (Cond.fieldLink own index RX1 (TX1 k).2.1 (TX1 k).2.2.1).before args s = true) {v : Value} (hv : (ob_ o lo mo)[k]? = some v) (hdg : decode cc pc = .ok (.getfield index, 3))
    (kk : W p l e R s m args below meth c H locs cells slots Q (F0 m (pc + 3) ls (v :: rest))) : W p l e R s m args below meth c H locs cells slots Q (F0 m pc ls (.ref a :: rest)) := by
  obtain ⟨q, hq⟩ := pl_at (ct := ct) (ad := ad) (cS := cS) (x := x) hA.1
  rw [hA.2] at hq
  exact va_get (D := g) (ci := 1) (C := RX1) (T := TX1) (N := 3) (ref := RX1) (fs := ob_ o lo mo) hexec hb hts hin hown hC.2.1 hC.1.1 q hq rfl k hk hlink (fun y h => by rw [tx1_own hk] at h; exact h) hv hdg kk
theorem u_f (hC : CX B0 g ct ad cS mS x s H) (hB : B0 ≤ s.heap.size) (hS : va_S (AA B0) s.heap H locs) (hexec : p.tables.exec = Jvm.exec) (hb : c.code = cc) (hts : ∀ w ∈ Ts, w.before args s = true) (hin : ∀ w ∈ wsX10, w ∈ Ts) {own : String} (hown : s.vm.findClass own = some m.cls) {index a : Nat} {o o' : Int32} {lo mo lo' mo' : Option Nat} (hA : OB_ mS a o lo mo) (k : Nat) (hk : k < 3) (hlink : (Cond.fieldLink own index RX1 (TX1 k).2.1 (TX1 k).2.2.1).before args s = true) {v : Value} {ty : FieldType} (hd : parseFieldDescriptor (TX1 k).2.2.1 = some ty) (hn : narrow ty v = v) (hfit : fits ty v = true) (hv : (ob_ o lo mo).set k v = ob_ o' lo' mo') (hdg : decode cc pc = .ok (.putfield index, 3))
    (kk : ∀ (m1 : Pl_) (H1 : Heap) (locs1 : List Loc), PU_ mS a m1 → OB_ m1 a o' lo' mo' → CX B0 g ct ad cS m1 x s H1 → va_S (AA B0) s.heap H1 locs1 → W p l e R s m args below meth c H1 locs1 cells slots Q (F0 m (pc + 3) ls rest)) : W p l e R s m args below meth c H locs cells slots Q (F0 m pc ls (v :: .ref a :: rest)) := by
  obtain ⟨q, hq⟩ := pl_at (ct := ct) (ad := ad) (cS := cS) (x := x) hA.1
  have hq2 := hq
  rw [hA.2] at hq
  have hf : (TX1 k).2.2.2 = false := by rcases (show k = 0 ∨ k = 1 ∨ k = 2 by omega) with rfl | rfl | rfl <;> rfl
  refine va_put (D := g) (ci := 1) (C := RX1) (T := TX1) (N := 3) (ref := RX1) (fs := ob_ o lo mo) hexec hb hts hin tyX1 tyX1_ok nmX1 hown hC.2.1 hC.1.1 hC.1.2.1 hS q hq rfl k hk hlink (fun y h => by rw [tx1_own hk] at h; exact h) hf hd hn hfit (by show k < 3; exact hk) hdg (fun H1 locs1 hP hD hS1 => ?_)
  rw [hv] at hP hD
  obtain ⟨m1, p1, p2, p3, p4⟩ := pl_set hC.1 (Nat.le_trans hB hS1.1) hA.1 hq2 hP hD
  exact kk m1 H1 locs1 p1 ⟨p2, p3⟩ ⟨p4, hC.2⟩ hS1
theorem rc1 {a : Nat} {o : Int32} {lo mo : Option Nat} (hC : CX B0 g ct ad cS mS x s H) (hA : OB_ mS a o lo mo) : ∃ cell : Cell, H[a]? = some cell ∧ cell.vm.isStatics = false ∧ s.vm.findClass RX1 = some cell.cls := by
  obtain ⟨q, hq⟩ := pl_at (ct := ct) (ad := ad) (cS := cS) (x := x) hA.1
  rw [hA.2] at hq
  exact va_recv hC.2.1 hC.1.1 (ci := 1) (q0 := q) rfl hq
end RW8
end
section
/-! ===== methods that make cells in the pool ===== -/
abbrev Qu_ : Type := Pl_ × Ax_
abbrev WQ (l : Launch) (y : MethodName) (ws : List Cond) (d k n : Nat) (B0 : Nat) (g : va_G) (ct ad : Nat → Nat) (c : St_) (m : Pl_) (x : Ax_) (av : List Value) (v : Int32) (c' : St_) (pm : Pl_ → Prop) : Prop := Met l y ws (rm_ d k n) (PX B0 g ct ad c m x av) (va_Qi (fun r (u : Qu_) => r = v ∧ pm u.1) (fun u t => CW B0 g ct ad c' u.1 u.2 t.heap) (AA B0)) k n (AA B0)
abbrev WN (l : Launch) (y : MethodName) (ws : List Cond) (d k n : Nat) (B0 : Nat) (g : va_G) (ct ad : Nat → Nat) (c : St_) (m : Pl_) (x : Ax_) (av : List Value) (c' : St_) (pm : Pl_ → Prop) : Prop := Met l y ws (rm_ d k n) (PX B0 g ct ad c m x av) (va_Qv (fun (u : Qu_) => pm u.1) (fun u t => CW B0 g ct ad c' u.1 u.2 t.heap) (AA B0)) k n (AA B0)
abbrev WR (l : Launch) (y : MethodName) (ws : List Cond) (d k n : Nat) (B0 : Nat) (g : va_G) (ct ad : Nat → Nat) (c : St_) (m : Pl_) (x : Ax_) (av : List Value) (c' : St_) (pr : Nat → Pl_ → Prop) : Prop := Met l y ws (rm_ d k n) (PX B0 g ct ad c m x av) (va_Qr (fun (_ : Qu_) => True) (fun u r t => pr r u.1 ∧ CW B0 g ct ad c' u.1 u.2 t.heap) (AA B0)) k n (AA B0)
/-- a function of its arguments alone -/
abbrev PF (l : Launch) (y : MethodName) (ws : List Cond) (d : Nat) (av : List Value) (v : Int32) : Prop := Met l y ws (rm_ d 0 0) (va_Pc av (fun _ => True)) (va_Qi (fun r (_ : Unit) => r = v) (fun _ _ => True) (fun _ => False)) 0 0 (fun _ => False)
section RW9
variable {p : Program} {l : Launch} {e : Env} {R : Room} {s : State} {m : MethodId} {args : Array Value} {below : List Frame} {meth : Method} {c : Code} {H : Heap} {locs : List Loc} {cells slots : Nat} {Q : State → Prop}
variable {cc : ByteArray} {pc : Nat} {ls : Array Slot} {rest : List Value} {B0 : Nat} {g : va_G} {ct ad : Nat → Nat} {cS c' : St_} {mS m' : Pl_} {x x' : Ax_} {Ts : List Cond}
variable {own C : String} {y : MethodName} {bytes : ByteArray} {maxL nL n index d k0 n0 : Nat} {ret : Option FieldType} {ws : List Cond} {a : Nat} {As st : List Value} {pm : Pl_ → Prop} {pr : Nat → Pl_ → Prop}

theorem k_qV {v : Int32} (hM : WQ l y ws d k0 n0 B0 g ct ad cS mS x (.ref a :: As) v c' pm) (hC : CX B0 g ct ad cS mS x s H) (hS : va_S (AA B0) s.heap H locs) (S : CallFix p m c cc nL s args Ts own) (cw : CallW R s args own C index y bytes maxL ret ws (rm_ d k0 n0) k0 n0 n) (hrec : ∃ cellB : Cell, H[a]? = some cellB ∧ cellB.vm.isStatics = false ∧ s.vm.findClass C = some cellB.cls) (hn : As.length = n) (hsize : ls.size = nL) (hst : st = As.reverse ++ .ref a :: rest) (hW : (rest.map fun v => v.category).sum ≤ 8) (hdg : decode cc pc = .ok (.invokevirtual index, 3)) (hf : cells + k0 ≤ R.cells ∧ slots + n0 ≤ R.slots)
    (kk : ∀ (m1 : Pl_) (x1 : Ax_) (H1 : Heap) (locs1 : List Loc), pm m1 → CX B0 g ct ad c' m1 x1 s H1 → va_S (AA B0) s.heap H1 locs1 → W p l e R s m args below meth c H1 locs1 (cells + k0) (slots + n0) Q (F0 m (pc + 3) ls (.int v :: rest))) : W p l e R s m args below meth c H locs cells slots Q (F0 m pc ls st) :=
  va_calli (va_runV S hM cw ⟨CX.blind, hrec, fun U hU hW => ⟨rfl, hC.warm hU hW⟩⟩ rfl hn hsize hst (lv_room hW) hdg hf) hS (fun q _ h => h) (fun q h => h) (fun r u t H1 locs1 ht hvm hw hB1 hz hk hS1 => by
    obtain ⟨rfl, hp⟩ := hw
    rw [ht] at hB1
    exact kk u.1 u.2 H1 locs1 hp (CX.nextW hC hB1) hS1)
theorem k_qS {v : Int32} (hM : WQ l y ws d k0 n0 B0 g ct ad cS mS x As v c' pm) (hC : CX B0 g ct ad cS mS x s H) (hS : va_S (AA B0) s.heap H locs) (S : CallFix p m c cc nL s args Ts own) (cw : CallB R s args own index y bytes maxL ret ws (rm_ d k0 n0) k0 n0 n ∧ (Cond.static y).before args s = true) (hn : As.length = n) (hsize : ls.size = nL) (hst : st = As.reverse ++ rest) (hW : (rest.map fun v => v.category).sum ≤ 8) (hdg : decode cc pc = .ok (.invokestatic index, 3)) (hf : cells + k0 ≤ R.cells ∧ slots + n0 ≤ R.slots)
    (kk : ∀ (m1 : Pl_) (x1 : Ax_) (H1 : Heap) (locs1 : List Loc), pm m1 → CX B0 g ct ad c' m1 x1 s H1 → va_S (AA B0) s.heap H1 locs1 → W p l e R s m args below meth c H1 locs1 (cells + k0) (slots + n0) Q (F0 m (pc + 3) ls (.int v :: rest))) : W p l e R s m args below meth c H locs cells slots Q (F0 m pc ls st) :=
  va_calli (va_runS S hM cw ⟨CX.blind, fun U hU hW => ⟨rfl, hC.warm hU hW⟩⟩ rfl hn hsize hst (lv_room hW) hdg hf) hS (fun q _ h => h) (fun q h => h) (fun r u t H1 locs1 ht hvm hw hB1 hz hk hS1 => by
    obtain ⟨rfl, hp⟩ := hw
    rw [ht] at hB1
    exact kk u.1 u.2 H1 locs1 hp (CX.nextW hC hB1) hS1)
theorem k_nV (hM : WN l y ws d k0 n0 B0 g ct ad cS mS x (.ref a :: As) c' pm) (hC : CX B0 g ct ad cS mS x s H) (hS : va_S (AA B0) s.heap H locs) (S : CallFix p m c cc nL s args Ts own) (cw : CallW R s args own C index y bytes maxL ret ws (rm_ d k0 n0) k0 n0 n) (hrec : ∃ cellB : Cell, H[a]? = some cellB ∧ cellB.vm.isStatics = false ∧ s.vm.findClass C = some cellB.cls) (hn : As.length = n) (hsize : ls.size = nL) (hst : st = As.reverse ++ .ref a :: rest) (hW : (rest.map fun v => v.category).sum ≤ 8) (hdg : decode cc pc = .ok (.invokevirtual index, 3)) (hf : cells + k0 ≤ R.cells ∧ slots + n0 ≤ R.slots)
    (kk : ∀ (m1 : Pl_) (x1 : Ax_) (H1 : Heap) (locs1 : List Loc), pm m1 → CX B0 g ct ad c' m1 x1 s H1 → va_S (AA B0) s.heap H1 locs1 → W p l e R s m args below meth c H1 locs1 (cells + k0) (slots + n0) Q (F0 m (pc + 3) ls (rest))) : W p l e R s m args below meth c H locs cells slots Q (F0 m pc ls st) :=
  va_callv (va_runV S hM cw ⟨CX.blind, hrec, fun U hU hW => ⟨rfl, hC.warm hU hW⟩⟩ rfl hn hsize hst (lv_room hW) hdg hf) hS (fun q _ h => h) (fun q h => h) (fun u t H1 locs1 ht hvm hw hB1 hz hk hS1 => by
    rw [ht] at hB1
    exact kk u.1 u.2 H1 locs1 hw (CX.nextW hC hB1) hS1)
theorem k_nI (hM : WN l y ws d k0 n0 B0 g ct ad cS mS x (.ref a :: As) c' pm) (hC : CX B0 g ct ad cS mS x s H) (hS : va_S (AA B0) s.heap H locs) (S : CallFix p m c cc nL s args Ts own) {host : String} (cw : va_CN R s args own index y host bytes maxL none ws (rm_ d k0 n0) k0 n0 n ∧ y.name = "<init>" ∧ (Cond.instanceMethod y).before args s = true) (hn : As.length = n) (hsize : ls.size = nL) (hst : st = As.reverse ++ .ref a :: rest) (hW : (rest.map fun v => v.category).sum ≤ 8) (hdg : decode cc pc = .ok (.invokespecial index, 3)) (hf : cells + k0 ≤ R.cells ∧ slots + n0 ≤ R.slots)
    (kk : ∀ (m1 : Pl_) (x1 : Ax_) (H1 : Heap) (locs1 : List Loc), pm m1 → CX B0 g ct ad c' m1 x1 s H1 → va_S (AA B0) s.heap H1 locs1 → W p l e R s m args below meth c H1 locs1 (cells + k0) (slots + n0) Q (F0 m (pc + 3) ls (rest))) : W p l e R s m args below meth c H locs cells slots Q (F0 m pc ls st) :=
  va_callv (va_runIN S hM cw ⟨CX.blind, fun U hU hW => ⟨rfl, hC.warm hU hW⟩⟩ rfl hn hsize hst (lv_room hW) hdg hf) hS (fun q _ h => h) (fun q h => h) (fun u t H1 locs1 ht hvm hw hB1 hz hk hS1 => by
    rw [ht] at hB1
    exact kk u.1 u.2 H1 locs1 hw (CX.nextW hC hB1) hS1)
theorem k_RV (hM : WR l y ws d k0 n0 B0 g ct ad cS mS x (.ref a :: As) c' pr) (hC : CX B0 g ct ad cS mS x s H) (hS : va_S (AA B0) s.heap H locs) (S : CallFix p m c cc nL s args Ts own) (cw : CallW R s args own C index y bytes maxL ret ws (rm_ d k0 n0) k0 n0 n) (hrec : ∃ cellB : Cell, H[a]? = some cellB ∧ cellB.vm.isStatics = false ∧ s.vm.findClass C = some cellB.cls) (hn : As.length = n) (hsize : ls.size = nL) (hst : st = As.reverse ++ .ref a :: rest) (hW : (rest.map fun v => v.category).sum ≤ 8) (hdg : decode cc pc = .ok (.invokevirtual index, 3)) (hf : cells + k0 ≤ R.cells ∧ slots + n0 ≤ R.slots)
    (kk : ∀ (m1 : Pl_) (x1 : Ax_) (ra : Nat) (H1 : Heap) (locs1 : List Loc), pr ra m1 → CX B0 g ct ad c' m1 x1 s H1 → va_S (AA B0) s.heap H1 locs1 → W p l e R s m args below meth c H1 locs1 (cells + k0) (slots + n0) Q (F0 m (pc + 3) ls (.ref ra :: rest))) : W p l e R s m args below meth c H locs cells slots Q (F0 m pc ls st) :=
  va_callr (va_runV S hM cw ⟨CX.blind, hrec, fun U hU hW => ⟨rfl, hC.warm hU hW⟩⟩ rfl hn hsize hst (lv_room hW) hdg hf) hS (fun q _ h => h) (fun q h => h) (fun u ra t H1 locs1 ht hvm hw hB1 hz hk hS1 => by
    obtain ⟨hp, hB2⟩ := hB1
    rw [ht] at hB2
    exact kk u.1 u.2 ra H1 locs1 hp (CX.nextW hC hB2) hS1)
theorem k_RS (hM : WR l y ws d k0 n0 B0 g ct ad cS mS x As c' pr) (hC : CX B0 g ct ad cS mS x s H) (hS : va_S (AA B0) s.heap H locs) (S : CallFix p m c cc nL s args Ts own) (cw : CallB R s args own index y bytes maxL ret ws (rm_ d k0 n0) k0 n0 n ∧ (Cond.static y).before args s = true) (hn : As.length = n) (hsize : ls.size = nL) (hst : st = As.reverse ++ rest) (hW : (rest.map fun v => v.category).sum ≤ 8) (hdg : decode cc pc = .ok (.invokestatic index, 3)) (hf : cells + k0 ≤ R.cells ∧ slots + n0 ≤ R.slots)
    (kk : ∀ (m1 : Pl_) (x1 : Ax_) (ra : Nat) (H1 : Heap) (locs1 : List Loc), pr ra m1 → CX B0 g ct ad c' m1 x1 s H1 → va_S (AA B0) s.heap H1 locs1 → W p l e R s m args below meth c H1 locs1 (cells + k0) (slots + n0) Q (F0 m (pc + 3) ls (.ref ra :: rest))) : W p l e R s m args below meth c H locs cells slots Q (F0 m pc ls st) :=
  va_callr (va_runS S hM cw ⟨CX.blind, fun U hU hW => ⟨rfl, hC.warm hU hW⟩⟩ rfl hn hsize hst (lv_room hW) hdg hf) hS (fun q _ h => h) (fun q h => h) (fun u ra t H1 locs1 ht hvm hw hB1 hz hk hS1 => by
    obtain ⟨hp, hB2⟩ := hB1
    rw [ht] at hB2
    exact kk u.1 u.2 ra H1 locs1 hp (CX.nextW hC hB2) hS1)
theorem k_RN (hM : WR l y ws d k0 n0 B0 g ct ad cS mS x As c' pr) (hC : CX B0 g ct ad cS mS x s H) (hS : va_S (AA B0) s.heap H locs) (S : CallFix p m c cc nL s args Ts own) {host : String} (cw : va_CN R s args own index y host bytes maxL ret ws (rm_ d k0 n0) k0 n0 n ∧ (Cond.static y).before args s = true ∧ True) (hn : As.length = n) (hsize : ls.size = nL) (hst : st = As.reverse ++ rest) (hW : (rest.map fun v => v.category).sum ≤ 8) (hdg : decode cc pc = .ok (.invokestatic index, 3)) (hf : cells + k0 ≤ R.cells ∧ slots + n0 ≤ R.slots)
    (kk : ∀ (m1 : Pl_) (x1 : Ax_) (ra : Nat) (H1 : Heap) (locs1 : List Loc), pr ra m1 → CX B0 g ct ad c' m1 x1 s H1 → va_S (AA B0) s.heap H1 locs1 → W p l e R s m args below meth c H1 locs1 (cells + k0) (slots + n0) Q (F0 m (pc + 3) ls (.ref ra :: rest))) : W p l e R s m args below meth c H locs cells slots Q (F0 m pc ls st) :=
  va_callr (va_runSN S hM cw ⟨CX.blind, fun U hU hW => ⟨rfl, hC.warm hU hW⟩⟩ rfl hn hsize hst (lv_room hW) hdg hf) hS (fun q _ h => h) (fun q h => h) (fun u ra t H1 locs1 ht hvm hw hB1 hz hk hS1 => by
    obtain ⟨hp, hB2⟩ := hB1
    rw [ht] at hB2
    exact kk u.1 u.2 ra H1 locs1 hp (CX.nextW hC hB2) hS1)
theorem k_fS {v : Int32} (hM : PF l y ws d As v) (hC : CX B0 g ct ad cS mS x s H) (hS : va_S (AA B0) s.heap H locs) (S : CallFix p m c cc nL s args Ts own) (cw : CallB R s args own index y bytes maxL ret ws (rm_ d 0 0) 0 0 n ∧ (Cond.static y).before args s = true) (hn : As.length = n) (hsize : ls.size = nL) (hst : st = As.reverse ++ rest) (hW : (rest.map fun v => v.category).sum ≤ 8) (hdg : decode cc pc = .ok (.invokestatic index, 3)) (hf : cells + 0 ≤ R.cells ∧ slots + 0 ≤ R.slots)
    (kk : ∀ (H1 : Heap) (locs1 : List Loc), CX B0 g ct ad cS mS x s H1 → va_S (AA B0) s.heap H1 locs1 → W p l e R s m args below meth c H1 locs1 (cells + 0) (slots + 0) Q (F0 m (pc + 3) ls (.int v :: rest))) : W p l e R s m args below meth c H locs cells slots Q (F0 m pc ls st) :=
  va_calli (va_runS S hM cw ⟨tr_blind, fun U hU hW => ⟨rfl, trivial⟩⟩ rfl hn hsize hst (lv_room hW) hdg hf) hS (fun q _ h => h.elim) (fun q h => h.elim) (fun r u t H1 locs1 ht hvm hw hB1 hz hk hS1 => by
    have hw : r = v := hw
    subst hw
    exact kk H1 locs1 ⟨⟨hC.1.1.kept (fun k q hq => hk q.1 (hC.1.1 k q hq).lt (fun z => z)), hC.1.2.1, Nat.le_trans hC.1.2.2.1 hz, hC.1.2.2.2⟩, hC.2⟩ hS1)
theorem k_fN {v : Int32} (hM : PF l y ws d As v) (hC : CX B0 g ct ad cS mS x s H) (hS : va_S (AA B0) s.heap H locs) (S : CallFix p m c cc nL s args Ts own) {host : String} (cw : va_CN R s args own index y host bytes maxL ret ws (rm_ d 0 0) 0 0 n ∧ (Cond.static y).before args s = true ∧ True) (hn : As.length = n) (hsize : ls.size = nL) (hst : st = As.reverse ++ rest) (hW : (rest.map fun v => v.category).sum ≤ 8) (hdg : decode cc pc = .ok (.invokestatic index, 3)) (hf : cells + 0 ≤ R.cells ∧ slots + 0 ≤ R.slots)
    (kk : ∀ (H1 : Heap) (locs1 : List Loc), CX B0 g ct ad cS mS x s H1 → va_S (AA B0) s.heap H1 locs1 → W p l e R s m args below meth c H1 locs1 (cells + 0) (slots + 0) Q (F0 m (pc + 3) ls (.int v :: rest))) : W p l e R s m args below meth c H locs cells slots Q (F0 m pc ls st) :=
  va_calli (va_runSN S hM cw ⟨tr_blind, fun U hU hW => ⟨rfl, trivial⟩⟩ rfl hn hsize hst (lv_room hW) hdg hf) hS (fun q _ h => h.elim) (fun q h => h.elim) (fun r u t H1 locs1 ht hvm hw hB1 hz hk hS1 => by
    have hw : r = v := hw
    subst hw
    exact kk H1 locs1 ⟨⟨hC.1.1.kept (fun k q hq => hk q.1 (hC.1.1 k q hq).lt (fun z => z)), hC.1.2.1, Nat.le_trans hC.1.2.2.1 hz, hC.1.2.2.2⟩, hC.2⟩ hS1)
end RW9
end
section
set_option maxHeartbeats 4000000 in
set_option maxRecDepth 100000 in
/-- lengthOf -/
theorem c_X0_lengthOf (l : Launch) (w : Nat) (hw : w < 387420489) : RI l yX0_lengthOf wsX0_lengthOf 0 (va_Pc [.int (nI w)] (fun _ => True)) (nI (ln_ w)) := by
  refine Met.ofW (cc := cX0_lengthOf) (maxL := 3) (ret := (some .int)) (by decide) rfl ?_
  intro p e s m args below meth c s₁ B hml hv
  obtain ⟨rfl, -⟩ := hv
  have hx := B.exec
  have hb := B.bytes
  have hr := B.returns
  have hts := atoms_spec (ws := wsX0_lengthOf) B.pre
  have hown : s.vm.findClass RX0 = some m.cls := findClass_of_methodNamed B.named
  have hlocks := B.notSynchronized
  have hl := lv_entry ([.int (nI w)]) (n := 3) (Nat.le_of_ble_eq_true rfl)
  rw [lg_entry_eq]
  generalize (lg_sl ([.int (nI w)]) ++ List.replicate (3 - (lg_sl ([.int (nI w)])).length) Slot.unset).toArray = ls at hl ⊢
  have hl : lv_has ls 3 [(0, .int (nI w))] := hl
  refine lv_iconst (v := nI 0) hx hb dX0_lengthOf_0 (by decide) ?_
  refine lv_istore_n (lv' := [(1, .int (nI 0)), (0, .int (nI w))]) hx hb dX0_lengthOf_1 rfl hl (by decide) rfl (fun ls hl => ?_)
  refine lv_iload_n hx hb dX0_lengthOf_2 rfl (lv_at hl 1 rfl) ?_
  refine lv_istore_n (lv' := [(2, .int (nI w)), (1, .int (nI 0)), (0, .int (nI w))]) hx hb dX0_lengthOf_3 rfl hl (by decide) rfl (fun ls hl => ?_)
  have LP_4 : ∀ (n_ : Nat) (k : Nat) (r : Nat), 6 - k < n_ → (k ≤ 6) → (k + lnf (6 - k) r = ln_ w) → (r < 387420489) → ∀ ls : Array Slot, lv_has ls 3 [(2, .int (nI r)), (1, .int (nI k)), (0, .int (nI w))] → W p l e (headSpec wsX0_lengthOf (rm_ 0 0 0)).room s m ([.int (nI w)] : List Value).toArray below meth c s.heap [] 0 0 (MQ below (vp_Si (fun r => r = nI (ln_ w))) ([.int (nI w)] : List Value).toArray s 0 0 (fun _ => False)) (F0 m 4 ls []) := by
    intro n_
    induction n_ with
    | zero => intro k r hm; exact absurd hm (Nat.not_lt_zero _)
    | succ n_ ih_4 =>
      intro k r hm h0 h1 h2 ls hl
      refine lv_iload_n hx hb dX0_lengthOf_4 rfl (lv_at hl 1 rfl) ?_
      refine lv_bipush (v := nI 6) hx hb dX0_lengthOf_5 (by decide) ?_
      refine lv_icmp_ge (tgt := 25) hx hb dX0_lengthOf_7 (by decide) (fun c_7 => ?_) (fun c_7 => ?_)
      · skip
        have n_7 : 6 ≤ k := (nI_leI (a := 6) (b := k) (by omega) (by omega)).mp c_7
        have hE : k = ln_ w := by rw [show 6 - k = 0 by omega] at h1; exact h1
        refine lv_iload_n hx hb dX0_lengthOf_25 rfl (lv_at hl 1 rfl) ?_
        exact W.iret hx hb hr (fun t ht hW => ⟨_, rfl, (congrArg nI hE), ht⟩) (fun q hq => absurd hq List.not_mem_nil) dX0_lengthOf_26
      · skip
        have n_7 : ¬ 6 ≤ k := fun q__ => c_7 ((nI_leI (a := 6) (b := k) (by omega) (by omega)).mpr q__)
        refine lv_iload_n hx hb dX0_lengthOf_10 rfl (lv_at hl 0 rfl) ?_
        refine lv_if_le (tgt := 25) hx hb dX0_lengthOf_11 (by decide) (fun c_11 => ?_) (fun c_11 => ?_)
        · skip
          have n_11 : r = 0 := (nle0_ (by omega)).mp c_11
          have hE : k = ln_ w := by rw [n_11, lnf_0] at h1; exact h1
          refine lv_iload_n hx hb dX0_lengthOf_25 rfl (lv_at hl 1 rfl) ?_
          exact W.iret hx hb hr (fun t ht hW => ⟨_, rfl, (congrArg nI hE), ht⟩) (fun q hq => absurd hq List.not_mem_nil) dX0_lengthOf_26
        · skip
          have n_11 : 0 < r := Nat.pos_of_ne_zero (fun q__ => c_11 ((nle0_ (by omega)).mpr q__))
          refine lv_iload_n hx hb dX0_lengthOf_14 rfl (lv_at hl 0 rfl) ?_
          refine lv_bipush (v := nI 27) hx hb dX0_lengthOf_15 (by decide) ?_
          refine lv_idiv hx hb dX0_lengthOf_17 (by decide) ?_
          refine lv_tn (pk_div (by omega) (by decide) (by decide)) ?_
          refine lv_istore_n (lv' := [(2, .int (nI (r / 27))), (1, .int (nI k)), (0, .int (nI w))]) hx hb dX0_lengthOf_18 rfl hl (by decide) rfl (fun ls hl => ?_)
          refine lv_iinc (v := nI (k + 1)) (lv' := [(1, .int (nI (k + 1))), (2, .int (nI (r / 27))), (0, .int (nI w))]) hx hb dX0_lengthOf_19 hl (k := 1) rfl (nI_1 _) (by decide) rfl (fun ls hl => ?_)
          refine lv_goto (tgt := 4) hx hb dX0_lengthOf_22 (by decide) ?_
          exact ih_4 (k + 1) (r / 27) (by omega) (by omega) (by have h3 := h1; rw [show 6 - k = (6 - (k + 1)) + 1 by omega, lnf_s (show ¬ r = 0 by omega)] at h3; omega) (by omega) ls (lv_sub hl [1, 0, 2] rfl)
  exact LP_4 _ 0 w (Nat.lt_succ_self _) (by omega) ((Nat.zero_add _).trans (ln_6 hw).symm) hw ls (lv_sub hl [0, 1, 2] rfl)
set_option maxHeartbeats 4000000 in
set_option maxRecDepth 100000 in
theorem c_X0_isMarked (l : Launch) (mk p_ : Nat) (hm : mk < 64) (hp : p_ < 6) : RI l yX0_isMarked wsX0_isMarked 0 (va_Pc [.int (nI mk), .int (nI p_)] (fun _ => True)) (b2_ (mk.testBit p_)) := by
  refine Met.ofW (cc := cX0_isMarked) (maxL := 2) (ret := (some .boolean)) (by decide) rfl ?_
  intro p e s m args below meth c s₁ B hml hv
  obtain ⟨rfl, -⟩ := hv
  have hx := B.exec
  have hb := B.bytes
  have hr := B.returns
  have hts := atoms_spec (ws := wsX0_isMarked) B.pre
  have hown : s.vm.findClass RX0 = some m.cls := findClass_of_methodNamed B.named
  have hlocks := B.notSynchronized
  have hl := lv_entry ([.int (nI mk), .int (nI p_)]) (n := 2) (Nat.le_of_ble_eq_true rfl)
  rw [lg_entry_eq]
  generalize (lg_sl ([.int (nI mk), .int (nI p_)]) ++ List.replicate (2 - (lg_sl ([.int (nI mk), .int (nI p_)])).length) Slot.unset).toArray = ls at hl ⊢
  have hl : lv_has ls 2 [(0, .int (nI mk)), (1, .int (nI p_))] := hl
  refine lv_iload_n hx hb dX0_isMarked_0 rfl (lv_at hl 0 rfl) ?_
  refine lv_iload_n hx hb dX0_isMarked_1 rfl (lv_at hl 1 rfl) ?_
  refine lv_ishr hx hb dX0_isMarked_2 ?_
  refine lv_iconst (v := nI 1) hx hb dX0_isMarked_3 (by decide) ?_
  refine lv_iand hx hb dX0_isMarked_4 ?_
  refine lv_iconst (v := nI 1) hx hb dX0_isMarked_5 (by decide) ?_
  refine lv_icmp_ne (tgt := 13) hx hb dX0_isMarked_6 (by decide) (fun c_6 => ?_) (fun c_6 => ?_)
  · skip
    have hE : mk.testBit p_ = false := by
      cases h8 : mk.testBit p_ with
      | false => rfl
      | true => exact absurd ((im_ mk hm p_ hp).mpr h8) c_6
    refine lv_iconst (v := nI 0) hx hb dX0_isMarked_13 (by decide) ?_
    exact W.zret hx hb hr rfl (fun t ht hW => ⟨_, rfl, (by show nI 0 = b2_ (mk.testBit p_); rw [hE]; rfl), ht⟩) (fun q hq => absurd hq List.not_mem_nil) dX0_isMarked_14
  · skip
    have hE : mk.testBit p_ = true := (im_ mk hm p_ hp).mp c_6
    refine lv_iconst (v := nI 1) hx hb dX0_isMarked_9 (by decide) ?_
    refine lv_goto (tgt := 14) hx hb dX0_isMarked_10 (by decide) ?_
    exact W.zret hx hb hr rfl (fun t ht hW => ⟨_, rfl, (by show nI 1 = b2_ (mk.testBit p_); rw [hE]; rfl), ht⟩) (fun q hq => absurd hq List.not_mem_nil) dX0_isMarked_14
set_option maxHeartbeats 4000000 in
set_option maxRecDepth 100000 in
theorem c_X0_worthOfLetter (l : Launch) (B0 : Nat) (g : va_G) (ct ad : Nat → Nat) (cS : St_) (mS : Pl_) (x : Ax_) (k : Nat) (hk : k < 27) : RI l yX0_worthOfLetter wsX0_worthOfLetter 0 (PX B0 g ct ad cS mS x [.ref (ad 0), .int (nI k)]) (nI (vl_ (so cS) k)) := by
  refine Met.ofW (cc := cX0_worthOfLetter) (maxL := 2) (ret := (some .int)) (by decide) rfl ?_
  intro p e s m args below meth c s₁ B hml hv
  obtain ⟨rfl, hC⟩ := hv
  have hx := B.exec
  have hb := B.bytes
  have hr := B.returns
  have hts := atoms_spec (ws := wsX0_worthOfLetter) B.pre
  have hown : s.vm.findClass RX0 = some m.cls := findClass_of_methodNamed B.named
  have hlocks := B.notSynchronized
  have hin : ∀ w ∈ wsX00, w ∈ wsX0_worthOfLetter := fun _ h => List.mem_cons_of_mem _ (List.mem_append_right _ h)
  have ho : so cS < 3 := hC.1.2.2.2.1
  have hkk : k * k ≤ 26 * 26 := Nat.mul_le_mul (by omega) (by omega)
  have hl := lv_entry ([.ref (ad 0), .int (nI k)]) (n := 2) (Nat.le_of_ble_eq_true rfl)
  rw [lg_entry_eq]
  generalize (lg_sl ([.ref (ad 0), .int (nI k)]) ++ List.replicate (2 - (lg_sl ([.ref (ad 0), .int (nI k)])).length) Slot.unset).toArray = ls at hl ⊢
  have hl : lv_has ls 2 [(0, .ref (ad 0)), (1, .int (nI k))] := hl
  refine lv_aload_n hx hb dX0_worthOfLetter_0 rfl (lv_at hl 0 rfl) ?_
  refine r_g0 hC hx hb hts hin hown 0 (by decide) (hts (.fieldLink RX0 9 "AbjadPoems" "order" "I") (by decide +kernel)) rfl dX0_worthOfLetter_1 ?_
  refine lv_iconst (v := nI 2) hx hb dX0_worthOfLetter_4 (by decide) ?_
  refine lv_icmp_ne (tgt := 20) hx hb dX0_worthOfLetter_5 (by decide) (fun c_5 => ?_) (fun c_5 => ?_)
  · skip
    have n_5 : ¬ so cS = 2 := fun q__ => c_5 ((nI_eq (a := so cS) (b := 2) (by omega) (by omega)).mpr q__)
    refine lv_aload_n hx hb dX0_worthOfLetter_20 rfl (lv_at hl 0 rfl) ?_
    refine r_g0 hC hx hb hts hin hown 0 (by decide) (hts (.fieldLink RX0 9 "AbjadPoems" "order" "I") (by decide +kernel)) rfl dX0_worthOfLetter_21 ?_
    refine lv_iconst (v := nI 1) hx hb dX0_worthOfLetter_24 (by decide) ?_
    refine lv_icmp_eq (tgt := 34) hx hb dX0_worthOfLetter_25 (by decide) (fun c_25 => ?_) (fun c_25 => ?_)
    · skip
      have n_25 : so cS = 1 := (nI_eq (a := so cS) (b := 1) (by omega) (by omega)).mp c_25
      have hE := vA2 _ ho k hk n_5 n_25
      refine lv_iload_n hx hb dX0_worthOfLetter_34 rfl (lv_at hl 1 rfl) ?_
      exact W.iret hx hb hr (fun t ht hW => ⟨_, rfl, (by show nI k = nI (vl_ (so cS) k); rw [← hE]), ht⟩) (fun q hq => absurd hq List.not_mem_nil) dX0_worthOfLetter_35
    · skip
      have n_25 : ¬ so cS = 1 := fun q__ => c_25 ((nI_eq (a := so cS) (b := 1) (by omega) (by omega)).mpr q__)
      refine lv_iload_n hx hb dX0_worthOfLetter_28 rfl (lv_at hl 1 rfl) ?_
      refine lv_bipush (v := nI 9) hx hb dX0_worthOfLetter_29 (by decide) ?_
      refine lv_icmp_gt (tgt := 36) hx hb dX0_worthOfLetter_31 (by decide) (fun c_31 => ?_) (fun c_31 => ?_)
      · skip
        have n_31 : 9 < k := (nI_ltI (a := 9) (b := k) (by omega) (by omega)).mp c_31
        refine lv_iload_n hx hb dX0_worthOfLetter_36 rfl (lv_at hl 1 rfl) ?_
        refine lv_bipush (v := nI 18) hx hb dX0_worthOfLetter_37 (by decide) ?_
        refine lv_icmp_gt (tgt := 52) hx hb dX0_worthOfLetter_39 (by decide) (fun c_39 => ?_) (fun c_39 => ?_)
        · skip
          have n_39 : 18 < k := (nI_ltI (a := 18) (b := k) (by omega) (by omega)).mp c_39
          have hE := vA5 _ ho k hk n_5 n_25 (by omega) (by omega)
          refine lv_iload_n hx hb dX0_worthOfLetter_52 rfl (lv_at hl 1 rfl) ?_
          refine lv_bipush (v := nI 18) hx hb dX0_worthOfLetter_53 (by decide) ?_
          refine lv_isub hx hb dX0_worthOfLetter_55 ?_
          refine lv_tn (pk_sub (by omega)) ?_
          refine lv_bipush (v := nI 100) hx hb dX0_worthOfLetter_56 (by decide) ?_
          refine lv_imul hx hb dX0_worthOfLetter_58 ?_
          refine lv_tn (pk_mul _ _) ?_
          exact W.iret hx hb hr (fun t ht hW => ⟨_, rfl, (by show nI ((k - 18) * 100) = nI (vl_ (so cS) k); rw [← hE]), ht⟩) (fun q hq => absurd hq List.not_mem_nil) dX0_worthOfLetter_59
        · skip
          have n_39 : ¬ 18 < k := fun q__ => c_39 ((nI_ltI (a := 18) (b := k) (by omega) (by omega)).mpr q__)
          have hE := vA4 _ ho k hk n_5 n_25 (by omega) (by omega)
          refine lv_iload_n hx hb dX0_worthOfLetter_42 rfl (lv_at hl 1 rfl) ?_
          refine lv_bipush (v := nI 9) hx hb dX0_worthOfLetter_43 (by decide) ?_
          refine lv_isub hx hb dX0_worthOfLetter_45 ?_
          refine lv_tn (pk_sub (by omega)) ?_
          refine lv_bipush (v := nI 10) hx hb dX0_worthOfLetter_46 (by decide) ?_
          refine lv_imul hx hb dX0_worthOfLetter_48 ?_
          refine lv_tn (pk_mul _ _) ?_
          refine lv_goto (tgt := 59) hx hb dX0_worthOfLetter_49 (by decide) ?_
          exact W.iret hx hb hr (fun t ht hW => ⟨_, rfl, (by show nI ((k - 9) * 10) = nI (vl_ (so cS) k); rw [← hE]), ht⟩) (fun q hq => absurd hq List.not_mem_nil) dX0_worthOfLetter_59
      · skip
        have n_31 : ¬ 9 < k := fun q__ => c_31 ((nI_ltI (a := 9) (b := k) (by omega) (by omega)).mpr q__)
        have hE := vA3 _ ho k hk n_5 n_25 (by omega)
        refine lv_iload_n hx hb dX0_worthOfLetter_34 rfl (lv_at hl 1 rfl) ?_
        exact W.iret hx hb hr (fun t ht hW => ⟨_, rfl, (by show nI k = nI (vl_ (so cS) k); rw [← hE]), ht⟩) (fun q hq => absurd hq List.not_mem_nil) dX0_worthOfLetter_35
  · skip
    have n_5 : so cS = 2 := (nI_eq (a := so cS) (b := 2) (by omega) (by omega)).mp c_5
    refine lv_iload_n hx hb dX0_worthOfLetter_8 rfl (lv_at hl 1 rfl) ?_
    refine lv_iload_n hx hb dX0_worthOfLetter_9 rfl (lv_at hl 1 rfl) ?_
    refine lv_imul hx hb dX0_worthOfLetter_10 ?_
    refine lv_tn (pk_mul _ _) ?_
    refine lv_bipush (v := nI 7) hx hb dX0_worthOfLetter_11 (by decide) ?_
    refine lv_imul hx hb dX0_worthOfLetter_13 ?_
    refine lv_tn (pk_mul _ _) ?_
    refine lv_bipush (v := nI 101) hx hb dX0_worthOfLetter_14 (by decide) ?_
    refine lv_irem hx hb dX0_worthOfLetter_16 (by decide) ?_
    refine lv_tn (pk_rem (by omega) (by decide) (by decide)) ?_
    refine lv_iconst (v := nI 1) hx hb dX0_worthOfLetter_17 (by decide) ?_
    refine lv_iadd hx hb dX0_worthOfLetter_18 ?_
    refine lv_tn (nI_add _ _) ?_
    exact W.iret hx hb hr (fun t ht hW => ⟨_, rfl, (by show nI ((((k * k) * 7) % 101) + 1) = nI (vl_ (so cS) k); rw [← vA1 _ ho k hk n_5]), ht⟩) (fun q hq => absurd hq List.not_mem_nil) dX0_worthOfLetter_19
end
section
set_option maxHeartbeats 4000000 in
set_option maxRecDepth 100000 in
theorem c_X0_worthOfPlaces (l : Launch) (B0 : Nat) (g : va_G) (ct ad : Nat → Nat) (cS : St_) (mS : Pl_) (x : Ax_) (w mk : Nat) (hw : w < 387420489) (hm : mk < 64) : RI l yX0_worthOfPlaces wsX0_worthOfPlaces 1 (PX B0 g ct ad cS mS x [.ref (ad 0), .int (nI w), .int (nI mk)]) (nI (wm_ (so cS) w mk)) := by
  refine Met.ofW (cc := cX0_worthOfPlaces) (maxL := 6) (ret := (some .int)) (by decide) rfl ?_
  intro p e s m args below meth c s₁ B hml hv
  obtain ⟨rfl, hC⟩ := hv
  have hx := B.exec
  have hb := B.bytes
  have hr := B.returns
  have hts := atoms_spec (ws := wsX0_worthOfPlaces) B.pre
  have hown : s.vm.findClass RX0 = some m.cls := findClass_of_methodNamed B.named
  have hlocks := B.notSynchronized
  have hin : ∀ w ∈ wsX00, w ∈ wsX0_worthOfPlaces := fun _ h => List.mem_cons_of_mem _ (List.mem_append_right _ h)
  have h6 := ln_le hw
  have hl := lv_entry ([.ref (ad 0), .int (nI w), .int (nI mk)]) (n := 6) (Nat.le_of_ble_eq_true rfl)
  rw [lg_entry_eq]
  generalize (lg_sl ([.ref (ad 0), .int (nI w), .int (nI mk)]) ++ List.replicate (6 - (lg_sl ([.ref (ad 0), .int (nI w), .int (nI mk)])).length) Slot.unset).toArray = ls at hl ⊢
  have hl : lv_has ls 6 [(0, .ref (ad 0)), (1, .int (nI w)), (2, .int (nI mk))] := hl
  refine lv_iconst (v := nI 0) hx hb dX0_worthOfPlaces_0 (by decide) ?_
  refine lv_istore_n (lv' := [(3, .int (nI 0)), (0, .ref (ad 0)), (1, .int (nI w)), (2, .int (nI mk))]) hx hb dX0_worthOfPlaces_1 rfl hl (by decide) rfl (fun ls hl => ?_)
  refine lv_iload_n hx hb dX0_worthOfPlaces_2 rfl (lv_at hl 2 rfl) ?_
  refine lv_istore (lv' := [(4, .int (nI w)), (3, .int (nI 0)), (0, .ref (ad 0)), (1, .int (nI w)), (2, .int (nI mk))]) hx hb dX0_worthOfPlaces_3 hl (by decide) rfl (fun ls hl => ?_)
  refine lv_iload_n hx hb dX0_worthOfPlaces_5 rfl (lv_at hl 3 rfl) ?_
  refine k_pS (As := [.int (nI w)]) (rest := []) (c_X0_lengthOf l w (by omega)) ⟨hx, hb, hml, hown, hts⟩ (va_cwS 1 hts gX0_worthOfPlaces_X0_lengthOf rfl rfl rfl (by decide +kernel) ⟨Nat.le_of_ble_eq_true rfl, Nat.le_of_ble_eq_true rfl⟩) rfl hl.1 rfl (Nat.le_of_ble_eq_true rfl) dX0_worthOfPlaces_6 ⟨Nat.le_of_ble_eq_true rfl, Nat.le_of_ble_eq_true rfl⟩ ?_
  refine lv_iconst (v := nI 1) hx hb dX0_worthOfPlaces_9 (by decide) ?_
  refine lv_isub hx hb dX0_worthOfPlaces_10 ?_
  refine lv_istore (lv' := [(5, .int ((nI (ln_ w)) - (nI 1))), (4, .int (nI w)), (3, .int (nI 0)), (0, .ref (ad 0)), (1, .int (nI w)), (2, .int (nI mk))]) hx hb dX0_worthOfPlaces_11 hl (by decide) rfl (fun ls hl => ?_)
  have LP_13 : ∀ (n_ : Nat) (t : Nat) (r : Nat) (p1 : Nat), p1 < n_ → (t + wq_ (so cS) w mk p1 = wm_ (so cS) w mk) → (r = w / 27 ^ (ln_ w - p1)) → (p1 ≤ ln_ w) → ∀ ls : Array Slot, lv_has ls 6 [(5, .int (nI p1 - nI 1)), (4, .int (nI r)), (3, .int (nI t)), (0, .ref (ad 0)), (1, .int (nI w)), (2, .int (nI mk))] → W p l e (headSpec wsX0_worthOfPlaces (rm_ 1 0 0)).room s m ([.ref (ad 0), .int (nI w), .int (nI mk)] : List Value).toArray below meth c s.heap [] 0 0 (MQ below (vp_Si (fun r => r = nI (wm_ (so cS) w mk))) ([.ref (ad 0), .int (nI w), .int (nI mk)] : List Value).toArray s 0 0 (fun _ => False)) (F0 m 13 ls []) := by
    intro n_
    induction n_ with
    | zero => intro t r p1 hm; exact absurd hm (Nat.not_lt_zero _)
    | succ n_ ih_13 =>
      intro t r p1 hm ht hr_ hp ls hl
      have hrb : r < 387420489 := by rw [hr_]; exact Nat.lt_of_le_of_lt (Nat.div_le_self _ _) hw
      refine lv_iload hx hb dX0_worthOfPlaces_13 (lv_at hl 0 rfl) ?_
      refine lv_if_lt (tgt := 52) hx hb dX0_worthOfPlaces_15 (by decide) (fun c_15 => ?_) (fun c_15 => ?_)
      · skip
        have n_15 : p1 = 0 := (pm_ (by omega)).mp c_15
        have hE : t = wm_ (so cS) w mk := by rw [n_15] at ht; exact ht
        refine lv_iload_n hx hb dX0_worthOfPlaces_52 rfl (lv_at hl 2 rfl) ?_
        exact W.iret hx hb hr (fun t ht hW => ⟨_, rfl, (congrArg nI hE), ht⟩) (fun q hq => absurd hq List.not_mem_nil) dX0_worthOfPlaces_53
      · skip
        have n_15 : ¬ p1 = 0 := fun q => c_15 ((pm_ (by omega)).mpr q)
        have hl : lv_has ls 6 [(5, .int (nI (p1 - 1))), (4, .int (nI r)), (3, .int (nI t)), (0, .ref (ad 0)), (1, .int (nI w)), (2, .int (nI mk))] := (by rw [pk_sub (show 1 ≤ p1 by omega)] at hl; exact hl)
        refine lv_iload_n hx hb dX0_worthOfPlaces_18 rfl (lv_at hl 5 rfl) ?_
        refine lv_iload hx hb dX0_worthOfPlaces_19 (lv_at hl 0 rfl) ?_
        refine k_pS (As := [.int (nI mk), .int (nI (p1 - 1))]) (rest := []) (c_X0_isMarked l mk (p1 - 1) (by omega) (by omega)) ⟨hx, hb, hml, hown, hts⟩ (va_cwS 2 hts gX0_worthOfPlaces_X0_isMarked rfl rfl rfl (by decide +kernel) ⟨Nat.le_of_ble_eq_true rfl, Nat.le_of_ble_eq_true rfl⟩) rfl hl.1 rfl (Nat.le_of_ble_eq_true rfl) dX0_worthOfPlaces_21 ⟨Nat.le_of_ble_eq_true rfl, Nat.le_of_ble_eq_true rfl⟩ ?_
        refine lv_if_eq (tgt := 39) hx hb dX0_worthOfPlaces_24 (by decide) (fun c_24 => ?_) (fun c_24 => ?_)
        · skip
          have n_24 := b2_0.mp c_24
          refine lv_iload hx hb dX0_worthOfPlaces_39 (lv_at hl 1 rfl) ?_
          refine lv_bipush (v := nI 27) hx hb dX0_worthOfPlaces_41 (by decide) ?_
          refine lv_idiv hx hb dX0_worthOfPlaces_43 (by decide) ?_
          refine lv_tn (pk_div (by omega) (by decide) (by decide)) ?_
          refine lv_istore (lv' := [(4, .int (nI (r / 27))), (5, .int (nI (p1 - 1))), (3, .int (nI t)), (0, .ref (ad 0)), (1, .int (nI w)), (2, .int (nI mk))]) hx hb dX0_worthOfPlaces_44 hl (by decide) rfl (fun ls hl => ?_)
          refine lv_iinc (v := nI (p1 - 1) - nI 1) (lv' := [(5, .int (nI (p1 - 1) - nI 1)), (4, .int (nI (r / 27))), (3, .int (nI t)), (0, .ref (ad 0)), (1, .int (nI w)), (2, .int (nI mk))]) hx hb dX0_worthOfPlaces_46 hl (k := 1) rfl (im1_ _) (by decide) rfl (fun ls hl => ?_)
          refine lv_goto (tgt := 13) hx hb dX0_worthOfPlaces_49 (by decide) ?_
          exact ih_13 t (r / 27) (p1 - 1) (by omega) (by first | (have h9 := wq_t (o := so cS) (w := w) (m := mk) (p := p1) (by omega) n_24; omega) | (have h9 := wq_f (o := so cS) (w := w) (m := mk) (p := p1) (by omega) n_24; omega)) (by rw [hr_, dv_, show ln_ w - p1 + 1 = ln_ w - (p1 - 1) by omega]) (by omega) ls (lv_sub hl [0, 1, 2, 3, 4, 5] rfl)
        · skip
          have n_24 := b2_ne c_24
          refine lv_iload_n hx hb dX0_worthOfPlaces_27 rfl (lv_at hl 2 rfl) ?_
          refine lv_aload_n hx hb dX0_worthOfPlaces_28 rfl (lv_at hl 3 rfl) ?_
          refine lv_iload hx hb dX0_worthOfPlaces_29 (lv_at hl 1 rfl) ?_
          refine lv_bipush (v := nI 27) hx hb dX0_worthOfPlaces_31 (by decide) ?_
          refine lv_irem hx hb dX0_worthOfPlaces_33 (by decide) ?_
          refine lv_tn (pk_rem (by omega) (by decide) (by decide)) ?_
          refine lv_tn (w := nI (at_ w (p1 - 1))) (by unfold at_; rw [hr_, show ln_ w - 1 - (p1 - 1) = ln_ w - p1 by omega]) ?_
          refine k_rV (As := [.int (nI (at_ w (p1 - 1)))]) (rest := [.int (nI t)]) (c_X0_worthOfLetter l B0 g ct ad cS mS x (at_ w (p1 - 1)) (at_lt _ _)) hC ⟨hx, hb, hml, hown, hts⟩ (cwV 1 hts gX0_worthOfPlaces_X0_worthOfLetter rfl rfl rfl (by decide +kernel) ⟨Nat.le_of_ble_eq_true rfl, Nat.le_of_ble_eq_true rfl⟩) (rc0 hC) rfl hl.1 rfl (Nat.le_of_ble_eq_true rfl) dX0_worthOfPlaces_34 ⟨Nat.le_of_ble_eq_true rfl, Nat.le_of_ble_eq_true rfl⟩ ?_
          refine lv_iadd hx hb dX0_worthOfPlaces_37 ?_
          refine lv_tn (nI_add _ _) ?_
          refine lv_istore_n (lv' := [(3, .int (nI (t + (vl_ (so cS) (at_ w (p1 - 1)))))), (5, .int (nI (p1 - 1))), (4, .int (nI r)), (0, .ref (ad 0)), (1, .int (nI w)), (2, .int (nI mk))]) hx hb dX0_worthOfPlaces_38 rfl hl (by decide) rfl (fun ls hl => ?_)
          refine lv_iload hx hb dX0_worthOfPlaces_39 (lv_at hl 2 rfl) ?_
          refine lv_bipush (v := nI 27) hx hb dX0_worthOfPlaces_41 (by decide) ?_
          refine lv_idiv hx hb dX0_worthOfPlaces_43 (by decide) ?_
          refine lv_tn (pk_div (by omega) (by decide) (by decide)) ?_
          refine lv_istore (lv' := [(4, .int (nI (r / 27))), (3, .int (nI (t + (vl_ (so cS) (at_ w (p1 - 1)))))), (5, .int (nI (p1 - 1))), (0, .ref (ad 0)), (1, .int (nI w)), (2, .int (nI mk))]) hx hb dX0_worthOfPlaces_44 hl (by decide) rfl (fun ls hl => ?_)
          refine lv_iinc (v := nI (p1 - 1) - nI 1) (lv' := [(5, .int (nI (p1 - 1) - nI 1)), (4, .int (nI (r / 27))), (3, .int (nI (t + (vl_ (so cS) (at_ w (p1 - 1)))))), (0, .ref (ad 0)), (1, .int (nI w)), (2, .int (nI mk))]) hx hb dX0_worthOfPlaces_46 hl (k := 2) rfl (im1_ _) (by decide) rfl (fun ls hl => ?_)
          refine lv_goto (tgt := 13) hx hb dX0_worthOfPlaces_49 (by decide) ?_
          exact ih_13 (t + (vl_ (so cS) (at_ w (p1 - 1)))) (r / 27) (p1 - 1) (by omega) (by first | (have h9 := wq_t (o := so cS) (w := w) (m := mk) (p := p1) (by omega) n_24; omega) | (have h9 := wq_f (o := so cS) (w := w) (m := mk) (p := p1) (by omega) n_24; omega)) (by rw [hr_, dv_, show ln_ w - p1 + 1 = ln_ w - (p1 - 1) by omega]) (by omega) ls (lv_sub hl [0, 1, 2, 3, 4, 5] rfl)
  exact LP_13 _ 0 w (ln_ w) (Nat.lt_succ_self _) (Nat.zero_add _) (by rw [Nat.sub_self]; simp) (Nat.le_refl _) ls (lv_sub hl [0, 1, 2, 3, 4, 5] rfl)
set_option maxHeartbeats 4000000 in
set_option maxRecDepth 100000 in
theorem c_X0_isWord_a (l : Launch) (w : Int32) (hle : w ≤ 0) : RI l yX0_isWord wsX0_isWord 0 (va_Pc [.int w] (fun _ => True)) (b2_ (wd_ w)) := by
  refine Met.ofW (cc := cX0_isWord) (maxL := 3) (ret := (some .boolean)) (by decide) rfl ?_
  intro p e s m args below meth c s₁ B hml hv
  obtain ⟨rfl, -⟩ := hv
  have hx := B.exec
  have hb := B.bytes
  have hr := B.returns
  have hts := atoms_spec (ws := wsX0_isWord) B.pre
  have hown : s.vm.findClass RX0 = some m.cls := findClass_of_methodNamed B.named
  have hlocks := B.notSynchronized
  have hE := wd_0 hle
  have hl := lv_entry ([.int w]) (n := 3) (Nat.le_of_ble_eq_true rfl)
  rw [lg_entry_eq]
  generalize (lg_sl ([.int w]) ++ List.replicate (3 - (lg_sl ([.int w])).length) Slot.unset).toArray = ls at hl ⊢
  have hl : lv_has ls 3 [(0, .int w)] := hl
  refine lv_iload_n hx hb dX0_isWord_0 rfl (lv_at hl 0 rfl) ?_
  refine lv_if_le (tgt := 10) hx hb dX0_isWord_1 (by decide) (fun c_1 => ?_) (fun c_1 => ?_)
  · skip
    refine lv_iconst (v := nI 0) hx hb dX0_isWord_10 (by decide) ?_
    exact W.zret hx hb hr rfl (fun t ht hW => ⟨_, rfl, (by show nI 0 = b2_ (wd_ w); rw [hE]; rfl), ht⟩) (fun q hq => absurd hq List.not_mem_nil) dX0_isWord_11
  · skip
    exact absurd hle c_1
set_option maxHeartbeats 4000000 in
set_option maxRecDepth 100000 in
theorem c_X0_isWord_b (l : Launch) (n : Nat) (h0 : 0 < n) (hn : n < 2 ^ 31) : RI l yX0_isWord wsX0_isWord 0 (va_Pc [.int (nI n)] (fun _ => True)) (b2_ (iw_ n)) := by
  refine Met.ofW (cc := cX0_isWord) (maxL := 3) (ret := (some .boolean)) (by decide) rfl ?_
  intro p e s m args below meth c s₁ B hml hv
  obtain ⟨rfl, -⟩ := hv
  have hx := B.exec
  have hb := B.bytes
  have hr := B.returns
  have hts := atoms_spec (ws := wsX0_isWord) B.pre
  have hown : s.vm.findClass RX0 = some m.cls := findClass_of_methodNamed B.named
  have hlocks := B.notSynchronized
  have hl := lv_entry ([.int (nI n)]) (n := 3) (Nat.le_of_ble_eq_true rfl)
  rw [lg_entry_eq]
  generalize (lg_sl ([.int (nI n)]) ++ List.replicate (3 - (lg_sl ([.int (nI n)])).length) Slot.unset).toArray = ls at hl ⊢
  have hl : lv_has ls 3 [(0, .int (nI n))] := hl
  refine lv_iload_n hx hb dX0_isWord_0 rfl (lv_at hl 0 rfl) ?_
  refine lv_if_le (tgt := 10) hx hb dX0_isWord_1 (by decide) (fun c_1 => ?_) (fun c_1 => ?_)
  · skip
    have n_1 : n = 0 := (nle0_ (by omega)).mp c_1
    exact absurd n_1 (by omega)
  · skip
    have n_1 : 0 < n := Nat.pos_of_ne_zero (fun q__ => c_1 ((nle0_ (by omega)).mpr q__))
    refine lv_iload_n hx hb dX0_isWord_4 rfl (lv_at hl 0 rfl) ?_
    refine lv_ldc hx hb hown (hts (.constant RX0 150 (387420489)) (by decide +kernel)) dX0_isWord_5 ?_
    refine lv_tn (w := nI 387420489) (by decide) ?_
    refine lv_icmp_lt (tgt := 12) hx hb dX0_isWord_7 (by decide) (fun c_7 => ?_) (fun c_7 => ?_)
    · skip
      have n_7 : n < 387420489 := (nI_ltI (a := n) (b := 387420489) (by omega) (by omega)).mp c_7
      refine lv_iload_n hx hb dX0_isWord_12 rfl (lv_at hl 0 rfl) ?_
      refine lv_istore_n (lv' := [(1, .int (nI n)), (0, .int (nI n))]) hx hb dX0_isWord_13 rfl hl (by decide) rfl (fun ls hl => ?_)
      refine lv_iconst (v := nI 0) hx hb dX0_isWord_14 (by decide) ?_
      refine lv_istore_n (lv' := [(2, .int (nI 0)), (1, .int (nI n)), (0, .int (nI n))]) hx hb dX0_isWord_15 rfl hl (by decide) rfl (fun ls hl => ?_)
      have LP_16 : ∀ (n_ : Nat) (k : Nat) (r : Nat), 6 - k < n_ → (nz_ (7 - k) r = nz_ 7 n) → (r < 27 ^ (6 - k)) → (k ≤ 6) → (r ≤ n) → ∀ ls : Array Slot, lv_has ls 3 [(2, .int (nI k)), (1, .int (nI r)), (0, .int (nI n))] → W p l e (headSpec wsX0_isWord (rm_ 0 0 0)).room s m ([.int (nI n)] : List Value).toArray below meth c s.heap [] 0 0 (MQ below (vp_Si (fun r => r = b2_ (iw_ n))) ([.int (nI n)] : List Value).toArray s 0 0 (fun _ => False)) (F0 m 16 ls []) := by
        intro n_
        induction n_ with
        | zero => intro k r hm; exact absurd hm (Nat.not_lt_zero _)
        | succ n_ ih_16 =>
          intro k r hm h1 h2 hk hr_ ls hl
          refine lv_iload_n hx hb dX0_isWord_16 rfl (lv_at hl 0 rfl) ?_
          refine lv_bipush (v := nI 6) hx hb dX0_isWord_17 (by decide) ?_
          refine lv_icmp_ge (tgt := 46) hx hb dX0_isWord_19 (by decide) (fun c_19 => ?_) (fun c_19 => ?_)
          · skip
            have n_19 : 6 ≤ k := (nI_leI (a := 6) (b := k) (by omega) (by omega)).mp c_19
            have hr0 : r = 0 := by rw [show k = 6 by omega] at h2; simpa using h2
            have hE : iw_ n = true := iw_y h0 n_7 (by rw [← h1, hr0, nz_0])
            refine lv_iconst (v := nI 1) hx hb dX0_isWord_46 (by decide) ?_
            exact W.zret hx hb hr rfl (fun t ht hW => ⟨_, rfl, (by show nI 1 = b2_ (iw_ n); rw [hE]; rfl), ht⟩) (fun q hq => absurd hq List.not_mem_nil) dX0_isWord_47
          · skip
            have n_19 : ¬ 6 ≤ k := fun q__ => c_19 ((nI_leI (a := 6) (b := k) (by omega) (by omega)).mpr q__)
            refine lv_iload_n hx hb dX0_isWord_22 rfl (lv_at hl 1 rfl) ?_
            refine lv_if_le (tgt := 46) hx hb dX0_isWord_23 (by decide) (fun c_23 => ?_) (fun c_23 => ?_)
            · skip
              have n_23 : r = 0 := (nle0_ (by omega)).mp c_23
              have hE : iw_ n = true := iw_y h0 n_7 (by rw [← h1, n_23, nz_0])
              refine lv_iconst (v := nI 1) hx hb dX0_isWord_46 (by decide) ?_
              exact W.zret hx hb hr rfl (fun t ht hW => ⟨_, rfl, (by show nI 1 = b2_ (iw_ n); rw [hE]; rfl), ht⟩) (fun q hq => absurd hq List.not_mem_nil) dX0_isWord_47
            · skip
              have n_23 : 0 < r := Nat.pos_of_ne_zero (fun q__ => c_23 ((nle0_ (by omega)).mpr q__))
              refine lv_iload_n hx hb dX0_isWord_26 rfl (lv_at hl 1 rfl) ?_
              refine lv_bipush (v := nI 27) hx hb dX0_isWord_27 (by decide) ?_
              refine lv_irem hx hb dX0_isWord_29 (by decide) ?_
              refine lv_tn (pk_rem (by omega) (by decide) (by decide)) ?_
              refine lv_if_ne (tgt := 35) hx hb dX0_isWord_30 (by decide) (fun c_30 => ?_) (fun c_30 => ?_)
              · skip
                have n_30 : ¬ r % 27 = 0 := fun q__ => c_30 ((eq0_ (by omega)).mpr q__)
                refine lv_iload_n hx hb dX0_isWord_35 rfl (lv_at hl 1 rfl) ?_
                refine lv_bipush (v := nI 27) hx hb dX0_isWord_36 (by decide) ?_
                refine lv_idiv hx hb dX0_isWord_38 (by decide) ?_
                refine lv_tn (pk_div (by omega) (by decide) (by decide)) ?_
                refine lv_istore_n (lv' := [(1, .int (nI (r / 27))), (2, .int (nI k)), (0, .int (nI n))]) hx hb dX0_isWord_39 rfl hl (by decide) rfl (fun ls hl => ?_)
                refine lv_iinc (v := nI (k + 1)) (lv' := [(2, .int (nI (k + 1))), (1, .int (nI (r / 27))), (0, .int (nI n))]) hx hb dX0_isWord_40 hl (k := 1) rfl (nI_1 _) (by decide) rfl (fun ls hl => ?_)
                refine lv_goto (tgt := 16) hx hb dX0_isWord_43 (by decide) ?_
                exact ih_16 (k + 1) (r / 27) (by omega) (by rw [← h1, show 7 - k = (7 - (k + 1)) + 1 by omega, nz_y (by omega) n_30]) (pw_ (by omega) h2) (by omega) (by omega) ls (lv_sub hl [0, 1, 2] rfl)
              · skip
                have n_30 : r % 27 = 0 := (eq0_ (by omega)).mp c_30
                have hz : nz_ 7 n = false := by rw [← h1, show 7 - k = (6 - k) + 1 by omega, nz_n (by omega) n_30]
                have hE : iw_ n = false := iw_n hz
                refine lv_iconst (v := nI 0) hx hb dX0_isWord_33 (by decide) ?_
                exact W.zret hx hb hr rfl (fun t ht hW => ⟨_, rfl, (by show nI 0 = b2_ (iw_ n); rw [hE]; rfl), ht⟩) (fun q hq => absurd hq List.not_mem_nil) dX0_isWord_34
      exact LP_16 _ 0 n (Nat.lt_succ_self _) rfl (by show n < 27 ^ 6; omega) (by omega) (by omega) ls (lv_sub hl [0, 1, 2] rfl)
    · skip
      have n_7 : ¬ n < 387420489 := fun q__ => c_7 ((nI_ltI (a := n) (b := 387420489) (by omega) (by omega)).mpr q__)
      have hE : iw_ n = false := iw_b n_7
      refine lv_iconst (v := nI 0) hx hb dX0_isWord_10 (by decide) ?_
      exact W.zret hx hb hr rfl (fun t ht hW => ⟨_, rfl, (by show nI 0 = b2_ (iw_ n); rw [hE]; rfl), ht⟩) (fun q hq => absurd hq List.not_mem_nil) dX0_isWord_11
theorem c_X0_isWord (l : Launch) (w : Int32) : RI l yX0_isWord wsX0_isWord 0 (va_Pc [.int w] (fun _ => True)) (b2_ (wd_ w)) := by
  by_cases h : w ≤ 0
  · exact c_X0_isWord_a l w h
  · obtain ⟨n, hn, rfl⟩ := nI_of (x := w) (fun z => h (Int32.le_of_lt z))
    have h0 : 0 < n := (gt0_ hn).mp (gt_i h)
    rw [wd_n hn]
    exact c_X0_isWord_b l n h0 hn
theorem bc_ : ∀ mk, mk < 64 → ((((((((nI mk) - ((((nI mk).toUInt32 >>> ((nI 1).toUInt32 &&& Int32.toUInt32 31)).toInt32) &&& (nI 1431655765))) &&& (nI 858993459)) + (((((nI mk) - ((((nI mk).toUInt32 >>> ((nI 1).toUInt32 &&& Int32.toUInt32 31)).toInt32) &&& (nI 1431655765))).toUInt32 >>> ((nI 2).toUInt32 &&& Int32.toUInt32 31)).toInt32) &&& (nI 858993459))) + ((((((nI mk) - ((((nI mk).toUInt32 >>> ((nI 1).toUInt32 &&& Int32.toUInt32 31)).toInt32) &&& (nI 1431655765))) &&& (nI 858993459)) + (((((nI mk) - ((((nI mk).toUInt32 >>> ((nI 1).toUInt32 &&& Int32.toUInt32 31)).toInt32) &&& (nI 1431655765))).toUInt32 >>> ((nI 2).toUInt32 &&& Int32.toUInt32 31)).toInt32) &&& (nI 858993459))).toUInt32 >>> ((nI 4).toUInt32 &&& Int32.toUInt32 31)).toInt32)) &&& (nI 252645135)) + ((((((((nI mk) - ((((nI mk).toUInt32 >>> ((nI 1).toUInt32 &&& Int32.toUInt32 31)).toInt32) &&& (nI 1431655765))) &&& (nI 858993459)) + (((((nI mk) - ((((nI mk).toUInt32 >>> ((nI 1).toUInt32 &&& Int32.toUInt32 31)).toInt32) &&& (nI 1431655765))).toUInt32 >>> ((nI 2).toUInt32 &&& Int32.toUInt32 31)).toInt32) &&& (nI 858993459))) + ((((((nI mk) - ((((nI mk).toUInt32 >>> ((nI 1).toUInt32 &&& Int32.toUInt32 31)).toInt32) &&& (nI 1431655765))) &&& (nI 858993459)) + (((((nI mk) - ((((nI mk).toUInt32 >>> ((nI 1).toUInt32 &&& Int32.toUInt32 31)).toInt32) &&& (nI 1431655765))).toUInt32 >>> ((nI 2).toUInt32 &&& Int32.toUInt32 31)).toInt32) &&& (nI 858993459))).toUInt32 >>> ((nI 4).toUInt32 &&& Int32.toUInt32 31)).toInt32)) &&& (nI 252645135)).toUInt32 >>> ((nI 8).toUInt32 &&& Int32.toUInt32 31)).toInt32)) + (((((((((nI mk) - ((((nI mk).toUInt32 >>> ((nI 1).toUInt32 &&& Int32.toUInt32 31)).toInt32) &&& (nI 1431655765))) &&& (nI 858993459)) + (((((nI mk) - ((((nI mk).toUInt32 >>> ((nI 1).toUInt32 &&& Int32.toUInt32 31)).toInt32) &&& (nI 1431655765))).toUInt32 >>> ((nI 2).toUInt32 &&& Int32.toUInt32 31)).toInt32) &&& (nI 858993459))) + ((((((nI mk) - ((((nI mk).toUInt32 >>> ((nI 1).toUInt32 &&& Int32.toUInt32 31)).toInt32) &&& (nI 1431655765))) &&& (nI 858993459)) + (((((nI mk) - ((((nI mk).toUInt32 >>> ((nI 1).toUInt32 &&& Int32.toUInt32 31)).toInt32) &&& (nI 1431655765))).toUInt32 >>> ((nI 2).toUInt32 &&& Int32.toUInt32 31)).toInt32) &&& (nI 858993459))).toUInt32 >>> ((nI 4).toUInt32 &&& Int32.toUInt32 31)).toInt32)) &&& (nI 252645135)) + ((((((((nI mk) - ((((nI mk).toUInt32 >>> ((nI 1).toUInt32 &&& Int32.toUInt32 31)).toInt32) &&& (nI 1431655765))) &&& (nI 858993459)) + (((((nI mk) - ((((nI mk).toUInt32 >>> ((nI 1).toUInt32 &&& Int32.toUInt32 31)).toInt32) &&& (nI 1431655765))).toUInt32 >>> ((nI 2).toUInt32 &&& Int32.toUInt32 31)).toInt32) &&& (nI 858993459))) + ((((((nI mk) - ((((nI mk).toUInt32 >>> ((nI 1).toUInt32 &&& Int32.toUInt32 31)).toInt32) &&& (nI 1431655765))) &&& (nI 858993459)) + (((((nI mk) - ((((nI mk).toUInt32 >>> ((nI 1).toUInt32 &&& Int32.toUInt32 31)).toInt32) &&& (nI 1431655765))).toUInt32 >>> ((nI 2).toUInt32 &&& Int32.toUInt32 31)).toInt32) &&& (nI 858993459))).toUInt32 >>> ((nI 4).toUInt32 &&& Int32.toUInt32 31)).toInt32)) &&& (nI 252645135)).toUInt32 >>> ((nI 8).toUInt32 &&& Int32.toUInt32 31)).toInt32)).toUInt32 >>> ((nI 16).toUInt32 &&& Int32.toUInt32 31)).toInt32)) &&& (nI 63) = nI (qs_ (fun p => if mk.testBit p then 1 else 0) 6) := by decide +kernel
set_option maxHeartbeats 4000000 in
set_option maxRecDepth 100000 in
theorem c_J6_bitCount_0f7a4 (l : Launch) (mk : Nat) (hm : mk < 64) : RI l yJ6_bitCount_0f7a4 wsJ6_bitCount_0f7a4 0 (va_Pc [.int (nI mk)] (fun _ => True)) (nI (qs_ (fun p => if mk.testBit p then 1 else 0) 6)) := by
  refine Met.ofW (cc := cJ6_bitCount_0f7a4) (maxL := 1) (ret := (some .int)) (by decide) rfl ?_
  intro p e s m args below meth c s₁ B hml hv
  obtain ⟨rfl, -⟩ := hv
  have hx := B.exec
  have hb := B.bytes
  have hr := B.returns
  have hts := atoms_spec (ws := wsJ6_bitCount_0f7a4) B.pre
  have hown : s.vm.findClass RJ6 = some m.cls := findClass_of_methodNamed B.named
  have hlocks := B.notSynchronized
  have hl := lv_entry ([.int (nI mk)]) (n := 1) (Nat.le_of_ble_eq_true rfl)
  rw [lg_entry_eq]
  generalize (lg_sl ([.int (nI mk)]) ++ List.replicate (1 - (lg_sl ([.int (nI mk)])).length) Slot.unset).toArray = ls at hl ⊢
  have hl : lv_has ls 1 [(0, .int (nI mk))] := hl
  refine lv_iload_n hx hb dJ6_bitCount_0f7a4_0 rfl (lv_at hl 0 rfl) ?_
  refine lv_iload_n hx hb dJ6_bitCount_0f7a4_1 rfl (lv_at hl 0 rfl) ?_
  refine lv_iconst (v := nI 1) hx hb dJ6_bitCount_0f7a4_2 (by decide) ?_
  refine lv_iushr (v := ((nI mk).toUInt32 >>> ((nI 1).toUInt32 &&& Int32.toUInt32 31)).toInt32) hx hb dJ6_bitCount_0f7a4_3 rfl ?_
  refine lv_ldcw hx hb hown (hts (.constant RJ6 265 (1431655765)) (by decide +kernel)) dJ6_bitCount_0f7a4_4 ?_
  refine lv_tn (w := nI 1431655765) (by decide) ?_
  refine lv_iand hx hb dJ6_bitCount_0f7a4_7 ?_
  refine lv_isub hx hb dJ6_bitCount_0f7a4_8 ?_
  refine lv_istore_n (lv' := [(0, .int ((nI mk) - ((((nI mk).toUInt32 >>> ((nI 1).toUInt32 &&& Int32.toUInt32 31)).toInt32) &&& (nI 1431655765))))]) hx hb dJ6_bitCount_0f7a4_9 rfl hl (by decide) rfl (fun ls hl => ?_)
  refine lv_iload_n hx hb dJ6_bitCount_0f7a4_10 rfl (lv_at hl 0 rfl) ?_
  refine lv_ldcw hx hb hown (hts (.constant RJ6 266 (858993459)) (by decide +kernel)) dJ6_bitCount_0f7a4_11 ?_
  refine lv_tn (w := nI 858993459) (by decide) ?_
  refine lv_iand hx hb dJ6_bitCount_0f7a4_14 ?_
  refine lv_iload_n hx hb dJ6_bitCount_0f7a4_15 rfl (lv_at hl 0 rfl) ?_
  refine lv_iconst (v := nI 2) hx hb dJ6_bitCount_0f7a4_16 (by decide) ?_
  refine lv_iushr (v := (((nI mk) - ((((nI mk).toUInt32 >>> ((nI 1).toUInt32 &&& Int32.toUInt32 31)).toInt32) &&& (nI 1431655765))).toUInt32 >>> ((nI 2).toUInt32 &&& Int32.toUInt32 31)).toInt32) hx hb dJ6_bitCount_0f7a4_17 rfl ?_
  refine lv_ldcw hx hb hown (hts (.constant RJ6 266 (858993459)) (by decide +kernel)) dJ6_bitCount_0f7a4_18 ?_
  refine lv_tn (w := nI 858993459) (by decide) ?_
  refine lv_iand hx hb dJ6_bitCount_0f7a4_21 ?_
  refine lv_iadd hx hb dJ6_bitCount_0f7a4_22 ?_
  refine lv_istore_n (lv' := [(0, .int ((((nI mk) - ((((nI mk).toUInt32 >>> ((nI 1).toUInt32 &&& Int32.toUInt32 31)).toInt32) &&& (nI 1431655765))) &&& (nI 858993459)) + (((((nI mk) - ((((nI mk).toUInt32 >>> ((nI 1).toUInt32 &&& Int32.toUInt32 31)).toInt32) &&& (nI 1431655765))).toUInt32 >>> ((nI 2).toUInt32 &&& Int32.toUInt32 31)).toInt32) &&& (nI 858993459))))]) hx hb dJ6_bitCount_0f7a4_23 rfl hl (by decide) rfl (fun ls hl => ?_)
  refine lv_iload_n hx hb dJ6_bitCount_0f7a4_24 rfl (lv_at hl 0 rfl) ?_
  refine lv_iload_n hx hb dJ6_bitCount_0f7a4_25 rfl (lv_at hl 0 rfl) ?_
  refine lv_iconst (v := nI 4) hx hb dJ6_bitCount_0f7a4_26 (by decide) ?_
  refine lv_iushr (v := (((((nI mk) - ((((nI mk).toUInt32 >>> ((nI 1).toUInt32 &&& Int32.toUInt32 31)).toInt32) &&& (nI 1431655765))) &&& (nI 858993459)) + (((((nI mk) - ((((nI mk).toUInt32 >>> ((nI 1).toUInt32 &&& Int32.toUInt32 31)).toInt32) &&& (nI 1431655765))).toUInt32 >>> ((nI 2).toUInt32 &&& Int32.toUInt32 31)).toInt32) &&& (nI 858993459))).toUInt32 >>> ((nI 4).toUInt32 &&& Int32.toUInt32 31)).toInt32) hx hb dJ6_bitCount_0f7a4_27 rfl ?_
  refine lv_iadd hx hb dJ6_bitCount_0f7a4_28 ?_
  refine lv_ldcw hx hb hown (hts (.constant RJ6 267 (252645135)) (by decide +kernel)) dJ6_bitCount_0f7a4_29 ?_
  refine lv_tn (w := nI 252645135) (by decide) ?_
  refine lv_iand hx hb dJ6_bitCount_0f7a4_32 ?_
  refine lv_istore_n (lv' := [(0, .int ((((((nI mk) - ((((nI mk).toUInt32 >>> ((nI 1).toUInt32 &&& Int32.toUInt32 31)).toInt32) &&& (nI 1431655765))) &&& (nI 858993459)) + (((((nI mk) - ((((nI mk).toUInt32 >>> ((nI 1).toUInt32 &&& Int32.toUInt32 31)).toInt32) &&& (nI 1431655765))).toUInt32 >>> ((nI 2).toUInt32 &&& Int32.toUInt32 31)).toInt32) &&& (nI 858993459))) + ((((((nI mk) - ((((nI mk).toUInt32 >>> ((nI 1).toUInt32 &&& Int32.toUInt32 31)).toInt32) &&& (nI 1431655765))) &&& (nI 858993459)) + (((((nI mk) - ((((nI mk).toUInt32 >>> ((nI 1).toUInt32 &&& Int32.toUInt32 31)).toInt32) &&& (nI 1431655765))).toUInt32 >>> ((nI 2).toUInt32 &&& Int32.toUInt32 31)).toInt32) &&& (nI 858993459))).toUInt32 >>> ((nI 4).toUInt32 &&& Int32.toUInt32 31)).toInt32)) &&& (nI 252645135)))]) hx hb dJ6_bitCount_0f7a4_33 rfl hl (by decide) rfl (fun ls hl => ?_)
  refine lv_iload_n hx hb dJ6_bitCount_0f7a4_34 rfl (lv_at hl 0 rfl) ?_
  refine lv_iload_n hx hb dJ6_bitCount_0f7a4_35 rfl (lv_at hl 0 rfl) ?_
  refine lv_bipush (v := nI 8) hx hb dJ6_bitCount_0f7a4_36 (by decide) ?_
  refine lv_iushr (v := (((((((nI mk) - ((((nI mk).toUInt32 >>> ((nI 1).toUInt32 &&& Int32.toUInt32 31)).toInt32) &&& (nI 1431655765))) &&& (nI 858993459)) + (((((nI mk) - ((((nI mk).toUInt32 >>> ((nI 1).toUInt32 &&& Int32.toUInt32 31)).toInt32) &&& (nI 1431655765))).toUInt32 >>> ((nI 2).toUInt32 &&& Int32.toUInt32 31)).toInt32) &&& (nI 858993459))) + ((((((nI mk) - ((((nI mk).toUInt32 >>> ((nI 1).toUInt32 &&& Int32.toUInt32 31)).toInt32) &&& (nI 1431655765))) &&& (nI 858993459)) + (((((nI mk) - ((((nI mk).toUInt32 >>> ((nI 1).toUInt32 &&& Int32.toUInt32 31)).toInt32) &&& (nI 1431655765))).toUInt32 >>> ((nI 2).toUInt32 &&& Int32.toUInt32 31)).toInt32) &&& (nI 858993459))).toUInt32 >>> ((nI 4).toUInt32 &&& Int32.toUInt32 31)).toInt32)) &&& (nI 252645135)).toUInt32 >>> ((nI 8).toUInt32 &&& Int32.toUInt32 31)).toInt32) hx hb dJ6_bitCount_0f7a4_38 rfl ?_
  refine lv_iadd hx hb dJ6_bitCount_0f7a4_39 ?_
  refine lv_istore_n (lv' := [(0, .int (((((((nI mk) - ((((nI mk).toUInt32 >>> ((nI 1).toUInt32 &&& Int32.toUInt32 31)).toInt32) &&& (nI 1431655765))) &&& (nI 858993459)) + (((((nI mk) - ((((nI mk).toUInt32 >>> ((nI 1).toUInt32 &&& Int32.toUInt32 31)).toInt32) &&& (nI 1431655765))).toUInt32 >>> ((nI 2).toUInt32 &&& Int32.toUInt32 31)).toInt32) &&& (nI 858993459))) + ((((((nI mk) - ((((nI mk).toUInt32 >>> ((nI 1).toUInt32 &&& Int32.toUInt32 31)).toInt32) &&& (nI 1431655765))) &&& (nI 858993459)) + (((((nI mk) - ((((nI mk).toUInt32 >>> ((nI 1).toUInt32 &&& Int32.toUInt32 31)).toInt32) &&& (nI 1431655765))).toUInt32 >>> ((nI 2).toUInt32 &&& Int32.toUInt32 31)).toInt32) &&& (nI 858993459))).toUInt32 >>> ((nI 4).toUInt32 &&& Int32.toUInt32 31)).toInt32)) &&& (nI 252645135)) + ((((((((nI mk) - ((((nI mk).toUInt32 >>> ((nI 1).toUInt32 &&& Int32.toUInt32 31)).toInt32) &&& (nI 1431655765))) &&& (nI 858993459)) + (((((nI mk) - ((((nI mk).toUInt32 >>> ((nI 1).toUInt32 &&& Int32.toUInt32 31)).toInt32) &&& (nI 1431655765))).toUInt32 >>> ((nI 2).toUInt32 &&& Int32.toUInt32 31)).toInt32) &&& (nI 858993459))) + ((((((nI mk) - ((((nI mk).toUInt32 >>> ((nI 1).toUInt32 &&& Int32.toUInt32 31)).toInt32) &&& (nI 1431655765))) &&& (nI 858993459)) + (((((nI mk) - ((((nI mk).toUInt32 >>> ((nI 1).toUInt32 &&& Int32.toUInt32 31)).toInt32) &&& (nI 1431655765))).toUInt32 >>> ((nI 2).toUInt32 &&& Int32.toUInt32 31)).toInt32) &&& (nI 858993459))).toUInt32 >>> ((nI 4).toUInt32 &&& Int32.toUInt32 31)).toInt32)) &&& (nI 252645135)).toUInt32 >>> ((nI 8).toUInt32 &&& Int32.toUInt32 31)).toInt32)))]) hx hb dJ6_bitCount_0f7a4_40 rfl hl (by decide) rfl (fun ls hl => ?_)
  refine lv_iload_n hx hb dJ6_bitCount_0f7a4_41 rfl (lv_at hl 0 rfl) ?_
  refine lv_iload_n hx hb dJ6_bitCount_0f7a4_42 rfl (lv_at hl 0 rfl) ?_
  refine lv_bipush (v := nI 16) hx hb dJ6_bitCount_0f7a4_43 (by decide) ?_
  refine lv_iushr (v := ((((((((nI mk) - ((((nI mk).toUInt32 >>> ((nI 1).toUInt32 &&& Int32.toUInt32 31)).toInt32) &&& (nI 1431655765))) &&& (nI 858993459)) + (((((nI mk) - ((((nI mk).toUInt32 >>> ((nI 1).toUInt32 &&& Int32.toUInt32 31)).toInt32) &&& (nI 1431655765))).toUInt32 >>> ((nI 2).toUInt32 &&& Int32.toUInt32 31)).toInt32) &&& (nI 858993459))) + ((((((nI mk) - ((((nI mk).toUInt32 >>> ((nI 1).toUInt32 &&& Int32.toUInt32 31)).toInt32) &&& (nI 1431655765))) &&& (nI 858993459)) + (((((nI mk) - ((((nI mk).toUInt32 >>> ((nI 1).toUInt32 &&& Int32.toUInt32 31)).toInt32) &&& (nI 1431655765))).toUInt32 >>> ((nI 2).toUInt32 &&& Int32.toUInt32 31)).toInt32) &&& (nI 858993459))).toUInt32 >>> ((nI 4).toUInt32 &&& Int32.toUInt32 31)).toInt32)) &&& (nI 252645135)) + ((((((((nI mk) - ((((nI mk).toUInt32 >>> ((nI 1).toUInt32 &&& Int32.toUInt32 31)).toInt32) &&& (nI 1431655765))) &&& (nI 858993459)) + (((((nI mk) - ((((nI mk).toUInt32 >>> ((nI 1).toUInt32 &&& Int32.toUInt32 31)).toInt32) &&& (nI 1431655765))).toUInt32 >>> ((nI 2).toUInt32 &&& Int32.toUInt32 31)).toInt32) &&& (nI 858993459))) + ((((((nI mk) - ((((nI mk).toUInt32 >>> ((nI 1).toUInt32 &&& Int32.toUInt32 31)).toInt32) &&& (nI 1431655765))) &&& (nI 858993459)) + (((((nI mk) - ((((nI mk).toUInt32 >>> ((nI 1).toUInt32 &&& Int32.toUInt32 31)).toInt32) &&& (nI 1431655765))).toUInt32 >>> ((nI 2).toUInt32 &&& Int32.toUInt32 31)).toInt32) &&& (nI 858993459))).toUInt32 >>> ((nI 4).toUInt32 &&& Int32.toUInt32 31)).toInt32)) &&& (nI 252645135)).toUInt32 >>> ((nI 8).toUInt32 &&& Int32.toUInt32 31)).toInt32)).toUInt32 >>> ((nI 16).toUInt32 &&& Int32.toUInt32 31)).toInt32) hx hb dJ6_bitCount_0f7a4_45 rfl ?_
  refine lv_iadd hx hb dJ6_bitCount_0f7a4_46 ?_
  refine lv_istore_n (lv' := [(0, .int ((((((((nI mk) - ((((nI mk).toUInt32 >>> ((nI 1).toUInt32 &&& Int32.toUInt32 31)).toInt32) &&& (nI 1431655765))) &&& (nI 858993459)) + (((((nI mk) - ((((nI mk).toUInt32 >>> ((nI 1).toUInt32 &&& Int32.toUInt32 31)).toInt32) &&& (nI 1431655765))).toUInt32 >>> ((nI 2).toUInt32 &&& Int32.toUInt32 31)).toInt32) &&& (nI 858993459))) + ((((((nI mk) - ((((nI mk).toUInt32 >>> ((nI 1).toUInt32 &&& Int32.toUInt32 31)).toInt32) &&& (nI 1431655765))) &&& (nI 858993459)) + (((((nI mk) - ((((nI mk).toUInt32 >>> ((nI 1).toUInt32 &&& Int32.toUInt32 31)).toInt32) &&& (nI 1431655765))).toUInt32 >>> ((nI 2).toUInt32 &&& Int32.toUInt32 31)).toInt32) &&& (nI 858993459))).toUInt32 >>> ((nI 4).toUInt32 &&& Int32.toUInt32 31)).toInt32)) &&& (nI 252645135)) + ((((((((nI mk) - ((((nI mk).toUInt32 >>> ((nI 1).toUInt32 &&& Int32.toUInt32 31)).toInt32) &&& (nI 1431655765))) &&& (nI 858993459)) + (((((nI mk) - ((((nI mk).toUInt32 >>> ((nI 1).toUInt32 &&& Int32.toUInt32 31)).toInt32) &&& (nI 1431655765))).toUInt32 >>> ((nI 2).toUInt32 &&& Int32.toUInt32 31)).toInt32) &&& (nI 858993459))) + ((((((nI mk) - ((((nI mk).toUInt32 >>> ((nI 1).toUInt32 &&& Int32.toUInt32 31)).toInt32) &&& (nI 1431655765))) &&& (nI 858993459)) + (((((nI mk) - ((((nI mk).toUInt32 >>> ((nI 1).toUInt32 &&& Int32.toUInt32 31)).toInt32) &&& (nI 1431655765))).toUInt32 >>> ((nI 2).toUInt32 &&& Int32.toUInt32 31)).toInt32) &&& (nI 858993459))).toUInt32 >>> ((nI 4).toUInt32 &&& Int32.toUInt32 31)).toInt32)) &&& (nI 252645135)).toUInt32 >>> ((nI 8).toUInt32 &&& Int32.toUInt32 31)).toInt32)) + (((((((((nI mk) - ((((nI mk).toUInt32 >>> ((nI 1).toUInt32 &&& Int32.toUInt32 31)).toInt32) &&& (nI 1431655765))) &&& (nI 858993459)) + (((((nI mk) - ((((nI mk).toUInt32 >>> ((nI 1).toUInt32 &&& Int32.toUInt32 31)).toInt32) &&& (nI 1431655765))).toUInt32 >>> ((nI 2).toUInt32 &&& Int32.toUInt32 31)).toInt32) &&& (nI 858993459))) + ((((((nI mk) - ((((nI mk).toUInt32 >>> ((nI 1).toUInt32 &&& Int32.toUInt32 31)).toInt32) &&& (nI 1431655765))) &&& (nI 858993459)) + (((((nI mk) - ((((nI mk).toUInt32 >>> ((nI 1).toUInt32 &&& Int32.toUInt32 31)).toInt32) &&& (nI 1431655765))).toUInt32 >>> ((nI 2).toUInt32 &&& Int32.toUInt32 31)).toInt32) &&& (nI 858993459))).toUInt32 >>> ((nI 4).toUInt32 &&& Int32.toUInt32 31)).toInt32)) &&& (nI 252645135)) + ((((((((nI mk) - ((((nI mk).toUInt32 >>> ((nI 1).toUInt32 &&& Int32.toUInt32 31)).toInt32) &&& (nI 1431655765))) &&& (nI 858993459)) + (((((nI mk) - ((((nI mk).toUInt32 >>> ((nI 1).toUInt32 &&& Int32.toUInt32 31)).toInt32) &&& (nI 1431655765))).toUInt32 >>> ((nI 2).toUInt32 &&& Int32.toUInt32 31)).toInt32) &&& (nI 858993459))) + ((((((nI mk) - ((((nI mk).toUInt32 >>> ((nI 1).toUInt32 &&& Int32.toUInt32 31)).toInt32) &&& (nI 1431655765))) &&& (nI 858993459)) + (((((nI mk) - ((((nI mk).toUInt32 >>> ((nI 1).toUInt32 &&& Int32.toUInt32 31)).toInt32) &&& (nI 1431655765))).toUInt32 >>> ((nI 2).toUInt32 &&& Int32.toUInt32 31)).toInt32) &&& (nI 858993459))).toUInt32 >>> ((nI 4).toUInt32 &&& Int32.toUInt32 31)).toInt32)) &&& (nI 252645135)).toUInt32 >>> ((nI 8).toUInt32 &&& Int32.toUInt32 31)).toInt32)).toUInt32 >>> ((nI 16).toUInt32 &&& Int32.toUInt32 31)).toInt32)))]) hx hb dJ6_bitCount_0f7a4_47 rfl hl (by decide) rfl (fun ls hl => ?_)
  refine lv_iload_n hx hb dJ6_bitCount_0f7a4_48 rfl (lv_at hl 0 rfl) ?_
  refine lv_bipush (v := nI 63) hx hb dJ6_bitCount_0f7a4_49 (by decide) ?_
  refine lv_iand hx hb dJ6_bitCount_0f7a4_51 ?_
  exact W.iret hx hb hr (fun t ht hW => ⟨_, rfl, (bc_ mk hm), ht⟩) (fun q hq => absurd hq List.not_mem_nil) dJ6_bitCount_0f7a4_52
set_option maxHeartbeats 4000000 in
set_option maxRecDepth 100000 in
theorem c_X0_fow0 (l : Launch) (B0 : Nat) (g : va_G) (ct ad : Nat → Nat) (cS : St_) (mS : Pl_) (x : Ax_) (i w : Nat) (hi : i < 12) (hw : w < 10) : RI l yX0_figureOfWord wsX0_figureOfWord 2 (PX B0 g ct ad cS mS x [.ref (ad 0), .int (nI i), .int (nI w), .int (nI 0)]) (nI (wt_ cS i w 0)) := by
  refine Met.ofW (cc := cX0_figureOfWord) (maxL := 4) (ret := (some .int)) (by decide) rfl ?_
  intro p e s m args below meth c s₁ B hml hv
  obtain ⟨rfl, hC⟩ := hv
  have hx := B.exec
  have hb := B.bytes
  have hr := B.returns
  have hts := atoms_spec (ws := wsX0_figureOfWord) B.pre
  have hown : s.vm.findClass RX0 = some m.cls := findClass_of_methodNamed B.named
  have hlocks := B.notSynchronized
  have hin : ∀ w ∈ wsX00, w ∈ wsX0_figureOfWord := fun _ h => List.mem_cons_of_mem _ (List.mem_append_right _ h)
  have hI := hC.1.2.2.2
  have hw6 := hI.2.2.2.1 (10 * i + w)
  have hk6 := hI.2.2.2.2.1 (10 * i + w)
  have hl := lv_entry ([.ref (ad 0), .int (nI i), .int (nI w), .int (nI 0)]) (n := 4) (Nat.le_of_ble_eq_true rfl)
  rw [lg_entry_eq]
  generalize (lg_sl ([.ref (ad 0), .int (nI i), .int (nI w), .int (nI 0)]) ++ List.replicate (4 - (lg_sl ([.ref (ad 0), .int (nI i), .int (nI w), .int (nI 0)])).length) Slot.unset).toArray = ls at hl ⊢
  have hl : lv_has ls 4 [(0, .ref (ad 0)), (1, .int (nI i)), (2, .int (nI w)), (3, .int (nI 0))] := hl
  refine lv_iload_n hx hb dX0_figureOfWord_0 rfl (lv_at hl 3 rfl) ?_
  refine lv_tableIn (x := nI 0) (off := 31) (tgt := 32) hx hb dX0_figureOfWord_1 (by decide) (by decide) rfl (by decide) ?_
  refine lv_aload_n hx hb dX0_figureOfWord_32 rfl (lv_at hl 0 rfl) ?_
  refine r_g0 hC hx hb hts hin hown 3 (by decide) (hts (.fieldLink RX0 22 "AbjadPoems" "words" "[[I") (by decide +kernel)) rfl dX0_figureOfWord_33 ?_
  refine lv_iload_n hx hb dX0_figureOfWord_36 rfl (lv_at hl 1 rfl) ?_
  refine r_wo hC hx hb dX0_figureOfWord_37 (j := i) (by omega) ?_
  refine lv_iload_n hx hb dX0_figureOfWord_38 rfl (lv_at hl 2 rfl) ?_
  refine r_wr hC hx hb dX0_figureOfWord_39 (i := i) (j := w) (by omega) (by omega) ?_
  exact W.iret hx hb hr (fun t ht hW => ⟨_, rfl, rfl, ht⟩) (fun q hq => absurd hq List.not_mem_nil) dX0_figureOfWord_40
set_option maxHeartbeats 4000000 in
set_option maxRecDepth 100000 in
theorem c_X0_fow1 (l : Launch) (B0 : Nat) (g : va_G) (ct ad : Nat → Nat) (cS : St_) (mS : Pl_) (x : Ax_) (i w : Nat) (hi : i < 12) (hw : w < 10) : RI l yX0_figureOfWord wsX0_figureOfWord 2 (PX B0 g ct ad cS mS x [.ref (ad 0), .int (nI i), .int (nI w), .int (nI 1)]) (nI (wt_ cS i w 1)) := by
  refine Met.ofW (cc := cX0_figureOfWord) (maxL := 4) (ret := (some .int)) (by decide) rfl ?_
  intro p e s m args below meth c s₁ B hml hv
  obtain ⟨rfl, hC⟩ := hv
  have hx := B.exec
  have hb := B.bytes
  have hr := B.returns
  have hts := atoms_spec (ws := wsX0_figureOfWord) B.pre
  have hown : s.vm.findClass RX0 = some m.cls := findClass_of_methodNamed B.named
  have hlocks := B.notSynchronized
  have hin : ∀ w ∈ wsX00, w ∈ wsX0_figureOfWord := fun _ h => List.mem_cons_of_mem _ (List.mem_append_right _ h)
  have hI := hC.1.2.2.2
  have hw6 := hI.2.2.2.1 (10 * i + w)
  have hk6 := hI.2.2.2.2.1 (10 * i + w)
  have hl := lv_entry ([.ref (ad 0), .int (nI i), .int (nI w), .int (nI 1)]) (n := 4) (Nat.le_of_ble_eq_true rfl)
  rw [lg_entry_eq]
  generalize (lg_sl ([.ref (ad 0), .int (nI i), .int (nI w), .int (nI 1)]) ++ List.replicate (4 - (lg_sl ([.ref (ad 0), .int (nI i), .int (nI w), .int (nI 1)])).length) Slot.unset).toArray = ls at hl ⊢
  have hl : lv_has ls 4 [(0, .ref (ad 0)), (1, .int (nI i)), (2, .int (nI w)), (3, .int (nI 1))] := hl
  refine lv_iload_n hx hb dX0_figureOfWord_0 rfl (lv_at hl 3 rfl) ?_
  refine lv_tableIn (x := nI 1) (off := 40) (tgt := 41) hx hb dX0_figureOfWord_1 (by decide) (by decide) rfl (by decide) ?_
  refine lv_aload_n hx hb dX0_figureOfWord_41 rfl (lv_at hl 0 rfl) ?_
  refine r_g0 hC hx hb hts hin hown 3 (by decide) (hts (.fieldLink RX0 22 "AbjadPoems" "words" "[[I") (by decide +kernel)) rfl dX0_figureOfWord_42 ?_
  refine lv_iload_n hx hb dX0_figureOfWord_45 rfl (lv_at hl 1 rfl) ?_
  refine r_wo hC hx hb dX0_figureOfWord_46 (j := i) (by omega) ?_
  refine lv_iload_n hx hb dX0_figureOfWord_47 rfl (lv_at hl 2 rfl) ?_
  refine r_wr hC hx hb dX0_figureOfWord_48 (i := i) (j := w) (by omega) (by omega) ?_
  refine k_pS (As := [.int (nI (sw cS (10 * i + w)))]) (rest := []) (c_X0_lengthOf l (sw cS (10 * i + w)) (by omega)) ⟨hx, hb, hml, hown, hts⟩ (va_cwS 1 hts gX0_figureOfWord_X0_lengthOf rfl rfl rfl (by decide +kernel) ⟨Nat.le_of_ble_eq_true rfl, Nat.le_of_ble_eq_true rfl⟩) rfl hl.1 rfl (Nat.le_of_ble_eq_true rfl) dX0_figureOfWord_49 ⟨Nat.le_of_ble_eq_true rfl, Nat.le_of_ble_eq_true rfl⟩ ?_
  exact W.iret hx hb hr (fun t ht hW => ⟨_, rfl, rfl, ht⟩) (fun q hq => absurd hq List.not_mem_nil) dX0_figureOfWord_52
set_option maxHeartbeats 4000000 in
set_option maxRecDepth 100000 in
theorem c_X0_fow2 (l : Launch) (B0 : Nat) (g : va_G) (ct ad : Nat → Nat) (cS : St_) (mS : Pl_) (x : Ax_) (i w : Nat) (hi : i < 12) (hw : w < 10) : RI l yX0_figureOfWord wsX0_figureOfWord 2 (PX B0 g ct ad cS mS x [.ref (ad 0), .int (nI i), .int (nI w), .int (nI 2)]) (nI (wt_ cS i w 2)) := by
  refine Met.ofW (cc := cX0_figureOfWord) (maxL := 4) (ret := (some .int)) (by decide) rfl ?_
  intro p e s m args below meth c s₁ B hml hv
  obtain ⟨rfl, hC⟩ := hv
  have hx := B.exec
  have hb := B.bytes
  have hr := B.returns
  have hts := atoms_spec (ws := wsX0_figureOfWord) B.pre
  have hown : s.vm.findClass RX0 = some m.cls := findClass_of_methodNamed B.named
  have hlocks := B.notSynchronized
  have hin : ∀ w ∈ wsX00, w ∈ wsX0_figureOfWord := fun _ h => List.mem_cons_of_mem _ (List.mem_append_right _ h)
  have hI := hC.1.2.2.2
  have hw6 := hI.2.2.2.1 (10 * i + w)
  have hk6 := hI.2.2.2.2.1 (10 * i + w)
  have hl := lv_entry ([.ref (ad 0), .int (nI i), .int (nI w), .int (nI 2)]) (n := 4) (Nat.le_of_ble_eq_true rfl)
  rw [lg_entry_eq]
  generalize (lg_sl ([.ref (ad 0), .int (nI i), .int (nI w), .int (nI 2)]) ++ List.replicate (4 - (lg_sl ([.ref (ad 0), .int (nI i), .int (nI w), .int (nI 2)])).length) Slot.unset).toArray = ls at hl ⊢
  have hl : lv_has ls 4 [(0, .ref (ad 0)), (1, .int (nI i)), (2, .int (nI w)), (3, .int (nI 2))] := hl
  refine lv_iload_n hx hb dX0_figureOfWord_0 rfl (lv_at hl 3 rfl) ?_
  refine lv_tableIn (x := nI 2) (off := 52) (tgt := 53) hx hb dX0_figureOfWord_1 (by decide) (by decide) rfl (by decide) ?_
  refine lv_aload_n hx hb dX0_figureOfWord_53 rfl (lv_at hl 0 rfl) ?_
  refine lv_aload_n hx hb dX0_figureOfWord_54 rfl (lv_at hl 0 rfl) ?_
  refine r_g0 hC hx hb hts hin hown 3 (by decide) (hts (.fieldLink RX0 22 "AbjadPoems" "words" "[[I") (by decide +kernel)) rfl dX0_figureOfWord_55 ?_
  refine lv_iload_n hx hb dX0_figureOfWord_58 rfl (lv_at hl 1 rfl) ?_
  refine r_wo hC hx hb dX0_figureOfWord_59 (j := i) (by omega) ?_
  refine lv_iload_n hx hb dX0_figureOfWord_60 rfl (lv_at hl 2 rfl) ?_
  refine r_wr hC hx hb dX0_figureOfWord_61 (i := i) (j := w) (by omega) (by omega) ?_
  refine lv_bipush (v := nI 63) hx hb dX0_figureOfWord_62 (by decide) ?_
  refine k_rV (As := [.int (nI (sw cS (10 * i + w))), .int (nI 63)]) (rest := []) (c_X0_worthOfPlaces l B0 g ct ad cS mS x (sw cS (10 * i + w)) 63 (by omega) (by omega)) hC ⟨hx, hb, hml, hown, hts⟩ (cwV 2 hts gX0_figureOfWord_X0_worthOfPlaces rfl rfl rfl (by decide +kernel) ⟨Nat.le_of_ble_eq_true rfl, Nat.le_of_ble_eq_true rfl⟩) (rc0 hC) rfl hl.1 rfl (Nat.le_of_ble_eq_true rfl) dX0_figureOfWord_64 ⟨Nat.le_of_ble_eq_true rfl, Nat.le_of_ble_eq_true rfl⟩ ?_
  exact W.iret hx hb hr (fun t ht hW => ⟨_, rfl, (congrArg nI (wm_63 hw6)), ht⟩) (fun q hq => absurd hq List.not_mem_nil) dX0_figureOfWord_67
set_option maxHeartbeats 4000000 in
set_option maxRecDepth 100000 in
theorem c_X0_fow3 (l : Launch) (B0 : Nat) (g : va_G) (ct ad : Nat → Nat) (cS : St_) (mS : Pl_) (x : Ax_) (i w : Nat) (hi : i < 12) (hw : w < 10) (hm : sk cS (10 * i + w) < 2 ^ ln_ (sw cS (10 * i + w))) : RI l yX0_figureOfWord wsX0_figureOfWord 2 (PX B0 g ct ad cS mS x [.ref (ad 0), .int (nI i), .int (nI w), .int (nI 3)]) (nI (wt_ cS i w 3)) := by
  refine Met.ofW (cc := cX0_figureOfWord) (maxL := 4) (ret := (some .int)) (by decide) rfl ?_
  intro p e s m args below meth c s₁ B hml hv
  obtain ⟨rfl, hC⟩ := hv
  have hx := B.exec
  have hb := B.bytes
  have hr := B.returns
  have hts := atoms_spec (ws := wsX0_figureOfWord) B.pre
  have hown : s.vm.findClass RX0 = some m.cls := findClass_of_methodNamed B.named
  have hlocks := B.notSynchronized
  have hin : ∀ w ∈ wsX00, w ∈ wsX0_figureOfWord := fun _ h => List.mem_cons_of_mem _ (List.mem_append_right _ h)
  have hI := hC.1.2.2.2
  have hw6 := hI.2.2.2.1 (10 * i + w)
  have hk6 := hI.2.2.2.2.1 (10 * i + w)
  have hl := lv_entry ([.ref (ad 0), .int (nI i), .int (nI w), .int (nI 3)]) (n := 4) (Nat.le_of_ble_eq_true rfl)
  rw [lg_entry_eq]
  generalize (lg_sl ([.ref (ad 0), .int (nI i), .int (nI w), .int (nI 3)]) ++ List.replicate (4 - (lg_sl ([.ref (ad 0), .int (nI i), .int (nI w), .int (nI 3)])).length) Slot.unset).toArray = ls at hl ⊢
  have hl : lv_has ls 4 [(0, .ref (ad 0)), (1, .int (nI i)), (2, .int (nI w)), (3, .int (nI 3))] := hl
  refine lv_iload_n hx hb dX0_figureOfWord_0 rfl (lv_at hl 3 rfl) ?_
  refine lv_tableIn (x := nI 3) (off := 67) (tgt := 68) hx hb dX0_figureOfWord_1 (by decide) (by decide) rfl (by decide) ?_
  refine lv_aload_n hx hb dX0_figureOfWord_68 rfl (lv_at hl 0 rfl) ?_
  refine r_g0 hC hx hb hts hin hown 4 (by decide) (hts (.fieldLink RX0 25 "AbjadPoems" "marks" "[[I") (by decide +kernel)) rfl dX0_figureOfWord_69 ?_
  refine lv_iload_n hx hb dX0_figureOfWord_72 rfl (lv_at hl 1 rfl) ?_
  refine r_ko hC hx hb dX0_figureOfWord_73 (j := i) (by omega) ?_
  refine lv_iload_n hx hb dX0_figureOfWord_74 rfl (lv_at hl 2 rfl) ?_
  refine r_kr hC hx hb dX0_figureOfWord_75 (i := i) (j := w) (by omega) (by omega) ?_
  refine k_pS (As := [.int (nI (sk cS (10 * i + w)))]) (rest := []) (c_J6_bitCount_0f7a4 l (sk cS (10 * i + w)) (by omega)) ⟨hx, hb, hml, hown, hts⟩ (va_cwS 1 hts gX0_figureOfWord_J6_bitCount_0f7a4 rfl rfl rfl (by decide +kernel) ⟨Nat.le_of_ble_eq_true rfl, Nat.le_of_ble_eq_true rfl⟩) rfl hl.1 rfl (Nat.le_of_ble_eq_true rfl) dX0_figureOfWord_76 ⟨Nat.le_of_ble_eq_true rfl, Nat.le_of_ble_eq_true rfl⟩ ?_
  exact W.iret hx hb hr (fun t ht hW => ⟨_, rfl, (congrArg nI (wc_6 hw6 hm)), ht⟩) (fun q hq => absurd hq List.not_mem_nil) dX0_figureOfWord_79
set_option maxHeartbeats 4000000 in
set_option maxRecDepth 100000 in
theorem c_X0_fow4 (l : Launch) (B0 : Nat) (g : va_G) (ct ad : Nat → Nat) (cS : St_) (mS : Pl_) (x : Ax_) (i w : Nat) (hi : i < 12) (hw : w < 10) : RI l yX0_figureOfWord wsX0_figureOfWord 2 (PX B0 g ct ad cS mS x [.ref (ad 0), .int (nI i), .int (nI w), .int (nI 4)]) (nI (wt_ cS i w 4)) := by
  refine Met.ofW (cc := cX0_figureOfWord) (maxL := 4) (ret := (some .int)) (by decide) rfl ?_
  intro p e s m args below meth c s₁ B hml hv
  obtain ⟨rfl, hC⟩ := hv
  have hx := B.exec
  have hb := B.bytes
  have hr := B.returns
  have hts := atoms_spec (ws := wsX0_figureOfWord) B.pre
  have hown : s.vm.findClass RX0 = some m.cls := findClass_of_methodNamed B.named
  have hlocks := B.notSynchronized
  have hin : ∀ w ∈ wsX00, w ∈ wsX0_figureOfWord := fun _ h => List.mem_cons_of_mem _ (List.mem_append_right _ h)
  have hI := hC.1.2.2.2
  have hw6 := hI.2.2.2.1 (10 * i + w)
  have hk6 := hI.2.2.2.2.1 (10 * i + w)
  have hl := lv_entry ([.ref (ad 0), .int (nI i), .int (nI w), .int (nI 4)]) (n := 4) (Nat.le_of_ble_eq_true rfl)
  rw [lg_entry_eq]
  generalize (lg_sl ([.ref (ad 0), .int (nI i), .int (nI w), .int (nI 4)]) ++ List.replicate (4 - (lg_sl ([.ref (ad 0), .int (nI i), .int (nI w), .int (nI 4)])).length) Slot.unset).toArray = ls at hl ⊢
  have hl : lv_has ls 4 [(0, .ref (ad 0)), (1, .int (nI i)), (2, .int (nI w)), (3, .int (nI 4))] := hl
  refine lv_iload_n hx hb dX0_figureOfWord_0 rfl (lv_at hl 3 rfl) ?_
  refine lv_tableOut (x := nI 4) (tgt := 80) hx hb dX0_figureOfWord_1 (by decide) (by decide) ?_
  refine lv_aload_n hx hb dX0_figureOfWord_80 rfl (lv_at hl 0 rfl) ?_
  refine lv_aload_n hx hb dX0_figureOfWord_81 rfl (lv_at hl 0 rfl) ?_
  refine r_g0 hC hx hb hts hin hown 3 (by decide) (hts (.fieldLink RX0 22 "AbjadPoems" "words" "[[I") (by decide +kernel)) rfl dX0_figureOfWord_82 ?_
  refine lv_iload_n hx hb dX0_figureOfWord_85 rfl (lv_at hl 1 rfl) ?_
  refine r_wo hC hx hb dX0_figureOfWord_86 (j := i) (by omega) ?_
  refine lv_iload_n hx hb dX0_figureOfWord_87 rfl (lv_at hl 2 rfl) ?_
  refine r_wr hC hx hb dX0_figureOfWord_88 (i := i) (j := w) (by omega) (by omega) ?_
  refine lv_aload_n hx hb dX0_figureOfWord_89 rfl (lv_at hl 0 rfl) ?_
  refine r_g0 hC hx hb hts hin hown 4 (by decide) (hts (.fieldLink RX0 25 "AbjadPoems" "marks" "[[I") (by decide +kernel)) rfl dX0_figureOfWord_90 ?_
  refine lv_iload_n hx hb dX0_figureOfWord_93 rfl (lv_at hl 1 rfl) ?_
  refine r_ko hC hx hb dX0_figureOfWord_94 (j := i) (by omega) ?_
  refine lv_iload_n hx hb dX0_figureOfWord_95 rfl (lv_at hl 2 rfl) ?_
  refine r_kr hC hx hb dX0_figureOfWord_96 (i := i) (j := w) (by omega) (by omega) ?_
  refine k_rV (As := [.int (nI (sw cS (10 * i + w))), .int (nI (sk cS (10 * i + w)))]) (rest := []) (c_X0_worthOfPlaces l B0 g ct ad cS mS x (sw cS (10 * i + w)) (sk cS (10 * i + w)) (by omega) (by omega)) hC ⟨hx, hb, hml, hown, hts⟩ (cwV 2 hts gX0_figureOfWord_X0_worthOfPlaces rfl rfl rfl (by decide +kernel) ⟨Nat.le_of_ble_eq_true rfl, Nat.le_of_ble_eq_true rfl⟩) (rc0 hC) rfl hl.1 rfl (Nat.le_of_ble_eq_true rfl) dX0_figureOfWord_97 ⟨Nat.le_of_ble_eq_true rfl, Nat.le_of_ble_eq_true rfl⟩ ?_
  exact W.iret hx hb hr (fun t ht hW => ⟨_, rfl, rfl, ht⟩) (fun q hq => absurd hq List.not_mem_nil) dX0_figureOfWord_100
theorem c_X0_figureOfWord (l : Launch) (B0 : Nat) (g : va_G) (ct ad : Nat → Nat) (cS : St_) (mS : Pl_) (x : Ax_) (i w what : Nat) (hi : i < 12) (hw : w < 10) (hq : what < 5) (hm : what = 3 → sk cS (10 * i + w) < 2 ^ ln_ (sw cS (10 * i + w))) : RI l yX0_figureOfWord wsX0_figureOfWord 2 (PX B0 g ct ad cS mS x [.ref (ad 0), .int (nI i), .int (nI w), .int (nI what)]) (nI (wt_ cS i w what)) :=
  match what, hq, hm with
  | 0, _, _ => c_X0_fow0 l B0 g ct ad cS mS x i w hi hw
  | 1, _, _ => c_X0_fow1 l B0 g ct ad cS mS x i w hi hw
  | 2, _, _ => c_X0_fow2 l B0 g ct ad cS mS x i w hi hw
  | 3, _, hm => c_X0_fow3 l B0 g ct ad cS mS x i w hi hw (hm rfl)
  | 4, _, _ => c_X0_fow4 l B0 g ct ad cS mS x i w hi hw
  | k + 5, hq, _ => absurd hq (by omega)
set_option maxHeartbeats 4000000 in
set_option maxRecDepth 100000 in
theorem c_X0_figureOfLine (l : Launch) (B0 : Nat) (g : va_G) (ct ad : Nat → Nat) (cS : St_) (mS : Pl_) (x : Ax_) (i what : Nat) (hi : i < 12) (hq : what < 5) : RI l yX0_figureOfLine wsX0_figureOfLine 3 (PX B0 g ct ad cS mS x [.ref (ad 0), .int (nI i), .int (nI what)]) (nI (lt_ cS i what)) := by
  refine Met.ofW (cc := cX0_figureOfLine) (maxL := 5) (ret := (some .int)) (by decide) rfl ?_
  intro p e s m args below meth c s₁ B hml hv
  obtain ⟨rfl, hC⟩ := hv
  have hx := B.exec
  have hb := B.bytes
  have hr := B.returns
  have hts := atoms_spec (ws := wsX0_figureOfLine) B.pre
  have hown : s.vm.findClass RX0 = some m.cls := findClass_of_methodNamed B.named
  have hlocks := B.notSynchronized
  have hin : ∀ w ∈ wsX00, w ∈ wsX0_figureOfLine := fun _ h => List.mem_cons_of_mem _ (List.mem_append_right _ h)
  have hI := hC.1.2.2.2
  have hz := hI.2.2.1 i
  have hl := lv_entry ([.ref (ad 0), .int (nI i), .int (nI what)]) (n := 5) (Nat.le_of_ble_eq_true rfl)
  rw [lg_entry_eq]
  generalize (lg_sl ([.ref (ad 0), .int (nI i), .int (nI what)]) ++ List.replicate (5 - (lg_sl ([.ref (ad 0), .int (nI i), .int (nI what)])).length) Slot.unset).toArray = ls at hl ⊢
  have hl : lv_has ls 5 [(0, .ref (ad 0)), (1, .int (nI i)), (2, .int (nI what))] := hl
  refine lv_iload_n hx hb dX0_figureOfLine_0 rfl (lv_at hl 2 rfl) ?_
  refine lv_if_ne (tgt := 11) hx hb dX0_figureOfLine_1 (by decide) (fun c_1 => ?_) (fun c_1 => ?_)
  · skip
    have n_1 : ¬ what = 0 := fun q__ => c_1 ((eq0_ (by omega)).mpr q__)
    refine lv_iconst (v := nI 0) hx hb dX0_figureOfLine_11 (by decide) ?_
    refine lv_istore_n (lv' := [(3, .int (nI 0)), (0, .ref (ad 0)), (1, .int (nI i)), (2, .int (nI what))]) hx hb dX0_figureOfLine_12 rfl hl (by decide) rfl (fun ls hl => ?_)
    refine lv_iconst (v := nI 0) hx hb dX0_figureOfLine_13 (by decide) ?_
    refine lv_istore (lv' := [(4, .int (nI 0)), (3, .int (nI 0)), (0, .ref (ad 0)), (1, .int (nI i)), (2, .int (nI what))]) hx hb dX0_figureOfLine_14 hl (by decide) rfl (fun ls hl => ?_)
    have LP_16 : ∀ (n_ : Nat) (t : Nat) (k : Nat), ss cS i - k < n_ → (t = qs_ (fun w => wt_ cS i w what) k) → (k ≤ ss cS i) → ∀ ls : Array Slot, lv_has ls 5 [(4, .int (nI k)), (3, .int (nI t)), (0, .ref (ad 0)), (1, .int (nI i)), (2, .int (nI what))] → W p l e (headSpec wsX0_figureOfLine (rm_ 3 0 0)).room s m ([.ref (ad 0), .int (nI i), .int (nI what)] : List Value).toArray below meth c s.heap [] 0 0 (MQ below (vp_Si (fun r => r = nI (lt_ cS i what))) ([.ref (ad 0), .int (nI i), .int (nI what)] : List Value).toArray s 0 0 (fun _ => False)) (F0 m 16 ls []) := by
      intro n_
      induction n_ with
      | zero => intro t k hm; exact absurd hm (Nat.not_lt_zero _)
      | succ n_ ih_16 =>
        intro t k hm ht hk ls hl
        refine lv_iload hx hb dX0_figureOfLine_16 (lv_at hl 0 rfl) ?_
        refine lv_aload_n hx hb dX0_figureOfLine_18 rfl (lv_at hl 2 rfl) ?_
        refine r_g0 hC hx hb hts hin hown 2 (by decide) (hts (.fieldLink RX0 16 "AbjadPoems" "sizes" "[I") (by decide +kernel)) rfl dX0_figureOfLine_19 ?_
        refine lv_iload_n hx hb dX0_figureOfLine_22 rfl (lv_at hl 3 rfl) ?_
        refine r_sz hC hx hb dX0_figureOfLine_23 (j := i) (by omega) ?_
        refine lv_icmp_ge (tgt := 44) hx hb dX0_figureOfLine_24 (by decide) (fun c_24 => ?_) (fun c_24 => ?_)
        · skip
          have n_24 : ss cS i ≤ k := (nI_leI (a := ss cS i) (b := k) (by omega) (by omega)).mp c_24
          have hE : t = lt_ cS i what := by rw [lt_n n_1, ht, show k = ss cS i by omega]
          refine lv_iload_n hx hb dX0_figureOfLine_44 rfl (lv_at hl 1 rfl) ?_
          exact W.iret hx hb hr (fun t ht hW => ⟨_, rfl, (congrArg nI hE), ht⟩) (fun q hq => absurd hq List.not_mem_nil) dX0_figureOfLine_45
        · skip
          have n_24 : ¬ ss cS i ≤ k := fun q__ => c_24 ((nI_leI (a := ss cS i) (b := k) (by omega) (by omega)).mpr q__)
          refine lv_iload_n hx hb dX0_figureOfLine_27 rfl (lv_at hl 1 rfl) ?_
          refine lv_aload_n hx hb dX0_figureOfLine_28 rfl (lv_at hl 2 rfl) ?_
          refine lv_iload_n hx hb dX0_figureOfLine_29 rfl (lv_at hl 3 rfl) ?_
          refine lv_iload hx hb dX0_figureOfLine_30 (lv_at hl 0 rfl) ?_
          refine lv_iload_n hx hb dX0_figureOfLine_32 rfl (lv_at hl 4 rfl) ?_
          refine k_rV (As := [.int (nI i), .int (nI k), .int (nI what)]) (rest := [.int (nI t)]) (c_X0_figureOfWord l B0 g ct ad cS mS x i k what (by omega) (by omega) (by omega) (fun _ => hI.2.2.2.2.2 i k (by omega))) hC ⟨hx, hb, hml, hown, hts⟩ (cwV 3 hts gX0_figureOfLine_X0_figureOfWord rfl rfl rfl (by decide +kernel) ⟨Nat.le_of_ble_eq_true rfl, Nat.le_of_ble_eq_true rfl⟩) (rc0 hC) rfl hl.1 rfl (Nat.le_of_ble_eq_true rfl) dX0_figureOfLine_33 ⟨Nat.le_of_ble_eq_true rfl, Nat.le_of_ble_eq_true rfl⟩ ?_
          refine lv_iadd hx hb dX0_figureOfLine_36 ?_
          refine lv_tn (nI_add _ _) ?_
          refine lv_istore_n (lv' := [(3, .int (nI (t + (wt_ cS i k what)))), (4, .int (nI k)), (0, .ref (ad 0)), (1, .int (nI i)), (2, .int (nI what))]) hx hb dX0_figureOfLine_37 rfl hl (by decide) rfl (fun ls hl => ?_)
          refine lv_iinc (v := nI (k + 1)) (lv' := [(4, .int (nI (k + 1))), (3, .int (nI (t + (wt_ cS i k what)))), (0, .ref (ad 0)), (1, .int (nI i)), (2, .int (nI what))]) hx hb dX0_figureOfLine_38 hl (k := 1) rfl (nI_1 _) (by decide) rfl (fun ls hl => ?_)
          refine lv_goto (tgt := 16) hx hb dX0_figureOfLine_41 (by decide) ?_
          exact ih_16 (t + (wt_ cS i k what)) (k + 1) (by omega) (by rw [ht]; rfl) (by omega) ls (lv_sub hl [0, 1, 2, 3, 4] rfl)
    exact LP_16 _ 0 0 (Nat.lt_succ_self _) rfl (Nat.zero_le _) ls (lv_sub hl [0, 1, 2, 3, 4] rfl)
  · skip
    have n_1 : what = 0 := (eq0_ (by omega)).mp c_1
    refine lv_aload_n hx hb dX0_figureOfLine_4 rfl (lv_at hl 0 rfl) ?_
    refine r_g0 hC hx hb hts hin hown 2 (by decide) (hts (.fieldLink RX0 16 "AbjadPoems" "sizes" "[I") (by decide +kernel)) rfl dX0_figureOfLine_5 ?_
    refine lv_iload_n hx hb dX0_figureOfLine_8 rfl (lv_at hl 1 rfl) ?_
    refine r_sz hC hx hb dX0_figureOfLine_9 (j := i) (by omega) ?_
    exact W.iret hx hb hr (fun t ht hW => ⟨_, rfl, (by show nI (ss cS i) = nI (lt_ cS i what); rw [n_1]; rfl), ht⟩) (fun q hq => absurd hq List.not_mem_nil) dX0_figureOfLine_10
set_option maxHeartbeats 4000000 in
set_option maxRecDepth 100000 in
theorem c_X0_sumOverLines (l : Launch) (B0 : Nat) (g : va_G) (ct ad : Nat → Nat) (cS : St_) (mS : Pl_) (x : Ax_) (what : Nat) (hq : what < 5) : RI l yX0_sumOverLines wsX0_sumOverLines 4 (PX B0 g ct ad cS mS x [.ref (ad 0), .int (nI what)]) (nI (al_ cS what)) := by
  refine Met.ofW (cc := cX0_sumOverLines) (maxL := 4) (ret := (some .int)) (by decide) rfl ?_
  intro p e s m args below meth c s₁ B hml hv
  obtain ⟨rfl, hC⟩ := hv
  have hx := B.exec
  have hb := B.bytes
  have hr := B.returns
  have hts := atoms_spec (ws := wsX0_sumOverLines) B.pre
  have hown : s.vm.findClass RX0 = some m.cls := findClass_of_methodNamed B.named
  have hlocks := B.notSynchronized
  have hin : ∀ w ∈ wsX00, w ∈ wsX0_sumOverLines := fun _ h => List.mem_cons_of_mem _ (List.mem_append_right _ h)
  have hI := hC.1.2.2.2
  have hn := hI.2.1
  have hl := lv_entry ([.ref (ad 0), .int (nI what)]) (n := 4) (Nat.le_of_ble_eq_true rfl)
  rw [lg_entry_eq]
  generalize (lg_sl ([.ref (ad 0), .int (nI what)]) ++ List.replicate (4 - (lg_sl ([.ref (ad 0), .int (nI what)])).length) Slot.unset).toArray = ls at hl ⊢
  have hl : lv_has ls 4 [(0, .ref (ad 0)), (1, .int (nI what))] := hl
  refine lv_iconst (v := nI 0) hx hb dX0_sumOverLines_0 (by decide) ?_
  refine lv_istore_n (lv' := [(2, .int (nI 0)), (0, .ref (ad 0)), (1, .int (nI what))]) hx hb dX0_sumOverLines_1 rfl hl (by decide) rfl (fun ls hl => ?_)
  refine lv_iconst (v := nI 0) hx hb dX0_sumOverLines_2 (by decide) ?_
  refine lv_istore_n (lv' := [(3, .int (nI 0)), (2, .int (nI 0)), (0, .ref (ad 0)), (1, .int (nI what))]) hx hb dX0_sumOverLines_3 rfl hl (by decide) rfl (fun ls hl => ?_)
  have LP_4 : ∀ (n_ : Nat) (t : Nat) (k : Nat), sn cS - k < n_ → (t = qs_ (fun l => lt_ cS l what) k) → (k ≤ sn cS) → ∀ ls : Array Slot, lv_has ls 4 [(3, .int (nI k)), (2, .int (nI t)), (0, .ref (ad 0)), (1, .int (nI what))] → W p l e (headSpec wsX0_sumOverLines (rm_ 4 0 0)).room s m ([.ref (ad 0), .int (nI what)] : List Value).toArray below meth c s.heap [] 0 0 (MQ below (vp_Si (fun r => r = nI (al_ cS what))) ([.ref (ad 0), .int (nI what)] : List Value).toArray s 0 0 (fun _ => False)) (F0 m 4 ls []) := by
    intro n_
    induction n_ with
    | zero => intro t k hm; exact absurd hm (Nat.not_lt_zero _)
    | succ n_ ih_4 =>
      intro t k hm ht hk ls hl
      refine lv_iload_n hx hb dX0_sumOverLines_4 rfl (lv_at hl 0 rfl) ?_
      refine lv_aload_n hx hb dX0_sumOverLines_5 rfl (lv_at hl 2 rfl) ?_
      refine r_g0 hC hx hb hts hin hown 1 (by decide) (hts (.fieldLink RX0 13 "AbjadPoems" "lines" "I") (by decide +kernel)) rfl dX0_sumOverLines_6 ?_
      refine lv_icmp_ge (tgt := 27) hx hb dX0_sumOverLines_9 (by decide) (fun c_9 => ?_) (fun c_9 => ?_)
      · skip
        have n_9 : sn cS ≤ k := (nI_leI (a := sn cS) (b := k) (by omega) (by omega)).mp c_9
        have hE : t = al_ cS what := by rw [ht, show k = sn cS by omega]; rfl
        refine lv_iload_n hx hb dX0_sumOverLines_27 rfl (lv_at hl 1 rfl) ?_
        exact W.iret hx hb hr (fun t ht hW => ⟨_, rfl, (congrArg nI hE), ht⟩) (fun q hq => absurd hq List.not_mem_nil) dX0_sumOverLines_28
      · skip
        have n_9 : ¬ sn cS ≤ k := fun q__ => c_9 ((nI_leI (a := sn cS) (b := k) (by omega) (by omega)).mpr q__)
        refine lv_iload_n hx hb dX0_sumOverLines_12 rfl (lv_at hl 1 rfl) ?_
        refine lv_aload_n hx hb dX0_sumOverLines_13 rfl (lv_at hl 2 rfl) ?_
        refine lv_iload_n hx hb dX0_sumOverLines_14 rfl (lv_at hl 0 rfl) ?_
        refine lv_iload_n hx hb dX0_sumOverLines_15 rfl (lv_at hl 3 rfl) ?_
        refine k_rV (As := [.int (nI k), .int (nI what)]) (rest := [.int (nI t)]) (c_X0_figureOfLine l B0 g ct ad cS mS x k what (by omega) (by omega)) hC ⟨hx, hb, hml, hown, hts⟩ (cwV 2 hts gX0_sumOverLines_X0_figureOfLine rfl rfl rfl (by decide +kernel) ⟨Nat.le_of_ble_eq_true rfl, Nat.le_of_ble_eq_true rfl⟩) (rc0 hC) rfl hl.1 rfl (Nat.le_of_ble_eq_true rfl) dX0_sumOverLines_16 ⟨Nat.le_of_ble_eq_true rfl, Nat.le_of_ble_eq_true rfl⟩ ?_
        refine lv_iadd hx hb dX0_sumOverLines_19 ?_
        refine lv_tn (nI_add _ _) ?_
        refine lv_istore_n (lv' := [(2, .int (nI (t + (lt_ cS k what)))), (3, .int (nI k)), (0, .ref (ad 0)), (1, .int (nI what))]) hx hb dX0_sumOverLines_20 rfl hl (by decide) rfl (fun ls hl => ?_)
        refine lv_iinc (v := nI (k + 1)) (lv' := [(3, .int (nI (k + 1))), (2, .int (nI (t + (lt_ cS k what)))), (0, .ref (ad 0)), (1, .int (nI what))]) hx hb dX0_sumOverLines_21 hl (k := 1) rfl (nI_1 _) (by decide) rfl (fun ls hl => ?_)
        refine lv_goto (tgt := 4) hx hb dX0_sumOverLines_24 (by decide) ?_
        exact ih_4 (t + (lt_ cS k what)) (k + 1) (by omega) (by rw [ht]; rfl) (by omega) ls (lv_sub hl [0, 1, 2, 3] rfl)
  exact LP_4 _ 0 0 (Nat.lt_succ_self _) rfl (Nat.zero_le _) ls (lv_sub hl [0, 1, 2, 3] rfl)
set_option maxHeartbeats 4000000 in
set_option maxRecDepth 100000 in
theorem c_X0_lastOfRun (l : Launch) (B0 : Nat) (g : va_G) (ct ad : Nat → Nat) (cS : St_) (mS : Pl_) (x : Ax_) (i w0 : Nat) (yr : Int32) (hi : i < 12) (hw0 : w0 ≤ 10) : RI l yX0_lastOfRun wsX0_lastOfRun 2 (PX B0 g ct ad cS mS x [.ref (ad 0), .int (nI i), .int (nI w0), .int yr]) (ru_ cS i yr w0) := by
  refine Met.ofW (cc := cX0_lastOfRun) (maxL := 6) (ret := (some .int)) (by decide) rfl ?_
  intro p e s m args below meth c s₁ B hml hv
  obtain ⟨rfl, hC⟩ := hv
  have hx := B.exec
  have hb := B.bytes
  have hr := B.returns
  have hts := atoms_spec (ws := wsX0_lastOfRun) B.pre
  have hown : s.vm.findClass RX0 = some m.cls := findClass_of_methodNamed B.named
  have hlocks := B.notSynchronized
  have hin : ∀ w ∈ wsX00, w ∈ wsX0_lastOfRun := fun _ h => List.mem_cons_of_mem _ (List.mem_append_right _ h)
  have hI := hC.1.2.2.2
  have hz := hI.2.2.1 i
  have hl := lv_entry ([.ref (ad 0), .int (nI i), .int (nI w0), .int yr]) (n := 6) (Nat.le_of_ble_eq_true rfl)
  rw [lg_entry_eq]
  generalize (lg_sl ([.ref (ad 0), .int (nI i), .int (nI w0), .int yr]) ++ List.replicate (6 - (lg_sl ([.ref (ad 0), .int (nI i), .int (nI w0), .int yr])).length) Slot.unset).toArray = ls at hl ⊢
  have hl : lv_has ls 6 [(0, .ref (ad 0)), (1, .int (nI i)), (2, .int (nI w0)), (3, .int yr)] := hl
  refine lv_iconst (v := nI 0) hx hb dX0_lastOfRun_0 (by decide) ?_
  refine lv_istore (lv' := [(4, .int (nI 0)), (0, .ref (ad 0)), (1, .int (nI i)), (2, .int (nI w0)), (3, .int yr)]) hx hb dX0_lastOfRun_1 hl (by decide) rfl (fun ls hl => ?_)
  refine lv_iload_n hx hb dX0_lastOfRun_3 rfl (lv_at hl 3 rfl) ?_
  refine lv_istore (lv' := [(5, .int (nI w0)), (4, .int (nI 0)), (0, .ref (ad 0)), (1, .int (nI i)), (2, .int (nI w0)), (3, .int yr)]) hx hb dX0_lastOfRun_4 hl (by decide) rfl (fun ls hl => ?_)
  have LP_6 : ∀ (n_ : Nat) (t : Nat) (w : Nat), ss cS i - w < n_ → (rn_ cS i yr (ss cS i - w) w t = ru_ cS i yr w0) → (w ≤ 10) → ∀ ls : Array Slot, lv_has ls 6 [(5, .int (nI w)), (4, .int (nI t)), (0, .ref (ad 0)), (1, .int (nI i)), (2, .int (nI w0)), (3, .int yr)] → W p l e (headSpec wsX0_lastOfRun (rm_ 2 0 0)).room s m ([.ref (ad 0), .int (nI i), .int (nI w0), .int yr] : List Value).toArray below meth c s.heap [] 0 0 (MQ below (vp_Si (fun r => r = ru_ cS i yr w0)) ([.ref (ad 0), .int (nI i), .int (nI w0), .int yr] : List Value).toArray s 0 0 (fun _ => False)) (F0 m 6 ls []) := by
    intro n_
    induction n_ with
    | zero => intro t w hm; exact absurd hm (Nat.not_lt_zero _)
    | succ n_ ih_6 =>
      intro t w hm h1 hw_ ls hl
      have hw6 := hI.2.2.2.1 (10 * i + w)
      refine lv_iload hx hb dX0_lastOfRun_6 (lv_at hl 0 rfl) ?_
      refine lv_aload_n hx hb dX0_lastOfRun_8 rfl (lv_at hl 2 rfl) ?_
      refine r_g0 hC hx hb hts hin hown 2 (by decide) (hts (.fieldLink RX0 16 "AbjadPoems" "sizes" "[I") (by decide +kernel)) rfl dX0_lastOfRun_9 ?_
      refine lv_iload_n hx hb dX0_lastOfRun_12 rfl (lv_at hl 3 rfl) ?_
      refine r_sz hC hx hb dX0_lastOfRun_13 (j := i) (by omega) ?_
      refine lv_icmp_ge (tgt := 52) hx hb dX0_lastOfRun_14 (by decide) (fun c_14 => ?_) (fun c_14 => ?_)
      · skip
        have n_14 : ss cS i ≤ w := (nI_leI (a := ss cS i) (b := w) (by omega) (by omega)).mp c_14
        have hE : ru_ cS i yr w0 = -1 := by rw [← h1, rn_e (by omega)]
        refine lv_iconst (v := -1) hx hb dX0_lastOfRun_52 (by decide) ?_
        exact W.iret hx hb hr (fun t ht hW => ⟨_, rfl, (by show (-1) = ru_ cS i yr w0; rw [hE]), ht⟩) (fun q hq => absurd hq List.not_mem_nil) dX0_lastOfRun_53
      · skip
        have n_14 : ¬ ss cS i ≤ w := fun q__ => c_14 ((nI_leI (a := ss cS i) (b := w) (by omega) (by omega)).mpr q__)
        refine lv_iload hx hb dX0_lastOfRun_17 (lv_at hl 1 rfl) ?_
        refine lv_aload_n hx hb dX0_lastOfRun_19 rfl (lv_at hl 2 rfl) ?_
        refine lv_aload_n hx hb dX0_lastOfRun_20 rfl (lv_at hl 2 rfl) ?_
        refine r_g0 hC hx hb hts hin hown 3 (by decide) (hts (.fieldLink RX0 22 "AbjadPoems" "words" "[[I") (by decide +kernel)) rfl dX0_lastOfRun_21 ?_
        refine lv_iload_n hx hb dX0_lastOfRun_24 rfl (lv_at hl 3 rfl) ?_
        refine r_wo hC hx hb dX0_lastOfRun_25 (j := i) (by omega) ?_
        refine lv_iload hx hb dX0_lastOfRun_26 (lv_at hl 0 rfl) ?_
        refine r_wr hC hx hb dX0_lastOfRun_28 (i := i) (j := w) (by omega) (by omega) ?_
        refine lv_bipush (v := nI 63) hx hb dX0_lastOfRun_29 (by decide) ?_
        refine k_rV (As := [.int (nI (sw cS (10 * i + w))), .int (nI 63)]) (rest := [.int (nI t)]) (c_X0_worthOfPlaces l B0 g ct ad cS mS x (sw cS (10 * i + w)) 63 (by omega) (by omega)) hC ⟨hx, hb, hml, hown, hts⟩ (cwV 2 hts gX0_lastOfRun_X0_worthOfPlaces rfl rfl rfl (by decide +kernel) ⟨Nat.le_of_ble_eq_true rfl, Nat.le_of_ble_eq_true rfl⟩) (rc0 hC) rfl hl.1 rfl (Nat.le_of_ble_eq_true rfl) dX0_lastOfRun_31 ⟨Nat.le_of_ble_eq_true rfl, Nat.le_of_ble_eq_true rfl⟩ ?_
        refine lv_tn (w := nI (ws0 (so cS) (sw cS (10 * i + w)))) (congrArg nI (wm_63 hw6)) ?_
        refine lv_iadd hx hb dX0_lastOfRun_34 ?_
        refine lv_tn (nI_add _ _) ?_
        refine lv_istore (lv' := [(4, .int (nI (t + (ws0 (so cS) (sw cS (10 * i + w)))))), (5, .int (nI w)), (0, .ref (ad 0)), (1, .int (nI i)), (2, .int (nI w0)), (3, .int yr)]) hx hb dX0_lastOfRun_35 hl (by decide) rfl (fun ls hl => ?_)
        refine lv_iload hx hb dX0_lastOfRun_37 (lv_at hl 0 rfl) ?_
        refine lv_iload_n hx hb dX0_lastOfRun_39 rfl (lv_at hl 5 rfl) ?_
        refine lv_icmp_ne (tgt := 46) hx hb dX0_lastOfRun_40 (by decide) (fun c_40 => ?_) (fun c_40 => ?_)
        · skip
          refine lv_iinc (v := nI (w + 1)) (lv' := [(5, .int (nI (w + 1))), (4, .int (nI (t + (ws0 (so cS) (sw cS (10 * i + w)))))), (0, .ref (ad 0)), (1, .int (nI i)), (2, .int (nI w0)), (3, .int yr)]) hx hb dX0_lastOfRun_46 hl (k := 1) rfl (nI_1 _) (by decide) rfl (fun ls hl => ?_)
          refine lv_goto (tgt := 6) hx hb dX0_lastOfRun_49 (by decide) ?_
          exact ih_6 (t + (ws0 (so cS) (sw cS (10 * i + w)))) (w + 1) (by omega) (by rw [← h1, rn_s (show w < ss cS i by omega), if_neg c_40]) (by omega) ls (lv_sub hl [0, 1, 2, 3, 4, 5] rfl)
        · skip
          have hE : ru_ cS i yr w0 = nI w := by rw [← h1, rn_s (show w < ss cS i by omega), if_pos c_40]
          refine lv_iload hx hb dX0_lastOfRun_43 (lv_at hl 1 rfl) ?_
          exact W.iret hx hb hr (fun t ht hW => ⟨_, rfl, (by show nI w = ru_ cS i yr w0; rw [hE]), ht⟩) (fun q hq => absurd hq List.not_mem_nil) dX0_lastOfRun_45
  exact LP_6 _ 0 w0 (Nat.lt_succ_self _) rfl hw0 ls (lv_sub hl [0, 1, 2, 3, 4, 5] rfl)
set_option maxHeartbeats 4000000 in
set_option maxRecDepth 100000 in
theorem c_X0_timesAmongWorths (l : Launch) (B0 : Nat) (g : va_G) (ct ad : Nat → Nat) (cS : St_) (mS : Pl_) (x : Ax_) (v : Int32) (seen : Nat) (hs : seen ≤ 120) : RI l yX0_timesAmongWorths wsX0_timesAmongWorths 0 (PX B0 g ct ad cS mS x [.ref (ad 0), .int v, .int (nI seen)]) (nI (qs_ (fun j => if xw x j = v then 1 else 0) seen)) := by
  refine Met.ofW (cc := cX0_timesAmongWorths) (maxL := 5) (ret := (some .int)) (by decide) rfl ?_
  intro p e s m args below meth c s₁ B hml hv
  obtain ⟨rfl, hC⟩ := hv
  have hx := B.exec
  have hb := B.bytes
  have hr := B.returns
  have hts := atoms_spec (ws := wsX0_timesAmongWorths) B.pre
  have hown : s.vm.findClass RX0 = some m.cls := findClass_of_methodNamed B.named
  have hlocks := B.notSynchronized
  have hin : ∀ w ∈ wsX00, w ∈ wsX0_timesAmongWorths := fun _ h => List.mem_cons_of_mem _ (List.mem_append_right _ h)
  have hl := lv_entry ([.ref (ad 0), .int v, .int (nI seen)]) (n := 5) (Nat.le_of_ble_eq_true rfl)
  rw [lg_entry_eq]
  generalize (lg_sl ([.ref (ad 0), .int v, .int (nI seen)]) ++ List.replicate (5 - (lg_sl ([.ref (ad 0), .int v, .int (nI seen)])).length) Slot.unset).toArray = ls at hl ⊢
  have hl : lv_has ls 5 [(0, .ref (ad 0)), (1, .int v), (2, .int (nI seen))] := hl
  refine lv_iconst (v := nI 0) hx hb dX0_timesAmongWorths_0 (by decide) ?_
  refine lv_istore_n (lv' := [(3, .int (nI 0)), (0, .ref (ad 0)), (1, .int v), (2, .int (nI seen))]) hx hb dX0_timesAmongWorths_1 rfl hl (by decide) rfl (fun ls hl => ?_)
  refine lv_iconst (v := nI 0) hx hb dX0_timesAmongWorths_2 (by decide) ?_
  refine lv_istore (lv' := [(4, .int (nI 0)), (3, .int (nI 0)), (0, .ref (ad 0)), (1, .int v), (2, .int (nI seen))]) hx hb dX0_timesAmongWorths_3 hl (by decide) rfl (fun ls hl => ?_)
  have LP_5 : ∀ (n_ : Nat) (t : Nat) (k : Nat), seen - k < n_ → (t = qs_ (fun j => if xw x j = v then 1 else 0) k) → (k ≤ seen) → ∀ ls : Array Slot, lv_has ls 5 [(4, .int (nI k)), (3, .int (nI t)), (0, .ref (ad 0)), (1, .int v), (2, .int (nI seen))] → W p l e (headSpec wsX0_timesAmongWorths (rm_ 0 0 0)).room s m ([.ref (ad 0), .int v, .int (nI seen)] : List Value).toArray below meth c s.heap [] 0 0 (MQ below (vp_Si (fun r => r = nI (qs_ (fun j => if xw x j = v then 1 else 0) seen))) ([.ref (ad 0), .int v, .int (nI seen)] : List Value).toArray s 0 0 (fun _ => False)) (F0 m 5 ls []) := by
    intro n_
    induction n_ with
    | zero => intro t k hm; exact absurd hm (Nat.not_lt_zero _)
    | succ n_ ih_5 =>
      intro t k hm ht hk ls hl
      refine lv_iload hx hb dX0_timesAmongWorths_5 (lv_at hl 0 rfl) ?_
      refine lv_iload_n hx hb dX0_timesAmongWorths_7 rfl (lv_at hl 4 rfl) ?_
      refine lv_icmp_ge (tgt := 31) hx hb dX0_timesAmongWorths_8 (by decide) (fun c_8 => ?_) (fun c_8 => ?_)
      · skip
        have n_8 : seen ≤ k := (nI_leI (a := seen) (b := k) (by omega) (by omega)).mp c_8
        have hE : t = qs_ (fun j => if xw x j = v then 1 else 0) seen := by rw [ht, show k = seen by omega]
        refine lv_iload_n hx hb dX0_timesAmongWorths_31 rfl (lv_at hl 1 rfl) ?_
        exact W.iret hx hb hr (fun t ht hW => ⟨_, rfl, (congrArg nI hE), ht⟩) (fun q hq => absurd hq List.not_mem_nil) dX0_timesAmongWorths_32
      · skip
        have n_8 : ¬ seen ≤ k := fun q__ => c_8 ((nI_leI (a := seen) (b := k) (by omega) (by omega)).mpr q__)
        refine lv_aload_n hx hb dX0_timesAmongWorths_11 rfl (lv_at hl 2 rfl) ?_
        refine r_g0 hC hx hb hts hin hown 5 (by decide) (hts (.fieldLink RX0 28 "AbjadPoems" "worths" "[I") (by decide +kernel)) rfl dX0_timesAmongWorths_12 ?_
        refine lv_iload hx hb dX0_timesAmongWorths_15 (lv_at hl 0 rfl) ?_
        refine r_wt hC hx hb dX0_timesAmongWorths_17 (j := k) (by omega) ?_
        refine lv_iload_n hx hb dX0_timesAmongWorths_18 rfl (lv_at hl 3 rfl) ?_
        refine lv_icmp_ne (tgt := 25) hx hb dX0_timesAmongWorths_19 (by decide) (fun c_19 => ?_) (fun c_19 => ?_)
        · skip
          refine lv_iinc (v := nI (k + 1)) (lv' := [(4, .int (nI (k + 1))), (3, .int (nI t)), (0, .ref (ad 0)), (1, .int v), (2, .int (nI seen))]) hx hb dX0_timesAmongWorths_25 hl (k := 0) rfl (nI_1 _) (by decide) rfl (fun ls hl => ?_)
          refine lv_goto (tgt := 5) hx hb dX0_timesAmongWorths_28 (by decide) ?_
          exact ih_5 t (k + 1) (by omega) (by rw [ht]; first | exact (qs_1 (f := fun j => if xw x j = v then 1 else 0) (if_pos c_19)).symm | exact (qs_1 (f := fun j => if xw x j = v then 1 else 0) (v := 0) (if_neg c_19)).symm) (by omega) ls (lv_sub hl [0, 1, 2, 3, 4] rfl)
        · skip
          refine lv_iinc (v := nI (t + 1)) (lv' := [(3, .int (nI (t + 1))), (4, .int (nI k)), (0, .ref (ad 0)), (1, .int v), (2, .int (nI seen))]) hx hb dX0_timesAmongWorths_22 hl (k := 1) rfl (nI_1 _) (by decide) rfl (fun ls hl => ?_)
          refine lv_iinc (v := nI (k + 1)) (lv' := [(4, .int (nI (k + 1))), (3, .int (nI (t + 1))), (0, .ref (ad 0)), (1, .int v), (2, .int (nI seen))]) hx hb dX0_timesAmongWorths_25 hl (k := 1) rfl (nI_1 _) (by decide) rfl (fun ls hl => ?_)
          refine lv_goto (tgt := 5) hx hb dX0_timesAmongWorths_28 (by decide) ?_
          exact ih_5 (t + 1) (k + 1) (by omega) (by rw [ht]; first | exact (qs_1 (f := fun j => if xw x j = v then 1 else 0) (if_pos c_19)).symm | exact (qs_1 (f := fun j => if xw x j = v then 1 else 0) (v := 0) (if_neg c_19)).symm) (by omega) ls (lv_sub hl [0, 1, 2, 3, 4] rfl)
  exact LP_5 _ 0 0 (Nat.lt_succ_self _) rfl (Nat.zero_le _) ls (lv_sub hl [0, 1, 2, 3, 4] rfl)
end
section
set_option maxHeartbeats 4000000 in
set_option maxRecDepth 100000 in
theorem c_X0_checkLine (l : Launch) (B0 : Nat) (g : va_G) (ct ad : Nat → Nat) (cS : St_) (mS : Pl_) (x : Ax_) (j : Nat) (hj : j < sn cS) : RV l yX0_checkLine wsX0_checkLine 0 (PX B0 g ct ad cS mS x [.ref (ad 0), .int (nI j)]) := by
  refine Met.ofW (cc := cX0_checkLine) (maxL := 2) (ret := none) (by decide) rfl ?_
  intro p e s m args below meth c s₁ B hml hv
  obtain ⟨rfl, hC⟩ := hv
  have hx := B.exec
  have hb := B.bytes
  have hr := B.returns
  have hts := atoms_spec (ws := wsX0_checkLine) B.pre
  have hown : s.vm.findClass RX0 = some m.cls := findClass_of_methodNamed B.named
  have hlocks := B.notSynchronized
  have hin : ∀ w ∈ wsX00, w ∈ wsX0_checkLine := fun _ h => List.mem_cons_of_mem _ (List.mem_append_left _ (List.mem_append_right _ h))
  have hI := hC.1.2.2.2
  have hn := hI.2.1
  have hl := lv_entry ([.ref (ad 0), .int (nI j)]) (n := 2) (Nat.le_of_ble_eq_true rfl)
  rw [lg_entry_eq]
  generalize (lg_sl ([.ref (ad 0), .int (nI j)]) ++ List.replicate (2 - (lg_sl ([.ref (ad 0), .int (nI j)])).length) Slot.unset).toArray = ls at hl ⊢
  have hl : lv_has ls 2 [(0, .ref (ad 0)), (1, .int (nI j))] := hl
  refine lv_iload_n hx hb dX0_checkLine_0 rfl (lv_at hl 1 rfl) ?_
  refine lv_if_lt (tgt := 12) hx hb dX0_checkLine_1 (by decide) (fun c_1 => ?_) (fun c_1 => ?_)
  · skip
    exact absurd c_1 (nI_pos (by omega))
  · skip
    refine lv_iload_n hx hb dX0_checkLine_4 rfl (lv_at hl 1 rfl) ?_
    refine lv_aload_n hx hb dX0_checkLine_5 rfl (lv_at hl 0 rfl) ?_
    refine r_g0 hC hx hb hts hin hown 1 (by decide) (hts (.fieldLink RX0 13 "AbjadPoems" "lines" "I") (by decide +kernel)) rfl dX0_checkLine_6 ?_
    refine lv_icmp_lt (tgt := 22) hx hb dX0_checkLine_9 (by decide) (fun c_9 => ?_) (fun c_9 => ?_)
    · skip
      have n_9 : j < sn cS := (nI_ltI (a := j) (b := sn cS) (by omega) (by omega)).mp c_9
      exact W.vret hx hb hr (fun t ht hW => ⟨rfl, trivial, ht⟩) (fun q hq => absurd hq List.not_mem_nil) dX0_checkLine_22
    · skip
      have n_9 : ¬ j < sn cS := fun q__ => c_9 ((nI_ltI (a := j) (b := sn cS) (by omega) (by omega)).mpr q__)
      exact absurd hj n_9
set_option maxHeartbeats 4000000 in
set_option maxRecDepth 100000 in
theorem c_X0_checkWordOfLine (l : Launch) (B0 : Nat) (g : va_G) (ct ad : Nat → Nat) (cS : St_) (mS : Pl_) (x : Ax_) (i w : Nat) (hi : i < sn cS) (hw : w < ss cS i) : RV l yX0_checkWordOfLine wsX0_checkWordOfLine 1 (PX B0 g ct ad cS mS x [.ref (ad 0), .int (nI i), .int (nI w)]) := by
  refine Met.ofW (cc := cX0_checkWordOfLine) (maxL := 3) (ret := none) (by decide) rfl ?_
  intro p e s m args below meth c s₁ B hml hv
  obtain ⟨rfl, hC⟩ := hv
  have hx := B.exec
  have hb := B.bytes
  have hr := B.returns
  have hts := atoms_spec (ws := wsX0_checkWordOfLine) B.pre
  have hown : s.vm.findClass RX0 = some m.cls := findClass_of_methodNamed B.named
  have hlocks := B.notSynchronized
  have hin : ∀ w ∈ wsX00, w ∈ wsX0_checkWordOfLine := fun _ h => List.mem_cons_of_mem _ (List.mem_append_left _ (List.mem_append_right _ h))
  have hI := hC.1.2.2.2
  have hn := hI.2.1
  have hz := hI.2.2.1 i
  have hl := lv_entry ([.ref (ad 0), .int (nI i), .int (nI w)]) (n := 3) (Nat.le_of_ble_eq_true rfl)
  rw [lg_entry_eq]
  generalize (lg_sl ([.ref (ad 0), .int (nI i), .int (nI w)]) ++ List.replicate (3 - (lg_sl ([.ref (ad 0), .int (nI i), .int (nI w)])).length) Slot.unset).toArray = ls at hl ⊢
  have hl : lv_has ls 3 [(0, .ref (ad 0)), (1, .int (nI i)), (2, .int (nI w))] := hl
  refine lv_aload_n hx hb dX0_checkWordOfLine_0 rfl (lv_at hl 0 rfl) ?_
  refine lv_iload_n hx hb dX0_checkWordOfLine_1 rfl (lv_at hl 1 rfl) ?_
  refine k_vV (As := [.int (nI i)]) (rest := []) (c_X0_checkLine l B0 g ct ad cS mS x i (by omega)) hC ⟨hx, hb, hml, hown, hts⟩ (cwV 1 hts gX0_checkWordOfLine_X0_checkLine rfl rfl rfl (by decide +kernel) ⟨Nat.le_of_ble_eq_true rfl, Nat.le_of_ble_eq_true rfl⟩) (rc0 hC) rfl hl.1 rfl (Nat.le_of_ble_eq_true rfl) dX0_checkWordOfLine_2 ⟨Nat.le_of_ble_eq_true rfl, Nat.le_of_ble_eq_true rfl⟩ ?_
  refine lv_iload_n hx hb dX0_checkWordOfLine_5 rfl (lv_at hl 2 rfl) ?_
  refine lv_if_lt (tgt := 19) hx hb dX0_checkWordOfLine_6 (by decide) (fun c_6 => ?_) (fun c_6 => ?_)
  · skip
    exact absurd c_6 (nI_pos (by omega))
  · skip
    refine lv_iload_n hx hb dX0_checkWordOfLine_9 rfl (lv_at hl 2 rfl) ?_
    refine lv_aload_n hx hb dX0_checkWordOfLine_10 rfl (lv_at hl 0 rfl) ?_
    refine r_g0 hC hx hb hts hin hown 2 (by decide) (hts (.fieldLink RX0 16 "AbjadPoems" "sizes" "[I") (by decide +kernel)) rfl dX0_checkWordOfLine_11 ?_
    refine lv_iload_n hx hb dX0_checkWordOfLine_14 rfl (lv_at hl 1 rfl) ?_
    refine r_sz hC hx hb dX0_checkWordOfLine_15 (j := i) (by omega) ?_
    refine lv_icmp_lt (tgt := 29) hx hb dX0_checkWordOfLine_16 (by decide) (fun c_16 => ?_) (fun c_16 => ?_)
    · skip
      have n_16 : w < ss cS i := (nI_ltI (a := w) (b := ss cS i) (by omega) (by omega)).mp c_16
      exact W.vret hx hb hr (fun t ht hW => ⟨rfl, trivial, ht⟩) (fun q hq => absurd hq List.not_mem_nil) dX0_checkWordOfLine_29
    · skip
      have n_16 : ¬ w < ss cS i := fun q__ => c_16 ((nI_ltI (a := w) (b := ss cS i) (by omega) (by omega)).mpr q__)
      exact absurd hw n_16
set_option maxHeartbeats 4000000 in
set_option maxRecDepth 100000 in
theorem c_X0_checkWhat (l : Launch) (B0 : Nat) (g : va_G) (ct ad : Nat → Nat) (cS : St_) (mS : Pl_) (x : Ax_) (q f : Nat) (hq : q < f) (hf : f < 9) : RV l yX0_checkWhat wsX0_checkWhat 0 (PX B0 g ct ad cS mS x [.int (nI q), .int (nI f)]) := by
  refine Met.ofW (cc := cX0_checkWhat) (maxL := 2) (ret := none) (by decide) rfl ?_
  intro p e s m args below meth c s₁ B hml hv
  obtain ⟨rfl, hC⟩ := hv
  have hx := B.exec
  have hb := B.bytes
  have hr := B.returns
  have hts := atoms_spec (ws := wsX0_checkWhat) B.pre
  have hown : s.vm.findClass RX0 = some m.cls := findClass_of_methodNamed B.named
  have hlocks := B.notSynchronized
  have hl := lv_entry ([.int (nI q), .int (nI f)]) (n := 2) (Nat.le_of_ble_eq_true rfl)
  rw [lg_entry_eq]
  generalize (lg_sl ([.int (nI q), .int (nI f)]) ++ List.replicate (2 - (lg_sl ([.int (nI q), .int (nI f)])).length) Slot.unset).toArray = ls at hl ⊢
  have hl : lv_has ls 2 [(0, .int (nI q)), (1, .int (nI f))] := hl
  refine lv_iload_n hx hb dX0_checkWhat_0 rfl (lv_at hl 0 rfl) ?_
  refine lv_if_lt (tgt := 9) hx hb dX0_checkWhat_1 (by decide) (fun c_1 => ?_) (fun c_1 => ?_)
  · skip
    exact absurd c_1 (nI_pos (by omega))
  · skip
    refine lv_iload_n hx hb dX0_checkWhat_4 rfl (lv_at hl 0 rfl) ?_
    refine lv_iload_n hx hb dX0_checkWhat_5 rfl (lv_at hl 1 rfl) ?_
    refine lv_icmp_lt (tgt := 19) hx hb dX0_checkWhat_6 (by decide) (fun c_6 => ?_) (fun c_6 => ?_)
    · skip
      have n_6 : q < f := (nI_ltI (a := q) (b := f) (by omega) (by omega)).mp c_6
      exact W.vret hx hb hr (fun t ht hW => ⟨rfl, trivial, ht⟩) (fun q hq => absurd hq List.not_mem_nil) dX0_checkWhat_19
    · skip
      have n_6 : ¬ q < f := fun q__ => c_6 ((nI_ltI (a := q) (b := f) (by omega) (by omega)).mpr q__)
      exact absurd hq n_6
set_option maxHeartbeats 4000000 in
set_option maxRecDepth 100000 in
theorem c_X0_checkWord (l : Launch) (B0 : Nat) (g : va_G) (ct ad : Nat → Nat) (cS : St_) (mS : Pl_) (x : Ax_) (w : Int32) (h : wd_ w = true) : RV l yX0_checkWord wsX0_checkWord 1 (PX B0 g ct ad cS mS x [.int w]) := by
  refine Met.ofW (cc := cX0_checkWord) (maxL := 1) (ret := none) (by decide) rfl ?_
  intro p e s m args below meth c s₁ B hml hv
  obtain ⟨rfl, hC⟩ := hv
  have hx := B.exec
  have hb := B.bytes
  have hr := B.returns
  have hts := atoms_spec (ws := wsX0_checkWord) B.pre
  have hown : s.vm.findClass RX0 = some m.cls := findClass_of_methodNamed B.named
  have hlocks := B.notSynchronized
  have hl := lv_entry ([.int w]) (n := 1) (Nat.le_of_ble_eq_true rfl)
  rw [lg_entry_eq]
  generalize (lg_sl ([.int w]) ++ List.replicate (1 - (lg_sl ([.int w])).length) Slot.unset).toArray = ls at hl ⊢
  have hl : lv_has ls 1 [(0, .int w)] := hl
  refine lv_iload_n hx hb dX0_checkWord_0 rfl (lv_at hl 0 rfl) ?_
  refine k_pS (As := [.int w]) (rest := []) (c_X0_isWord l w) ⟨hx, hb, hml, hown, hts⟩ (va_cwS 1 hts gX0_checkWord_X0_isWord rfl rfl rfl (by decide +kernel) ⟨Nat.le_of_ble_eq_true rfl, Nat.le_of_ble_eq_true rfl⟩) rfl hl.1 rfl (Nat.le_of_ble_eq_true rfl) dX0_checkWord_1 ⟨Nat.le_of_ble_eq_true rfl, Nat.le_of_ble_eq_true rfl⟩ ?_
  refine lv_if_ne (tgt := 17) hx hb dX0_checkWord_4 (by decide) (fun c_4 => ?_) (fun c_4 => ?_)
  · skip
    exact W.vret hx hb hr (fun t ht hW => ⟨rfl, trivial, ht⟩) (fun q hq => absurd hq List.not_mem_nil) dX0_checkWord_17
  · skip
    rw [h] at c_4; exact absurd c_4 (by decide)
set_option maxHeartbeats 4000000 in
set_option maxRecDepth 100000 in
theorem c_X0_letter (l : Launch) (B0 : Nat) (g : va_G) (ct ad : Nat → Nat) (cS : St_) (mS : Pl_) (x : Ax_) (k : Nat) (h1 : 1 ≤ k) (h2 : k ≤ 26) : RI l yX0_letter wsX0_letter 1 (PX B0 g ct ad cS mS x [.ref (ad 0), .int (nI k)]) (nI (vl_ (so cS) k)) := by
  refine Met.ofW (cc := cX0_letter) (maxL := 2) (ret := (some .int)) (by decide) rfl ?_
  intro p e s m args below meth c s₁ B hml hv
  obtain ⟨rfl, hC⟩ := hv
  have hx := B.exec
  have hb := B.bytes
  have hr := B.returns
  have hts := atoms_spec (ws := wsX0_letter) B.pre
  have hown : s.vm.findClass RX0 = some m.cls := findClass_of_methodNamed B.named
  have hlocks := B.notSynchronized
  have hin : ∀ w ∈ wsX00, w ∈ wsX0_letter := fun _ h => List.mem_cons_of_mem _ (List.mem_append_left _ (List.mem_append_right _ h))
  have hl := lv_entry ([.ref (ad 0), .int (nI k)]) (n := 2) (Nat.le_of_ble_eq_true rfl)
  rw [lg_entry_eq]
  generalize (lg_sl ([.ref (ad 0), .int (nI k)]) ++ List.replicate (2 - (lg_sl ([.ref (ad 0), .int (nI k)])).length) Slot.unset).toArray = ls at hl ⊢
  have hl : lv_has ls 2 [(0, .ref (ad 0)), (1, .int (nI k))] := hl
  refine lv_iload_n hx hb dX0_letter_0 rfl (lv_at hl 1 rfl) ?_
  refine lv_iconst (v := nI 1) hx hb dX0_letter_1 (by decide) ?_
  refine lv_icmp_lt (tgt := 11) hx hb dX0_letter_2 (by decide) (fun c_2 => ?_) (fun c_2 => ?_)
  · skip
    have n_2 : k < 1 := (nI_ltI (a := k) (b := 1) (by omega) (by omega)).mp c_2
    exact absurd n_2 (by omega)
  · skip
    have n_2 : ¬ k < 1 := fun q__ => c_2 ((nI_ltI (a := k) (b := 1) (by omega) (by omega)).mpr q__)
    refine lv_iload_n hx hb dX0_letter_5 rfl (lv_at hl 1 rfl) ?_
    refine lv_bipush (v := nI 26) hx hb dX0_letter_6 (by decide) ?_
    refine lv_icmp_le (tgt := 21) hx hb dX0_letter_8 (by decide) (fun c_8 => ?_) (fun c_8 => ?_)
    · skip
      have n_8 : k ≤ 26 := (nI_leI (a := k) (b := 26) (by omega) (by omega)).mp c_8
      refine lv_aload_n hx hb dX0_letter_21 rfl (lv_at hl 0 rfl) ?_
      refine lv_iload_n hx hb dX0_letter_22 rfl (lv_at hl 1 rfl) ?_
      refine k_rV (As := [.int (nI k)]) (rest := []) (c_X0_worthOfLetter l B0 g ct ad cS mS x k (by omega)) hC ⟨hx, hb, hml, hown, hts⟩ (cwV 1 hts gX0_letter_X0_worthOfLetter rfl rfl rfl (by decide +kernel) ⟨Nat.le_of_ble_eq_true rfl, Nat.le_of_ble_eq_true rfl⟩) (rc0 hC) rfl hl.1 rfl (Nat.le_of_ble_eq_true rfl) dX0_letter_23 ⟨Nat.le_of_ble_eq_true rfl, Nat.le_of_ble_eq_true rfl⟩ ?_
      exact W.iret hx hb hr (fun t ht hW => ⟨_, rfl, rfl, ht⟩) (fun q hq => absurd hq List.not_mem_nil) dX0_letter_26
    · skip
      have n_8 : ¬ k ≤ 26 := fun q__ => c_8 ((nI_leI (a := k) (b := 26) (by omega) (by omega)).mpr q__)
      exact absurd h2 n_8
set_option maxHeartbeats 4000000 in
set_option maxRecDepth 100000 in
theorem c_X0_value (l : Launch) (B0 : Nat) (g : va_G) (ct ad : Nat → Nat) (cS : St_) (mS : Pl_) (x : Ax_) (w : Nat) (hw : w < 387420489) (h : wd_ (nI w) = true) : RI l yX0_value wsX0_value 2 (PX B0 g ct ad cS mS x [.ref (ad 0), .int (nI w)]) (nI (ws0 (so cS) w)) := by
  refine Met.ofW (cc := cX0_value) (maxL := 2) (ret := (some .int)) (by decide) rfl ?_
  intro p e s m args below meth c s₁ B hml hv
  obtain ⟨rfl, hC⟩ := hv
  have hx := B.exec
  have hb := B.bytes
  have hr := B.returns
  have hts := atoms_spec (ws := wsX0_value) B.pre
  have hown : s.vm.findClass RX0 = some m.cls := findClass_of_methodNamed B.named
  have hlocks := B.notSynchronized
  have hin : ∀ w ∈ wsX00, w ∈ wsX0_value := fun _ h => List.mem_cons_of_mem _ (List.mem_append_left _ (List.mem_append_right _ h))
  have hl := lv_entry ([.ref (ad 0), .int (nI w)]) (n := 2) (Nat.le_of_ble_eq_true rfl)
  rw [lg_entry_eq]
  generalize (lg_sl ([.ref (ad 0), .int (nI w)]) ++ List.replicate (2 - (lg_sl ([.ref (ad 0), .int (nI w)])).length) Slot.unset).toArray = ls at hl ⊢
  have hl : lv_has ls 2 [(0, .ref (ad 0)), (1, .int (nI w))] := hl
  refine lv_iload_n hx hb dX0_value_0 rfl (lv_at hl 1 rfl) ?_
  refine k_vS (As := [.int (nI w)]) (rest := []) (c_X0_checkWord l B0 g ct ad cS mS x (nI w) h) hC ⟨hx, hb, hml, hown, hts⟩ (va_cwS 1 hts gX0_value_X0_checkWord rfl rfl rfl (by decide +kernel) ⟨Nat.le_of_ble_eq_true rfl, Nat.le_of_ble_eq_true rfl⟩) rfl hl.1 rfl (Nat.le_of_ble_eq_true rfl) dX0_value_1 ⟨Nat.le_of_ble_eq_true rfl, Nat.le_of_ble_eq_true rfl⟩ ?_
  refine lv_aload_n hx hb dX0_value_4 rfl (lv_at hl 0 rfl) ?_
  refine lv_iload_n hx hb dX0_value_5 rfl (lv_at hl 1 rfl) ?_
  refine lv_bipush (v := nI 63) hx hb dX0_value_6 (by decide) ?_
  refine k_rV (As := [.int (nI w), .int (nI 63)]) (rest := []) (c_X0_worthOfPlaces l B0 g ct ad cS mS x w 63 (by omega) (by omega)) hC ⟨hx, hb, hml, hown, hts⟩ (cwV 2 hts gX0_value_X0_worthOfPlaces rfl rfl rfl (by decide +kernel) ⟨Nat.le_of_ble_eq_true rfl, Nat.le_of_ble_eq_true rfl⟩) (rc0 hC) rfl hl.1 rfl (Nat.le_of_ble_eq_true rfl) dX0_value_8 ⟨Nat.le_of_ble_eq_true rfl, Nat.le_of_ble_eq_true rfl⟩ ?_
  exact W.iret hx hb hr (fun t ht hW => ⟨_, rfl, (congrArg nI (wm_63 hw)), ht⟩) (fun q hq => absurd hq List.not_mem_nil) dX0_value_11
set_option maxHeartbeats 4000000 in
set_option maxRecDepth 100000 in
theorem c_X0_word (l : Launch) (B0 : Nat) (g : va_G) (ct ad : Nat → Nat) (cS : St_) (mS : Pl_) (x : Ax_) (i w q : Nat) (hi : i < sn cS) (hw : w < ss cS i) (hq : q < 5) : RI l yX0_word wsX0_word 3 (PX B0 g ct ad cS mS x [.ref (ad 0), .int (nI i), .int (nI w), .int (nI q)]) (nI (wt_ cS i w q)) := by
  refine Met.ofW (cc := cX0_word) (maxL := 4) (ret := (some .int)) (by decide) rfl ?_
  intro p e s m args below meth c s₁ B hml hv
  obtain ⟨rfl, hC⟩ := hv
  have hx := B.exec
  have hb := B.bytes
  have hr := B.returns
  have hts := atoms_spec (ws := wsX0_word) B.pre
  have hown : s.vm.findClass RX0 = some m.cls := findClass_of_methodNamed B.named
  have hlocks := B.notSynchronized
  have hin : ∀ w ∈ wsX00, w ∈ wsX0_word := fun _ h => List.mem_cons_of_mem _ (List.mem_append_left _ (List.mem_append_right _ h))
  have hI := hC.1.2.2.2
  have hn := hI.2.1
  have hz := hI.2.2.1 i
  have hl := lv_entry ([.ref (ad 0), .int (nI i), .int (nI w), .int (nI q)]) (n := 4) (Nat.le_of_ble_eq_true rfl)
  rw [lg_entry_eq]
  generalize (lg_sl ([.ref (ad 0), .int (nI i), .int (nI w), .int (nI q)]) ++ List.replicate (4 - (lg_sl ([.ref (ad 0), .int (nI i), .int (nI w), .int (nI q)])).length) Slot.unset).toArray = ls at hl ⊢
  have hl : lv_has ls 4 [(0, .ref (ad 0)), (1, .int (nI i)), (2, .int (nI w)), (3, .int (nI q))] := hl
  refine lv_aload_n hx hb dX0_word_0 rfl (lv_at hl 0 rfl) ?_
  refine lv_iload_n hx hb dX0_word_1 rfl (lv_at hl 1 rfl) ?_
  refine lv_iload_n hx hb dX0_word_2 rfl (lv_at hl 2 rfl) ?_
  refine k_vV (As := [.int (nI i), .int (nI w)]) (rest := []) (c_X0_checkWordOfLine l B0 g ct ad cS mS x i w (by omega) (by omega)) hC ⟨hx, hb, hml, hown, hts⟩ (cwV 2 hts gX0_word_X0_checkWordOfLine rfl rfl rfl (by decide +kernel) ⟨Nat.le_of_ble_eq_true rfl, Nat.le_of_ble_eq_true rfl⟩) (rc0 hC) rfl hl.1 rfl (Nat.le_of_ble_eq_true rfl) dX0_word_3 ⟨Nat.le_of_ble_eq_true rfl, Nat.le_of_ble_eq_true rfl⟩ ?_
  refine lv_iload_n hx hb dX0_word_6 rfl (lv_at hl 3 rfl) ?_
  refine lv_iconst (v := nI 5) hx hb dX0_word_7 (by decide) ?_
  refine k_vS (As := [.int (nI q), .int (nI 5)]) (rest := []) (c_X0_checkWhat l B0 g ct ad cS mS x q 5 (by omega) (by omega)) hC ⟨hx, hb, hml, hown, hts⟩ (va_cwS 2 hts gX0_word_X0_checkWhat rfl rfl rfl (by decide +kernel) ⟨Nat.le_of_ble_eq_true rfl, Nat.le_of_ble_eq_true rfl⟩) rfl hl.1 rfl (Nat.le_of_ble_eq_true rfl) dX0_word_8 ⟨Nat.le_of_ble_eq_true rfl, Nat.le_of_ble_eq_true rfl⟩ ?_
  refine lv_aload_n hx hb dX0_word_11 rfl (lv_at hl 0 rfl) ?_
  refine lv_iload_n hx hb dX0_word_12 rfl (lv_at hl 1 rfl) ?_
  refine lv_iload_n hx hb dX0_word_13 rfl (lv_at hl 2 rfl) ?_
  refine lv_iload_n hx hb dX0_word_14 rfl (lv_at hl 3 rfl) ?_
  refine k_rV (As := [.int (nI i), .int (nI w), .int (nI q)]) (rest := []) (c_X0_figureOfWord l B0 g ct ad cS mS x i w q (by omega) (by omega) (by omega) (fun _ => hI.2.2.2.2.2 i w hw)) hC ⟨hx, hb, hml, hown, hts⟩ (cwV 3 hts gX0_word_X0_figureOfWord rfl rfl rfl (by decide +kernel) ⟨Nat.le_of_ble_eq_true rfl, Nat.le_of_ble_eq_true rfl⟩) (rc0 hC) rfl hl.1 rfl (Nat.le_of_ble_eq_true rfl) dX0_word_15 ⟨Nat.le_of_ble_eq_true rfl, Nat.le_of_ble_eq_true rfl⟩ ?_
  exact W.iret hx hb hr (fun t ht hW => ⟨_, rfl, rfl, ht⟩) (fun q hq => absurd hq List.not_mem_nil) dX0_word_18
set_option maxHeartbeats 4000000 in
set_option maxRecDepth 100000 in
theorem c_X0_line (l : Launch) (B0 : Nat) (g : va_G) (ct ad : Nat → Nat) (cS : St_) (mS : Pl_) (x : Ax_) (i q : Nat) (hi : i < sn cS) (hq : q < 5) : RI l yX0_line wsX0_line 4 (PX B0 g ct ad cS mS x [.ref (ad 0), .int (nI i), .int (nI q)]) (nI (lt_ cS i q)) := by
  refine Met.ofW (cc := cX0_line) (maxL := 3) (ret := (some .int)) (by decide) rfl ?_
  intro p e s m args below meth c s₁ B hml hv
  obtain ⟨rfl, hC⟩ := hv
  have hx := B.exec
  have hb := B.bytes
  have hr := B.returns
  have hts := atoms_spec (ws := wsX0_line) B.pre
  have hown : s.vm.findClass RX0 = some m.cls := findClass_of_methodNamed B.named
  have hlocks := B.notSynchronized
  have hin : ∀ w ∈ wsX00, w ∈ wsX0_line := fun _ h => List.mem_cons_of_mem _ (List.mem_append_left _ (List.mem_append_right _ h))
  have hI := hC.1.2.2.2
  have hn := hI.2.1
  have hl := lv_entry ([.ref (ad 0), .int (nI i), .int (nI q)]) (n := 3) (Nat.le_of_ble_eq_true rfl)
  rw [lg_entry_eq]
  generalize (lg_sl ([.ref (ad 0), .int (nI i), .int (nI q)]) ++ List.replicate (3 - (lg_sl ([.ref (ad 0), .int (nI i), .int (nI q)])).length) Slot.unset).toArray = ls at hl ⊢
  have hl : lv_has ls 3 [(0, .ref (ad 0)), (1, .int (nI i)), (2, .int (nI q))] := hl
  refine lv_aload_n hx hb dX0_line_0 rfl (lv_at hl 0 rfl) ?_
  refine lv_iload_n hx hb dX0_line_1 rfl (lv_at hl 1 rfl) ?_
  refine k_vV (As := [.int (nI i)]) (rest := []) (c_X0_checkLine l B0 g ct ad cS mS x i (by omega)) hC ⟨hx, hb, hml, hown, hts⟩ (cwV 1 hts gX0_line_X0_checkLine rfl rfl rfl (by decide +kernel) ⟨Nat.le_of_ble_eq_true rfl, Nat.le_of_ble_eq_true rfl⟩) (rc0 hC) rfl hl.1 rfl (Nat.le_of_ble_eq_true rfl) dX0_line_2 ⟨Nat.le_of_ble_eq_true rfl, Nat.le_of_ble_eq_true rfl⟩ ?_
  refine lv_iload_n hx hb dX0_line_5 rfl (lv_at hl 2 rfl) ?_
  refine lv_iconst (v := nI 5) hx hb dX0_line_6 (by decide) ?_
  refine k_vS (As := [.int (nI q), .int (nI 5)]) (rest := []) (c_X0_checkWhat l B0 g ct ad cS mS x q 5 (by omega) (by omega)) hC ⟨hx, hb, hml, hown, hts⟩ (va_cwS 2 hts gX0_line_X0_checkWhat rfl rfl rfl (by decide +kernel) ⟨Nat.le_of_ble_eq_true rfl, Nat.le_of_ble_eq_true rfl⟩) rfl hl.1 rfl (Nat.le_of_ble_eq_true rfl) dX0_line_7 ⟨Nat.le_of_ble_eq_true rfl, Nat.le_of_ble_eq_true rfl⟩ ?_
  refine lv_aload_n hx hb dX0_line_10 rfl (lv_at hl 0 rfl) ?_
  refine lv_iload_n hx hb dX0_line_11 rfl (lv_at hl 1 rfl) ?_
  refine lv_iload_n hx hb dX0_line_12 rfl (lv_at hl 2 rfl) ?_
  refine k_rV (As := [.int (nI i), .int (nI q)]) (rest := []) (c_X0_figureOfLine l B0 g ct ad cS mS x i q (by omega) (by omega)) hC ⟨hx, hb, hml, hown, hts⟩ (cwV 2 hts gX0_line_X0_figureOfLine rfl rfl rfl (by decide +kernel) ⟨Nat.le_of_ble_eq_true rfl, Nat.le_of_ble_eq_true rfl⟩) (rc0 hC) rfl hl.1 rfl (Nat.le_of_ble_eq_true rfl) dX0_line_13 ⟨Nat.le_of_ble_eq_true rfl, Nat.le_of_ble_eq_true rfl⟩ ?_
  exact W.iret hx hb hr (fun t ht hW => ⟨_, rfl, rfl, ht⟩) (fun q hq => absurd hq List.not_mem_nil) dX0_line_16
set_option maxHeartbeats 4000000 in
set_option maxRecDepth 100000 in
theorem c_X0_hidden (l : Launch) (B0 : Nat) (g : va_G) (ct ad : Nat → Nat) (cS : St_) (mS : Pl_) (x : Ax_) (i : Nat) (hi : i < sn cS) (yr : Int32) : RI l yX0_hidden wsX0_hidden 3 (PX B0 g ct ad cS mS x [.ref (ad 0), .int (nI i), .int yr]) (hd_ cS i yr (ss cS i) 0) := by
  refine Met.ofW (cc := cX0_hidden) (maxL := 5) (ret := (some .int)) (by decide) rfl ?_
  intro p e s m args below meth c s₁ B hml hv
  obtain ⟨rfl, hC⟩ := hv
  have hx := B.exec
  have hb := B.bytes
  have hr := B.returns
  have hts := atoms_spec (ws := wsX0_hidden) B.pre
  have hown : s.vm.findClass RX0 = some m.cls := findClass_of_methodNamed B.named
  have hlocks := B.notSynchronized
  have hin : ∀ w ∈ wsX00, w ∈ wsX0_hidden := fun _ h => List.mem_cons_of_mem _ (List.mem_append_left _ (List.mem_append_right _ h))
  have hI := hC.1.2.2.2
  have hn := hI.2.1
  have hz := hI.2.2.1 i
  have hl := lv_entry ([.ref (ad 0), .int (nI i), .int yr]) (n := 5) (Nat.le_of_ble_eq_true rfl)
  rw [lg_entry_eq]
  generalize (lg_sl ([.ref (ad 0), .int (nI i), .int yr]) ++ List.replicate (5 - (lg_sl ([.ref (ad 0), .int (nI i), .int yr])).length) Slot.unset).toArray = ls at hl ⊢
  have hl : lv_has ls 5 [(0, .ref (ad 0)), (1, .int (nI i)), (2, .int yr)] := hl
  refine lv_aload_n hx hb dX0_hidden_0 rfl (lv_at hl 0 rfl) ?_
  refine lv_iload_n hx hb dX0_hidden_1 rfl (lv_at hl 1 rfl) ?_
  refine k_vV (As := [.int (nI i)]) (rest := []) (c_X0_checkLine l B0 g ct ad cS mS x i (by omega)) hC ⟨hx, hb, hml, hown, hts⟩ (cwV 1 hts gX0_hidden_X0_checkLine rfl rfl rfl (by decide +kernel) ⟨Nat.le_of_ble_eq_true rfl, Nat.le_of_ble_eq_true rfl⟩) (rc0 hC) rfl hl.1 rfl (Nat.le_of_ble_eq_true rfl) dX0_hidden_2 ⟨Nat.le_of_ble_eq_true rfl, Nat.le_of_ble_eq_true rfl⟩ ?_
  refine lv_iconst (v := nI 0) hx hb dX0_hidden_5 (by decide) ?_
  refine lv_istore_n (lv' := [(3, .int (nI 0)), (0, .ref (ad 0)), (1, .int (nI i)), (2, .int yr)]) hx hb dX0_hidden_6 rfl hl (by decide) rfl (fun ls hl => ?_)
  have LP_7 : ∀ (n_ : Nat) (w : Nat), ss cS i - w < n_ → (hd_ cS i yr (ss cS i - w) w = hd_ cS i yr (ss cS i) 0) → (w ≤ 10) → ∀ ls : Array Slot, lv_has ls 5 [(3, .int (nI w)), (0, .ref (ad 0)), (1, .int (nI i)), (2, .int yr)] → W p l e (headSpec wsX0_hidden (rm_ 3 0 0)).room s m ([.ref (ad 0), .int (nI i), .int yr] : List Value).toArray below meth c s.heap [] 0 0 (MQ below (vp_Si (fun r => r = hd_ cS i yr (ss cS i) 0)) ([.ref (ad 0), .int (nI i), .int yr] : List Value).toArray s 0 0 (fun _ => False)) (F0 m 7 ls []) := by
    intro n_
    induction n_ with
    | zero => intro w hm; exact absurd hm (Nat.not_lt_zero _)
    | succ n_ ih_7 =>
      intro w hm h1 hw_ ls hl
      refine lv_iload_n hx hb dX0_hidden_7 rfl (lv_at hl 0 rfl) ?_
      refine lv_aload_n hx hb dX0_hidden_8 rfl (lv_at hl 1 rfl) ?_
      refine r_g0 hC hx hb hts hin hown 2 (by decide) (hts (.fieldLink RX0 16 "AbjadPoems" "sizes" "[I") (by decide +kernel)) rfl dX0_hidden_9 ?_
      refine lv_iload_n hx hb dX0_hidden_12 rfl (lv_at hl 2 rfl) ?_
      refine r_sz hC hx hb dX0_hidden_13 (j := i) (by omega) ?_
      refine lv_icmp_ge (tgt := 45) hx hb dX0_hidden_14 (by decide) (fun c_14 => ?_) (fun c_14 => ?_)
      · skip
        have n_14 : ss cS i ≤ w := (nI_leI (a := ss cS i) (b := w) (by omega) (by omega)).mp c_14
        have hE : hd_ cS i yr (ss cS i) 0 = -1 := by rw [← h1, hd_e (by omega)]
        refine lv_iconst (v := -1) hx hb dX0_hidden_45 (by decide) ?_
        exact W.iret hx hb hr (fun t ht hW => ⟨_, rfl, (by show (-1) = hd_ cS i yr (ss cS i) 0; rw [hE]), ht⟩) (fun q hq => absurd hq List.not_mem_nil) dX0_hidden_46
      · skip
        have n_14 : ¬ ss cS i ≤ w := fun q__ => c_14 ((nI_leI (a := ss cS i) (b := w) (by omega) (by omega)).mpr q__)
        refine lv_aload_n hx hb dX0_hidden_17 rfl (lv_at hl 1 rfl) ?_
        refine lv_iload_n hx hb dX0_hidden_18 rfl (lv_at hl 2 rfl) ?_
        refine lv_iload_n hx hb dX0_hidden_19 rfl (lv_at hl 0 rfl) ?_
        refine lv_iload_n hx hb dX0_hidden_20 rfl (lv_at hl 3 rfl) ?_
        refine k_rV (As := [.int (nI i), .int (nI w), .int yr]) (rest := []) (c_X0_lastOfRun l B0 g ct ad cS mS x i w yr (by omega) (by omega)) hC ⟨hx, hb, hml, hown, hts⟩ (cwV 3 hts gX0_hidden_X0_lastOfRun rfl rfl rfl (by decide +kernel) ⟨Nat.le_of_ble_eq_true rfl, Nat.le_of_ble_eq_true rfl⟩) (rc0 hC) rfl hl.1 rfl (Nat.le_of_ble_eq_true rfl) dX0_hidden_21 ⟨Nat.le_of_ble_eq_true rfl, Nat.le_of_ble_eq_true rfl⟩ ?_
        refine lv_istore (lv' := [(4, .int (ru_ cS i yr w)), (3, .int (nI w)), (0, .ref (ad 0)), (1, .int (nI i)), (2, .int yr)]) hx hb dX0_hidden_24 hl (by decide) rfl (fun ls hl => ?_)
        refine lv_iload hx hb dX0_hidden_26 (lv_at hl 0 rfl) ?_
        refine lv_if_lt (tgt := 39) hx hb dX0_hidden_28 (by decide) (fun c_28 => ?_) (fun c_28 => ?_)
        · skip
          have n_28 := (ru_i (y := yr) hI.2.2.1 (show w < ss cS i by omega)).mp c_28
          refine lv_iinc (v := nI (w + 1)) (lv' := [(3, .int (nI (w + 1))), (4, .int (ru_ cS i yr w)), (0, .ref (ad 0)), (1, .int (nI i)), (2, .int yr)]) hx hb dX0_hidden_39 hl (k := 1) rfl (nI_1 _) (by decide) rfl (fun ls hl => ?_)
          refine lv_goto (tgt := 7) hx hb dX0_hidden_42 (by decide) ?_
          exact ih_7 (w + 1) (by omega) (by rw [← h1, hd_s (show w < ss cS i by omega), if_pos n_28]) (by omega) ls (lv_sub hl [0, 2, 3, 4] rfl)
        · skip
          have n_28 : ¬ ru_ cS i yr w = -1 := fun q => c_28 ((ru_i hI.2.2.1 (show w < ss cS i by omega)).mpr q)
          have hE : hd_ cS i yr (ss cS i) 0 = nI (10 * w) + ru_ cS i yr w := by rw [← h1, hd_s (show w < ss cS i by omega), if_neg n_28]
          refine lv_bipush (v := nI 10) hx hb dX0_hidden_31 (by decide) ?_
          refine lv_iload_n hx hb dX0_hidden_33 rfl (lv_at hl 1 rfl) ?_
          refine lv_imul hx hb dX0_hidden_34 ?_
          refine lv_tn (pk_mul _ _) ?_
          refine lv_iload hx hb dX0_hidden_35 (lv_at hl 0 rfl) ?_
          refine lv_iadd hx hb dX0_hidden_37 ?_
          exact W.iret hx hb hr (fun t ht hW => ⟨_, rfl, (by show (nI (10 * w)) + (ru_ cS i yr w) = hd_ cS i yr (ss cS i) 0; rw [hE]), ht⟩) (fun q hq => absurd hq List.not_mem_nil) dX0_hidden_38
  exact LP_7 _ 0 (Nat.lt_succ_self _) rfl (by omega) ls (lv_sub hl [0, 1, 2, 3] rfl)
set_option maxHeartbeats 4000000 in
set_option maxRecDepth 100000 in
theorem c_X0_hides (l : Launch) (B0 : Nat) (g : va_G) (ct ad : Nat → Nat) (cS : St_) (mS : Pl_) (x : Ax_) (yr : Int32) : RI l yX0_hides wsX0_hides 3 (PX B0 g ct ad cS mS x [.ref (ad 0), .int yr]) (nI (hs_ cS yr)) := by
  refine Met.ofW (cc := cX0_hides) (maxL := 5) (ret := (some .int)) (by decide) rfl ?_
  intro p e s m args below meth c s₁ B hml hv
  obtain ⟨rfl, hC⟩ := hv
  have hx := B.exec
  have hb := B.bytes
  have hr := B.returns
  have hts := atoms_spec (ws := wsX0_hides) B.pre
  have hown : s.vm.findClass RX0 = some m.cls := findClass_of_methodNamed B.named
  have hlocks := B.notSynchronized
  have hin : ∀ w ∈ wsX00, w ∈ wsX0_hides := fun _ h => List.mem_cons_of_mem _ (List.mem_append_right _ h)
  have hI := hC.1.2.2.2
  have hn := hI.2.1
  have hl := lv_entry ([.ref (ad 0), .int yr]) (n := 5) (Nat.le_of_ble_eq_true rfl)
  rw [lg_entry_eq]
  generalize (lg_sl ([.ref (ad 0), .int yr]) ++ List.replicate (5 - (lg_sl ([.ref (ad 0), .int yr])).length) Slot.unset).toArray = ls at hl ⊢
  have hl : lv_has ls 5 [(0, .ref (ad 0)), (1, .int yr)] := hl
  refine lv_iconst (v := nI 0) hx hb dX0_hides_0 (by decide) ?_
  refine lv_istore_n (lv' := [(2, .int (nI 0)), (0, .ref (ad 0)), (1, .int yr)]) hx hb dX0_hides_1 rfl hl (by decide) rfl (fun ls hl => ?_)
  refine lv_iconst (v := nI 0) hx hb dX0_hides_2 (by decide) ?_
  refine lv_istore_n (lv' := [(3, .int (nI 0)), (2, .int (nI 0)), (0, .ref (ad 0)), (1, .int yr)]) hx hb dX0_hides_3 rfl hl (by decide) rfl (fun ls hl => ?_)
  have LP_4 : ∀ (n_ : Nat) (t : Nat) (k : Nat), sn cS - k < n_ → (t = qs_ (fun l => hl_ cS yr l) k) → (k ≤ sn cS) → ∀ ls : Array Slot, lv_has ls 5 [(3, .int (nI k)), (2, .int (nI t)), (0, .ref (ad 0)), (1, .int yr)] → W p l e (headSpec wsX0_hides (rm_ 3 0 0)).room s m ([.ref (ad 0), .int yr] : List Value).toArray below meth c s.heap [] 0 0 (MQ below (vp_Si (fun r => r = nI (hs_ cS yr))) ([.ref (ad 0), .int yr] : List Value).toArray s 0 0 (fun _ => False)) (F0 m 4 ls []) := by
    intro n_
    induction n_ with
    | zero => intro t k hm; exact absurd hm (Nat.not_lt_zero _)
    | succ n_ ih_4 =>
      intro t k hm ht hk ls hl
      have hz := hI.2.2.1 k
      refine lv_iload_n hx hb dX0_hides_4 rfl (lv_at hl 0 rfl) ?_
      refine lv_aload_n hx hb dX0_hides_5 rfl (lv_at hl 2 rfl) ?_
      refine r_g0 hC hx hb hts hin hown 1 (by decide) (hts (.fieldLink RX0 13 "AbjadPoems" "lines" "I") (by decide +kernel)) rfl dX0_hides_6 ?_
      refine lv_icmp_ge (tgt := 52) hx hb dX0_hides_9 (by decide) (fun c_9 => ?_) (fun c_9 => ?_)
      · skip
        have n_9 : sn cS ≤ k := (nI_leI (a := sn cS) (b := k) (by omega) (by omega)).mp c_9
        have hE : t = hs_ cS yr := by rw [ht, show k = sn cS by omega]; rfl
        refine lv_iload_n hx hb dX0_hides_52 rfl (lv_at hl 1 rfl) ?_
        exact W.iret hx hb hr (fun t ht hW => ⟨_, rfl, (congrArg nI hE), ht⟩) (fun q hq => absurd hq List.not_mem_nil) dX0_hides_53
      · skip
        have n_9 : ¬ sn cS ≤ k := fun q__ => c_9 ((nI_leI (a := sn cS) (b := k) (by omega) (by omega)).mpr q__)
        refine lv_iconst (v := nI 0) hx hb dX0_hides_12 (by decide) ?_
        refine lv_istore (lv' := [(4, .int (nI 0)), (3, .int (nI k)), (2, .int (nI t)), (0, .ref (ad 0)), (1, .int yr)]) hx hb dX0_hides_13 hl (by decide) rfl (fun ls hl => ?_)
        have LP_15 : ∀ (n_ : Nat) (u : Nat) (w : Nat), ss cS k - w < n_ → (u = t + qs_ (hf_ cS yr k) w) → (w ≤ ss cS k) → ∀ ls : Array Slot, lv_has ls 5 [(4, .int (nI w)), (3, .int (nI k)), (2, .int (nI u)), (0, .ref (ad 0)), (1, .int yr)] → W p l e (headSpec wsX0_hides (rm_ 3 0 0)).room s m ([.ref (ad 0), .int yr] : List Value).toArray below meth c s.heap [] 0 0 (MQ below (vp_Si (fun r => r = nI (hs_ cS yr))) ([.ref (ad 0), .int yr] : List Value).toArray s 0 0 (fun _ => False)) (F0 m 15 ls []) := by
          intro n_
          induction n_ with
          | zero => intro u w hm; exact absurd hm (Nat.not_lt_zero _)
          | succ n_ ih_15 =>
            intro u w hm hu hw_ ls hl
            refine lv_iload hx hb dX0_hides_15 (lv_at hl 0 rfl) ?_
            refine lv_aload_n hx hb dX0_hides_17 rfl (lv_at hl 3 rfl) ?_
            refine r_g0 hC hx hb hts hin hown 2 (by decide) (hts (.fieldLink RX0 16 "AbjadPoems" "sizes" "[I") (by decide +kernel)) rfl dX0_hides_18 ?_
            refine lv_iload_n hx hb dX0_hides_21 rfl (lv_at hl 1 rfl) ?_
            refine r_sz hC hx hb dX0_hides_22 (j := k) (by omega) ?_
            refine lv_icmp_ge (tgt := 46) hx hb dX0_hides_23 (by decide) (fun c_23 => ?_) (fun c_23 => ?_)
            · skip
              have n_23 : ss cS k ≤ w := (nI_leI (a := ss cS k) (b := w) (by omega) (by omega)).mp c_23
              refine lv_iinc (v := nI (k + 1)) (lv' := [(3, .int (nI (k + 1))), (4, .int (nI w)), (2, .int (nI u)), (0, .ref (ad 0)), (1, .int yr)]) hx hb dX0_hides_46 hl (k := 1) rfl (nI_1 _) (by decide) rfl (fun ls hl => ?_)
              refine lv_goto (tgt := 4) hx hb dX0_hides_49 (by decide) ?_
              exact ih_4 u (k + 1) (by omega) (by rw [hu, show w = ss cS k by omega, ht]; rfl) (by omega) ls (lv_sub hl [0, 2, 3, 4] rfl)
            · skip
              have n_23 : ¬ ss cS k ≤ w := fun q__ => c_23 ((nI_leI (a := ss cS k) (b := w) (by omega) (by omega)).mpr q__)
              refine lv_aload_n hx hb dX0_hides_26 rfl (lv_at hl 3 rfl) ?_
              refine lv_iload_n hx hb dX0_hides_27 rfl (lv_at hl 1 rfl) ?_
              refine lv_iload hx hb dX0_hides_28 (lv_at hl 0 rfl) ?_
              refine lv_iload_n hx hb dX0_hides_30 rfl (lv_at hl 4 rfl) ?_
              refine k_rV (As := [.int (nI k), .int (nI w), .int yr]) (rest := []) (c_X0_lastOfRun l B0 g ct ad cS mS x k w yr (by omega) (by omega)) hC ⟨hx, hb, hml, hown, hts⟩ (cwV 3 hts gX0_hides_X0_lastOfRun rfl rfl rfl (by decide +kernel) ⟨Nat.le_of_ble_eq_true rfl, Nat.le_of_ble_eq_true rfl⟩) (rc0 hC) rfl hl.1 rfl (Nat.le_of_ble_eq_true rfl) dX0_hides_31 ⟨Nat.le_of_ble_eq_true rfl, Nat.le_of_ble_eq_true rfl⟩ ?_
              refine lv_if_lt (tgt := 40) hx hb dX0_hides_34 (by decide) (fun c_34 => ?_) (fun c_34 => ?_)
              · skip
                have n_34 := (ru_i (y := yr) hI.2.2.1 (show w < ss cS k by omega)).mp c_34
                refine lv_iinc (v := nI (w + 1)) (lv' := [(4, .int (nI (w + 1))), (3, .int (nI k)), (2, .int (nI u)), (0, .ref (ad 0)), (1, .int yr)]) hx hb dX0_hides_40 hl (k := 0) rfl (nI_1 _) (by decide) rfl (fun ls hl => ?_)
                refine lv_goto (tgt := 15) hx hb dX0_hides_43 (by decide) ?_
                exact ih_15 u (w + 1) (by omega) (by first | rw [hf_t n_34]; exact hu | rw [hf_f n_34, hu]; rfl) (by omega) ls (lv_sub hl [0, 1, 2, 3, 4] rfl)
              · skip
                have n_34 : ¬ ru_ cS k yr w = -1 := fun q => c_34 ((ru_i hI.2.2.1 (show w < ss cS k by omega)).mpr q)
                refine lv_iinc (v := nI (u + 1)) (lv' := [(2, .int (nI (u + 1))), (4, .int (nI w)), (3, .int (nI k)), (0, .ref (ad 0)), (1, .int yr)]) hx hb dX0_hides_37 hl (k := 2) rfl (nI_1 _) (by decide) rfl (fun ls hl => ?_)
                refine lv_iinc (v := nI (w + 1)) (lv' := [(4, .int (nI (w + 1))), (2, .int (nI (u + 1))), (3, .int (nI k)), (0, .ref (ad 0)), (1, .int yr)]) hx hb dX0_hides_40 hl (k := 1) rfl (nI_1 _) (by decide) rfl (fun ls hl => ?_)
                refine lv_goto (tgt := 15) hx hb dX0_hides_43 (by decide) ?_
                exact ih_15 (u + 1) (w + 1) (by omega) (by first | rw [hf_t n_34]; exact hu | rw [hf_f n_34, hu]; rfl) (by omega) ls (lv_sub hl [0, 2, 1, 3, 4] rfl)
        exact LP_15 _ t 0 (Nat.lt_succ_self _) rfl (Nat.zero_le _) ls (lv_sub hl [0, 1, 2, 3, 4] rfl)
  exact LP_4 _ 0 0 (Nat.lt_succ_self _) rfl (Nat.zero_le _) ls (lv_sub hl [0, 1, 2, 3] rfl)
set_option maxHeartbeats 4000000 in
set_option maxRecDepth 100000 in
theorem c_X0_lacks (l : Launch) (B0 : Nat) (g : va_G) (ct ad : Nat → Nat) (cS : St_) (mS : Pl_) (x : Ax_) (i : Nat) (hi : i < sn cS) (yr : Int32) : RI l yX0_lacks wsX0_lacks 4 (PX B0 g ct ad cS mS x [.ref (ad 0), .int (nI i), .int yr]) (lk_ cS i yr 26 1) := by
  refine Met.ofW (cc := cX0_lacks) (maxL := 5) (ret := (some .int)) (by decide) rfl ?_
  intro p e s m args below meth c s₁ B hml hv
  obtain ⟨rfl, hC⟩ := hv
  have hx := B.exec
  have hb := B.bytes
  have hr := B.returns
  have hts := atoms_spec (ws := wsX0_lacks) B.pre
  have hown : s.vm.findClass RX0 = some m.cls := findClass_of_methodNamed B.named
  have hlocks := B.notSynchronized
  have hin : ∀ w ∈ wsX00, w ∈ wsX0_lacks := fun _ h => List.mem_cons_of_mem _ (List.mem_append_left _ (List.mem_append_right _ h))
  have hI := hC.1.2.2.2
  have hn := hI.2.1
  have hl := lv_entry ([.ref (ad 0), .int (nI i), .int yr]) (n := 5) (Nat.le_of_ble_eq_true rfl)
  rw [lg_entry_eq]
  generalize (lg_sl ([.ref (ad 0), .int (nI i), .int yr]) ++ List.replicate (5 - (lg_sl ([.ref (ad 0), .int (nI i), .int yr])).length) Slot.unset).toArray = ls at hl ⊢
  have hl : lv_has ls 5 [(0, .ref (ad 0)), (1, .int (nI i)), (2, .int yr)] := hl
  refine lv_aload_n hx hb dX0_lacks_0 rfl (lv_at hl 0 rfl) ?_
  refine lv_iload_n hx hb dX0_lacks_1 rfl (lv_at hl 1 rfl) ?_
  refine k_vV (As := [.int (nI i)]) (rest := []) (c_X0_checkLine l B0 g ct ad cS mS x i (by omega)) hC ⟨hx, hb, hml, hown, hts⟩ (cwV 1 hts gX0_lacks_X0_checkLine rfl rfl rfl (by decide +kernel) ⟨Nat.le_of_ble_eq_true rfl, Nat.le_of_ble_eq_true rfl⟩) (rc0 hC) rfl hl.1 rfl (Nat.le_of_ble_eq_true rfl) dX0_lacks_2 ⟨Nat.le_of_ble_eq_true rfl, Nat.le_of_ble_eq_true rfl⟩ ?_
  refine lv_aload_n hx hb dX0_lacks_5 rfl (lv_at hl 0 rfl) ?_
  refine lv_iload_n hx hb dX0_lacks_6 rfl (lv_at hl 1 rfl) ?_
  refine lv_iconst (v := nI 2) hx hb dX0_lacks_7 (by decide) ?_
  refine k_rV (As := [.int (nI i), .int (nI 2)]) (rest := []) (c_X0_figureOfLine l B0 g ct ad cS mS x i 2 (by omega) (by omega)) hC ⟨hx, hb, hml, hown, hts⟩ (cwV 2 hts gX0_lacks_X0_figureOfLine rfl rfl rfl (by decide +kernel) ⟨Nat.le_of_ble_eq_true rfl, Nat.le_of_ble_eq_true rfl⟩) (rc0 hC) rfl hl.1 rfl (Nat.le_of_ble_eq_true rfl) dX0_lacks_8 ⟨Nat.le_of_ble_eq_true rfl, Nat.le_of_ble_eq_true rfl⟩ ?_
  refine lv_istore_n (lv' := [(3, .int (nI (lt_ cS i 2))), (0, .ref (ad 0)), (1, .int (nI i)), (2, .int yr)]) hx hb dX0_lacks_11 rfl hl (by decide) rfl (fun ls hl => ?_)
  refine lv_iconst (v := nI 1) hx hb dX0_lacks_12 (by decide) ?_
  refine lv_istore (lv' := [(4, .int (nI 1)), (3, .int (nI (lt_ cS i 2))), (0, .ref (ad 0)), (1, .int (nI i)), (2, .int yr)]) hx hb dX0_lacks_13 hl (by decide) rfl (fun ls hl => ?_)
  have LP_15 : ∀ (n_ : Nat) (k : Nat), 27 - k < n_ → (lk_ cS i yr (27 - k) k = lk_ cS i yr 26 1) → (1 ≤ k ∧ k ≤ 27) → ∀ ls : Array Slot, lv_has ls 5 [(4, .int (nI k)), (3, .int (nI (lt_ cS i 2))), (0, .ref (ad 0)), (1, .int (nI i)), (2, .int yr)] → W p l e (headSpec wsX0_lacks (rm_ 4 0 0)).room s m ([.ref (ad 0), .int (nI i), .int yr] : List Value).toArray below meth c s.heap [] 0 0 (MQ below (vp_Si (fun r => r = lk_ cS i yr 26 1)) ([.ref (ad 0), .int (nI i), .int yr] : List Value).toArray s 0 0 (fun _ => False)) (F0 m 15 ls []) := by
    intro n_
    induction n_ with
    | zero => intro k hm; exact absurd hm (Nat.not_lt_zero _)
    | succ n_ ih_15 =>
      intro k hm h1 hk ls hl
      refine lv_iload hx hb dX0_lacks_15 (lv_at hl 0 rfl) ?_
      refine lv_bipush (v := nI 26) hx hb dX0_lacks_17 (by decide) ?_
      refine lv_icmp_gt (tgt := 43) hx hb dX0_lacks_19 (by decide) (fun c_19 => ?_) (fun c_19 => ?_)
      · skip
        have n_19 : 26 < k := (nI_ltI (a := 26) (b := k) (by omega) (by omega)).mp c_19
        have hE : lk_ cS i yr 26 1 = -1 := by rw [← h1, show 27 - k = 0 by omega]; rfl
        refine lv_iconst (v := -1) hx hb dX0_lacks_43 (by decide) ?_
        exact W.iret hx hb hr (fun t ht hW => ⟨_, rfl, (by show (-1) = lk_ cS i yr 26 1; rw [hE]), ht⟩) (fun q hq => absurd hq List.not_mem_nil) dX0_lacks_44
      · skip
        have n_19 : ¬ 26 < k := fun q__ => c_19 ((nI_ltI (a := 26) (b := k) (by omega) (by omega)).mpr q__)
        refine lv_iload_n hx hb dX0_lacks_22 rfl (lv_at hl 1 rfl) ?_
        refine lv_aload_n hx hb dX0_lacks_23 rfl (lv_at hl 2 rfl) ?_
        refine lv_iload hx hb dX0_lacks_24 (lv_at hl 0 rfl) ?_
        refine k_rV (As := [.int (nI k)]) (rest := [.int (nI (lt_ cS i 2))]) (c_X0_worthOfLetter l B0 g ct ad cS mS x k (by omega)) hC ⟨hx, hb, hml, hown, hts⟩ (cwV 1 hts gX0_lacks_X0_worthOfLetter rfl rfl rfl (by decide +kernel) ⟨Nat.le_of_ble_eq_true rfl, Nat.le_of_ble_eq_true rfl⟩) (rc0 hC) rfl hl.1 rfl (Nat.le_of_ble_eq_true rfl) dX0_lacks_26 ⟨Nat.le_of_ble_eq_true rfl, Nat.le_of_ble_eq_true rfl⟩ ?_
        refine lv_iadd hx hb dX0_lacks_29 ?_
        refine lv_tn (nI_add _ _) ?_
        refine lv_iload_n hx hb dX0_lacks_30 rfl (lv_at hl 4 rfl) ?_
        refine lv_icmp_ne (tgt := 37) hx hb dX0_lacks_31 (by decide) (fun c_31 => ?_) (fun c_31 => ?_)
        · skip
          refine lv_iinc (v := nI (k + 1)) (lv' := [(4, .int (nI (k + 1))), (3, .int (nI (lt_ cS i 2))), (0, .ref (ad 0)), (1, .int (nI i)), (2, .int yr)]) hx hb dX0_lacks_37 hl (k := 0) rfl (nI_1 _) (by decide) rfl (fun ls hl => ?_)
          refine lv_goto (tgt := 15) hx hb dX0_lacks_40 (by decide) ?_
          exact ih_15 (k + 1) (by omega) (by rw [← h1, lk_s (show k < 27 by omega), if_neg c_31]) (by omega) ls (lv_sub hl [0, 1, 2, 3, 4] rfl)
        · skip
          have hE : lk_ cS i yr 26 1 = nI k := by rw [← h1, lk_s (show k < 27 by omega), if_pos c_31]
          refine lv_iload hx hb dX0_lacks_34 (lv_at hl 0 rfl) ?_
          exact W.iret hx hb hr (fun t ht hW => ⟨_, rfl, (by show nI k = lk_ cS i yr 26 1; rw [hE]), ht⟩) (fun q hq => absurd hq List.not_mem_nil) dX0_lacks_36
  exact LP_15 _ 1 (Nat.lt_succ_self _) rfl (by omega) ls (lv_sub hl [0, 1, 2, 3, 4] rfl)
set_option maxHeartbeats 4000000 in
set_option maxRecDepth 100000 in
theorem c_X0_nearest (l : Launch) (B0 : Nat) (g : va_G) (ct ad : Nat → Nat) (cS : St_) (mS : Pl_) (x : Ax_) (yr : Int32) : RI l yX0_nearest wsX0_nearest 4 (PX B0 g ct ad cS mS x [.ref (ad 0), .int yr]) (ni_ (nr_ cS yr (sn cS))) := by
  refine Met.ofW (cc := cX0_nearest) (maxL := 8) (ret := (some .int)) (by decide) rfl ?_
  intro p e s m args below meth c s₁ B hml hv
  obtain ⟨rfl, hC⟩ := hv
  have hx := B.exec
  have hb := B.bytes
  have hr := B.returns
  have hts := atoms_spec (ws := wsX0_nearest) B.pre
  have hown : s.vm.findClass RX0 = some m.cls := findClass_of_methodNamed B.named
  have hlocks := B.notSynchronized
  have hin : ∀ w ∈ wsX00, w ∈ wsX0_nearest := fun _ h => List.mem_cons_of_mem _ (List.mem_append_right _ h)
  have hI := hC.1.2.2.2
  have hn := hI.2.1
  have hl := lv_entry ([.ref (ad 0), .int yr]) (n := 8) (Nat.le_of_ble_eq_true rfl)
  rw [lg_entry_eq]
  generalize (lg_sl ([.ref (ad 0), .int yr]) ++ List.replicate (8 - (lg_sl ([.ref (ad 0), .int yr])).length) Slot.unset).toArray = ls at hl ⊢
  have hl : lv_has ls 8 [(0, .ref (ad 0)), (1, .int yr)] := hl
  refine lv_iconst (v := -1) hx hb dX0_nearest_0 (by decide) ?_
  refine lv_istore_n (lv' := [(2, .int ((-1))), (0, .ref (ad 0)), (1, .int yr)]) hx hb dX0_nearest_1 rfl hl (by decide) rfl (fun ls hl => ?_)
  refine lv_lconst (v := 0) hx hb dX0_nearest_2 rfl ?_
  refine lv_lstore_n (lv' := [(3, .long 0), (2, .int ((-1))), (0, .ref (ad 0)), (1, .int yr)]) hx hb dX0_nearest_3 rfl hl (by decide) rfl (fun ls hl => ?_)
  refine lv_iconst (v := nI 0) hx hb dX0_nearest_4 (by decide) ?_
  refine lv_istore (lv' := [(5, .int (nI 0)), (3, .long 0), (2, .int ((-1))), (0, .ref (ad 0)), (1, .int yr)]) hx hb dX0_nearest_5 hl (by decide) rfl (fun ls hl => ?_)
  have LP_7 : ∀ (n_ : Nat) (bi : Int32) (bg : Int64) (k : Nat), sn cS - k < n_ → (bi = ni_ (nr_ cS yr k)) → (∀ b, nr_ cS yr k = some b → bg = gp_ cS yr b) → (k ≤ sn cS) → ∀ ls : Array Slot, lv_has ls 8 [(5, .int (nI k)), (3, .long bg), (2, .int bi), (0, .ref (ad 0)), (1, .int yr)] → W p l e (headSpec wsX0_nearest (rm_ 4 0 0)).room s m ([.ref (ad 0), .int yr] : List Value).toArray below meth c s.heap [] 0 0 (MQ below (vp_Si (fun r => r = ni_ (nr_ cS yr (sn cS)))) ([.ref (ad 0), .int yr] : List Value).toArray s 0 0 (fun _ => False)) (F0 m 7 ls []) := by
    intro n_
    induction n_ with
    | zero => intro bi bg k hm; exact absurd hm (Nat.not_lt_zero _)
    | succ n_ ih_7 =>
      intro bi bg k hm hb_ hg hk ls hl
      have hlt : ∀ b, nr_ cS yr k = some b → b < 2 ^ 31 := fun b q => by have := nr_lt q; omega
      refine lv_iload hx hb dX0_nearest_7 (lv_at hl 0 rfl) ?_
      refine lv_aload_n hx hb dX0_nearest_9 rfl (lv_at hl 3 rfl) ?_
      refine r_g0 hC hx hb hts hin hown 1 (by decide) (hts (.fieldLink RX0 13 "AbjadPoems" "lines" "I") (by decide +kernel)) rfl dX0_nearest_10 ?_
      refine lv_icmp_ge (tgt := 55) hx hb dX0_nearest_13 (by decide) (fun c_13 => ?_) (fun c_13 => ?_)
      · skip
        have n_13 : sn cS ≤ k := (nI_leI (a := sn cS) (b := k) (by omega) (by omega)).mp c_13
        have hE : bi = ni_ (nr_ cS yr (sn cS)) := by rw [hb_, show k = sn cS by omega]
        refine lv_iload_n hx hb dX0_nearest_55 rfl (lv_at hl 2 rfl) ?_
        exact W.iret hx hb hr (fun t ht hW => ⟨_, rfl, hE, ht⟩) (fun q hq => absurd hq List.not_mem_nil) dX0_nearest_56
      · skip
        have n_13 : ¬ sn cS ≤ k := fun q__ => c_13 ((nI_leI (a := sn cS) (b := k) (by omega) (by omega)).mpr q__)
        refine lv_aload_n hx hb dX0_nearest_16 rfl (lv_at hl 3 rfl) ?_
        refine lv_iload hx hb dX0_nearest_17 (lv_at hl 0 rfl) ?_
        refine lv_iconst (v := nI 2) hx hb dX0_nearest_19 (by decide) ?_
        refine k_rV (As := [.int (nI k), .int (nI 2)]) (rest := []) (c_X0_figureOfLine l B0 g ct ad cS mS x k 2 (by omega) (by omega)) hC ⟨hx, hb, hml, hown, hts⟩ (cwV 2 hts gX0_nearest_X0_figureOfLine rfl rfl rfl (by decide +kernel) ⟨Nat.le_of_ble_eq_true rfl, Nat.le_of_ble_eq_true rfl⟩) (rc0 hC) rfl hl.1 rfl (Nat.le_of_ble_eq_true rfl) dX0_nearest_20 ⟨Nat.le_of_ble_eq_true rfl, Nat.le_of_ble_eq_true rfl⟩ ?_
        refine lv_i2l (v := (nI (lt_ cS k 2)).toInt64) hx hb dX0_nearest_23 rfl ?_
        refine lv_iload_n hx hb dX0_nearest_24 rfl (lv_at hl 4 rfl) ?_
        refine lv_i2l (v := (yr).toInt64) hx hb dX0_nearest_25 rfl ?_
        refine lv_lsub hx hb dX0_nearest_26 ?_
        refine va_mabs_long hx hb (hml.trans hl.1.symm) hown (hts (.methodLink RX0 107 Lib.MathLoose.abs_long.x) (by decide +kernel)) (hts (.static Lib.MathLoose.abs_long.x) (by decide +kernel)) (hts (.initialized "java/lang/Math") (by decide +kernel)) (hts (.code Lib.MathLoose.abs_long.x Lib.MathLoose.abs_long.code 2 (some .long)) (by decide +kernel)) (Nat.le_of_ble_eq_true rfl) (Nat.le_of_ble_eq_true rfl) (Nat.zero_le _) (Nat.zero_le _) dX0_nearest_27 ?_
        refine lv_tl (w := gp_ cS yr k) rfl ?_
        refine lv_lstore (lv' := [(6, .long (gp_ cS yr k)), (5, .int (nI k)), (3, .long bg), (2, .int bi), (0, .ref (ad 0)), (1, .int yr)]) hx hb dX0_nearest_30 hl (by decide) rfl (fun ls hl => ?_)
        refine lv_iload_n hx hb dX0_nearest_32 rfl (lv_at hl 3 rfl) ?_
        refine lv_if_lt (tgt := 43) hx hb dX0_nearest_33 (by decide) (fun c_33 => ?_) (fun c_33 => ?_)
        · skip
          have n_33 : nr_ cS yr k = none := (ni_neg hlt).mp (by rw [← hb_]; exact c_33)
          have hN : nr_ cS yr (k + 1) = some k := by rw [nr_, n_33]
          have hS1 : nI k = ni_ (nr_ cS yr (k + 1)) := by rw [hN]; rfl
          have hS2 : ∀ b, nr_ cS yr (k + 1) = some b → gp_ cS yr k = gp_ cS yr b := fun b q => by rw [hN] at q; cases q; rfl
          refine lv_iload hx hb dX0_nearest_43 (lv_at hl 1 rfl) ?_
          refine lv_istore_n (lv' := [(2, .int (nI k)), (6, .long (gp_ cS yr k)), (5, .int (nI k)), (3, .long bg), (0, .ref (ad 0)), (1, .int yr)]) hx hb dX0_nearest_45 rfl hl (by decide) rfl (fun ls hl => ?_)
          refine lv_lload hx hb dX0_nearest_46 (lv_at hl 1 rfl) ?_
          refine lv_lstore_n (lv' := [(3, .long (gp_ cS yr k)), (2, .int (nI k)), (6, .long (gp_ cS yr k)), (5, .int (nI k)), (0, .ref (ad 0)), (1, .int yr)]) hx hb dX0_nearest_48 rfl hl (by decide) rfl (fun ls hl => ?_)
          refine lv_iinc (v := nI (k + 1)) (lv' := [(5, .int (nI (k + 1))), (3, .long (gp_ cS yr k)), (2, .int (nI k)), (6, .long (gp_ cS yr k)), (0, .ref (ad 0)), (1, .int yr)]) hx hb dX0_nearest_49 hl (k := 3) rfl (nI_1 _) (by decide) rfl (fun ls hl => ?_)
          refine lv_goto (tgt := 7) hx hb dX0_nearest_52 (by decide) ?_
          exact ih_7 (nI k) (gp_ cS yr k) (k + 1) (by omega) (hS1) (hS2) (by omega) ls (lv_sub hl [0, 1, 2, 4, 5] rfl)
        · skip
          obtain ⟨b0, n_33⟩ : ∃ b0, nr_ cS yr k = some b0 := by
            cases e9 : nr_ cS yr k with
            | none => exact absurd (by rw [hb_, e9]; decide) c_33
            | some b0 => exact ⟨b0, rfl⟩
          have hg0 := hg b0 n_33
          refine lv_lload hx hb dX0_nearest_36 (lv_at hl 0 rfl) ?_
          refine lv_lload_n hx hb dX0_nearest_38 rfl (lv_at hl 2 rfl) ?_
          refine W.lcmp hx hb dX0_nearest_39 ?_
          refine lv_if_ge (tgt := 49) hx hb dX0_nearest_40 (by decide) (fun c_40 => ?_) (fun c_40 => ?_)
          · skip
            have n_40 := (lc_ _ _).mp c_40
            rw [hg0] at n_40
            have hN : nr_ cS yr (k + 1) = some b0 := by rw [nr_, n_33]; exact if_neg n_40
            have hS1 : bi = ni_ (nr_ cS yr (k + 1)) := by rw [hN, hb_, n_33]
            have hS2 : ∀ b, nr_ cS yr (k + 1) = some b → bg = gp_ cS yr b := fun b q => by rw [hN] at q; cases q; exact hg0
            refine lv_iinc (v := nI (k + 1)) (lv' := [(5, .int (nI (k + 1))), (6, .long (gp_ cS yr k)), (3, .long bg), (2, .int bi), (0, .ref (ad 0)), (1, .int yr)]) hx hb dX0_nearest_49 hl (k := 1) rfl (nI_1 _) (by decide) rfl (fun ls hl => ?_)
            refine lv_goto (tgt := 7) hx hb dX0_nearest_52 (by decide) ?_
            exact ih_7 bi bg (k + 1) (by omega) (hS1) (hS2) (by omega) ls (lv_sub hl [0, 2, 3, 4, 5] rfl)
          · skip
            have n_40 : gp_ cS yr k < gp_ cS yr b0 := by
              rw [← hg0]
              exact Decidable.of_not_not (fun q => c_40 ((lc_ _ _).mpr q))
            have hN : nr_ cS yr (k + 1) = some k := by rw [nr_, n_33]; exact if_pos n_40
            have hS1 : nI k = ni_ (nr_ cS yr (k + 1)) := by rw [hN]; rfl
            have hS2 : ∀ b, nr_ cS yr (k + 1) = some b → gp_ cS yr k = gp_ cS yr b := fun b q => by rw [hN] at q; cases q; rfl
            refine lv_iload hx hb dX0_nearest_43 (lv_at hl 1 rfl) ?_
            refine lv_istore_n (lv' := [(2, .int (nI k)), (6, .long (gp_ cS yr k)), (5, .int (nI k)), (3, .long bg), (0, .ref (ad 0)), (1, .int yr)]) hx hb dX0_nearest_45 rfl hl (by decide) rfl (fun ls hl => ?_)
            refine lv_lload hx hb dX0_nearest_46 (lv_at hl 1 rfl) ?_
            refine lv_lstore_n (lv' := [(3, .long (gp_ cS yr k)), (2, .int (nI k)), (6, .long (gp_ cS yr k)), (5, .int (nI k)), (0, .ref (ad 0)), (1, .int yr)]) hx hb dX0_nearest_48 rfl hl (by decide) rfl (fun ls hl => ?_)
            refine lv_iinc (v := nI (k + 1)) (lv' := [(5, .int (nI (k + 1))), (3, .long (gp_ cS yr k)), (2, .int (nI k)), (6, .long (gp_ cS yr k)), (0, .ref (ad 0)), (1, .int yr)]) hx hb dX0_nearest_49 hl (k := 3) rfl (nI_1 _) (by decide) rfl (fun ls hl => ?_)
            refine lv_goto (tgt := 7) hx hb dX0_nearest_52 (by decide) ?_
            exact ih_7 (nI k) (gp_ cS yr k) (k + 1) (by omega) (hS1) (hS2) (by omega) ls (lv_sub hl [0, 1, 2, 4, 5] rfl)
  exact LP_7 _ (-1) 0 0 (Nat.lt_succ_self _) rfl (fun b q => by cases q) (Nat.zero_le _) ls (lv_sub hl [0, 1, 2, 3, 4] rfl)
end
section
set_option maxHeartbeats 4000000 in
set_option maxRecDepth 100000 in
theorem c_X0_count (l : Launch) (B0 : Nat) (g : va_G) (ct ad : Nat → Nat) (cS : St_) (mS : Pl_) (x : Ax_) (o : Nat) (ho : o < 3) : WI l yX0_count wsX0_count 0 0 0 B0 g ct ad cS mS x [.ref (ad 0), .int (nI o)] (nI (so cS)) (st_count cS o) mS ((sx_ x)) := by
  refine Met.ofW (cc := cX0_count) (maxL := 3) (ret := (some .int)) (by decide) rfl ?_
  intro p e s m args below meth c s₁ B hml hv
  obtain ⟨rfl, hC⟩ := hv
  have hx := B.exec
  have hb := B.bytes
  have hr := B.returns
  have hts := atoms_spec (ws := wsX0_count) B.pre
  have hown : s.vm.findClass RX0 = some m.cls := findClass_of_methodNamed B.named
  have hlocks := B.notSynchronized
  have hin : ∀ w ∈ wsX00, w ∈ wsX0_count := fun _ h => List.mem_cons_of_mem _ (List.mem_append_left _ (List.mem_append_right _ h))
  have hS : va_S (AA B0) s.heap s.heap [] := va_S.rf
  have hB : B0 ≤ s.heap.size := hC.1.2.2.1
  have hI := hC.1.2.2.2
  have hl := lv_entry ([.ref (ad 0), .int (nI o)]) (n := 3) (Nat.le_of_ble_eq_true rfl)
  rw [lg_entry_eq]
  generalize (lg_sl ([.ref (ad 0), .int (nI o)]) ++ List.replicate (3 - (lg_sl ([.ref (ad 0), .int (nI o)])).length) Slot.unset).toArray = ls at hl ⊢
  have hl : lv_has ls 3 [(0, .ref (ad 0)), (1, .int (nI o))] := hl
  refine lv_iload_n hx hb dX0_count_0 rfl (lv_at hl 1 rfl) ?_
  refine lv_if_lt (tgt := 9) hx hb dX0_count_1 (by decide) (fun c_1 => ?_) (fun c_1 => ?_)
  · skip
    exact absurd c_1 (nI_pos (by omega))
  · skip
    refine lv_iload_n hx hb dX0_count_4 rfl (lv_at hl 1 rfl) ?_
    refine lv_iconst (v := nI 3) hx hb dX0_count_5 (by decide) ?_
    refine lv_icmp_lt (tgt := 19) hx hb dX0_count_6 (by decide) (fun c_6 => ?_) (fun c_6 => ?_)
    · skip
      have n_6 : o < 3 := (nI_ltI (a := o) (b := 3) (by omega) (by omega)).mp c_6
      refine lv_aload_n hx hb dX0_count_19 rfl (lv_at hl 0 rfl) ?_
      refine r_g0 hC hx hb hts hin hown 0 (by decide) (hts (.fieldLink RX0 9 "AbjadPoems" "order" "I") (by decide +kernel)) rfl dX0_count_20 ?_
      refine lv_istore_n (lv' := [(2, .int (nI (so cS))), (0, .ref (ad 0)), (1, .int (nI o))]) hx hb dX0_count_23 rfl hl (by decide) rfl (fun ls hl => ?_)
      refine lv_aload_n hx hb dX0_count_24 rfl (lv_at hl 1 rfl) ?_
      refine lv_iload_n hx hb dX0_count_25 rfl (lv_at hl 2 rfl) ?_
      refine w_f0 (c' := st_count cS o) hC hB hS hx hb hts hin hown 0 (by decide) (hts (.fieldLink RX0 9 "AbjadPoems" "order" "I") (by decide +kernel)) rfl rfl (iv_o hI ho) dX0_count_26 (fun H locs hC hS => ?_)
      refine lv_iload_n hx hb dX0_count_29 rfl (lv_at hl 0 rfl) ?_
      exact W.iret hx hb hr (fun t ht hW => ⟨⟨_, x, rfl, ⟨rfl, (sx_r _)⟩, (by show CW B0 g ct ad (st_count cS o) mS x t.heap; rw [ht]; exact hC.1)⟩, hS.F ht⟩) hS.2.2 dX0_count_30
    · skip
      have n_6 : ¬ o < 3 := fun q__ => c_6 ((nI_ltI (a := o) (b := 3) (by omega) (by omega)).mpr q__)
      exact absurd ho n_6
set_option maxHeartbeats 4000000 in
set_option maxRecDepth 100000 in
theorem c_X0_write (l : Launch) (B0 : Nat) (g : va_G) (ct ad : Nat → Nat) (cS : St_) (mS : Pl_) (x : Ax_) (hn : sn cS < 12) : WI l yX0_write wsX0_write 0 0 0 B0 g ct ad cS mS x [.ref (ad 0)] (nI (sn cS)) (st_write cS) mS ((sx_ x)) := by
  refine Met.ofW (cc := cX0_write) (maxL := 1) (ret := (some .int)) (by decide) rfl ?_
  intro p e s m args below meth c s₁ B hml hv
  obtain ⟨rfl, hC⟩ := hv
  have hx := B.exec
  have hb := B.bytes
  have hr := B.returns
  have hts := atoms_spec (ws := wsX0_write) B.pre
  have hown : s.vm.findClass RX0 = some m.cls := findClass_of_methodNamed B.named
  have hlocks := B.notSynchronized
  have hin : ∀ w ∈ wsX00, w ∈ wsX0_write := fun _ h => List.mem_cons_of_mem _ (List.mem_append_left _ (List.mem_append_right _ h))
  have hS : va_S (AA B0) s.heap s.heap [] := va_S.rf
  have hB : B0 ≤ s.heap.size := hC.1.2.2.1
  have hI := hC.1.2.2.2
  have hl := lv_entry ([.ref (ad 0)]) (n := 1) (Nat.le_of_ble_eq_true rfl)
  rw [lg_entry_eq]
  generalize (lg_sl ([.ref (ad 0)]) ++ List.replicate (1 - (lg_sl ([.ref (ad 0)])).length) Slot.unset).toArray = ls at hl ⊢
  have hl : lv_has ls 1 [(0, .ref (ad 0))] := hl
  refine lv_aload_n hx hb dX0_write_0 rfl (lv_at hl 0 rfl) ?_
  refine r_g0 hC hx hb hts hin hown 1 (by decide) (hts (.fieldLink RX0 13 "AbjadPoems" "lines" "I") (by decide +kernel)) rfl dX0_write_1 ?_
  refine lv_bipush (v := nI 12) hx hb dX0_write_4 (by decide) ?_
  refine lv_icmp_lt (tgt := 19) hx hb dX0_write_6 (by decide) (fun c_6 => ?_) (fun c_6 => ?_)
  · skip
    have n_6 : sn cS < 12 := (nI_ltI (a := sn cS) (b := 12) (by omega) (by omega)).mp c_6
    refine lv_aload_n hx hb dX0_write_19 rfl (lv_at hl 0 rfl) ?_
    refine lv_dup hx hb dX0_write_20 rfl ?_
    refine r_g0 hC hx hb hts hin hown 1 (by decide) (hts (.fieldLink RX0 13 "AbjadPoems" "lines" "I") (by decide +kernel)) rfl dX0_write_21 ?_
    refine lv_iconst (v := nI 1) hx hb dX0_write_24 (by decide) ?_
    refine lv_iadd hx hb dX0_write_25 ?_
    refine lv_tn (nI_add _ _) ?_
    refine w_f0 (c' := st_write cS) hC hB hS hx hb hts hin hown 1 (by decide) (hts (.fieldLink RX0 13 "AbjadPoems" "lines" "I") (by decide +kernel)) rfl rfl (iv_n hI hn) dX0_write_26 (fun H locs hC hS => ?_)
    refine lv_aload_n hx hb dX0_write_29 rfl (lv_at hl 0 rfl) ?_
    refine r_g0 hC hx hb hts hin hown 1 (by decide) (hts (.fieldLink RX0 13 "AbjadPoems" "lines" "I") (by decide +kernel)) rfl dX0_write_30 ?_
    refine lv_iconst (v := nI 1) hx hb dX0_write_33 (by decide) ?_
    refine lv_isub hx hb dX0_write_34 ?_
    refine lv_tn (pk_sub (by show 1 ≤ sn cS + 1; omega)) ?_
    exact W.iret hx hb hr (fun t ht hW => ⟨⟨_, x, rfl, ⟨rfl, (sx_r _)⟩, (by show CW B0 g ct ad (st_write cS) mS x t.heap; rw [ht]; exact hC.1)⟩, hS.F ht⟩) hS.2.2 dX0_write_35
  · skip
    have n_6 : ¬ sn cS < 12 := fun q__ => c_6 ((nI_ltI (a := sn cS) (b := 12) (by omega) (by omega)).mpr q__)
    exact absurd hn n_6
set_option maxHeartbeats 4000000 in
set_option maxRecDepth 100000 in
theorem c_X0_add (l : Launch) (B0 : Nat) (g : va_G) (ct ad : Nat → Nat) (cS : St_) (mS : Pl_) (x : Ax_) (i w : Nat) (hi : i < sn cS) (hw : w < 387420489) (hwd : wd_ (nI w) = true) (hs : ss cS i < 10) : WI l yX0_add wsX0_add 2 0 0 B0 g ct ad cS mS x [.ref (ad 0), .int (nI i), .int (nI w)] (nI (ss cS i + 1)) (st_add cS i w) mS ((sx_ x)) := by
  refine Met.ofW (cc := cX0_add) (maxL := 4) (ret := (some .int)) (by decide) rfl ?_
  intro p e s m args below meth c s₁ B hml hv
  obtain ⟨rfl, hC⟩ := hv
  have hx := B.exec
  have hb := B.bytes
  have hr := B.returns
  have hts := atoms_spec (ws := wsX0_add) B.pre
  have hown : s.vm.findClass RX0 = some m.cls := findClass_of_methodNamed B.named
  have hlocks := B.notSynchronized
  have hin : ∀ w ∈ wsX00, w ∈ wsX0_add := fun _ h => List.mem_cons_of_mem _ (List.mem_append_left _ (List.mem_append_left _ (List.mem_append_left _ (List.mem_append_right _ h))))
  have hS : va_S (AA B0) s.heap s.heap [] := va_S.rf
  have hB : B0 ≤ s.heap.size := hC.1.2.2.1
  have hI := hC.1.2.2.2
  have hn := hI.2.1
  have hz := hI.2.2.1 i
  have hl := lv_entry ([.ref (ad 0), .int (nI i), .int (nI w)]) (n := 4) (Nat.le_of_ble_eq_true rfl)
  rw [lg_entry_eq]
  generalize (lg_sl ([.ref (ad 0), .int (nI i), .int (nI w)]) ++ List.replicate (4 - (lg_sl ([.ref (ad 0), .int (nI i), .int (nI w)])).length) Slot.unset).toArray = ls at hl ⊢
  have hl : lv_has ls 4 [(0, .ref (ad 0)), (1, .int (nI i)), (2, .int (nI w))] := hl
  refine lv_aload_n hx hb dX0_add_0 rfl (lv_at hl 0 rfl) ?_
  refine lv_iload_n hx hb dX0_add_1 rfl (lv_at hl 1 rfl) ?_
  refine k_vV (As := [.int (nI i)]) (rest := []) (c_X0_checkLine l B0 g ct ad cS mS x i (by omega)) hC ⟨hx, hb, hml, hown, hts⟩ (cwV 1 hts gX0_add_X0_checkLine rfl rfl rfl (by decide +kernel) ⟨Nat.le_of_ble_eq_true rfl, Nat.le_of_ble_eq_true rfl⟩) (rc0 hC) rfl hl.1 rfl (Nat.le_of_ble_eq_true rfl) dX0_add_2 ⟨Nat.le_of_ble_eq_true rfl, Nat.le_of_ble_eq_true rfl⟩ ?_
  refine lv_iload_n hx hb dX0_add_5 rfl (lv_at hl 2 rfl) ?_
  refine k_vS (As := [.int (nI w)]) (rest := []) (c_X0_checkWord l B0 g ct ad cS mS x (nI w) hwd) hC ⟨hx, hb, hml, hown, hts⟩ (va_cwS 1 hts gX0_add_X0_checkWord rfl rfl rfl (by decide +kernel) ⟨Nat.le_of_ble_eq_true rfl, Nat.le_of_ble_eq_true rfl⟩) rfl hl.1 rfl (Nat.le_of_ble_eq_true rfl) dX0_add_6 ⟨Nat.le_of_ble_eq_true rfl, Nat.le_of_ble_eq_true rfl⟩ ?_
  refine lv_aload_n hx hb dX0_add_9 rfl (lv_at hl 0 rfl) ?_
  refine r_g0 hC hx hb hts hin hown 2 (by decide) (hts (.fieldLink RX0 16 "AbjadPoems" "sizes" "[I") (by decide +kernel)) rfl dX0_add_10 ?_
  refine lv_iload_n hx hb dX0_add_13 rfl (lv_at hl 1 rfl) ?_
  refine r_sz hC hx hb dX0_add_14 (j := i) (by omega) ?_
  refine lv_istore_n (lv' := [(3, .int (nI (ss cS i))), (0, .ref (ad 0)), (1, .int (nI i)), (2, .int (nI w))]) hx hb dX0_add_15 rfl hl (by decide) rfl (fun ls hl => ?_)
  refine lv_iload_n hx hb dX0_add_16 rfl (lv_at hl 0 rfl) ?_
  refine lv_bipush (v := nI 10) hx hb dX0_add_17 (by decide) ?_
  refine lv_icmp_lt (tgt := 32) hx hb dX0_add_19 (by decide) (fun c_19 => ?_) (fun c_19 => ?_)
  · skip
    have n_19 : ss cS i < 10 := (nI_ltI (a := ss cS i) (b := 10) (by omega) (by omega)).mp c_19
    refine lv_aload_n hx hb dX0_add_32 rfl (lv_at hl 1 rfl) ?_
    refine r_g0 hC hx hb hts hin hown 3 (by decide) (hts (.fieldLink RX0 22 "AbjadPoems" "words" "[[I") (by decide +kernel)) rfl dX0_add_33 ?_
    refine lv_iload_n hx hb dX0_add_36 rfl (lv_at hl 2 rfl) ?_
    refine r_wo hC hx hb dX0_add_37 (j := i) (by omega) ?_
    refine lv_iload_n hx hb dX0_add_38 rfl (lv_at hl 0 rfl) ?_
    refine lv_iload_n hx hb dX0_add_39 rfl (lv_at hl 3 rfl) ?_
    refine w_wr hC hB hS hx hb dX0_add_40 (i := i) (j := (ss cS i)) (v := w) (by omega) (by omega) (iv_w hI hw (ix_ hI hs)) (fun H locs hC hS => ?_)
    refine lv_aload_n hx hb dX0_add_41 rfl (lv_at hl 1 rfl) ?_
    refine r_g0 hC hx hb hts hin hown 4 (by decide) (hts (.fieldLink RX0 25 "AbjadPoems" "marks" "[[I") (by decide +kernel)) rfl dX0_add_42 ?_
    refine lv_iload_n hx hb dX0_add_45 rfl (lv_at hl 2 rfl) ?_
    refine r_ko hC hx hb dX0_add_46 (j := i) (by omega) ?_
    refine lv_iload_n hx hb dX0_add_47 rfl (lv_at hl 0 rfl) ?_
    refine lv_iconst (v := nI 0) hx hb dX0_add_48 (by decide) ?_
    refine w_kr hC hB hS hx hb dX0_add_49 (i := i) (j := (ss cS i)) (v := 0) (by omega) (by omega) (iv_k (iv_w hI hw (ix_ hI hs)) (by omega) (fun l w hw e => absurd e (ix_ hI hs l w hw))) (fun H locs hC hS => ?_)
    refine lv_aload_n hx hb dX0_add_50 rfl (lv_at hl 1 rfl) ?_
    refine r_g0 hC hx hb hts hin hown 2 (by decide) (hts (.fieldLink RX0 16 "AbjadPoems" "sizes" "[I") (by decide +kernel)) rfl dX0_add_51 ?_
    refine lv_iload_n hx hb dX0_add_54 rfl (lv_at hl 2 rfl) ?_
    refine lv_iload_n hx hb dX0_add_55 rfl (lv_at hl 0 rfl) ?_
    refine lv_iconst (v := nI 1) hx hb dX0_add_56 (by decide) ?_
    refine lv_iadd hx hb dX0_add_57 ?_
    refine lv_tn (nI_add _ _) ?_
    refine w_sz hC hB hS hx hb dX0_add_58 (j := i) (v := (ss cS i) + 1) (by omega) (iv_add hI hs hw) (fun H locs hC hS => ?_)
    refine lv_iload_n hx hb dX0_add_59 rfl (lv_at hl 0 rfl) ?_
    refine lv_iconst (v := nI 1) hx hb dX0_add_60 (by decide) ?_
    refine lv_iadd hx hb dX0_add_61 ?_
    refine lv_tn (nI_add _ _) ?_
    exact W.iret hx hb hr (fun t ht hW => ⟨⟨_, x, rfl, ⟨rfl, (sx_r _)⟩, (by show CW B0 g ct ad (st_add cS i w) mS x t.heap; rw [ht]; exact hC.1)⟩, hS.F ht⟩) hS.2.2 dX0_add_62
  · skip
    have n_19 : ¬ ss cS i < 10 := fun q__ => c_19 ((nI_ltI (a := ss cS i) (b := 10) (by omega) (by omega)).mpr q__)
    exact absurd hs n_19
set_option maxHeartbeats 4000000 in
set_option maxRecDepth 100000 in
theorem c_X0_cut (l : Launch) (B0 : Nat) (g : va_G) (ct ad : Nat → Nat) (cS : St_) (mS : Pl_) (x : Ax_) (i : Nat) (hi : i < sn cS) (hs : 0 < ss cS i) : WI l yX0_cut wsX0_cut 1 0 0 B0 g ct ad cS mS x [.ref (ad 0), .int (nI i)] (nI (sw cS (10 * i + (ss cS i - 1)))) (st_cut cS i) mS ((sx_ x)) := by
  refine Met.ofW (cc := cX0_cut) (maxL := 3) (ret := (some .int)) (by decide) rfl ?_
  intro p e s m args below meth c s₁ B hml hv
  obtain ⟨rfl, hC⟩ := hv
  have hx := B.exec
  have hb := B.bytes
  have hr := B.returns
  have hts := atoms_spec (ws := wsX0_cut) B.pre
  have hown : s.vm.findClass RX0 = some m.cls := findClass_of_methodNamed B.named
  have hlocks := B.notSynchronized
  have hin : ∀ w ∈ wsX00, w ∈ wsX0_cut := fun _ h => List.mem_cons_of_mem _ (List.mem_append_left _ (List.mem_append_left _ (List.mem_append_right _ h)))
  have hS : va_S (AA B0) s.heap s.heap [] := va_S.rf
  have hB : B0 ≤ s.heap.size := hC.1.2.2.1
  have hI := hC.1.2.2.2
  have hn := hI.2.1
  have hz := hI.2.2.1 i
  have hl := lv_entry ([.ref (ad 0), .int (nI i)]) (n := 3) (Nat.le_of_ble_eq_true rfl)
  rw [lg_entry_eq]
  generalize (lg_sl ([.ref (ad 0), .int (nI i)]) ++ List.replicate (3 - (lg_sl ([.ref (ad 0), .int (nI i)])).length) Slot.unset).toArray = ls at hl ⊢
  have hl : lv_has ls 3 [(0, .ref (ad 0)), (1, .int (nI i))] := hl
  refine lv_aload_n hx hb dX0_cut_0 rfl (lv_at hl 0 rfl) ?_
  refine lv_iload_n hx hb dX0_cut_1 rfl (lv_at hl 1 rfl) ?_
  refine k_vV (As := [.int (nI i)]) (rest := []) (c_X0_checkLine l B0 g ct ad cS mS x i (by omega)) hC ⟨hx, hb, hml, hown, hts⟩ (cwV 1 hts gX0_cut_X0_checkLine rfl rfl rfl (by decide +kernel) ⟨Nat.le_of_ble_eq_true rfl, Nat.le_of_ble_eq_true rfl⟩) (rc0 hC) rfl hl.1 rfl (Nat.le_of_ble_eq_true rfl) dX0_cut_2 ⟨Nat.le_of_ble_eq_true rfl, Nat.le_of_ble_eq_true rfl⟩ ?_
  refine lv_aload_n hx hb dX0_cut_5 rfl (lv_at hl 0 rfl) ?_
  refine r_g0 hC hx hb hts hin hown 2 (by decide) (hts (.fieldLink RX0 16 "AbjadPoems" "sizes" "[I") (by decide +kernel)) rfl dX0_cut_6 ?_
  refine lv_iload_n hx hb dX0_cut_9 rfl (lv_at hl 1 rfl) ?_
  refine r_sz hC hx hb dX0_cut_10 (j := i) (by omega) ?_
  refine lv_iconst (v := nI 1) hx hb dX0_cut_11 (by decide) ?_
  refine lv_isub hx hb dX0_cut_12 ?_
  refine lv_tn (pk_sub (by omega)) ?_
  refine lv_istore_n (lv' := [(2, .int (nI ((ss cS i) - 1))), (0, .ref (ad 0)), (1, .int (nI i))]) hx hb dX0_cut_13 rfl hl (by decide) rfl (fun ls hl => ?_)
  refine lv_iload_n hx hb dX0_cut_14 rfl (lv_at hl 0 rfl) ?_
  refine lv_if_ge (tgt := 28) hx hb dX0_cut_15 (by decide) (fun c_15 => ?_) (fun c_15 => ?_)
  · skip
    refine lv_aload_n hx hb dX0_cut_28 rfl (lv_at hl 1 rfl) ?_
    refine r_g0 hC hx hb hts hin hown 2 (by decide) (hts (.fieldLink RX0 16 "AbjadPoems" "sizes" "[I") (by decide +kernel)) rfl dX0_cut_29 ?_
    refine lv_iload_n hx hb dX0_cut_32 rfl (lv_at hl 2 rfl) ?_
    refine lv_iload_n hx hb dX0_cut_33 rfl (lv_at hl 0 rfl) ?_
    refine w_sz hC hB hS hx hb dX0_cut_34 (j := i) (v := (ss cS i) - 1) (by omega) (iv_s hI (by omega) (fun w hw => hI.2.2.2.2.2 i w (by omega))) (fun H locs hC hS => ?_)
    refine lv_aload_n hx hb dX0_cut_35 rfl (lv_at hl 1 rfl) ?_
    refine r_g0 hC hx hb hts hin hown 3 (by decide) (hts (.fieldLink RX0 22 "AbjadPoems" "words" "[[I") (by decide +kernel)) rfl dX0_cut_36 ?_
    refine lv_iload_n hx hb dX0_cut_39 rfl (lv_at hl 2 rfl) ?_
    refine r_wo hC hx hb dX0_cut_40 (j := i) (by omega) ?_
    refine lv_iload_n hx hb dX0_cut_41 rfl (lv_at hl 0 rfl) ?_
    refine r_wr hC hx hb dX0_cut_42 (i := i) (j := (ss cS i) - 1) (by omega) (by omega) ?_
    exact W.iret hx hb hr (fun t ht hW => ⟨⟨_, x, rfl, ⟨rfl, (sx_r _)⟩, (by show CW B0 g ct ad (st_cut cS i) mS x t.heap; rw [ht]; exact hC.1)⟩, hS.F ht⟩) hS.2.2 dX0_cut_43
  · skip
    exact absurd (nI_pos' (by omega)) c_15
set_option maxHeartbeats 4000000 in
set_option maxRecDepth 100000 in
theorem c_X0_mark (l : Launch) (B0 : Nat) (g : va_G) (ct ad : Nat → Nat) (cS : St_) (mS : Pl_) (x : Ax_) (i w p_ : Nat) (hi : i < sn cS) (hw : w < ss cS i) (hp : p_ < ln_ (sw cS (10 * i + w))) : WI l yX0_mark wsX0_mark 2 0 0 B0 g ct ad cS mS x [.ref (ad 0), .int (nI i), .int (nI w), .int (nI p_)] (b2_ ((sk cS (10 * i + w) ^^^ 2 ^ p_).testBit p_)) (st_mark cS (10 * i + w) p_) mS ((sx_ x)) := by
  refine Met.ofW (cc := cX0_mark) (maxL := 4) (ret := (some .boolean)) (by decide) rfl ?_
  intro p e s m args below meth c s₁ B hml hv
  obtain ⟨rfl, hC⟩ := hv
  have hx := B.exec
  have hb := B.bytes
  have hr := B.returns
  have hts := atoms_spec (ws := wsX0_mark) B.pre
  have hown : s.vm.findClass RX0 = some m.cls := findClass_of_methodNamed B.named
  have hlocks := B.notSynchronized
  have hin : ∀ w ∈ wsX00, w ∈ wsX0_mark := fun _ h => List.mem_cons_of_mem _ (List.mem_append_left _ (List.mem_append_right _ h))
  have hS : va_S (AA B0) s.heap s.heap [] := va_S.rf
  have hB : B0 ≤ s.heap.size := hC.1.2.2.1
  have hI := hC.1.2.2.2
  have hn := hI.2.1
  have hz := hI.2.2.1 i
  have hw6 := hI.2.2.2.1 (10 * i + w)
  have h6 := ln_le hw6
  have hk6 := hI.2.2.2.2.1 (10 * i + w)
  have hx6 := xl_ _ hk6 p_ (by omega)
  have hl := lv_entry ([.ref (ad 0), .int (nI i), .int (nI w), .int (nI p_)]) (n := 4) (Nat.le_of_ble_eq_true rfl)
  rw [lg_entry_eq]
  generalize (lg_sl ([.ref (ad 0), .int (nI i), .int (nI w), .int (nI p_)]) ++ List.replicate (4 - (lg_sl ([.ref (ad 0), .int (nI i), .int (nI w), .int (nI p_)])).length) Slot.unset).toArray = ls at hl ⊢
  have hl : lv_has ls 4 [(0, .ref (ad 0)), (1, .int (nI i)), (2, .int (nI w)), (3, .int (nI p_))] := hl
  refine lv_aload_n hx hb dX0_mark_0 rfl (lv_at hl 0 rfl) ?_
  refine lv_iload_n hx hb dX0_mark_1 rfl (lv_at hl 1 rfl) ?_
  refine lv_iload_n hx hb dX0_mark_2 rfl (lv_at hl 2 rfl) ?_
  refine k_vV (As := [.int (nI i), .int (nI w)]) (rest := []) (c_X0_checkWordOfLine l B0 g ct ad cS mS x i w (by omega) (by omega)) hC ⟨hx, hb, hml, hown, hts⟩ (cwV 2 hts gX0_mark_X0_checkWordOfLine rfl rfl rfl (by decide +kernel) ⟨Nat.le_of_ble_eq_true rfl, Nat.le_of_ble_eq_true rfl⟩) (rc0 hC) rfl hl.1 rfl (Nat.le_of_ble_eq_true rfl) dX0_mark_3 ⟨Nat.le_of_ble_eq_true rfl, Nat.le_of_ble_eq_true rfl⟩ ?_
  refine lv_iload_n hx hb dX0_mark_6 rfl (lv_at hl 3 rfl) ?_
  refine lv_if_lt (tgt := 25) hx hb dX0_mark_7 (by decide) (fun c_7 => ?_) (fun c_7 => ?_)
  · skip
    exact absurd c_7 (nI_pos (by omega))
  · skip
    refine lv_iload_n hx hb dX0_mark_10 rfl (lv_at hl 3 rfl) ?_
    refine lv_aload_n hx hb dX0_mark_11 rfl (lv_at hl 0 rfl) ?_
    refine r_g0 hC hx hb hts hin hown 3 (by decide) (hts (.fieldLink RX0 22 "AbjadPoems" "words" "[[I") (by decide +kernel)) rfl dX0_mark_12 ?_
    refine lv_iload_n hx hb dX0_mark_15 rfl (lv_at hl 1 rfl) ?_
    refine r_wo hC hx hb dX0_mark_16 (j := i) (by omega) ?_
    refine lv_iload_n hx hb dX0_mark_17 rfl (lv_at hl 2 rfl) ?_
    refine r_wr hC hx hb dX0_mark_18 (i := i) (j := w) (by omega) (by omega) ?_
    refine k_pS (As := [.int (nI (sw cS (10 * i + w)))]) (rest := [.int (nI p_)]) (c_X0_lengthOf l (sw cS (10 * i + w)) (by omega)) ⟨hx, hb, hml, hown, hts⟩ (va_cwS 1 hts gX0_mark_X0_lengthOf rfl rfl rfl (by decide +kernel) ⟨Nat.le_of_ble_eq_true rfl, Nat.le_of_ble_eq_true rfl⟩) rfl hl.1 rfl (Nat.le_of_ble_eq_true rfl) dX0_mark_19 ⟨Nat.le_of_ble_eq_true rfl, Nat.le_of_ble_eq_true rfl⟩ ?_
    refine lv_icmp_lt (tgt := 35) hx hb dX0_mark_22 (by decide) (fun c_22 => ?_) (fun c_22 => ?_)
    · skip
      have n_22 : p_ < ln_ (sw cS (10 * i + w)) := (nI_ltI (a := p_) (b := ln_ (sw cS (10 * i + w))) (by omega) (by omega)).mp c_22
      refine lv_aload_n hx hb dX0_mark_35 rfl (lv_at hl 0 rfl) ?_
      refine r_g0 hC hx hb hts hin hown 4 (by decide) (hts (.fieldLink RX0 25 "AbjadPoems" "marks" "[[I") (by decide +kernel)) rfl dX0_mark_36 ?_
      refine lv_iload_n hx hb dX0_mark_39 rfl (lv_at hl 1 rfl) ?_
      refine r_ko hC hx hb dX0_mark_40 (j := i) (by omega) ?_
      refine lv_iload_n hx hb dX0_mark_41 rfl (lv_at hl 2 rfl) ?_
      refine lv_dup2_11 hx hb dX0_mark_42 rfl rfl ?_
      refine r_kr hC hx hb dX0_mark_43 (i := i) (j := w) (by omega) (by omega) ?_
      refine lv_iconst (v := nI 1) hx hb dX0_mark_44 (by decide) ?_
      refine lv_iload_n hx hb dX0_mark_45 rfl (lv_at hl 3 rfl) ?_
      refine lv_ishl hx hb dX0_mark_46 ?_
      refine lv_ixor hx hb dX0_mark_47 ?_
      refine lv_tn (w := nI (sk cS (10 * i + w) ^^^ 2 ^ p_)) (xm_ _ hk6 _ (by omega)) ?_
      refine w_kr hC hB hS hx hb dX0_mark_48 (i := i) (j := w) (v := sk cS (10 * i + w) ^^^ 2 ^ p_) (by omega) (by omega) (iv_mark hI hw hp) (fun H locs hC hS => ?_)
      refine lv_aload_n hx hb dX0_mark_49 rfl (lv_at hl 0 rfl) ?_
      refine r_g0 hC hx hb hts hin hown 4 (by decide) (hts (.fieldLink RX0 25 "AbjadPoems" "marks" "[[I") (by decide +kernel)) rfl dX0_mark_50 ?_
      refine lv_iload_n hx hb dX0_mark_53 rfl (lv_at hl 1 rfl) ?_
      refine r_ko hC hx hb dX0_mark_54 (j := i) (by omega) ?_
      refine lv_iload_n hx hb dX0_mark_55 rfl (lv_at hl 2 rfl) ?_
      refine r_kr hC hx hb dX0_mark_56 (i := i) (j := w) (by omega) (by omega) ?_
      refine lv_tn (w := nI (sk cS (10 * i + w) ^^^ 2 ^ p_)) (congrArg nI up_s) ?_
      refine lv_iload_n hx hb dX0_mark_57 rfl (lv_at hl 3 rfl) ?_
      refine k_pS (As := [.int (nI (sk cS (10 * i + w) ^^^ 2 ^ p_)), .int (nI p_)]) (rest := []) (c_X0_isMarked l (sk cS (10 * i + w) ^^^ 2 ^ p_) p_ (by omega) (by omega)) ⟨hx, hb, hml, hown, hts⟩ (va_cwS 2 hts gX0_mark_X0_isMarked rfl rfl rfl (by decide +kernel) ⟨Nat.le_of_ble_eq_true rfl, Nat.le_of_ble_eq_true rfl⟩) rfl hl.1 rfl (Nat.le_of_ble_eq_true rfl) dX0_mark_58 ⟨Nat.le_of_ble_eq_true rfl, Nat.le_of_ble_eq_true rfl⟩ ?_
      exact W.zret hx hb hr b2_n (fun t ht hW => ⟨⟨_, x, rfl, ⟨rfl, (sx_r _)⟩, (by show CW B0 g ct ad (st_mark cS (10 * i + w) p_) mS x t.heap; rw [ht]; exact hC.1)⟩, hS.F ht⟩) hS.2.2 dX0_mark_61
    · skip
      have n_22 : ¬ p_ < ln_ (sw cS (10 * i + w)) := fun q__ => c_22 ((nI_ltI (a := p_) (b := ln_ (sw cS (10 * i + w))) (by omega) (by omega)).mpr q__)
      exact absurd hp n_22
set_option maxHeartbeats 4000000 in
set_option maxRecDepth 100000 in
theorem c_X0_pairsOfSameWorth (l : Launch) (B0 : Nat) (g : va_G) (ct ad : Nat → Nat) (cS : St_) (mS : Pl_) (x : Ax_)  : WI l yX0_pairsOfSameWorth wsX0_pairsOfSameWorth 2 0 0 B0 g ct ad cS mS x [.ref (ad 0)] (nI (pr_ cS)) cS mS ((sx_ x)) := by
  refine Met.ofW (cc := cX0_pairsOfSameWorth) (maxL := 6) (ret := (some .int)) (by decide) rfl ?_
  intro p e s m args below meth c s₁ B hml hv
  obtain ⟨rfl, hC⟩ := hv
  have hx := B.exec
  have hb := B.bytes
  have hr := B.returns
  have hts := atoms_spec (ws := wsX0_pairsOfSameWorth) B.pre
  have hown : s.vm.findClass RX0 = some m.cls := findClass_of_methodNamed B.named
  have hlocks := B.notSynchronized
  have hin : ∀ w ∈ wsX00, w ∈ wsX0_pairsOfSameWorth := fun _ h => List.mem_cons_of_mem _ (List.mem_append_right _ h)
  have hS : va_S (AA B0) s.heap s.heap [] := va_S.rf
  have hB : B0 ≤ s.heap.size := hC.1.2.2.1
  have hI := hC.1.2.2.2
  have hn := hI.2.1
  have hl := lv_entry ([.ref (ad 0)]) (n := 6) (Nat.le_of_ble_eq_true rfl)
  rw [lg_entry_eq]
  generalize (lg_sl ([.ref (ad 0)]) ++ List.replicate (6 - (lg_sl ([.ref (ad 0)])).length) Slot.unset).toArray = ls at hl ⊢
  have hl : lv_has ls 6 [(0, .ref (ad 0))] := hl
  refine lv_iconst (v := nI 0) hx hb dX0_pairsOfSameWorth_0 (by decide) ?_
  refine lv_istore_n (lv' := [(1, .int (nI 0)), (0, .ref (ad 0))]) hx hb dX0_pairsOfSameWorth_1 rfl hl (by decide) rfl (fun ls hl => ?_)
  refine lv_iconst (v := nI 0) hx hb dX0_pairsOfSameWorth_2 (by decide) ?_
  refine lv_istore_n (lv' := [(2, .int (nI 0)), (1, .int (nI 0)), (0, .ref (ad 0))]) hx hb dX0_pairsOfSameWorth_3 rfl hl (by decide) rfl (fun ls hl => ?_)
  refine lv_iconst (v := nI 0) hx hb dX0_pairsOfSameWorth_4 (by decide) ?_
  refine lv_istore_n (lv' := [(3, .int (nI 0)), (2, .int (nI 0)), (1, .int (nI 0)), (0, .ref (ad 0))]) hx hb dX0_pairsOfSameWorth_5 rfl hl (by decide) rfl (fun ls hl => ?_)
  have LP_6 : ∀ (n_ : Nat) (sN : Nat) (t : Nat) (k : Nat) (xv : Ax_), sn cS - k < n_ → (t = qs_ (pF_ cS) (10 * k)) → (∀ v : Int32, qs_ (fun j => if xw xv j = v then 1 else 0) sN = qs_ (pV_ cS v) (10 * k)) → (sN ≤ 10 * k) → (k ≤ sn cS) → (sx_ x xv) → ∀ (H : Heap) (locs : List Loc), CX B0 g ct ad cS mS xv s H → va_S (AA B0) s.heap H locs → ∀ ls : Array Slot, lv_has ls 6 [(3, .int (nI k)), (2, .int (nI t)), (1, .int (nI sN)), (0, .ref (ad 0))] → W p l e (headSpec wsX0_pairsOfSameWorth (rm_ 2 0 0)).room s m ([.ref (ad 0)] : List Value).toArray below meth c H locs 0 0 (MQ below (va_Qi (fun r (u : Ax_) => r = nI (pr_ cS) ∧ ((sx_ x)) u) (fun u t => CW B0 g ct ad cS mS u t.heap) (AA B0)) ([.ref (ad 0)] : List Value).toArray s 0 0 (AA B0)) (F0 m 6 ls []) := by
    intro n_
    induction n_ with
    | zero => intro sN t k xv hm; exact absurd hm (Nat.not_lt_zero _)
    | succ n_ ih_6 =>
      intro sN t k xv hm ht hw hN hk hsx H locs hC hS ls hl
      have hz := hI.2.2.1 k
      refine lv_iload_n hx hb dX0_pairsOfSameWorth_6 rfl (lv_at hl 0 rfl) ?_
      refine lv_aload_n hx hb dX0_pairsOfSameWorth_7 rfl (lv_at hl 3 rfl) ?_
      refine r_g0 hC hx hb hts hin hown 1 (by decide) (hts (.fieldLink RX0 13 "AbjadPoems" "lines" "I") (by decide +kernel)) rfl dX0_pairsOfSameWorth_8 ?_
      refine lv_icmp_ge (tgt := 78) hx hb dX0_pairsOfSameWorth_11 (by decide) (fun c_11 => ?_) (fun c_11 => ?_)
      · skip
        have n_11 : sn cS ≤ k := (nI_leI (a := sn cS) (b := k) (by omega) (by omega)).mp c_11
        have hE : t = pr_ cS := by rw [ht, show k = sn cS by omega]; rfl
        refine lv_iload_n hx hb dX0_pairsOfSameWorth_78 rfl (lv_at hl 1 rfl) ?_
        exact W.iret hx hb hr (fun t ht hW => ⟨⟨_, xv, rfl, ⟨(congrArg nI hE), hsx⟩, (by show CW B0 g ct ad cS mS xv t.heap; rw [ht]; exact hC.1)⟩, hS.F ht⟩) hS.2.2 dX0_pairsOfSameWorth_79
      · skip
        have n_11 : ¬ sn cS ≤ k := fun q__ => c_11 ((nI_leI (a := sn cS) (b := k) (by omega) (by omega)).mpr q__)
        refine lv_iconst (v := nI 0) hx hb dX0_pairsOfSameWorth_14 (by decide) ?_
        refine lv_istore (lv' := [(4, .int (nI 0)), (3, .int (nI k)), (2, .int (nI t)), (1, .int (nI sN)), (0, .ref (ad 0))]) hx hb dX0_pairsOfSameWorth_15 hl (by decide) rfl (fun ls hl => ?_)
        have LP_17 : ∀ (n_ : Nat) (sM : Nat) (u : Nat) (j : Nat) (yv : Ax_), ss cS k - j < n_ → (u = qs_ (pF_ cS) (10 * k + j)) → (∀ v : Int32, qs_ (fun i => if xw yv i = v then 1 else 0) sM = qs_ (pV_ cS v) (10 * k + j)) → (sM ≤ 10 * k + j) → (j ≤ ss cS k) → (sx_ x yv) → ∀ (H : Heap) (locs : List Loc), CX B0 g ct ad cS mS yv s H → va_S (AA B0) s.heap H locs → ∀ ls : Array Slot, lv_has ls 6 [(4, .int (nI j)), (3, .int (nI k)), (2, .int (nI u)), (1, .int (nI sM)), (0, .ref (ad 0))] → W p l e (headSpec wsX0_pairsOfSameWorth (rm_ 2 0 0)).room s m ([.ref (ad 0)] : List Value).toArray below meth c H locs 0 0 (MQ below (va_Qi (fun r (u : Ax_) => r = nI (pr_ cS) ∧ ((sx_ x)) u) (fun u t => CW B0 g ct ad cS mS u t.heap) (AA B0)) ([.ref (ad 0)] : List Value).toArray s 0 0 (AA B0)) (F0 m 17 ls []) := by
          intro n_
          induction n_ with
          | zero => intro sM u j yv hm; exact absurd hm (Nat.not_lt_zero _)
          | succ n_ ih_17 =>
            intro sM u j yv hm hu hq hM hj hsy H locs hC hS ls hl
            have hw6 := hI.2.2.2.1 (10 * k + j)
            refine lv_iload hx hb dX0_pairsOfSameWorth_17 (lv_at hl 0 rfl) ?_
            refine lv_aload_n hx hb dX0_pairsOfSameWorth_19 rfl (lv_at hl 4 rfl) ?_
            refine r_g0 hC hx hb hts hin hown 2 (by decide) (hts (.fieldLink RX0 16 "AbjadPoems" "sizes" "[I") (by decide +kernel)) rfl dX0_pairsOfSameWorth_20 ?_
            refine lv_iload_n hx hb dX0_pairsOfSameWorth_23 rfl (lv_at hl 1 rfl) ?_
            refine r_sz hC hx hb dX0_pairsOfSameWorth_24 (j := k) (by omega) ?_
            refine lv_icmp_ge (tgt := 72) hx hb dX0_pairsOfSameWorth_25 (by decide) (fun c_25 => ?_) (fun c_25 => ?_)
            · skip
              have n_25 : ss cS k ≤ j := (nI_leI (a := ss cS k) (b := j) (by omega) (by omega)).mp c_25
              refine lv_iinc (v := nI (k + 1)) (lv' := [(3, .int (nI (k + 1))), (4, .int (nI j)), (2, .int (nI u)), (1, .int (nI sM)), (0, .ref (ad 0))]) hx hb dX0_pairsOfSameWorth_72 hl (k := 1) rfl (nI_1 _) (by decide) rfl (fun ls hl => ?_)
              refine lv_goto (tgt := 6) hx hb dX0_pairsOfSameWorth_75 (by decide) ?_
              exact ih_6 sM u (k + 1) yv (by omega) (by rw [pF_e hz, hu, show j = ss cS k by omega]) (fun v => by rw [pV_e hz, hq v, show j = ss cS k by omega]) (by omega) (by omega) hsy H locs hC hS ls (lv_sub hl [0, 2, 3, 4] rfl)
            · skip
              have n_25 : ¬ ss cS k ≤ j := fun q__ => c_25 ((nI_leI (a := ss cS k) (b := j) (by omega) (by omega)).mpr q__)
              have hon : on_ cS (10 * k + j) = true := on_t (by omega) (by omega) (by omega)
              refine lv_aload_n hx hb dX0_pairsOfSameWorth_28 rfl (lv_at hl 4 rfl) ?_
              refine lv_aload_n hx hb dX0_pairsOfSameWorth_29 rfl (lv_at hl 4 rfl) ?_
              refine r_g0 hC hx hb hts hin hown 3 (by decide) (hts (.fieldLink RX0 22 "AbjadPoems" "words" "[[I") (by decide +kernel)) rfl dX0_pairsOfSameWorth_30 ?_
              refine lv_iload_n hx hb dX0_pairsOfSameWorth_33 rfl (lv_at hl 1 rfl) ?_
              refine r_wo hC hx hb dX0_pairsOfSameWorth_34 (j := k) (by omega) ?_
              refine lv_iload hx hb dX0_pairsOfSameWorth_35 (lv_at hl 0 rfl) ?_
              refine r_wr hC hx hb dX0_pairsOfSameWorth_37 (i := k) (j := j) (by omega) (by omega) ?_
              refine lv_bipush (v := nI 63) hx hb dX0_pairsOfSameWorth_38 (by decide) ?_
              refine k_rV (As := [.int (nI (sw cS (10 * k + j))), .int (nI 63)]) (rest := []) (c_X0_worthOfPlaces l B0 g ct ad cS mS yv (sw cS (10 * k + j)) 63 (by omega) (by omega)) hC ⟨hx, hb, hml, hown, hts⟩ (cwV 2 hts gX0_pairsOfSameWorth_X0_worthOfPlaces rfl rfl rfl (by decide +kernel) ⟨Nat.le_of_ble_eq_true rfl, Nat.le_of_ble_eq_true rfl⟩) (rc0 hC) rfl hl.1 rfl (Nat.le_of_ble_eq_true rfl) dX0_pairsOfSameWorth_40 ⟨Nat.le_of_ble_eq_true rfl, Nat.le_of_ble_eq_true rfl⟩ ?_
              refine lv_tn (w := nI (ws0 (so cS) (sw cS (10 * k + j)))) (congrArg nI (wm_63 hw6)) ?_
              refine lv_istore (lv' := [(5, .int (nI (ws0 (so cS) (sw cS (10 * k + j))))), (4, .int (nI j)), (3, .int (nI k)), (2, .int (nI u)), (1, .int (nI sM)), (0, .ref (ad 0))]) hx hb dX0_pairsOfSameWorth_43 hl (by decide) rfl (fun ls hl => ?_)
              refine lv_iload_n hx hb dX0_pairsOfSameWorth_45 rfl (lv_at hl 3 rfl) ?_
              refine lv_aload_n hx hb dX0_pairsOfSameWorth_46 rfl (lv_at hl 5 rfl) ?_
              refine lv_iload hx hb dX0_pairsOfSameWorth_47 (lv_at hl 0 rfl) ?_
              refine lv_iload_n hx hb dX0_pairsOfSameWorth_49 rfl (lv_at hl 4 rfl) ?_
              refine k_rV (As := [.int (nI (ws0 (so cS) (sw cS (10 * k + j)))), .int (nI sM)]) (rest := [.int (nI u)]) (c_X0_timesAmongWorths l B0 g ct ad cS mS yv (nI (ws0 (so cS) (sw cS (10 * k + j)))) sM (by omega)) hC ⟨hx, hb, hml, hown, hts⟩ (cwV 2 hts gX0_pairsOfSameWorth_X0_timesAmongWorths rfl rfl rfl (by decide +kernel) ⟨Nat.le_of_ble_eq_true rfl, Nat.le_of_ble_eq_true rfl⟩) (rc0 hC) rfl hl.1 rfl (Nat.le_of_ble_eq_true rfl) dX0_pairsOfSameWorth_50 ⟨Nat.le_of_ble_eq_true rfl, Nat.le_of_ble_eq_true rfl⟩ ?_
              refine lv_iadd hx hb dX0_pairsOfSameWorth_53 ?_
              refine lv_tn (nI_add _ _) ?_
              refine lv_istore_n (lv' := [(2, .int (nI (u + (qs_ (fun j_ => if xw yv j_ = nI (ws0 (so cS) (sw cS (10 * k + j))) then 1 else 0) sM)))), (5, .int (nI (ws0 (so cS) (sw cS (10 * k + j))))), (4, .int (nI j)), (3, .int (nI k)), (1, .int (nI sM)), (0, .ref (ad 0))]) hx hb dX0_pairsOfSameWorth_54 rfl hl (by decide) rfl (fun ls hl => ?_)
              refine lv_aload_n hx hb dX0_pairsOfSameWorth_55 rfl (lv_at hl 5 rfl) ?_
              refine r_g0 hC hx hb hts hin hown 5 (by decide) (hts (.fieldLink RX0 28 "AbjadPoems" "worths" "[I") (by decide +kernel)) rfl dX0_pairsOfSameWorth_56 ?_
              refine lv_iload_n hx hb dX0_pairsOfSameWorth_59 rfl (lv_at hl 4 rfl) ?_
              refine lv_iload hx hb dX0_pairsOfSameWorth_60 (lv_at hl 1 rfl) ?_
              refine w_wt hC hB hS hx hb dX0_pairsOfSameWorth_62 (j := sM) (v := nI (ws0 (so cS) (sw cS (10 * k + j)))) (by omega) (fun H locs hC hS => ?_)
              refine lv_iinc (v := nI (sM + 1)) (lv' := [(1, .int (nI (sM + 1))), (2, .int (nI (u + (qs_ (fun j_ => if xw yv j_ = nI (ws0 (so cS) (sw cS (10 * k + j))) then 1 else 0) sM)))), (5, .int (nI (ws0 (so cS) (sw cS (10 * k + j))))), (4, .int (nI j)), (3, .int (nI k)), (0, .ref (ad 0))]) hx hb dX0_pairsOfSameWorth_63 hl (k := 4) rfl (nI_1 _) (by decide) rfl (fun ls hl => ?_)
              refine lv_iinc (v := nI (j + 1)) (lv' := [(4, .int (nI (j + 1))), (1, .int (nI (sM + 1))), (2, .int (nI (u + (qs_ (fun j_ => if xw yv j_ = nI (ws0 (so cS) (sw cS (10 * k + j))) then 1 else 0) sM)))), (5, .int (nI (ws0 (so cS) (sw cS (10 * k + j))))), (3, .int (nI k)), (0, .ref (ad 0))]) hx hb dX0_pairsOfSameWorth_66 hl (k := 3) rfl (nI_1 _) (by decide) rfl (fun ls hl => ?_)
              refine lv_goto (tgt := 17) hx hb dX0_pairsOfSameWorth_69 (by decide) ?_
              exact ih_17 (sM + 1) (u + (qs_ (fun j_ => if xw yv j_ = nI (ws0 (so cS) (sw cS (10 * k + j))) then 1 else 0) sM)) (j + 1) (ax_w yv (upd (xw yv) sM (nI (ws0 (so cS) (sw cS (10 * k + j)))))) (by omega) (by rw [show 10 * k + (j + 1) = 10 * k + j + 1 by omega, pF_t hon, hu, hq, pV_a hI]) (fun v => pw_n hon hq v) (by omega) (by omega) hsy H locs hC hS ls (lv_sub hl [0, 4, 2, 1, 5] rfl)
        exact LP_17 _ sN t 0 xv (Nat.lt_succ_self _) ht hw hN (by omega) hsx H locs hC hS ls (lv_sub hl [0, 1, 2, 3, 4] rfl)
  exact LP_6 _ 0 0 0 x (Nat.lt_succ_self _) rfl (fun v => rfl) (by omega) (by omega) (sx_r x) s.heap [] hC hS ls (lv_sub hl [0, 1, 2, 3] rfl)
set_option maxHeartbeats 4000000 in
set_option maxRecDepth 100000 in
theorem c_X0_told (l : Launch) (B0 : Nat) (g : va_G) (ct ad : Nat → Nat) (cS : St_) (mS : Pl_) (x : Ax_) (q : Nat) (hq : q < 7) : WI l yX0_told wsX0_told 5 0 0 B0 g ct ad cS mS x [.ref (ad 0), .int (nI q)] (nI (to_ cS q)) cS mS ((sx_ x)) := by
  refine Met.ofW (cc := cX0_told) (maxL := 2) (ret := (some .int)) (by decide) rfl ?_
  intro p e s m args below meth c s₁ B hml hv
  obtain ⟨rfl, hC⟩ := hv
  have hx := B.exec
  have hb := B.bytes
  have hr := B.returns
  have hts := atoms_spec (ws := wsX0_told) B.pre
  have hown : s.vm.findClass RX0 = some m.cls := findClass_of_methodNamed B.named
  have hlocks := B.notSynchronized
  have hin : ∀ w ∈ wsX00, w ∈ wsX0_told := fun _ h => List.mem_cons_of_mem _ (List.mem_append_left _ (List.mem_append_right _ h))
  have hS : va_S (AA B0) s.heap s.heap [] := va_S.rf
  have hB : B0 ≤ s.heap.size := hC.1.2.2.1
  have hI := hC.1.2.2.2
  have hn := hI.2.1
  have hl := lv_entry ([.ref (ad 0), .int (nI q)]) (n := 2) (Nat.le_of_ble_eq_true rfl)
  rw [lg_entry_eq]
  generalize (lg_sl ([.ref (ad 0), .int (nI q)]) ++ List.replicate (2 - (lg_sl ([.ref (ad 0), .int (nI q)])).length) Slot.unset).toArray = ls at hl ⊢
  have hl : lv_has ls 2 [(0, .ref (ad 0)), (1, .int (nI q))] := hl
  refine lv_iload_n hx hb dX0_told_0 rfl (lv_at hl 1 rfl) ?_
  refine lv_bipush (v := nI 7) hx hb dX0_told_1 (by decide) ?_
  refine k_vS (As := [.int (nI q), .int (nI 7)]) (rest := []) (c_X0_checkWhat l B0 g ct ad cS mS x q 7 (by omega) (by omega)) hC ⟨hx, hb, hml, hown, hts⟩ (va_cwS 2 hts gX0_told_X0_checkWhat rfl rfl rfl (by decide +kernel) ⟨Nat.le_of_ble_eq_true rfl, Nat.le_of_ble_eq_true rfl⟩) rfl hl.1 rfl (Nat.le_of_ble_eq_true rfl) dX0_told_3 ⟨Nat.le_of_ble_eq_true rfl, Nat.le_of_ble_eq_true rfl⟩ ?_
  refine lv_iload_n hx hb dX0_told_6 rfl (lv_at hl 1 rfl) ?_
  refine lv_if_ne (tgt := 15) hx hb dX0_told_7 (by decide) (fun c_7 => ?_) (fun c_7 => ?_)
  · skip
    have n_7 : ¬ q = 0 := fun q__ => c_7 ((eq0_ (by omega)).mpr q__)
    refine lv_iload_n hx hb dX0_told_15 rfl (lv_at hl 1 rfl) ?_
    refine lv_bipush (v := nI 6) hx hb dX0_told_16 (by decide) ?_
    refine lv_icmp_ne (tgt := 26) hx hb dX0_told_18 (by decide) (fun c_18 => ?_) (fun c_18 => ?_)
    · skip
      have n_18 : ¬ q = 6 := fun q__ => c_18 ((nI_eq (a := q) (b := 6) (by omega) (by omega)).mpr q__)
      refine lv_aload_n hx hb dX0_told_26 rfl (lv_at hl 0 rfl) ?_
      refine lv_iload_n hx hb dX0_told_27 rfl (lv_at hl 1 rfl) ?_
      refine lv_iconst (v := nI 1) hx hb dX0_told_28 (by decide) ?_
      refine lv_isub hx hb dX0_told_29 ?_
      refine lv_tn (pk_sub (by omega)) ?_
      refine k_rV (As := [.int (nI (q - 1))]) (rest := []) (c_X0_sumOverLines l B0 g ct ad cS mS x (q - 1) (by omega)) hC ⟨hx, hb, hml, hown, hts⟩ (cwV 1 hts gX0_told_X0_sumOverLines rfl rfl rfl (by decide +kernel) ⟨Nat.le_of_ble_eq_true rfl, Nat.le_of_ble_eq_true rfl⟩) (rc0 hC) rfl hl.1 rfl (Nat.le_of_ble_eq_true rfl) dX0_told_30 ⟨Nat.le_of_ble_eq_true rfl, Nat.le_of_ble_eq_true rfl⟩ ?_
      exact W.iret hx hb hr (fun t ht hW => ⟨⟨_, x, rfl, ⟨(congrArg nI (to_n n_7 n_18).symm), (sx_r _)⟩, (by show CW B0 g ct ad cS mS x t.heap; rw [ht]; exact hC.1)⟩, hS.F ht⟩) hS.2.2 dX0_told_33
    · skip
      have n_18 : q = 6 := (nI_eq (a := q) (b := 6) (by omega) (by omega)).mp c_18
      refine lv_aload_n hx hb dX0_told_21 rfl (lv_at hl 0 rfl) ?_
      refine k_wV (As := []) (rest := []) (c_X0_pairsOfSameWorth l B0 g ct ad cS mS x) hC hB hS ⟨hx, hb, hml, hown, hts⟩ (cwV 0 hts gX0_told_X0_pairsOfSameWorth rfl rfl rfl (by decide +kernel) ⟨Nat.le_of_ble_eq_true rfl, Nat.le_of_ble_eq_true rfl⟩) (rc0 hC) rfl hl.1 rfl (Nat.le_of_ble_eq_true rfl) dX0_told_22 ⟨Nat.le_of_ble_eq_true rfl, Nat.le_of_ble_eq_true rfl⟩ (fun u_22 H locs hu_22 hC hS => ?_)
      exact W.iret hx hb hr (fun t ht hW => ⟨⟨_, u_22, rfl, ⟨(by show nI (pr_ cS) = nI (to_ cS q); rw [n_18]; rfl), hu_22⟩, (by show CW B0 g ct ad cS mS u_22 t.heap; rw [ht]; exact hC.1)⟩, hS.F ht⟩) hS.2.2 dX0_told_25
  · skip
    have n_7 : q = 0 := (eq0_ (by omega)).mp c_7
    refine lv_aload_n hx hb dX0_told_10 rfl (lv_at hl 0 rfl) ?_
    refine r_g0 hC hx hb hts hin hown 1 (by decide) (hts (.fieldLink RX0 13 "AbjadPoems" "lines" "I") (by decide +kernel)) rfl dX0_told_11 ?_
    exact W.iret hx hb hr (fun t ht hW => ⟨⟨_, x, rfl, ⟨(by show nI (sn cS) = nI (to_ cS q); rw [n_7]; rfl), (sx_r _)⟩, (by show CW B0 g ct ad cS mS x t.heap; rw [ht]; exact hC.1)⟩, hS.F ht⟩) hS.2.2 dX0_told_14
end
section
/-! ===== the law's own numbers ===== -/
theorem ln_s {r : Nat} (h : 0 < r) (h2 : r < 387420489) : ln_ r = ln_ (r / 27) + 1 := by
  have h3 : lnf 7 (r / 27) = lnf 6 (r / 27) := lnf_up 6 _ (by show r / 27 < 387420489; omega)
  have h4 : lnf 7 r = lnf 6 (r / 27) + 1 := lnf_s (by omega)
  show lnf 7 r = lnf 7 (r / 27) + 1
  rw [h4, h3]
theorem ln_0 : ln_ 0 = 0 := lnf_0 7
theorem and_neg (v : Int32) : ¬ (v &&& nI 2147483647) < 0 := by
  intro q
  rw [Int32.lt_iff_toInt_lt] at q
  have h1 : (v &&& nI 2147483647).toBitVec.msb = false := by
    rw [Int32.toBitVec_and, BitVec.msb_and, show (nI 2147483647).toBitVec.msb = false by decide, Bool.and_false]
  rw [BitVec.msb_eq_toInt, decide_eq_false_iff_not] at h1
  have h2 : (v &&& nI 2147483647).toInt = (v &&& nI 2147483647).toBitVec.toInt := rfl
  have h3 : (0 : Int32).toInt = 0 := rfl
  omega
/-- a number below n, chosen by v -/
def bj_ (v : Int32) : Nat := (v &&& nI 2147483647).toNatClampNeg
theorem bj_j (v : Int32) : bj_ v < 2 ^ 31 ∧ v &&& nI 2147483647 = nI (bj_ v) := by
  obtain ⟨j, hj, e⟩ := nI_of (and_neg v)
  have h : bj_ v = j := by
    unfold bj_
    rw [e, nI_clamp hj]
  rw [h]
  exact ⟨hj, e⟩
def bl_ (v : Int32) (n : Nat) : Nat := bj_ v % n
theorem bl_lt (v : Int32) {n : Nat} (h : 0 < n) : bl_ v n < n := Nat.mod_lt _ h
/-- the word that a number chooses -/
def gb_ (x : Int32) : Nat := if bl_ (x >>> (nI 7 &&& 31)) 2 = 0 then 26 else 9
def gd2_ (x : Int32) (k : Nat) : Nat := bl_ ((x >>> (nI (3 * k) &&& 31)) + nI (5 * k)) (gb_ x)
def gv_ (x : Int32) : Nat → Nat
  | 0 => 0
  | k + 1 => 27 * gv_ x k + 1 + gd2_ x k
def gn_ (x : Int32) : Nat := 1 + bl_ (x >>> (nI 8 &&& 31)) (if bl_ (x >>> (nI 6 &&& 31)) 2 = 0 then 6 else 2)
def gw_ (x : Int32) : Nat := gv_ x (gn_ x)
theorem gb_b (x : Int32) : 0 < gb_ x ∧ gb_ x ≤ 26 := by
  unfold gb_
  split <;> omega
theorem gd_b (x : Int32) (k : Nat) : gd2_ x k < 26 := by
  have h := gb_b x
  have := bl_lt ((x >>> (nI (3 * k) &&& 31)) + nI (5 * k)) h.1
  unfold gd2_
  omega
theorem gn_b (x : Int32) : 1 ≤ gn_ x ∧ gn_ x ≤ 6 := by
  unfold gn_
  split
  · have := bl_lt (x >>> (nI 8 &&& 31)) (show 0 < 6 by omega); omega
  · have := bl_lt (x >>> (nI 8 &&& 31)) (show 0 < 2 by omega); omega
theorem gv_lt (x : Int32) : ∀ k, gv_ x k < 27 ^ k
  | 0 => by show 0 < 1; omega
  | k + 1 => by
    have h1 := gv_lt x k
    have h2 := gd_b x k
    show 27 * gv_ x k + 1 + gd2_ x k < 27 ^ (k + 1)
    rw [Nat.pow_succ]
    omega
theorem gv_6 (x : Int32) {k : Nat} (h : k ≤ 6) : gv_ x k < 387420489 := by
  have h1 := gv_lt x k
  have h2 : 27 ^ k ≤ 27 ^ 6 := Nat.pow_le_pow_right (by omega) h
  have h3 : (27 : Nat) ^ 6 = 387420489 := by decide
  omega
theorem gv_nz (x : Int32) : ∀ k f, k ≤ f → nz_ f (gv_ x k) = true
  | 0, f, _ => nz_0 f
  | k + 1, 0, h => absurd h (by omega)
  | k + 1, f + 1, h => by
    have h2 := gd_b x k
    have e1 : gv_ x (k + 1) = 27 * gv_ x k + 1 + gd2_ x k := rfl
    rw [nz_y (by omega) (by omega), show gv_ x (k + 1) / 27 = gv_ x k by omega]
    exact gv_nz x k f (by omega)
theorem gw_lt (x : Int32) : gw_ x < 387420489 := gv_6 x (gn_b x).2
theorem gw_iw (x : Int32) : iw_ (gw_ x) = true := by
  have h := gn_b x
  refine iw_y ?_ (gw_lt x) (gv_nz x _ 7 (by omega))
  unfold gw_
  obtain ⟨k, hk⟩ : ∃ k, gn_ x = k + 1 := ⟨gn_ x - 1, by omega⟩
  rw [hk]
  show 0 < 27 * gv_ x k + 1 + gd2_ x k
  omega
/-! ===== the poem by hand, cell by cell ===== -/
def SJ_ (ct : Nat → Nat) (m : Pl_) (o : Nat) (c : St_) (lo mo : Nat) (la wa : Nat → Nat) (ba : Nat → Nat → Nat) : Prop :=
  OB_ m o (nI (so c)) (some lo) (some mo) ∧ AO_ ct 1 m lo (sn c) (fun i => some (la i)) ∧ AO_ ct 4 m mo (sn c) (fun i => some (wa i)) ∧
  (∀ i, i < sn c → AI_ ct m (la i) (ss c i) (fun w => nI (sw c (10 * i + w)))) ∧
  (∀ i, i < sn c → AO_ ct 3 m (wa i) (ss c i) (fun w => some (ba i w))) ∧
  (∀ i w, i < sn c → w < ss c i → AZ_ ct m (ba i w) (ln_ (sw c (10 * i + w))) (fun k => b2_ ((sk c (10 * i + w)).testBit k))) ∧
  ∀ i w i' w', i < sn c → w < ss c i → i' < sn c → w' < ss c i' → ba i w = ba i' w' → i = i' ∧ w = w'
def SI_ (ct : Nat → Nat) (m : Pl_) (o : Nat) (c : St_) : Prop := ∃ lo mo la wa ba, SJ_ ct m o c lo mo la wa ba
/-- the words of the poem are words; a line that isn't written has none -/
def IZ_ (c : St_) : Prop := (∀ l, sn c ≤ l → ss c l = 0) ∧ ∀ l w, l < sn c → w < ss c l → iw_ (sw c (10 * l + w)) = true
/-- the kinds of rows are apart -/
def CA_ (ct : Nat → Nat) : Prop := ct 0 ≠ ct 1 ∧ ct 0 ≠ ct 2 ∧ ct 0 ≠ ct 3 ∧ ct 0 ≠ ct 4 ∧ ct 1 ≠ ct 2 ∧ ct 1 ≠ ct 3 ∧ ct 1 ≠ ct 4 ∧ ct 2 ≠ ct 3 ∧ ct 2 ≠ ct 4 ∧ ct 3 ≠ ct 4
theorem arr_ap {U : State} {a b : ClassId} {t u : FieldType} (h1 : ArrOfT U a t) (h2 : ArrOfT U b u) (hne : t ≠ u) : a ≠ b := by
  intro e
  subst e
  obtain ⟨-, k, hk, comp, hkind⟩ := h1 0 (fun _ => .null)
  obtain ⟨-, k', hk', comp', hkind'⟩ := h2 0 (fun _ => .null)
  cases hk.symm.trans hk'
  rw [hkind] at hkind'
  cases hkind'
  exact hne rfl
theorem CA_of {g : va_G} {ct : Nat → Nat} {s : State} (h : va_K g vwCl (ty_ ct) s) : CA_ ct := by
  have a0 : ArrOfT s (ct 0) .int := (h.2 0 (ct 0, .int) rfl).1
  have a1 : ArrOfT s (ct 1) (.array .int) := (h.2 1 (ct 1, .array .int) rfl).1
  have a2 : ArrOfT s (ct 2) .boolean := (h.2 2 (ct 2, .boolean) rfl).1
  have a3 : ArrOfT s (ct 3) (.array .boolean) := (h.2 3 (ct 3, .array .boolean) rfl).1
  have a4 : ArrOfT s (ct 4) (.array (.array .boolean)) := (h.2 4 (ct 4, .array (.array .boolean)) rfl).1
  exact ⟨arr_ap a0 a1 (by decide), arr_ap a0 a2 (by decide), arr_ap a0 a3 (by decide), arr_ap a0 a4 (by decide), arr_ap a1 a2 (by decide), arr_ap a1 a3 (by decide), arr_ap a1 a4 (by decide), arr_ap a2 a3 (by decide), arr_ap a2 a4 (by decide), arr_ap a3 a4 (by decide)⟩
section NE
variable {ct : Nat → Nat} {m : Pl_} {a b n k t u : Nat} {P : Nat → Int32} {P' : Nat → Int32} {O : Nat → Option Nat} {O' : Nat → Option Nat} {z : Int32} {lo mo : Option Nat}
theorem ne_IB (h1 : AI_ ct m a n P) (h2 : OB_ m b z lo mo) : a ≠ b := by
  intro e; subst e; obtain ⟨-, f, h3, -⟩ := h1; rw [h2.2] at h3; cases h3
theorem ne_ZB (h1 : AZ_ ct m a n P) (h2 : OB_ m b z lo mo) : a ≠ b := by
  intro e; subst e; obtain ⟨-, f, h3, -⟩ := h1; rw [h2.2] at h3; cases h3
theorem ne_OB (h1 : AO_ ct t m a n O) (h2 : OB_ m b z lo mo) : a ≠ b := by
  intro e; subst e; obtain ⟨-, f, h3, -⟩ := h1; rw [h2.2] at h3; cases h3
theorem ne_IO (h1 : AI_ ct m a n P) (h2 : AO_ ct t m b k O) (h : ct 0 ≠ ct t) : a ≠ b := by
  intro e; subst e; obtain ⟨-, f, h3, -⟩ := h1; obtain ⟨-, f', h4, -⟩ := h2; rw [h3] at h4
  exact h (congrArg (fun e : va_E => match e with | .inl q => q.1 | .inr _ => 0) h4)
theorem ne_ZO (h1 : AZ_ ct m a n P) (h2 : AO_ ct t m b k O) (h : ct 2 ≠ ct t) : a ≠ b := by
  intro e; subst e; obtain ⟨-, f, h3, -⟩ := h1; obtain ⟨-, f', h4, -⟩ := h2; rw [h3] at h4
  exact h (congrArg (fun e : va_E => match e with | .inl q => q.1 | .inr _ => 0) h4)
theorem ne_IZ (h1 : AI_ ct m a n P) (h2 : AZ_ ct m b k P') (h : ct 0 ≠ ct 2) : a ≠ b := by
  intro e; subst e; obtain ⟨-, f, h3, -⟩ := h1; obtain ⟨-, f', h4, -⟩ := h2; rw [h3] at h4
  exact h (congrArg (fun e : va_E => match e with | .inl q => q.1 | .inr _ => 0) h4)
theorem ne_OO (h1 : AO_ ct t m a n O) (h2 : AO_ ct u m b k O') (h : ct t ≠ ct u) : a ≠ b := by
  intro e; subst e; obtain ⟨-, f, h3, -⟩ := h1; obtain ⟨-, f', h4, -⟩ := h2; rw [h3] at h4
  exact h (congrArg (fun e : va_E => match e with | .inl q => q.1 | .inr _ => 0) h4)
end NE
section SIL
variable {ct : Nat → Nat} {m m1 m2 : Pl_} {o : Nat} {c : St_} {lo mo : Nat} {la wa : Nat → Nat} {ba : Nat → Nat → Nat}
theorem SI_.ex (h : SI_ ct m o c) (hx : Ex_ m m1) : SI_ ct m1 o c := by
  obtain ⟨lo, mo, la, wa, ba, h1, h2, h3, h4, h5, h6, h7⟩ := h
  exact ⟨lo, mo, la, wa, ba, h1.ex hx, h2.ex hx, h3.ex hx, fun i hi => (h4 i hi).ex hx, fun i hi => (h5 i hi).ex hx, fun i w hi hw => (h6 i w hi hw).ex hx, h7⟩
/-- another order -/
theorem SI_.count (h : SI_ ct m o c) (hx : PU_ m o m1) {k : Nat} (hn : ∀ lo mo, OB_ m o (nI (so c)) lo mo → OB_ m1 o (nI k) lo mo) : SI_ ct m1 o (st_count c k) := by
  obtain ⟨lo, mo, la, wa, ba, h1, h2, h3, h4, h5, h6, h7⟩ := h
  exact ⟨lo, mo, la, wa, ba, hn _ _ h1, h2.pu hx (ne_OB h2 h1), h3.pu hx (ne_OB h3 h1), fun i hi => (h4 i hi).pu hx (ne_IB (h4 i hi) h1), fun i hi => (h5 i hi).pu hx (ne_OB (h5 i hi) h1), fun i w hi hw => (h6 i w hi hw).pu hx (ne_ZB (h6 i w hi hw) h1), h7⟩
end SIL
end
section
section SIM
variable {ct : Nat → Nat} {m ms m1 m2 : Pl_} {o : Nat} {c : St_} {lo mo : Nat} {la wa : Nat → Nat} {ba : Nat → Nat → Nat}
theorem AI_.pu2 {a n b d : Nat} {P : Nat → Int32} (h : AI_ ct ms a n P) (hp : PU_ ms b m1) (hp2 : PU_ m1 d m2) (h1 : a ≠ b) (h2 : a ≠ d) : AI_ ct m2 a n P := (h.pu hp h1).pu hp2 h2
theorem AZ_.pu2 {a n b d : Nat} {P : Nat → Int32} (h : AZ_ ct ms a n P) (hp : PU_ ms b m1) (hp2 : PU_ m1 d m2) (h1 : a ≠ b) (h2 : a ≠ d) : AZ_ ct m2 a n P := (h.pu hp h1).pu hp2 h2
theorem AO_.pu2 {t a n b d : Nat} {P : Nat → Option Nat} (h : AO_ ct t ms a n P) (hp : PU_ ms b m1) (hp2 : PU_ m1 d m2) (h1 : a ≠ b) (h2 : a ≠ d) : AO_ ct t m2 a n P := (h.pu hp h1).pu hp2 h2
theorem SJ_.ex (h : SJ_ ct m o c lo mo la wa ba) (hx : Ex_ m ms) : SJ_ ct ms o c lo mo la wa ba := by
  obtain ⟨h1, h2, h3, h4, h5, h6, h7⟩ := h
  exact ⟨h1.ex hx, h2.ex hx, h3.ex hx, fun i hi => (h4 i hi).ex hx, fun i hi => (h5 i hi).ex hx, fun i w hi hw => (h6 i w hi hw).ex hx, h7⟩
/-- a line more -/
theorem SJ_.write (h : SJ_ ct m o c lo mo la wa ba) (hx : Ex_ m ms) (hz : ss c (sn c) = 0) {A Wt e1 e2 : Nat} {P1 : Nat → Int32} {P2 : Nat → Option Nat} (hA : AO_ ct 1 ms A (sn c + 1) (fun k => if k < sn c then some (la k) else some e1)) (hW : AO_ ct 4 ms Wt (sn c + 1) (fun k => if k < sn c then some (wa k) else some e2)) (g1 : AI_ ct ms e1 0 P1) (g2 : AO_ ct 3 ms e2 0 P2) (hp : PU_ ms o m1) (hp2 : PU_ m1 o m2) (hO : OB_ m2 o (nI (so c)) (some A) (some Wt)) : SI_ ct m2 o (st_write c) := by
  obtain ⟨h1, h2, h3, h4, h5, h6, h7⟩ := h.ex hx
  refine ⟨A, Wt, fun i => if i < sn c then la i else e1, fun i => if i < sn c then wa i else e2, ba, hO, ?_, ?_, ?_, ?_, ?_, ?_⟩
  · refine (hA.pu2 hp hp2 (ne_OB hA h1) (ne_OB hA h1)).to (fun k _ => by by_cases q : k < sn c <;> simp [q])
  · refine (hW.pu2 hp hp2 (ne_OB hW h1) (ne_OB hW h1)).to (fun k _ => by by_cases q : k < sn c <;> simp [q])
  · intro i hi
    have hi : i < sn c + 1 := hi
    show AI_ ct m2 (if i < sn c then la i else e1) (ss c i) (fun w => nI (sw c (10 * i + w)))
    by_cases e : i < sn c
    · rw [if_pos e]
      exact (h4 i e).pu2 hp hp2 (ne_IB (h4 i e) h1) (ne_IB (h4 i e) h1)
    · have e2 : i = sn c := by omega
      subst e2
      rw [if_neg e, hz]
      exact (g1.pu2 hp hp2 (ne_IB g1 h1) (ne_IB g1 h1)).to (fun k hk => absurd hk (by omega))
  · intro i hi
    have hi : i < sn c + 1 := hi
    show AO_ ct 3 m2 (if i < sn c then wa i else e2) (ss c i) (fun w => some (ba i w))
    by_cases e : i < sn c
    · rw [if_pos e]
      exact (h5 i e).pu2 hp hp2 (ne_OB (h5 i e) h1) (ne_OB (h5 i e) h1)
    · have e2 : i = sn c := by omega
      subst e2
      rw [if_neg e, hz]
      exact (g2.pu2 hp hp2 (ne_OB g2 h1) (ne_OB g2 h1)).to (fun k hk => absurd hk (by omega))
  · intro i w hi hw
    have hi : i < sn c + 1 := hi
    have hw : w < ss c i := hw
    have e : i < sn c := by
      by_cases q : i = sn c
      · subst q; omega
      · omega
    exact (h6 i w e hw).pu2 hp hp2 (ne_ZB (h6 i w e hw) h1) (ne_ZB (h6 i w e hw) h1)
  · intro i w i' w' hi hw hi' hw'
    have hi : i < sn c + 1 := hi
    have hi' : i' < sn c + 1 := hi'
    have hw : w < ss c i := hw
    have hw' : w' < ss c i' := hw'
    have e : i < sn c := by
      by_cases q : i = sn c
      · subst q; omega
      · omega
    have e' : i' < sn c := by
      by_cases q : i' = sn c
      · subst q; omega
      · omega
    exact h7 i w i' w' e hw e' hw'
/-- a word more -/
theorem SJ_.add (hC : CA_ ct) (h : SJ_ ct m o c lo mo la wa ba) (hx : Ex_ m ms) {l v A Wt b : Nat} (hl : l < sn c) (hs : ss c l < 10) (h10 : ∀ i, ss c i ≤ 10) (hA : AI_ ct ms A (ss c l + 1) (fun k => if k < ss c l then nI (sw c (10 * l + k)) else nI v)) (hW : AO_ ct 3 ms Wt (ss c l + 1) (fun k => if k < ss c l then some (ba l k) else some b)) (hb : AZ_ ct ms b (ln_ v) (fun _ => 0)) (fb : b ∉ m.1)
    (hp : PU_ ms lo m1) (hL : AO_ ct 1 m1 lo (sn c) (va_up (fun i => some (la i)) l (some A))) (hp2 : PU_ m1 mo m2) (hM : AO_ ct 4 m2 mo (sn c) (va_up (fun i => some (wa i)) l (some Wt))) : SI_ ct m2 o (st_add c l v) := by
  have h0 := h
  obtain ⟨h1, h2, h3, h4, h5, h6, h7⟩ := h.ex hx
  obtain ⟨c01, c02, c03, c04, c12, c13, c14, c23, c24, c34⟩ := hC
  refine ⟨lo, mo, fun i => if i = l then A else la i, fun i => if i = l then Wt else wa i, fun i k => if i = l ∧ k = ss c l then b else ba i k, ?_, ?_, ?_, ?_, ?_, ?_, ?_⟩
  · exact (h1.pu hp (ne_OB h2 h1).symm).pu hp2 (ne_OB h3 h1).symm
  · refine (hL.pu hp2 (ne_OO h2 h3 c14)).to (fun k _ => by by_cases q : k = l <;> simp [va_up, q])
  · refine hM.to (fun k _ => by by_cases q : k = l <;> simp [va_up, q])
  · intro i hi
    have hi : i < sn c := hi
    show AI_ ct m2 (if i = l then A else la i) (up_ (ss c) l (ss c l + 1) i) (fun w => nI (up_ (sw c) (10 * l + ss c l) v (10 * i + w)))
    by_cases e : i = l
    · subst e
      rw [if_pos rfl, up_s]
      refine (hA.pu2 hp hp2 (ne_IO hA h2 c01) (ne_IO hA h3 c04)).to (fun k hk => ?_)
      by_cases q : k < ss c i
      · rw [if_pos q, up_n (by omega)]
      · rw [if_neg q, show k = ss c i by omega, up_s]
    · rw [if_neg e, up_n e]
      have := h10 i
      refine ((h4 i hi).pu2 hp hp2 (ne_IO (h4 i hi) h2 c01) (ne_IO (h4 i hi) h3 c04)).to (fun k hk => ?_)
      rw [up_n (by omega)]
  · intro i hi
    have hi : i < sn c := hi
    show AO_ ct 3 m2 (if i = l then Wt else wa i) (up_ (ss c) l (ss c l + 1) i) (fun w => some (if i = l ∧ w = ss c l then b else ba i w))
    by_cases e : i = l
    · subst e
      rw [if_pos rfl, up_s]
      refine (hW.pu2 hp hp2 (ne_OO hW h2 c13.symm) (ne_OO hW h3 c34)).to (fun k hk => ?_)
      by_cases q : k < ss c i
      · rw [if_pos q, if_neg (fun z => by omega)]
      · rw [if_neg q, if_pos ⟨rfl, by omega⟩]
    · rw [if_neg e, up_n e]
      refine ((h5 i hi).pu2 hp hp2 (ne_OO (h5 i hi) h2 c13.symm) (ne_OO (h5 i hi) h3 c34)).to (fun k hk => ?_)
      rw [if_neg (fun z => e z.1)]
  · intro i w hi hw
    have hi : i < sn c := hi
    have hw : w < up_ (ss c) l (ss c l + 1) i := hw
    show AZ_ ct m2 (if i = l ∧ w = ss c l then b else ba i w) (ln_ (up_ (sw c) (10 * l + ss c l) v (10 * i + w))) (fun k => b2_ ((up_ (sk c) (10 * l + ss c l) 0 (10 * i + w)).testBit k))
    by_cases e : i = l ∧ w = ss c l
    · obtain ⟨rfl, rfl⟩ := e
      rw [if_pos ⟨rfl, rfl⟩, up_s, up_s]
      refine (hb.pu2 hp hp2 (ne_ZO hb h2 c12.symm) (ne_ZO hb h3 c24)).to (fun k _ => ?_)
      rw [Nat.zero_testBit]
      rfl
    · have hw2 : w < ss c i := by
        by_cases q : i = l
        · subst q
          rw [up_s] at hw
          have : w ≠ ss c i := fun z => e ⟨rfl, z⟩
          omega
        · rw [up_n q] at hw
          exact hw
      have := h10 i
      have hne : 10 * i + w ≠ 10 * l + ss c l := by
        intro z
        exact e ⟨by omega, by omega⟩
      rw [if_neg e, up_n hne, up_n hne]
      exact (h6 i w hi hw2).pu2 hp hp2 (ne_ZO (h6 i w hi hw2) h2 c12.symm) (ne_ZO (h6 i w hi hw2) h3 c24)
  · intro i w i' w' hi hw hi' hw' he
    have hi : i < sn c := hi
    have hi' : i' < sn c := hi'
    have hw : w < up_ (ss c) l (ss c l + 1) i := hw
    have hw' : w' < up_ (ss c) l (ss c l + 1) i' := hw'
    have he : (if i = l ∧ w = ss c l then b else ba i w) = (if i' = l ∧ w' = ss c l then b else ba i' w') := he
    have key : ∀ i w, w < up_ (ss c) l (ss c l + 1) i → ¬ (i = l ∧ w = ss c l) → w < ss c i := by
      intro i w hw e
      by_cases q : i = l
      · subst q
        rw [up_s] at hw
        have : w ≠ ss c i := fun z => e ⟨rfl, z⟩
        omega
      · rw [up_n q] at hw
        exact hw
    have nb : ∀ i w, i < sn c → w < ss c i → b ≠ ba i w := fun i w hi hw z => fb (z ▸ (h0.2.2.2.2.2.1 i w hi hw).1)
    by_cases e : i = l ∧ w = ss c l
    · by_cases e' : i' = l ∧ w' = ss c l
      · exact ⟨e.1.trans e'.1.symm, e.2.trans e'.2.symm⟩
      · rw [if_pos e, if_neg e'] at he
        exact absurd he (nb i' w' hi' (key i' w' hw' e'))
    · by_cases e' : i' = l ∧ w' = ss c l
      · rw [if_neg e, if_pos e'] at he
        exact absurd he.symm (nb i w hi (key i w hw e))
      · rw [if_neg e, if_neg e'] at he
        exact h7 i w i' w' hi (key i w hw e) hi' (key i' w' hw' e') he
/-- the last word away -/
theorem SJ_.cut (hC : CA_ ct) (h : SJ_ ct m o c lo mo la wa ba) (hx : Ex_ m ms) {l A Wt : Nat} (hl : l < sn c) (hA : AI_ ct ms A (ss c l - 1) (fun k => nI (sw c (10 * l + k)))) (hW : AO_ ct 3 ms Wt (ss c l - 1) (fun k => some (ba l k)))
    (hp : PU_ ms lo m1) (hL : AO_ ct 1 m1 lo (sn c) (va_up (fun i => some (la i)) l (some A))) (hp2 : PU_ m1 mo m2) (hM : AO_ ct 4 m2 mo (sn c) (va_up (fun i => some (wa i)) l (some Wt))) : SI_ ct m2 o (st_cut c l) := by
  obtain ⟨h1, h2, h3, h4, h5, h6, h7⟩ := h.ex hx
  obtain ⟨c01, c02, c03, c04, c12, c13, c14, c23, c24, c34⟩ := hC
  have key : ∀ i w, w < up_ (ss c) l (ss c l - 1) i → w < ss c i := by
    intro i w hw
    by_cases q : i = l
    · subst q; rw [up_s] at hw; omega
    · rw [up_n q] at hw; exact hw
  refine ⟨lo, mo, fun i => if i = l then A else la i, fun i => if i = l then Wt else wa i, ba, ?_, ?_, ?_, ?_, ?_, ?_, ?_⟩
  · exact (h1.pu hp (ne_OB h2 h1).symm).pu hp2 (ne_OB h3 h1).symm
  · refine (hL.pu hp2 (ne_OO h2 h3 c14)).to (fun k _ => by by_cases q : k = l <;> simp [va_up, q])
  · refine hM.to (fun k _ => by by_cases q : k = l <;> simp [va_up, q])
  · intro i hi
    have hi : i < sn c := hi
    show AI_ ct m2 (if i = l then A else la i) (up_ (ss c) l (ss c l - 1) i) (fun w => nI (sw c (10 * i + w)))
    by_cases e : i = l
    · subst e
      rw [if_pos rfl, up_s]
      exact hA.pu2 hp hp2 (ne_IO hA h2 c01) (ne_IO hA h3 c04)
    · rw [if_neg e, up_n e]
      exact (h4 i hi).pu2 hp hp2 (ne_IO (h4 i hi) h2 c01) (ne_IO (h4 i hi) h3 c04)
  · intro i hi
    have hi : i < sn c := hi
    show AO_ ct 3 m2 (if i = l then Wt else wa i) (up_ (ss c) l (ss c l - 1) i) (fun w => some (ba i w))
    by_cases e : i = l
    · subst e
      rw [if_pos rfl, up_s]
      exact hW.pu2 hp hp2 (ne_OO hW h2 c13.symm) (ne_OO hW h3 c34)
    · rw [if_neg e, up_n e]
      exact (h5 i hi).pu2 hp hp2 (ne_OO (h5 i hi) h2 c13.symm) (ne_OO (h5 i hi) h3 c34)
  · intro i w hi hw
    have hi : i < sn c := hi
    have hw2 := key i w hw
    exact (h6 i w hi hw2).pu2 hp hp2 (ne_ZO (h6 i w hi hw2) h2 c12.symm) (ne_ZO (h6 i w hi hw2) h3 c24)
  · intro i w i' w' hi hw hi' hw' he
    exact h7 i w i' w' hi (key i w hw) hi' (key i' w' hw') he
/-- a letter marked, or unmarked -/
theorem SJ_.mark (hC : CA_ ct) (h : SJ_ ct m o c lo mo la wa ba) {l w p : Nat} {v : Int32} (hl : l < sn c) (hw : w < ss c l) (h10 : ∀ i, ss c i ≤ 10) (hw6 : sw c (10 * l + w) < 387420489) (hk : sk c (10 * l + w) < 64) (hp6 : p < ln_ (sw c (10 * l + w))) (hp : PU_ m (ba l w) m1) (hv : v = b2_ (!(sk c (10 * l + w)).testBit p)) (hB : AZ_ ct m1 (ba l w) (ln_ (sw c (10 * l + w))) (upd (fun k => b2_ ((sk c (10 * l + w)).testBit k)) p v)) : SI_ ct m1 o (st_mark c (10 * l + w) p) := by
  obtain ⟨h1, h2, h3, h4, h5, h6, h7⟩ := h
  obtain ⟨c01, c02, c03, c04, c12, c13, c14, c23, c24, c34⟩ := hC
  have hz := h6 l w hl hw
  have h66 := ln_le hw6
  refine ⟨lo, mo, la, wa, ba, h1.pu hp (ne_ZB hz h1).symm, h2.pu hp (ne_ZO hz h2 c12.symm).symm, h3.pu hp (ne_ZO hz h3 c24).symm, fun i hi => (h4 i hi).pu hp (ne_IZ (h4 i hi) hz c02), fun i hi => (h5 i hi).pu hp (ne_ZO hz (h5 i hi) c23).symm, ?_, h7⟩
  intro i k hi hk2
  have hi : i < sn c := hi
  have hk2 : k < ss c i := hk2
  show AZ_ ct m1 (ba i k) (ln_ (sw c (10 * i + k))) (fun j => b2_ ((up_ (sk c) (10 * l + w) (sk c (10 * l + w) ^^^ 2 ^ p) (10 * i + k)).testBit j))
  by_cases e : 10 * i + k = 10 * l + w
  · have a1 := h10 i
    have a2 := h10 l
    have e1 : i = l := by omega
    have e2 : k = w := by omega
    subst e1
    subst e2
    rw [up_s]
    refine hB.to (fun j hj => ?_)
    rw [xb_ _ hk p (by omega) j (by omega)]
    unfold upd
    split
    · exact hv
    · rfl
  · rw [up_n e]
    refine (h6 i k hi hk2).pu hp (fun z => e ?_)
    obtain ⟨rfl, rfl⟩ := h7 i k l w hi hk2 hl hw z
    rfl
end SIM
/-! ===== what always holds goes on ===== -/
theorem IZ_.count {c : St_} (h : IZ_ c) (k : Nat) : IZ_ (st_count c k) := h
theorem IZ_.write {c : St_} (h : IZ_ c) : IZ_ (st_write c) := ⟨fun l hl => h.1 l (by have : sn c + 1 ≤ l := hl; omega), fun l w hl hw => by
  have hl : l < sn c + 1 := hl
  have hw : w < ss c l := hw
  have e : l < sn c := by
    by_cases q : l = sn c
    · subst q; rw [h.1 _ (Nat.le_refl _)] at hw; omega
    · omega
  exact h.2 l w e hw⟩
theorem IZ_.add {c : St_} (h : IZ_ c) (h10 : ∀ i, ss c i ≤ 10) {l v : Nat} (hl : l < sn c) (hs : ss c l < 10) (hv : iw_ v = true) : IZ_ (st_add c l v) := ⟨fun i hi => by
  have hi : sn c ≤ i := hi
  show up_ (ss c) l (ss c l + 1) i = 0
  rw [up_n (by omega)]
  exact h.1 i hi, fun i w hi hw => by
  have hi : i < sn c := hi
  have hw : w < up_ (ss c) l (ss c l + 1) i := hw
  show iw_ (up_ (sw c) (10 * l + ss c l) v (10 * i + w)) = true
  have := h10 i
  by_cases e : 10 * i + w = 10 * l + ss c l
  · rw [e, up_s]; exact hv
  · rw [up_n e]
    by_cases q : i = l
    · subst q
      rw [up_s] at hw
      exact h.2 i w hi (by omega)
    · rw [up_n q] at hw
      exact h.2 i w hi hw⟩
theorem IZ_.cut {c : St_} (h : IZ_ c) (l : Nat) : IZ_ (st_cut c l) := ⟨fun i hi => by
  have hi : sn c ≤ i := hi
  show up_ (ss c) l (ss c l - 1) i = 0
  by_cases q : i = l
  · subst q; rw [up_s, h.1 i hi]
  · rw [up_n q]; exact h.1 i hi, fun i w hi hw => by
  have hi : i < sn c := hi
  have hw : w < up_ (ss c) l (ss c l - 1) i := hw
  show iw_ (sw c (10 * i + w)) = true
  by_cases q : i = l
  · subst q; rw [up_s] at hw; exact h.2 i w hi (by omega)
  · rw [up_n q] at hw; exact h.2 i w hi hw⟩
theorem IZ_.mark {c : St_} (h : IZ_ c) (i p : Nat) : IZ_ (st_mark c i p) := h
end
section
theorem vv_ {ov k a t : Nat} (ho : ov < 3) (hk : k < 27) (h1 : ¬ ov = 1) (h2 : ¬ ov = 2) (h9 : a ≤ 9) (h : (a = k ∧ t = 1) ∨ (a + 9 = k ∧ t = 10 ∧ 0 < a) ∨ (a + 18 = k ∧ t = 100 ∧ 0 < a)) : a * t = vl_ ov k := by
  unfold vl_
  rw [if_neg h2, if_neg h1]
  rcases h with ⟨rfl, rfl⟩ | ⟨e, rfl, hp⟩ | ⟨e, rfl, hp⟩
  · rw [if_pos h9, Nat.mul_one]
  · by_cases q : k ≤ 9
    · omega
    · rw [if_neg q, if_pos (by omega), show k - 9 = a by omega]
  · by_cases q : k ≤ 9
    · omega
    · by_cases q2 : k ≤ 18
      · omega
      · rw [if_neg q, if_neg q2, show k - 18 = a by omega]
theorem lt_up {w k j : Nat} {N : Nat} (hj : j < N) : upd (fun j => if j < k then (0 : Int32) else nI (at_ w j)) (k - 1) (nI (at_ w (k - 1))) j = if j < k - 1 then 0 else nI (at_ w j) := by
  unfold upd
  by_cases e : j = k - 1
  · subst e
    rw [if_pos rfl, if_neg (by omega)]
  · rw [if_neg e]
    show (if j < k then (0 : Int32) else nI (at_ w j)) = _
    by_cases q : j < k
    · rw [if_pos q, if_pos (by omega)]
    · rw [if_neg q, if_neg (by omega)]
end
section
set_option maxHeartbeats 4000000 in
set_option maxRecDepth 100000 in
theorem c_L_value (l : Launch) (ov k : Nat) (ho : ov < 3) (hk : k < 27) : PF l yL_value wsL_value 0 [.int (nI ov), .int (nI k)] (nI (vl_ ov k)) := by
  refine Met.ofW (cc := cL_value) (maxL := 4) (ret := (some .int)) (by decide) rfl ?_
  intro p e s m args below meth c s₁ B hml hv
  obtain ⟨rfl, -⟩ := hv
  have hx := B.exec
  have hb := B.bytes
  have hr := B.returns
  have hts := atoms_spec (ws := wsL_value) B.pre
  have hown : s.vm.findClass RL = some m.cls := findClass_of_methodNamed B.named
  have hlocks := B.notSynchronized
  have hkk : 7 * k * k ≤ 7 * 26 * 26 := Nat.mul_le_mul (Nat.mul_le_mul (by omega) (by omega)) (by omega)
  have hl := lv_entry ([.int (nI ov), .int (nI k)]) (n := 4) (Nat.le_of_ble_eq_true rfl)
  rw [lg_entry_eq]
  generalize (lg_sl ([.int (nI ov), .int (nI k)]) ++ List.replicate (4 - (lg_sl ([.int (nI ov), .int (nI k)])).length) Slot.unset).toArray = ls at hl ⊢
  have hl : lv_has ls 4 [(0, .int (nI ov)), (1, .int (nI k))] := hl
  refine lv_iload_n hx hb dL_value_0 rfl (lv_at hl 0 rfl) ?_
  refine lv_iconst (v := nI 1) hx hb dL_value_1 (by decide) ?_
  refine lv_icmp_ne (tgt := 7) hx hb dL_value_2 (by decide) (fun c_2 => ?_) (fun c_2 => ?_)
  · skip
    have n_2 : ¬ ov = 1 := fun q__ => c_2 ((nI_eq (a := ov) (b := 1) (by omega) (by omega)).mpr q__)
    refine lv_iload_n hx hb dL_value_7 rfl (lv_at hl 0 rfl) ?_
    refine lv_iconst (v := nI 2) hx hb dL_value_8 (by decide) ?_
    refine lv_icmp_ne (tgt := 24) hx hb dL_value_9 (by decide) (fun c_9 => ?_) (fun c_9 => ?_)
    · skip
      have n_9 : ¬ ov = 2 := fun q__ => c_9 ((nI_eq (a := ov) (b := 2) (by omega) (by omega)).mpr q__)
      refine lv_iload_n hx hb dL_value_24 rfl (lv_at hl 1 rfl) ?_
      refine lv_istore_n (lv' := [(2, .int (nI k)), (0, .int (nI ov)), (1, .int (nI k))]) hx hb dL_value_25 rfl hl (by decide) rfl (fun ls hl => ?_)
      refine lv_iconst (v := nI 1) hx hb dL_value_26 (by decide) ?_
      refine lv_istore_n (lv' := [(3, .int (nI 1)), (2, .int (nI k)), (0, .int (nI ov)), (1, .int (nI k))]) hx hb dL_value_27 rfl hl (by decide) rfl (fun ls hl => ?_)
      have LP_28 : ∀ (n_ : Nat) (a_ : Nat) (t_ : Nat), a_ < n_ → (a_ ≤ k) → ((a_ = k ∧ t_ = 1) ∨ (a_ + 9 = k ∧ t_ = 10 ∧ 0 < a_) ∨ (a_ + 18 = k ∧ t_ = 100 ∧ 0 < a_)) → ∀ ls : Array Slot, lv_has ls 4 [(3, .int (nI t_)), (2, .int (nI a_)), (0, .int (nI ov)), (1, .int (nI k))] → W p l e (headSpec wsL_value (rm_ 0 0 0)).room s m ([.int (nI ov), .int (nI k)] : List Value).toArray below meth c s.heap [] 0 0 (MQ below (va_Qi (fun r (_ : Unit) => r = nI (vl_ ov k)) (fun _ _ => True) (fun _ => False)) ([.int (nI ov), .int (nI k)] : List Value).toArray s 0 0 (fun _ => False)) (F0 m 28 ls []) := by
        intro n_
        induction n_ with
        | zero => intro a_ t_ hm; exact absurd hm (Nat.not_lt_zero _)
        | succ n_ ih_28 =>
          intro a_ t_ hm h1 h2 ls hl
          refine lv_iload_n hx hb dL_value_28 rfl (lv_at hl 1 rfl) ?_
          refine lv_bipush (v := nI 9) hx hb dL_value_29 (by decide) ?_
          refine lv_icmp_le (tgt := 45) hx hb dL_value_31 (by decide) (fun c_31 => ?_) (fun c_31 => ?_)
          · skip
            have n_31 : a_ ≤ 9 := (nI_leI (a := a_) (b := 9) (by omega) (by omega)).mp c_31
            have hE : a_ * t_ = vl_ ov k := vv_ ho hk n_2 n_9 n_31 h2
            refine lv_iload_n hx hb dL_value_45 rfl (lv_at hl 1 rfl) ?_
            refine lv_iload_n hx hb dL_value_46 rfl (lv_at hl 0 rfl) ?_
            refine lv_imul hx hb dL_value_47 ?_
            refine lv_tn (pk_mul _ _) ?_
            exact W.iret hx hb hr (fun t ht hW => ⟨⟨_, (), rfl, (by show nI (a_ * t_) = nI (vl_ ov k); rw [hE]), trivial⟩, ⟨Nat.le_of_eq (by rw [ht]), fun q _ _ => by rw [ht]⟩⟩) (fun q hq => absurd hq List.not_mem_nil) dL_value_48
          · skip
            have n_31 : ¬ a_ ≤ 9 := fun q__ => c_31 ((nI_leI (a := a_) (b := 9) (by omega) (by omega)).mpr q__)
            refine lv_iinc (v := nI (a_ - 9)) (lv' := [(2, .int (nI (a_ - 9))), (3, .int (nI t_)), (0, .int (nI ov)), (1, .int (nI k))]) hx hb dL_value_34 hl (k := 1) rfl (by rw [show (Int32.ofInt (-9)) = -nI 9 by decide, ← Int32.sub_eq_add_neg, pk_sub (by omega)]) (by decide) rfl (fun ls hl => ?_)
            refine lv_iload_n hx hb dL_value_37 rfl (lv_at hl 1 rfl) ?_
            refine lv_bipush (v := nI 10) hx hb dL_value_38 (by decide) ?_
            refine lv_imul hx hb dL_value_40 ?_
            refine lv_tn (pk_mul _ _) ?_
            refine lv_istore_n (lv' := [(3, .int (nI (t_ * 10))), (2, .int (nI (a_ - 9))), (0, .int (nI ov)), (1, .int (nI k))]) hx hb dL_value_41 rfl hl (by decide) rfl (fun ls hl => ?_)
            refine lv_goto (tgt := 28) hx hb dL_value_42 (by decide) ?_
            exact ih_28 (a_ - 9) (t_ * 10) (by omega) (by omega) (by omega) ls (lv_sub hl [0, 1, 2, 3] rfl)
      exact LP_28 _ k 1 (Nat.lt_succ_self _) (Nat.le_refl _) (Or.inl ⟨rfl, rfl⟩) ls (lv_sub hl [0, 1, 2, 3] rfl)
    · skip
      have n_9 : ov = 2 := (nI_eq (a := ov) (b := 2) (by omega) (by omega)).mp c_9
      refine lv_bipush (v := nI 7) hx hb dL_value_12 (by decide) ?_
      refine lv_iload_n hx hb dL_value_14 rfl (lv_at hl 1 rfl) ?_
      refine lv_imul hx hb dL_value_15 ?_
      refine lv_tn (pk_mul _ _) ?_
      refine lv_iload_n hx hb dL_value_16 rfl (lv_at hl 1 rfl) ?_
      refine lv_imul hx hb dL_value_17 ?_
      refine lv_tn (pk_mul _ _) ?_
      refine lv_bipush (v := nI 101) hx hb dL_value_18 (by decide) ?_
      refine lv_irem hx hb dL_value_20 (by decide) ?_
      refine lv_tn (pk_rem (by omega) (by decide) (by decide)) ?_
      refine lv_iconst (v := nI 1) hx hb dL_value_21 (by decide) ?_
      refine lv_iadd hx hb dL_value_22 ?_
      refine lv_tn (nI_add _ _) ?_
      exact W.iret hx hb hr (fun t ht hW => ⟨⟨_, (), rfl, (by show nI ((((7 * k) * k) % 101) + 1) = nI (vl_ ov k); rw [n_9]; unfold vl_; rw [if_pos rfl, Nat.mul_assoc 7 k k, Nat.mul_comm 7 (k * k)]), trivial⟩, ⟨Nat.le_of_eq (by rw [ht]), fun q _ _ => by rw [ht]⟩⟩) (fun q hq => absurd hq List.not_mem_nil) dL_value_23
  · skip
    have n_2 : ov = 1 := (nI_eq (a := ov) (b := 1) (by omega) (by omega)).mp c_2
    refine lv_iload_n hx hb dL_value_5 rfl (lv_at hl 1 rfl) ?_
    exact W.iret hx hb hr (fun t ht hW => ⟨⟨_, (), rfl, (by show nI k = nI (vl_ ov k); rw [n_2, show vl_ 1 k = k from rfl]), trivial⟩, ⟨Nat.le_of_eq (by rw [ht]), fun q _ _ => by rw [ht]⟩⟩) (fun q hq => absurd hq List.not_mem_nil) dL_value_6
set_option maxHeartbeats 4000000 in
set_option maxRecDepth 100000 in
theorem c_L_below (l : Launch) (v : Int32) (n : Nat) (h0 : 0 < n) (hn : n < 2 ^ 31) : RI l yL_below wsL_below 0 (va_Pc [.int v, .int (nI n)] (fun _ => True)) (nI (bl_ v n)) := by
  refine Met.ofW (cc := cL_below) (maxL := 2) (ret := (some .int)) (by decide) rfl ?_
  intro p e s m args below meth c s₁ B hml hv
  obtain ⟨rfl, -⟩ := hv
  have hx := B.exec
  have hb := B.bytes
  have hr := B.returns
  have hts := atoms_spec (ws := wsL_below) B.pre
  have hown : s.vm.findClass RL = some m.cls := findClass_of_methodNamed B.named
  have hlocks := B.notSynchronized
  have hj := bj_j v
  have hl := lv_entry ([.int v, .int (nI n)]) (n := 2) (Nat.le_of_ble_eq_true rfl)
  rw [lg_entry_eq]
  generalize (lg_sl ([.int v, .int (nI n)]) ++ List.replicate (2 - (lg_sl ([.int v, .int (nI n)])).length) Slot.unset).toArray = ls at hl ⊢
  have hl : lv_has ls 2 [(0, .int v), (1, .int (nI n))] := hl
  refine lv_iload_n hx hb dL_below_0 rfl (lv_at hl 0 rfl) ?_
  refine lv_ldc hx hb hown (hts (.constant RL 7 (2147483647)) (by decide +kernel)) dL_below_1 ?_
  refine lv_tn (w := nI 2147483647) (by decide) ?_
  refine lv_iand hx hb dL_below_3 ?_
  refine lv_tn (w := nI (bj_ v)) hj.2 ?_
  refine lv_iload_n hx hb dL_below_4 rfl (lv_at hl 1 rfl) ?_
  refine lv_irem hx hb dL_below_5 (fun q => by rw [eq0_ hn] at q; omega) ?_
  refine lv_tn (pk_rem hj.1 h0 hn) ?_
  exact W.iret hx hb hr (fun t ht hW => ⟨_, rfl, rfl, ht⟩) (fun q hq => absurd hq List.not_mem_nil) dL_below_6
set_option maxHeartbeats 4000000 in
set_option maxRecDepth 100000 in
theorem c_L_letters (l : Launch) (B0 : Nat) (g : va_G) (ct ad : Nat → Nat) (cS : St_) (mS : Pl_) (x : Ax_) (w : Nat) (hw : w < 387420489) : WR l yL_letters wsL_letters 0 1 6 B0 g ct ad cS mS x [.int (nI w)] cS (fun r m1 => Ex_ mS m1 ∧ r ∉ mS.1 ∧ AI_ ct m1 r (ln_ w) (fun k => nI (at_ w k))) := by
  refine Met.ofW (cc := cL_letters) (maxL := 4) (ret := (some (.array .int))) (by decide) rfl ?_
  intro p e s m args below meth c s₁ B hml hv
  obtain ⟨rfl, hC⟩ := hv
  have hx := B.exec
  have hb := B.bytes
  have hr := B.returns
  have hts := atoms_spec (ws := wsL_letters) B.pre
  have hown : s.vm.findClass RL = some m.cls := findClass_of_methodNamed B.named
  have hlocks := B.notSynchronized
  have hS : va_S (AA B0) s.heap s.heap [] := va_S.rf
  have hB : B0 ≤ s.heap.size := hC.1.2.2.1
  have h6 := ln_le hw
  have hE := Ex_r mS
  have hl := lv_entry ([.int (nI w)]) (n := 4) (Nat.le_of_ble_eq_true rfl)
  rw [lg_entry_eq]
  generalize (lg_sl ([.int (nI w)]) ++ List.replicate (4 - (lg_sl ([.int (nI w)])).length) Slot.unset).toArray = ls at hl ⊢
  have hl : lv_has ls 4 [(0, .int (nI w))] := hl
  refine lv_iconst (v := nI 0) hx hb dL_letters_0 (by decide) ?_
  refine lv_istore_n (lv' := [(1, .int (nI 0)), (0, .int (nI w))]) hx hb dL_letters_1 rfl hl (by decide) rfl (fun ls hl => ?_)
  refine lv_iload_n hx hb dL_letters_2 rfl (lv_at hl 1 rfl) ?_
  refine lv_istore_n (lv' := [(2, .int (nI w)), (1, .int (nI 0)), (0, .int (nI w))]) hx hb dL_letters_3 rfl hl (by decide) rfl (fun ls hl => ?_)
  have LP_4 : ∀ (n_ : Nat) (k : Nat) (r : Nat), r < n_ → (k + ln_ r = ln_ w) → (r ≤ w) → ∀ ls : Array Slot, lv_has ls 4 [(2, .int (nI r)), (1, .int (nI k)), (0, .int (nI w))] → W p l e (headSpec wsL_letters (rm_ 0 1 6)).room s m ([.int (nI w)] : List Value).toArray below meth c s.heap [] 0 0 (MQ below (va_Qr (fun (_ : Qu_) => True) (fun u r t => (fun r m1 => Ex_ mS m1 ∧ r ∉ mS.1 ∧ AI_ ct m1 r (ln_ w) (fun k => nI (at_ w k))) r u.1 ∧ CW B0 g ct ad cS u.1 u.2 t.heap) (AA B0)) ([.int (nI w)] : List Value).toArray s 1 6 (AA B0)) (F0 m 4 ls []) := by
    intro n_
    induction n_ with
    | zero => intro k r hm; exact absurd hm (Nat.not_lt_zero _)
    | succ n_ ih_4 =>
      intro k r hm h1 h2 ls hl
      refine lv_iload_n hx hb dL_letters_4 rfl (lv_at hl 0 rfl) ?_
      refine lv_if_le (tgt := 19) hx hb dL_letters_5 (by decide) (fun c_5 => ?_) (fun c_5 => ?_)
      · skip
        have n_5 : r = 0 := (nle0_ (by omega)).mp c_5
        have hE1 : k = ln_ w := by rw [n_5, ln_0] at h1; omega
        have hl : lv_has ls 4 [(2, .int (nI r)), (1, .int (nI (ln_ w))), (0, .int (nI w))] := (by rw [hE1] at hl; exact hl)
        refine lv_iload_n hx hb dL_letters_19 rfl (lv_at hl 1 rfl) ?_
        refine n_i hC hB hS hx hb (hts (.arrayClass .int) (by decide +kernel)) (j := ln_ w) (by omega) (by show _ ≤ 1; omega) (by show _ ≤ 6; omega) dL_letters_20 (fun q_20 m_20 H fq_20 xq_20 A_20 hC hS => ?_)
        have fb_20 : q_20 ∉ mS.1 := hE.nin fq_20
        have hE := Ex_t hE xq_20
        refine lv_astore_n (lv' := [(2, .ref q_20), (1, .int (nI (ln_ w))), (0, .int (nI w))]) hx hb dL_letters_22 rfl hl (by decide) rfl (fun ls hl => ?_)
        refine lv_iload_n hx hb dL_letters_23 rfl (lv_at hl 2 rfl) ?_
        refine lv_istore_n (lv' := [(3, .int (nI w)), (2, .ref q_20), (1, .int (nI (ln_ w))), (0, .int (nI w))]) hx hb dL_letters_24 rfl hl (by decide) rfl (fun ls hl => ?_)
        have LP_25 : ∀ (n_ : Nat) (k : Nat) (r : Nat) (mL : Pl_) (xL : Ax_), r < n_ → (ln_ r = k) → (r ≤ w) → (r = w / 27 ^ (ln_ w - k)) → (k ≤ ln_ w) → Ex_ mS mL → AI_ ct mL q_20 (ln_ w) (fun j => if j < k then 0 else nI (at_ w j)) → ∀ (H : Heap) (locs : List Loc), CX B0 g ct ad cS mL xL s H → va_S (AA B0) s.heap H locs → ∀ ls : Array Slot, lv_has ls 4 [(3, .int (nI r)), (2, .ref q_20), (1, .int (nI k)), (0, .int (nI w))] → W p l e (headSpec wsL_letters (rm_ 0 1 6)).room s m ([.int (nI w)] : List Value).toArray below meth c H locs (0 + 1) (0 + ln_ w) (MQ below (va_Qr (fun (_ : Qu_) => True) (fun u r t => (fun r m1 => Ex_ mS m1 ∧ r ∉ mS.1 ∧ AI_ ct m1 r (ln_ w) (fun k => nI (at_ w k))) r u.1 ∧ CW B0 g ct ad cS u.1 u.2 t.heap) (AA B0)) ([.int (nI w)] : List Value).toArray s 1 6 (AA B0)) (F0 m 25 ls []) := by
          intro n_
          induction n_ with
          | zero => intro k r mL xL hm; exact absurd hm (Nat.not_lt_zero _)
          | succ n_ ih_25 =>
            intro k r mL xL hm h1 h2 h3 h4 hE A_20 H locs hC hS ls hl
            have hk1 : 0 < r → 0 < k := fun q => by rw [ln_s q (by omega)] at h1; omega
            refine lv_iload_n hx hb dL_letters_25 rfl (lv_at hl 0 rfl) ?_
            refine lv_if_le (tgt := 47) hx hb dL_letters_26 (by decide) (fun c_26 => ?_) (fun c_26 => ?_)
            · skip
              have n_26 : r = 0 := (nle0_ (by omega)).mp c_26
              have hE2 : k = 0 := by rw [n_26, ln_0] at h1; omega
              have A_end : AI_ ct mL q_20 (ln_ w) (fun k => nI (at_ w k)) := A_20.to (fun j hj => if_neg (by omega))
              refine lv_aload_n hx hb dL_letters_47 rfl (lv_at hl 1 rfl) ?_
              refine W.widen (k := 1) (n := 6) (by omega) (by omega) ?_
              exact W.aret hx hb hr (Or.inr ⟨_, rfl⟩) (Or.inr ⟨_, rfl⟩) (fun t ht hW => ⟨⟨(mL, xL), _, rfl, trivial, ⟨hE, fb_20, A_end⟩, (by show CW B0 g ct ad cS mL xL t.heap; rw [ht]; exact hC.1)⟩, hS.F ht⟩) hS.2.2 dL_letters_48
            · skip
              have n_26 : 0 < r := Nat.pos_of_ne_zero (fun q__ => c_26 ((nle0_ (by omega)).mpr q__))
              have hk2 := hk1 n_26
              refine lv_iinc (v := nI (k - 1)) (lv' := [(1, .int (nI (k - 1))), (3, .int (nI r)), (2, .ref q_20), (0, .int (nI w))]) hx hb dL_letters_29 hl (k := 2) rfl (im2_ (by omega)) (by decide) rfl (fun ls hl => ?_)
              refine lv_aload_n hx hb dL_letters_32 rfl (lv_at hl 2 rfl) ?_
              refine lv_iload_n hx hb dL_letters_33 rfl (lv_at hl 0 rfl) ?_
              refine lv_iload_n hx hb dL_letters_34 rfl (lv_at hl 1 rfl) ?_
              refine lv_bipush (v := nI 27) hx hb dL_letters_35 (by decide) ?_
              refine lv_irem hx hb dL_letters_37 (by decide) ?_
              refine lv_tn (pk_rem (by omega) (by decide) (by decide)) ?_
              refine lv_tn (w := nI (at_ w (k - 1))) (congrArg nI (by unfold at_; rw [h3, show ln_ w - 1 - (k - 1) = ln_ w - k by omega])) ?_
              refine u_i hC hB hS hx hb A_20 dL_letters_38 (j := k - 1) (v := nI (at_ w (k - 1))) (by omega) (by omega) (fun m_38 H locs pu_38 A_38 hC hS => ?_)
              have hE := hE.pu fb_20 pu_38
              refine lv_iload_n hx hb dL_letters_39 rfl (lv_at hl 1 rfl) ?_
              refine lv_bipush (v := nI 27) hx hb dL_letters_40 (by decide) ?_
              refine lv_idiv hx hb dL_letters_42 (by decide) ?_
              refine lv_tn (pk_div (by omega) (by decide) (by decide)) ?_
              refine lv_istore_n (lv' := [(3, .int (nI (r / 27))), (1, .int (nI (k - 1))), (2, .ref q_20), (0, .int (nI w))]) hx hb dL_letters_43 rfl hl (by decide) rfl (fun ls hl => ?_)
              refine lv_goto (tgt := 25) hx hb dL_letters_44 (by decide) ?_
              refine W.widen (k := 0 + 1) (n := 0 + ln_ w) (by omega) (by omega) ?_
              exact ih_25 (k - 1) (r / 27) m_38 xL (by omega) (by rw [ln_s n_26 (by omega)] at h1; omega) (by omega) (by rw [h3, dv_, show ln_ w - k + 1 = ln_ w - (k - 1) by omega]) (by omega) hE (A_38.to (fun j hj => lt_up hj)) H locs hC hS ls (lv_sub hl [0, 2, 1, 3] rfl)
        refine W.widen (k := 0 + 1) (n := 0 + ln_ w) (by omega) (by omega) ?_
        exact LP_25 _ (ln_ w) w m_20 x (Nat.lt_succ_self _) rfl (Nat.le_refl _) (by rw [Nat.sub_self]; simp) (Nat.le_refl _) hE (A_20.to (fun j hj => (if_pos hj).symm)) H [] hC hS ls (lv_sub hl [0, 1, 2, 3] rfl)
      · skip
        have n_5 : 0 < r := Nat.pos_of_ne_zero (fun q__ => c_5 ((nle0_ (by omega)).mpr q__))
        refine lv_iinc (v := nI (k + 1)) (lv' := [(1, .int (nI (k + 1))), (2, .int (nI r)), (0, .int (nI w))]) hx hb dL_letters_8 hl (k := 1) rfl (nI_1 _) (by decide) rfl (fun ls hl => ?_)
        refine lv_iload_n hx hb dL_letters_11 rfl (lv_at hl 1 rfl) ?_
        refine lv_bipush (v := nI 27) hx hb dL_letters_12 (by decide) ?_
        refine lv_idiv hx hb dL_letters_14 (by decide) ?_
        refine lv_tn (pk_div (by omega) (by decide) (by decide)) ?_
        refine lv_istore_n (lv' := [(2, .int (nI (r / 27))), (1, .int (nI (k + 1))), (0, .int (nI w))]) hx hb dL_letters_15 rfl hl (by decide) rfl (fun ls hl => ?_)
        refine lv_goto (tgt := 4) hx hb dL_letters_16 (by decide) ?_
        exact ih_4 (k + 1) (r / 27) (by omega) (by rw [ln_s n_5 (by omega)] at h1; omega) (by omega) ls (lv_sub hl [0, 1, 2] rfl)
  exact LP_4 _ 0 w (Nat.lt_succ_self _) (Nat.zero_add _) (Nat.le_refl _) ls (lv_sub hl [0, 1, 2] rfl)
set_option maxHeartbeats 4000000 in
set_option maxRecDepth 100000 in
theorem c_X1_value (l : Launch) (B0 : Nat) (g : va_G) (ct ad : Nat → Nat) (cS : St_) (mS : Pl_) (x : Ax_) (o : Nat) (cJ : St_) (hI : Iv_ cJ) (hJ : SI_ ct mS o cJ) (w : Nat) (hw : w < 387420489) : WQ l yX1_value wsX1_value 1 1 6 B0 g ct ad cS mS x [.ref o, .int (nI w)] (nI (ws0 (so cJ) w)) cS (fun m1 => Ex_ mS m1) := by
  refine Met.ofW (cc := cX1_value) (maxL := 7) (ret := (some .int)) (by decide) rfl ?_
  intro p e s m args below meth c s₁ B hml hv
  obtain ⟨rfl, hC⟩ := hv
  have hx := B.exec
  have hb := B.bytes
  have hr := B.returns
  have hts := atoms_spec (ws := wsX1_value) B.pre
  have hown : s.vm.findClass RX1 = some m.cls := findClass_of_methodNamed B.named
  have hlocks := B.notSynchronized
  have hin1 : ∀ w ∈ wsX10, w ∈ wsX1_value := fun _ h => List.mem_cons_of_mem _ (List.mem_append_right _ h)
  have hS : va_S (AA B0) s.heap s.heap [] := va_S.rf
  have hB : B0 ≤ s.heap.size := hC.1.2.2.1
  obtain ⟨lo, mo, la, wa, ba, hJ0⟩ := hJ
  have hE := Ex_r mS
  have h12 := hI.2.1
  have h10 := hI.2.2.1
  have h6 := ln_le hw
  have hl := lv_entry ([.ref o, .int (nI w)]) (n := 7) (Nat.le_of_ble_eq_true rfl)
  rw [lg_entry_eq]
  generalize (lg_sl ([.ref o, .int (nI w)]) ++ List.replicate (7 - (lg_sl ([.ref o, .int (nI w)])).length) Slot.unset).toArray = ls at hl ⊢
  have hl : lv_has ls 7 [(0, .ref o), (1, .int (nI w))] := hl
  refine lv_iconst (v := nI 0) hx hb dX1_value_0 (by decide) ?_
  refine lv_istore_n (lv' := [(2, .int (nI 0)), (0, .ref o), (1, .int (nI w))]) hx hb dX1_value_1 rfl hl (by decide) rfl (fun ls hl => ?_)
  refine lv_iload_n hx hb dX1_value_2 rfl (lv_at hl 2 rfl) ?_
  refine k_RN (As := [.int (nI w)]) (rest := []) (c_L_letters l B0 g ct ad cS mS x w (by omega)) hC hS ⟨hx, hb, hml, hown, hts⟩ ⟨va_cnB 1 hts gX1_value_L_letters_n21 rfl rfl rfl hC.2.2.2.2.2.1 (hts (.initialized RL) (by decide +kernel)) (by decide +kernel) ⟨Nat.le_of_ble_eq_true rfl, Nat.le_of_ble_eq_true rfl⟩, hts (.static yL_letters) (by decide +kernel), trivial⟩ rfl hl.1 rfl (Nat.le_of_ble_eq_true rfl) dX1_value_3 ⟨(by show _ ≤ 1; omega), (by show _ ≤ 6; omega)⟩ (fun m_3 x_3 q_3 H locs hr_3 hC hS => ?_)
  obtain ⟨xq_3, fq_3, A_3⟩ := hr_3
  have fb_3 : q_3 ∉ mS.1 := hE.nin fq_3
  have hE := Ex_t hE xq_3
  refine lv_astore_n (lv' := [(3, .ref q_3), (2, .int (nI 0)), (0, .ref o), (1, .int (nI w))]) hx hb dX1_value_6 rfl hl (by decide) rfl (fun ls hl => ?_)
  refine lv_aload_n hx hb dX1_value_7 rfl (lv_at hl 0 rfl) ?_
  refine q_il hC hx hb A_3 dX1_value_8 ?_
  refine lv_istore (lv' := [(4, .int (nI (ln_ w))), (3, .ref q_3), (2, .int (nI 0)), (0, .ref o), (1, .int (nI w))]) hx hb dX1_value_9 hl (by decide) rfl (fun ls hl => ?_)
  refine lv_iconst (v := nI 0) hx hb dX1_value_11 (by decide) ?_
  refine lv_istore (lv' := [(5, .int (nI 0)), (4, .int (nI (ln_ w))), (3, .ref q_3), (2, .int (nI 0)), (0, .ref o), (1, .int (nI w))]) hx hb dX1_value_12 hl (by decide) rfl (fun ls hl => ?_)
  have LP_14 : ∀ (n_ : Nat) (t : Nat) (k : Nat), ln_ w - k < n_ → (t = qs_ (fun p => vl_ (so cJ) (at_ w p)) k) → (k ≤ ln_ w) → ∀ (H : Heap) (locs : List Loc), CX B0 g ct ad cS m_3 x_3 s H → va_S (AA B0) s.heap H locs → ∀ ls : Array Slot, lv_has ls 7 [(5, .int (nI k)), (4, .int (nI (ln_ w))), (3, .ref q_3), (2, .int (nI t)), (0, .ref o), (1, .int (nI w))] → W p l e (headSpec wsX1_value (rm_ 1 1 6)).room s m ([.ref o, .int (nI w)] : List Value).toArray below meth c H locs (0 + 1) (0 + 6) (MQ below (va_Qi (fun r (u : Qu_) => r = nI (ws0 (so cJ) w) ∧ (fun m1 => Ex_ mS m1) u.1) (fun u t => CW B0 g ct ad cS u.1 u.2 t.heap) (AA B0)) ([.ref o, .int (nI w)] : List Value).toArray s 1 6 (AA B0)) (F0 m 14 ls []) := by
    intro n_
    induction n_ with
    | zero => intro t k hm; exact absurd hm (Nat.not_lt_zero _)
    | succ n_ ih_14 =>
      intro t k hm h1 h2 H locs hC hS ls hl
      refine lv_iload hx hb dX1_value_14 (lv_at hl 0 rfl) ?_
      refine lv_iload hx hb dX1_value_16 (lv_at hl 1 rfl) ?_
      refine lv_icmp_ge (tgt := 45) hx hb dX1_value_18 (by decide) (fun c_18 => ?_) (fun c_18 => ?_)
      · skip
        have n_18 : ln_ w ≤ k := (nI_leI (a := ln_ w) (b := k) (by omega) (by omega)).mp c_18
        have hE1 : t = ws0 (so cJ) w := by rw [h1, show k = ln_ w by omega]; rfl
        refine lv_iload_n hx hb dX1_value_45 rfl (lv_at hl 3 rfl) ?_
        refine W.widen (k := 1) (n := 6) (by omega) (by omega) ?_
        exact W.iret hx hb hr (fun t ht hW => ⟨⟨_, (m_3, x_3), rfl, ⟨(congrArg nI hE1), hE⟩, (by show CW B0 g ct ad cS m_3 x_3 t.heap; rw [ht]; exact hC.1)⟩, hS.F ht⟩) hS.2.2 dX1_value_46
      · skip
        have n_18 : ¬ ln_ w ≤ k := fun q__ => c_18 ((nI_leI (a := ln_ w) (b := k) (by omega) (by omega)).mpr q__)
        refine lv_aload_n hx hb dX1_value_21 rfl (lv_at hl 2 rfl) ?_
        refine lv_iload hx hb dX1_value_22 (lv_at hl 0 rfl) ?_
        refine q_i hC hx hb A_3 dX1_value_24 (j := k) (by omega) (by omega) ?_
        refine lv_tn (w := nI (at_ w k)) rfl ?_
        refine lv_istore (lv' := [(6, .int (nI (at_ w k))), (5, .int (nI k)), (4, .int (nI (ln_ w))), (3, .ref q_3), (2, .int (nI t)), (0, .ref o), (1, .int (nI w))]) hx hb dX1_value_25 hl (by decide) rfl (fun ls hl => ?_)
        refine lv_iload_n hx hb dX1_value_27 rfl (lv_at hl 4 rfl) ?_
        refine lv_aload_n hx hb dX1_value_28 rfl (lv_at hl 5 rfl) ?_
        refine q_f hC hx hb hts hin1 hown (hJ0.1.ex hE) 0 (by decide) (hts (.fieldLink RX1 27 "AbjadPoemsLaw$Sim" "order" "I") (by decide +kernel)) (v := .int (nI (so cJ))) rfl dX1_value_29 ?_
        refine lv_iload hx hb dX1_value_32 (lv_at hl 0 rfl) ?_
        refine k_fN (As := [.int (nI (so cJ)), .int (nI (at_ w k))]) (rest := [.int (nI t)]) (c_L_value l (so cJ) (at_ w k) hI.1 (at_lt _ _)) hC hS ⟨hx, hb, hml, hown, hts⟩ ⟨va_cnB 2 hts gX1_value_L_value_n31 rfl rfl rfl hC.2.2.2.2.2.2.1 (hts (.initialized RL) (by decide +kernel)) (by decide +kernel) ⟨Nat.le_of_ble_eq_true rfl, Nat.le_of_ble_eq_true rfl⟩, hts (.static yL_value) (by decide +kernel), trivial⟩ rfl hl.1 rfl (Nat.le_of_ble_eq_true rfl) dX1_value_34 ⟨(by show _ ≤ 1; omega), (by show _ ≤ 6; omega)⟩ (fun H locs hC hS => ?_)
        refine lv_iadd hx hb dX1_value_37 ?_
        refine lv_tn (nI_add _ _) ?_
        refine lv_istore_n (lv' := [(2, .int (nI (t + (vl_ (so cJ) (at_ w k))))), (6, .int (nI (at_ w k))), (5, .int (nI k)), (4, .int (nI (ln_ w))), (3, .ref q_3), (0, .ref o), (1, .int (nI w))]) hx hb dX1_value_38 rfl hl (by decide) rfl (fun ls hl => ?_)
        refine lv_iinc (v := nI (k + 1)) (lv' := [(5, .int (nI (k + 1))), (2, .int (nI (t + (vl_ (so cJ) (at_ w k))))), (6, .int (nI (at_ w k))), (4, .int (nI (ln_ w))), (3, .ref q_3), (0, .ref o), (1, .int (nI w))]) hx hb dX1_value_39 hl (k := 2) rfl (nI_1 _) (by decide) rfl (fun ls hl => ?_)
        refine lv_goto (tgt := 14) hx hb dX1_value_42 (by decide) ?_
        refine W.widen (k := 0 + 1) (n := 0 + 6) (by omega) (by omega) ?_
        exact ih_14 (t + (vl_ (so cJ) (at_ w k))) (k + 1) (by omega) (by rw [h1]; rfl) (by omega) H locs hC hS ls (lv_sub hl [0, 3, 4, 1, 5, 6] rfl)
  refine W.widen (k := 0 + 1) (n := 0 + 6) (by omega) (by omega) ?_
  exact LP_14 _ 0 0 (Nat.lt_succ_self _) rfl (Nat.zero_le _) H locs hC hS ls (lv_sub hl [0, 1, 2, 3, 4, 5] rfl)
end
section
theorem up_o {f : Nat → Nat} {k j : Nat} : va_up (fun j => if j < k then some (f j) else none) k (some (f k)) j = if j < k + 1 then some (f j) else none := by
  unfold va_up
  by_cases e : j = k
  · subst e; rw [if_pos rfl, if_pos (by omega)]
  · rw [if_neg e]
    show (if j < k then some (f j) else none) = _
    by_cases q : j < k
    · rw [if_pos q, if_pos (by omega)]
    · rw [if_neg q, if_neg (by omega)]
theorem up_i {f : Nat → Int32} {k j : Nat} : upd (fun j => if j < k then f j else 0) k (f k) j = if j < k + 1 then f j else 0 := by
  unfold upd
  by_cases e : j = k
  · subst e; rw [if_pos rfl, if_pos (by omega)]
  · rw [if_neg e]
    show (if j < k then f j else 0) = _
    by_cases q : j < k
    · rw [if_pos q, if_pos (by omega)]
    · rw [if_neg q, if_neg (by omega)]
theorem up_e {f : Nat → Nat} {k n j e : Nat} (h : k = n) (hj : j ≤ n) : va_up (fun j => if j < k then some (f j) else none) n (some e) j = if j < n then some (f j) else some e := by
  subst h
  unfold va_up
  by_cases q : j = k
  · subst q; rw [if_pos rfl, if_neg (by omega)]
  · rw [if_neg q]
    show (if j < k then some (f j) else none) = _
    rw [if_pos (by omega), if_pos (by omega)]
theorem up_f {f : Nat → Int32} {k n j : Nat} {e : Int32} (h : k = n) (hj : j ≤ n) : upd (fun j => if j < k then f j else 0) n e j = if j < n then f j else e := by
  subst h
  unfold upd
  by_cases q : j = k
  · subst q; rw [if_pos rfl, if_neg (by omega)]
  · rw [if_neg q]
    show (if j < k then f j else 0) = _
    rw [if_pos (by omega), if_pos (by omega)]
end
section
set_option maxHeartbeats 4000000 in
set_option maxRecDepth 100000 in
theorem c_X1_write (l : Launch) (B0 : Nat) (g : va_G) (ct ad : Nat → Nat) (cS : St_) (mS : Pl_) (x : Ax_) (o : Nat) (cJ : St_) (hI : Iv_ cJ) (hJ : SI_ ct mS o cJ) (hz : ss cJ (sn cJ) = 0) : WN l yX1_write wsX1_write 0 4 26 B0 g ct ad cS mS x [.ref o] cS (fun m1 => SI_ ct m1 o (st_write cJ)) := by
  refine Met.ofW (cc := cX1_write) (maxL := 5) (ret := none) (by decide) rfl ?_
  intro p e s m args below meth c s₁ B hml hv
  obtain ⟨rfl, hC⟩ := hv
  have hx := B.exec
  have hb := B.bytes
  have hr := B.returns
  have hts := atoms_spec (ws := wsX1_write) B.pre
  have hown : s.vm.findClass RX1 = some m.cls := findClass_of_methodNamed B.named
  have hlocks := B.notSynchronized
  have hin1 : ∀ w ∈ wsX10, w ∈ wsX1_write := fun _ h => List.mem_cons_of_mem _ (List.mem_append_right _ h)
  have hS : va_S (AA B0) s.heap s.heap [] := va_S.rf
  have hB : B0 ≤ s.heap.size := hC.1.2.2.1
  obtain ⟨lo, mo, la, wa, ba, hJ0⟩ := hJ
  have hE := Ex_r mS
  have h12 := hI.2.1
  have h10 := hI.2.2.1
  have hl := lv_entry ([.ref o]) (n := 5) (Nat.le_of_ble_eq_true rfl)
  rw [lg_entry_eq]
  generalize (lg_sl ([.ref o]) ++ List.replicate (5 - (lg_sl ([.ref o])).length) Slot.unset).toArray = ls at hl ⊢
  have hl : lv_has ls 5 [(0, .ref o)] := hl
  refine lv_aload_n hx hb dX1_write_0 rfl (lv_at hl 0 rfl) ?_
  refine q_f hC hx hb hts hin1 hown (hJ0.1.ex hE) 1 (by decide) (hts (.fieldLink RX1 9 "AbjadPoemsLaw$Sim" "lines" "[[I") (by decide +kernel)) (v := .ref lo) rfl dX1_write_1 ?_
  refine q_ol hC hx hb (hJ0.2.1.ex hE) (ty := .array .int) rfl dX1_write_4 ?_
  refine lv_istore_n (lv' := [(1, .int (nI (sn cJ))), (0, .ref o)]) hx hb dX1_write_5 rfl hl (by decide) rfl (fun ls hl => ?_)
  refine lv_iload_n hx hb dX1_write_6 rfl (lv_at hl 0 rfl) ?_
  refine lv_iconst (v := nI 1) hx hb dX1_write_7 (by decide) ?_
  refine lv_iadd hx hb dX1_write_8 ?_
  refine lv_tn (nI_add _ _) ?_
  refine n_o hC hB hS hx hb (ty := .int) (t := 1) hown (hts (.classLink RX1 7 "[I") (by decide +kernel)) (by decide +kernel) rfl hC.2.2.1 (j := (sn cJ) + 1) (by omega) (by show _ ≤ 4; omega) (by show _ ≤ 26; omega) dX1_write_9 (fun q_9 m_9 H fq_9 xq_9 A_9 hC hS => ?_)
  have fb_9 : q_9 ∉ mS.1 := hE.nin fq_9
  have hE := Ex_t hE xq_9
  refine lv_astore_n (lv' := [(2, .ref q_9), (1, .int (nI (sn cJ))), (0, .ref o)]) hx hb dX1_write_12 rfl hl (by decide) rfl (fun ls hl => ?_)
  refine lv_iload_n hx hb dX1_write_13 rfl (lv_at hl 1 rfl) ?_
  refine lv_iconst (v := nI 1) hx hb dX1_write_14 (by decide) ?_
  refine lv_iadd hx hb dX1_write_15 ?_
  refine lv_tn (nI_add _ _) ?_
  refine n_o hC hB hS hx hb (ty := .array .boolean) (t := 4) hown (va_Nw.use rfl hC.2.2.2.2.2.2.2.2) (by decide +kernel) rfl hC.2.2.2.2.1 (j := (sn cJ) + 1) (by omega) (by show _ ≤ 4; omega) (by show _ ≤ 26; omega) dX1_write_16 (fun q_16 m_16 H fq_16 xq_16 A_16 hC hS => ?_)
  have d_16_9 : q_9 ≠ q_16 := fun e9 => fq_16 (e9 ▸ A_9.1)
  have A_9 := A_9.ex xq_16
  have fb_16 : q_16 ∉ mS.1 := hE.nin fq_16
  have hE := Ex_t hE xq_16
  refine lv_astore_n (lv' := [(3, .ref q_16), (2, .ref q_9), (1, .int (nI (sn cJ))), (0, .ref o)]) hx hb dX1_write_19 rfl hl (by decide) rfl (fun ls hl => ?_)
  refine lv_iconst (v := nI 0) hx hb dX1_write_20 (by decide) ?_
  refine lv_istore (lv' := [(4, .int (nI 0)), (3, .ref q_16), (2, .ref q_9), (1, .int (nI (sn cJ))), (0, .ref o)]) hx hb dX1_write_21 hl (by decide) rfl (fun ls hl => ?_)
  have LP_23 : ∀ (n_ : Nat) (k : Nat) (mL : Pl_) (xL : Ax_), sn cJ - k < n_ → (k ≤ sn cJ) → Ex_ mS mL → AO_ ct 1 mL q_9 ((sn cJ) + 1) (fun j => if j < k then some (la j) else none) → AO_ ct 4 mL q_16 ((sn cJ) + 1) (fun j => if j < k then some (wa j) else none) → ∀ (H : Heap) (locs : List Loc), CX B0 g ct ad cS mL xL s H → va_S (AA B0) s.heap H locs → ∀ ls : Array Slot, lv_has ls 5 [(4, .int (nI k)), (3, .ref q_16), (2, .ref q_9), (1, .int (nI (sn cJ))), (0, .ref o)] → W p l e (headSpec wsX1_write (rm_ 0 4 26)).room s m ([.ref o] : List Value).toArray below meth c H locs (0 + 1 + 1) (0 + (sn cJ + 1) + (sn cJ + 1)) (MQ below (va_Qv (fun (u : Qu_) => (fun m1 => SI_ ct m1 o (st_write cJ)) u.1) (fun u t => CW B0 g ct ad cS u.1 u.2 t.heap) (AA B0)) ([.ref o] : List Value).toArray s 4 26 (AA B0)) (F0 m 23 ls []) := by
    intro n_
    induction n_ with
    | zero => intro k mL xL hm; exact absurd hm (Nat.not_lt_zero _)
    | succ n_ ih_23 =>
      intro k mL xL hm hk hE A_9 A_16 H locs hC hS ls hl
      refine lv_iload hx hb dX1_write_23 (lv_at hl 0 rfl) ?_
      refine lv_iload_n hx hb dX1_write_25 rfl (lv_at hl 3 rfl) ?_
      refine lv_icmp_ge (tgt := 57) hx hb dX1_write_26 (by decide) (fun c_26 => ?_) (fun c_26 => ?_)
      · skip
        have n_26 : sn cJ ≤ k := (nI_leI (a := sn cJ) (b := k) (by omega) (by omega)).mp c_26
        have hk2 : k = sn cJ := by omega
        refine lv_aload_n hx hb dX1_write_57 rfl (lv_at hl 2 rfl) ?_
        refine lv_iload_n hx hb dX1_write_58 rfl (lv_at hl 3 rfl) ?_
        refine lv_iconst (v := nI 0) hx hb dX1_write_59 (by decide) ?_
        refine n_i hC hB hS hx hb (hts (.arrayClass .int) (by decide +kernel)) (j := 0) (by omega) (by show _ ≤ 4; omega) (by show _ ≤ 26; omega) dX1_write_60 (fun q_60 m_60 H fq_60 xq_60 A_60 hC hS => ?_)
        have d_60_9 : q_9 ≠ q_60 := fun e9 => fq_60 (e9 ▸ A_9.1)
        have A_9 := A_9.ex xq_60
        have d_60_16 : q_16 ≠ q_60 := fun e9 => fq_60 (e9 ▸ A_16.1)
        have A_16 := A_16.ex xq_60
        have fb_60 : q_60 ∉ mS.1 := hE.nin fq_60
        have hE := Ex_t hE xq_60
        obtain ⟨w1_62, wf_62, w2_62, -⟩ := id A_60
        refine u_o hC hB hS hx hb A_9 (ty := .int) (i := 0) rfl rfl (fun C9 h9 => by cases h9) hC.2.2.1 dX1_write_62 (j := sn cJ) (by omega) (by omega) w1_62 w2_62 (fun m_62 H locs pu_62 A_62 hC hS => ?_)
        have A_16 := A_16.pu pu_62 d_16_9.symm
        have A_60 := A_60.pu pu_62 d_60_9.symm
        have hE := hE.pu fb_9 pu_62
        have A_62 : AO_ ct 1 m_62 q_9 ((sn cJ) + 1) (fun j => if j < sn cJ then some (la j) else some q_60) := A_62.to (fun j hj => up_e hk2 (by omega))
        refine lv_aload_n hx hb dX1_write_63 rfl (lv_at hl 1 rfl) ?_
        refine lv_iload_n hx hb dX1_write_64 rfl (lv_at hl 3 rfl) ?_
        refine lv_iconst (v := nI 0) hx hb dX1_write_65 (by decide) ?_
        refine n_o hC hB hS hx hb (ty := .boolean) (t := 3) hown (hts (.classLink RX1 35 "[Z") (by decide +kernel)) (by decide +kernel) rfl hC.2.2.2.1 (j := 0) (by omega) (by show _ ≤ 4; omega) (by show _ ≤ 26; omega) dX1_write_66 (fun q_66 m_66 H fq_66 xq_66 A_66 hC hS => ?_)
        have d_66_9 : q_9 ≠ q_66 := fun e9 => fq_66 (e9 ▸ A_62.1)
        have A_62 := A_62.ex xq_66
        have d_66_16 : q_16 ≠ q_66 := fun e9 => fq_66 (e9 ▸ A_16.1)
        have A_16 := A_16.ex xq_66
        have d_66_60 : q_60 ≠ q_66 := fun e9 => fq_66 (e9 ▸ A_60.1)
        have A_60 := A_60.ex xq_66
        have fb_66 : q_66 ∉ mS.1 := hE.nin fq_66
        have hE := Ex_t hE xq_66
        obtain ⟨w1_69, wf_69, w2_69, -⟩ := id A_66
        refine u_o hC hB hS hx hb A_16 (ty := .array .boolean) (i := 3) rfl rfl (fun C9 h9 => by cases h9) hC.2.2.2.2.1 dX1_write_69 (j := sn cJ) (by omega) (by omega) w1_69 w2_69 (fun m_69 H locs pu_69 A_69 hC hS => ?_)
        have A_62 := A_62.pu pu_69 d_16_9
        have A_60 := A_60.pu pu_69 d_60_16.symm
        have A_66 := A_66.pu pu_69 d_66_16.symm
        have hE := hE.pu fb_16 pu_69
        have A_69 : AO_ ct 4 m_69 q_16 ((sn cJ) + 1) (fun j => if j < sn cJ then some (wa j) else some q_66) := A_69.to (fun j hj => up_e hk2 (by omega))
        refine lv_aload_n hx hb dX1_write_70 rfl (lv_at hl 4 rfl) ?_
        refine lv_aload_n hx hb dX1_write_71 rfl (lv_at hl 2 rfl) ?_
        refine u_f hC hB hS hx hb hts hin1 hown (hJ0.1.ex hE) (o' := nI (so cJ)) (lo' := some q_9) (mo' := some mo) 1 (by decide) (hts (.fieldLink RX1 9 "AbjadPoemsLaw$Sim" "lines" "[[I") (by decide +kernel)) (v := .ref q_9) (ty := .array (.array .int)) (by decide +kernel) rfl rfl rfl dX1_write_72 (fun m_72 H locs pu_72 O_72 hC hS => ?_)
        refine lv_aload_n hx hb dX1_write_75 rfl (lv_at hl 4 rfl) ?_
        refine lv_aload_n hx hb dX1_write_76 rfl (lv_at hl 1 rfl) ?_
        refine u_f hC hB hS hx hb hts hin1 hown O_72 (o' := nI (so cJ)) (lo' := some q_9) (mo' := some q_16) 2 (by decide) (hts (.fieldLink RX1 17 "AbjadPoemsLaw$Sim" "marks" "[[[Z") (by decide +kernel)) (v := .ref q_16) (ty := .array (.array (.array .boolean))) (by decide +kernel) rfl rfl rfl dX1_write_77 (fun m_77 H locs pu_77 O_77 hC hS => ?_)
        refine W.widen (k := 4) (n := 26) (by omega) (by omega) ?_
        exact W.vret hx hb hr (fun t ht hW => ⟨⟨(m_77, xL), rfl, (hJ0.write hE hz A_62 A_69 A_60 A_66 pu_72 pu_77 O_77), (by show CW B0 g ct ad cS m_77 xL t.heap; rw [ht]; exact hC.1)⟩, hS.F ht⟩) hS.2.2 dX1_write_80
      · skip
        have n_26 : ¬ sn cJ ≤ k := fun q__ => c_26 ((nI_leI (a := sn cJ) (b := k) (by omega) (by omega)).mpr q__)
        refine lv_aload_n hx hb dX1_write_29 rfl (lv_at hl 2 rfl) ?_
        refine lv_iload hx hb dX1_write_30 (lv_at hl 0 rfl) ?_
        refine lv_aload_n hx hb dX1_write_32 rfl (lv_at hl 4 rfl) ?_
        refine q_f hC hx hb hts hin1 hown (hJ0.1.ex hE) 1 (by decide) (hts (.fieldLink RX1 9 "AbjadPoemsLaw$Sim" "lines" "[[I") (by decide +kernel)) (v := .ref lo) rfl dX1_write_33 ?_
        refine lv_iload hx hb dX1_write_36 (lv_at hl 0 rfl) ?_
        refine q_o hC hx hb (hJ0.2.1.ex hE) (ty := .array .int) rfl rfl dX1_write_38 (j := k) (by omega) (by omega) (v := la k) rfl ?_
        obtain ⟨w1_39, wf_39, w2_39, -⟩ := id ((hJ0.2.2.2.1 k (by omega)).ex hE)
        refine u_o hC hB hS hx hb A_9 (ty := .int) (i := 0) rfl rfl (fun C9 h9 => by cases h9) hC.2.2.1 dX1_write_39 (j := k) (by omega) (by omega) w1_39 w2_39 (fun m_39 H locs pu_39 A_39 hC hS => ?_)
        have A_16 := A_16.pu pu_39 d_16_9.symm
        have hE := hE.pu fb_9 pu_39
        refine lv_aload_n hx hb dX1_write_40 rfl (lv_at hl 1 rfl) ?_
        refine lv_iload hx hb dX1_write_41 (lv_at hl 0 rfl) ?_
        refine lv_aload_n hx hb dX1_write_43 rfl (lv_at hl 4 rfl) ?_
        refine q_f hC hx hb hts hin1 hown (hJ0.1.ex hE) 2 (by decide) (hts (.fieldLink RX1 17 "AbjadPoemsLaw$Sim" "marks" "[[[Z") (by decide +kernel)) (v := .ref mo) rfl dX1_write_44 ?_
        refine lv_iload hx hb dX1_write_47 (lv_at hl 0 rfl) ?_
        refine q_o hC hx hb (hJ0.2.2.1.ex hE) (ty := .array (.array .boolean)) rfl rfl dX1_write_49 (j := k) (by omega) (by omega) (v := wa k) rfl ?_
        obtain ⟨w1_50, wf_50, w2_50, -⟩ := id ((hJ0.2.2.2.2.1 k (by omega)).ex hE)
        refine u_o hC hB hS hx hb A_16 (ty := .array .boolean) (i := 3) rfl rfl (fun C9 h9 => by cases h9) hC.2.2.2.2.1 dX1_write_50 (j := k) (by omega) (by omega) w1_50 w2_50 (fun m_50 H locs pu_50 A_50 hC hS => ?_)
        have A_39 := A_39.pu pu_50 d_16_9
        have hE := hE.pu fb_16 pu_50
        refine lv_iinc (v := nI (k + 1)) (lv' := [(4, .int (nI (k + 1))), (3, .ref q_16), (2, .ref q_9), (1, .int (nI (sn cJ))), (0, .ref o)]) hx hb dX1_write_51 hl (k := 0) rfl (nI_1 _) (by decide) rfl (fun ls hl => ?_)
        refine lv_goto (tgt := 23) hx hb dX1_write_54 (by decide) ?_
        refine W.widen (k := 0 + 1 + 1) (n := 0 + (sn cJ + 1) + (sn cJ + 1)) (by omega) (by omega) ?_
        exact ih_23 (k + 1) m_50 xL (by omega) (by omega) hE (A_39.to (fun j _ => up_o)) (A_50.to (fun j _ => up_o)) H locs hC hS ls (lv_sub hl [0, 1, 2, 3, 4] rfl)
  refine W.widen (k := 0 + 1 + 1) (n := 0 + (sn cJ + 1) + (sn cJ + 1)) (by omega) (by omega) ?_
  exact LP_23 _ 0 m_16 x (Nat.lt_succ_self _) (Nat.zero_le _) hE (A_9.to (fun j _ => (if_neg (Nat.not_lt_zero j)).symm)) (A_16.to (fun j _ => (if_neg (Nat.not_lt_zero j)).symm)) H [] hC hS ls (lv_sub hl [0, 1, 2, 3, 4] rfl)
set_option maxHeartbeats 4000000 in
set_option maxRecDepth 100000 in
theorem c_X1_add (l : Launch) (B0 : Nat) (g : va_G) (ct ad : Nat → Nat) (cS : St_) (mS : Pl_) (x : Ax_) (o : Nat) (cJ : St_) (hI : Iv_ cJ) (hJ : SI_ ct mS o cJ) (li v : Nat) (hln : li < sn cJ) (hs : ss cJ li < 10) (hv : v < 387420489) : WN l yX1_add wsX1_add 1 4 32 B0 g ct ad cS mS x [.ref o, .int (nI li), .int (nI v)] cS (fun m1 => SI_ ct m1 o (st_add cJ li v)) := by
  refine Met.ofW (cc := cX1_add) (maxL := 7) (ret := none) (by decide) rfl ?_
  intro p e s m args below meth c s₁ B hml hv
  obtain ⟨rfl, hC⟩ := hv
  have hx := B.exec
  have hb := B.bytes
  have hr := B.returns
  have hts := atoms_spec (ws := wsX1_add) B.pre
  have hown : s.vm.findClass RX1 = some m.cls := findClass_of_methodNamed B.named
  have hlocks := B.notSynchronized
  have hin1 : ∀ w ∈ wsX10, w ∈ wsX1_add := fun _ h => List.mem_cons_of_mem _ (List.mem_append_right _ h)
  have hS : va_S (AA B0) s.heap s.heap [] := va_S.rf
  have hB : B0 ≤ s.heap.size := hC.1.2.2.1
  obtain ⟨lo, mo, la, wa, ba, hJ0⟩ := hJ
  have hE := Ex_r mS
  have h12 := hI.2.1
  have h10 := hI.2.2.1
  have hCA := CA_of hC.2.1
  have hls := h10 li
  have h6 := ln_le hv
  have hl := lv_entry ([.ref o, .int (nI li), .int (nI v)]) (n := 7) (Nat.le_of_ble_eq_true rfl)
  rw [lg_entry_eq]
  generalize (lg_sl ([.ref o, .int (nI li), .int (nI v)]) ++ List.replicate (7 - (lg_sl ([.ref o, .int (nI li), .int (nI v)])).length) Slot.unset).toArray = ls at hl ⊢
  have hl : lv_has ls 7 [(0, .ref o), (1, .int (nI li)), (2, .int (nI v))] := hl
  refine lv_aload_n hx hb dX1_add_0 rfl (lv_at hl 0 rfl) ?_
  refine q_f hC hx hb hts hin1 hown (hJ0.1.ex hE) 1 (by decide) (hts (.fieldLink RX1 9 "AbjadPoemsLaw$Sim" "lines" "[[I") (by decide +kernel)) (v := .ref lo) rfl dX1_add_1 ?_
  refine lv_iload_n hx hb dX1_add_4 rfl (lv_at hl 1 rfl) ?_
  refine q_o hC hx hb (hJ0.2.1.ex hE) (ty := .array .int) rfl rfl dX1_add_5 (j := li) (by omega) (by omega) (v := la li) rfl ?_
  refine q_il hC hx hb ((hJ0.2.2.2.1 li (by omega)).ex hE) dX1_add_6 ?_
  refine lv_istore_n (lv' := [(3, .int (nI (ss cJ li))), (0, .ref o), (1, .int (nI li)), (2, .int (nI v))]) hx hb dX1_add_7 rfl hl (by decide) rfl (fun ls hl => ?_)
  refine lv_iload_n hx hb dX1_add_8 rfl (lv_at hl 0 rfl) ?_
  refine lv_iconst (v := nI 1) hx hb dX1_add_9 (by decide) ?_
  refine lv_iadd hx hb dX1_add_10 ?_
  refine lv_tn (nI_add _ _) ?_
  refine n_i hC hB hS hx hb (hts (.arrayClass .int) (by decide +kernel)) (j := (ss cJ li) + 1) (by omega) (by show _ ≤ 4; omega) (by show _ ≤ 32; omega) dX1_add_11 (fun q_11 m_11 H fq_11 xq_11 A_11 hC hS => ?_)
  have fb_11 : q_11 ∉ mS.1 := hE.nin fq_11
  have hE := Ex_t hE xq_11
  refine lv_astore (lv' := [(4, .ref q_11), (3, .int (nI (ss cJ li))), (0, .ref o), (1, .int (nI li)), (2, .int (nI v))]) hx hb dX1_add_13 hl (by decide) rfl (fun ls hl => ?_)
  refine lv_iload_n hx hb dX1_add_15 rfl (lv_at hl 1 rfl) ?_
  refine lv_iconst (v := nI 1) hx hb dX1_add_16 (by decide) ?_
  refine lv_iadd hx hb dX1_add_17 ?_
  refine lv_tn (nI_add _ _) ?_
  refine n_o hC hB hS hx hb (ty := .boolean) (t := 3) hown (hts (.classLink RX1 35 "[Z") (by decide +kernel)) (by decide +kernel) rfl hC.2.2.2.1 (j := (ss cJ li) + 1) (by omega) (by show _ ≤ 4; omega) (by show _ ≤ 32; omega) dX1_add_18 (fun q_18 m_18 H fq_18 xq_18 A_18 hC hS => ?_)
  have d_18_11 : q_11 ≠ q_18 := fun e9 => fq_18 (e9 ▸ A_11.1)
  have A_11 := A_11.ex xq_18
  have fb_18 : q_18 ∉ mS.1 := hE.nin fq_18
  have hE := Ex_t hE xq_18
  refine lv_astore (lv' := [(5, .ref q_18), (4, .ref q_11), (3, .int (nI (ss cJ li))), (0, .ref o), (1, .int (nI li)), (2, .int (nI v))]) hx hb dX1_add_21 hl (by decide) rfl (fun ls hl => ?_)
  refine lv_iconst (v := nI 0) hx hb dX1_add_23 (by decide) ?_
  refine lv_istore (lv' := [(6, .int (nI 0)), (5, .ref q_18), (4, .ref q_11), (3, .int (nI (ss cJ li))), (0, .ref o), (1, .int (nI li)), (2, .int (nI v))]) hx hb dX1_add_24 hl (by decide) rfl (fun ls hl => ?_)
  have LP_26 : ∀ (n_ : Nat) (k : Nat) (mL : Pl_) (xL : Ax_), ss cJ li - k < n_ → (k ≤ ss cJ li) → Ex_ mS mL → AI_ ct mL q_11 ((ss cJ li) + 1) (fun j => if j < k then nI (sw cJ (10 * li + j)) else 0) → AO_ ct 3 mL q_18 ((ss cJ li) + 1) (fun j => if j < k then some (ba li j) else none) → ∀ (H : Heap) (locs : List Loc), CX B0 g ct ad cS mL xL s H → va_S (AA B0) s.heap H locs → ∀ ls : Array Slot, lv_has ls 7 [(6, .int (nI k)), (5, .ref q_18), (4, .ref q_11), (3, .int (nI (ss cJ li))), (0, .ref o), (1, .int (nI li)), (2, .int (nI v))] → W p l e (headSpec wsX1_add (rm_ 1 4 32)).room s m ([.ref o, .int (nI li), .int (nI v)] : List Value).toArray below meth c H locs (0 + 1 + 1) (0 + (ss cJ li + 1) + (ss cJ li + 1)) (MQ below (va_Qv (fun (u : Qu_) => (fun m1 => SI_ ct m1 o (st_add cJ li v)) u.1) (fun u t => CW B0 g ct ad cS u.1 u.2 t.heap) (AA B0)) ([.ref o, .int (nI li), .int (nI v)] : List Value).toArray s 4 32 (AA B0)) (F0 m 26 ls []) := by
    intro n_
    induction n_ with
    | zero => intro k mL xL hm; exact absurd hm (Nat.not_lt_zero _)
    | succ n_ ih_26 =>
      intro k mL xL hm hk hE A_11 A_18 H locs hC hS ls hl
      refine lv_iload hx hb dX1_add_26 (lv_at hl 0 rfl) ?_
      refine lv_iload_n hx hb dX1_add_28 rfl (lv_at hl 3 rfl) ?_
      refine lv_icmp_ge (tgt := 66) hx hb dX1_add_29 (by decide) (fun c_29 => ?_) (fun c_29 => ?_)
      · skip
        have n_29 : ss cJ li ≤ k := (nI_leI (a := ss cJ li) (b := k) (by omega) (by omega)).mp c_29
        have hk2 : k = ss cJ li := by omega
        refine lv_aload hx hb dX1_add_66 (lv_at hl 2 rfl) ?_
        refine lv_iload_n hx hb dX1_add_68 rfl (lv_at hl 3 rfl) ?_
        refine lv_iload_n hx hb dX1_add_69 rfl (lv_at hl 6 rfl) ?_
        refine u_i hC hB hS hx hb A_11 dX1_add_70 (j := ss cJ li) (v := nI v) (by omega) (by omega) (fun m_70 H locs pu_70 A_70 hC hS => ?_)
        have A_18 := A_18.pu pu_70 d_18_11.symm
        have hE := hE.pu fb_11 pu_70
        have A_70 : AI_ ct m_70 q_11 ((ss cJ li) + 1) (fun j => if j < ss cJ li then nI (sw cJ (10 * li + j)) else nI v) := A_70.to (fun j hj => up_f (f := fun j => nI (sw cJ (10 * li + j))) hk2 (by omega))
        refine lv_aload hx hb dX1_add_71 (lv_at hl 1 rfl) ?_
        refine lv_iload_n hx hb dX1_add_73 rfl (lv_at hl 3 rfl) ?_
        refine lv_iload_n hx hb dX1_add_74 rfl (lv_at hl 6 rfl) ?_
        refine k_RN (As := [.int (nI v)]) (rest := [.int (nI (ss cJ li)), .ref q_18]) (c_L_letters l B0 g ct ad cS m_70 xL v (by omega)) hC hS ⟨hx, hb, hml, hown, hts⟩ ⟨va_cnB 1 hts gX1_add_L_letters_n21 rfl rfl rfl hC.2.2.2.2.2.1 (hts (.initialized RL) (by decide +kernel)) (by decide +kernel) ⟨Nat.le_of_ble_eq_true rfl, Nat.le_of_ble_eq_true rfl⟩, hts (.static yL_letters) (by decide +kernel), trivial⟩ rfl hl.1 rfl (Nat.le_of_ble_eq_true rfl) dX1_add_75 ⟨(by show _ ≤ 4; omega), (by show _ ≤ 32; omega)⟩ (fun m_75 x_75 q_75 H locs hr_75 hC hS => ?_)
        obtain ⟨xq_75, fq_75, A_75⟩ := hr_75
        have d_75_11 : q_11 ≠ q_75 := fun e9 => fq_75 (e9 ▸ A_70.1)
        have A_70 := A_70.ex xq_75
        have d_75_18 : q_18 ≠ q_75 := fun e9 => fq_75 (e9 ▸ A_18.1)
        have A_18 := A_18.ex xq_75
        have fb_75 : q_75 ∉ mS.1 := hE.nin fq_75
        have hE := Ex_t hE xq_75
        refine q_il hC hx hb A_75 dX1_add_78 ?_
        refine n_z hC hB hS hx hb (hts (.arrayClass .boolean) (by decide +kernel)) (j := ln_ v) (by omega) (by show _ ≤ 4; omega) (by show _ ≤ 32; omega) dX1_add_79 (fun q_79 m_79 H fq_79 xq_79 A_79 hC hS => ?_)
        have d_79_11 : q_11 ≠ q_79 := fun e9 => fq_79 (e9 ▸ A_70.1)
        have A_70 := A_70.ex xq_79
        have d_79_18 : q_18 ≠ q_79 := fun e9 => fq_79 (e9 ▸ A_18.1)
        have A_18 := A_18.ex xq_79
        have d_79_75 : q_75 ≠ q_79 := fun e9 => fq_79 (e9 ▸ A_75.1)
        have A_75 := A_75.ex xq_79
        have fb_79 : q_79 ∉ mS.1 := hE.nin fq_79
        have hE := Ex_t hE xq_79
        obtain ⟨w1_81, wf_81, w2_81, -⟩ := id A_79
        refine u_o hC hB hS hx hb A_18 (ty := .boolean) (i := 2) rfl rfl (fun C9 h9 => by cases h9) hC.2.2.2.1 dX1_add_81 (j := ss cJ li) (by omega) (by omega) w1_81 w2_81 (fun m_81 H locs pu_81 A_81 hC hS => ?_)
        have A_70 := A_70.pu pu_81 d_18_11
        have A_75 := A_75.pu pu_81 d_75_18.symm
        have A_79 := A_79.pu pu_81 d_79_18.symm
        have hE := hE.pu fb_18 pu_81
        have A_81 : AO_ ct 3 m_81 q_18 ((ss cJ li) + 1) (fun j => if j < ss cJ li then some (ba li j) else some q_79) := A_81.to (fun j hj => up_e (f := ba li) hk2 (by omega))
        refine lv_aload_n hx hb dX1_add_82 rfl (lv_at hl 4 rfl) ?_
        refine q_f hC hx hb hts hin1 hown (hJ0.1.ex hE) 1 (by decide) (hts (.fieldLink RX1 9 "AbjadPoemsLaw$Sim" "lines" "[[I") (by decide +kernel)) (v := .ref lo) rfl dX1_add_83 ?_
        refine lv_iload_n hx hb dX1_add_86 rfl (lv_at hl 5 rfl) ?_
        refine lv_aload hx hb dX1_add_87 (lv_at hl 2 rfl) ?_
        obtain ⟨w1_89, wf_89, w2_89, -⟩ := id A_70
        refine u_o hC hB hS hx hb (hJ0.2.1.ex hE) (ty := .int) (i := 0) rfl rfl (fun C9 h9 => by cases h9) hC.2.2.1 dX1_add_89 (j := li) (by omega) (by omega) w1_89 w2_89 (fun m_89 H locs pu_89 B_89 hC hS => ?_)
        refine lv_aload_n hx hb dX1_add_90 rfl (lv_at hl 4 rfl) ?_
        refine q_f hC hx hb hts hin1 hown ((hJ0.1.ex hE).pu pu_89 (ne_OB (hJ0.2.1.ex hE) (hJ0.1.ex hE)).symm) 2 (by decide) (hts (.fieldLink RX1 17 "AbjadPoemsLaw$Sim" "marks" "[[[Z") (by decide +kernel)) (v := .ref mo) rfl dX1_add_91 ?_
        refine lv_iload_n hx hb dX1_add_94 rfl (lv_at hl 5 rfl) ?_
        refine lv_aload hx hb dX1_add_95 (lv_at hl 1 rfl) ?_
        obtain ⟨w1_97, wf_97, w2_97, -⟩ := id (A_81.pu pu_89 (ne_OO A_81 (hJ0.2.1.ex hE) hCA.2.2.2.2.2.1.symm))
        refine u_o hC hB hS hx hb ((hJ0.2.2.1.ex hE).pu pu_89 (ne_OO (hJ0.2.2.1.ex hE) (hJ0.2.1.ex hE) hCA.2.2.2.2.2.2.1.symm)) (ty := .array .boolean) (i := 3) rfl rfl (fun C9 h9 => by cases h9) hC.2.2.2.2.1 dX1_add_97 (j := li) (by omega) (by omega) w1_97 w2_97 (fun m_97 H locs pu_97 B_97 hC hS => ?_)
        refine W.widen (k := 4) (n := 32) (by omega) (by omega) ?_
        exact W.vret hx hb hr (fun t ht hW => ⟨⟨(m_97, x_75), rfl, (hJ0.add hCA hE hln hs h10 A_70 A_81 A_79 fb_79 pu_89 B_89 pu_97 B_97), (by show CW B0 g ct ad cS m_97 x_75 t.heap; rw [ht]; exact hC.1)⟩, hS.F ht⟩) hS.2.2 dX1_add_98
      · skip
        have n_29 : ¬ ss cJ li ≤ k := fun q__ => c_29 ((nI_leI (a := ss cJ li) (b := k) (by omega) (by omega)).mpr q__)
        refine lv_aload hx hb dX1_add_32 (lv_at hl 2 rfl) ?_
        refine lv_iload hx hb dX1_add_34 (lv_at hl 0 rfl) ?_
        refine lv_aload_n hx hb dX1_add_36 rfl (lv_at hl 4 rfl) ?_
        refine q_f hC hx hb hts hin1 hown (hJ0.1.ex hE) 1 (by decide) (hts (.fieldLink RX1 9 "AbjadPoemsLaw$Sim" "lines" "[[I") (by decide +kernel)) (v := .ref lo) rfl dX1_add_37 ?_
        refine lv_iload_n hx hb dX1_add_40 rfl (lv_at hl 5 rfl) ?_
        refine q_o hC hx hb (hJ0.2.1.ex hE) (ty := .array .int) rfl rfl dX1_add_41 (j := li) (by omega) (by omega) (v := la li) rfl ?_
        refine lv_iload hx hb dX1_add_42 (lv_at hl 0 rfl) ?_
        refine q_i hC hx hb ((hJ0.2.2.2.1 li (by omega)).ex hE) dX1_add_44 (j := k) (by omega) (by omega) ?_
        refine lv_tn (w := nI (sw cJ (10 * li + k))) rfl ?_
        refine u_i hC hB hS hx hb A_11 dX1_add_45 (j := k) (v := nI (sw cJ (10 * li + k))) (by omega) (by omega) (fun m_45 H locs pu_45 A_45 hC hS => ?_)
        have A_18 := A_18.pu pu_45 d_18_11.symm
        have hE := hE.pu fb_11 pu_45
        refine lv_aload hx hb dX1_add_46 (lv_at hl 1 rfl) ?_
        refine lv_iload hx hb dX1_add_48 (lv_at hl 0 rfl) ?_
        refine lv_aload_n hx hb dX1_add_50 rfl (lv_at hl 4 rfl) ?_
        refine q_f hC hx hb hts hin1 hown (hJ0.1.ex hE) 2 (by decide) (hts (.fieldLink RX1 17 "AbjadPoemsLaw$Sim" "marks" "[[[Z") (by decide +kernel)) (v := .ref mo) rfl dX1_add_51 ?_
        refine lv_iload_n hx hb dX1_add_54 rfl (lv_at hl 5 rfl) ?_
        refine q_o hC hx hb (hJ0.2.2.1.ex hE) (ty := .array (.array .boolean)) rfl rfl dX1_add_55 (j := li) (by omega) (by omega) (v := wa li) rfl ?_
        refine lv_iload hx hb dX1_add_56 (lv_at hl 0 rfl) ?_
        refine q_o hC hx hb ((hJ0.2.2.2.2.1 li (by omega)).ex hE) (ty := .array .boolean) rfl rfl dX1_add_58 (j := k) (by omega) (by omega) (v := ba li k) rfl ?_
        obtain ⟨w1_59, wf_59, w2_59, -⟩ := id ((hJ0.2.2.2.2.2.1 li k (by omega) (by omega)).ex hE)
        refine u_o hC hB hS hx hb A_18 (ty := .boolean) (i := 2) rfl rfl (fun C9 h9 => by cases h9) hC.2.2.2.1 dX1_add_59 (j := k) (by omega) (by omega) w1_59 w2_59 (fun m_59 H locs pu_59 A_59 hC hS => ?_)
        have A_45 := A_45.pu pu_59 d_18_11
        have hE := hE.pu fb_18 pu_59
        refine lv_iinc (v := nI (k + 1)) (lv' := [(6, .int (nI (k + 1))), (5, .ref q_18), (4, .ref q_11), (3, .int (nI (ss cJ li))), (0, .ref o), (1, .int (nI li)), (2, .int (nI v))]) hx hb dX1_add_60 hl (k := 0) rfl (nI_1 _) (by decide) rfl (fun ls hl => ?_)
        refine lv_goto (tgt := 26) hx hb dX1_add_63 (by decide) ?_
        refine W.widen (k := 0 + 1 + 1) (n := 0 + (ss cJ li + 1) + (ss cJ li + 1)) (by omega) (by omega) ?_
        exact ih_26 (k + 1) m_59 xL (by omega) (by omega) hE (A_45.to (fun j _ => up_i (f := fun j => nI (sw cJ (10 * li + j))))) (A_59.to (fun j _ => up_o (f := ba li))) H locs hC hS ls (lv_sub hl [0, 1, 2, 3, 4, 5, 6] rfl)
  refine W.widen (k := 0 + 1 + 1) (n := 0 + (ss cJ li + 1) + (ss cJ li + 1)) (by omega) (by omega) ?_
  exact LP_26 _ 0 m_18 x (Nat.lt_succ_self _) (Nat.zero_le _) hE (A_11.to (fun j _ => (if_neg (Nat.not_lt_zero j)).symm)) (A_18.to (fun j _ => (if_neg (Nat.not_lt_zero j)).symm)) H [] hC hS ls (lv_sub hl [0, 1, 2, 3, 4, 5, 6] rfl)
set_option maxHeartbeats 4000000 in
set_option maxRecDepth 100000 in
theorem c_X1_cut (l : Launch) (B0 : Nat) (g : va_G) (ct ad : Nat → Nat) (cS : St_) (mS : Pl_) (x : Ax_) (o : Nat) (cJ : St_) (hI : Iv_ cJ) (hJ : SI_ ct mS o cJ) (li : Nat) (hln : li < sn cJ) (hs : 0 < ss cJ li) : WQ l yX1_cut wsX1_cut 0 2 20 B0 g ct ad cS mS x [.ref o, .int (nI li)] (nI (sw cJ (10 * li + (ss cJ li - 1)))) cS (fun m1 => SI_ ct m1 o (st_cut cJ li)) := by
  refine Met.ofW (cc := cX1_cut) (maxL := 7) (ret := (some .int)) (by decide) rfl ?_
  intro p e s m args below meth c s₁ B hml hv
  obtain ⟨rfl, hC⟩ := hv
  have hx := B.exec
  have hb := B.bytes
  have hr := B.returns
  have hts := atoms_spec (ws := wsX1_cut) B.pre
  have hown : s.vm.findClass RX1 = some m.cls := findClass_of_methodNamed B.named
  have hlocks := B.notSynchronized
  have hin1 : ∀ w ∈ wsX10, w ∈ wsX1_cut := fun _ h => List.mem_cons_of_mem _ (List.mem_append_right _ h)
  have hS : va_S (AA B0) s.heap s.heap [] := va_S.rf
  have hB : B0 ≤ s.heap.size := hC.1.2.2.1
  obtain ⟨lo, mo, la, wa, ba, hJ0⟩ := hJ
  have hE := Ex_r mS
  have h12 := hI.2.1
  have h10 := hI.2.2.1
  have hCA := CA_of hC.2.1
  have hls := h10 li
  have hl := lv_entry ([.ref o, .int (nI li)]) (n := 7) (Nat.le_of_ble_eq_true rfl)
  rw [lg_entry_eq]
  generalize (lg_sl ([.ref o, .int (nI li)]) ++ List.replicate (7 - (lg_sl ([.ref o, .int (nI li)])).length) Slot.unset).toArray = ls at hl ⊢
  have hl : lv_has ls 7 [(0, .ref o), (1, .int (nI li))] := hl
  refine lv_aload_n hx hb dX1_cut_0 rfl (lv_at hl 0 rfl) ?_
  refine q_f hC hx hb hts hin1 hown (hJ0.1.ex hE) 1 (by decide) (hts (.fieldLink RX1 9 "AbjadPoemsLaw$Sim" "lines" "[[I") (by decide +kernel)) (v := .ref lo) rfl dX1_cut_1 ?_
  refine lv_iload_n hx hb dX1_cut_4 rfl (lv_at hl 1 rfl) ?_
  refine q_o hC hx hb (hJ0.2.1.ex hE) (ty := .array .int) rfl rfl dX1_cut_5 (j := li) (by omega) (by omega) (v := la li) rfl ?_
  refine q_il hC hx hb ((hJ0.2.2.2.1 li (by omega)).ex hE) dX1_cut_6 ?_
  refine lv_iconst (v := nI 1) hx hb dX1_cut_7 (by decide) ?_
  refine lv_isub hx hb dX1_cut_8 ?_
  refine lv_tn (pk_sub (by omega)) ?_
  refine lv_istore_n (lv' := [(2, .int (nI ((ss cJ li) - 1))), (0, .ref o), (1, .int (nI li))]) hx hb dX1_cut_9 rfl hl (by decide) rfl (fun ls hl => ?_)
  refine lv_aload_n hx hb dX1_cut_10 rfl (lv_at hl 1 rfl) ?_
  refine q_f hC hx hb hts hin1 hown (hJ0.1.ex hE) 1 (by decide) (hts (.fieldLink RX1 9 "AbjadPoemsLaw$Sim" "lines" "[[I") (by decide +kernel)) (v := .ref lo) rfl dX1_cut_11 ?_
  refine lv_iload_n hx hb dX1_cut_14 rfl (lv_at hl 2 rfl) ?_
  refine q_o hC hx hb (hJ0.2.1.ex hE) (ty := .array .int) rfl rfl dX1_cut_15 (j := li) (by omega) (by omega) (v := la li) rfl ?_
  refine lv_iload_n hx hb dX1_cut_16 rfl (lv_at hl 0 rfl) ?_
  refine q_i hC hx hb ((hJ0.2.2.2.1 li (by omega)).ex hE) dX1_cut_17 (j := (ss cJ li) - 1) (by omega) (by omega) ?_
  refine lv_tn (w := nI (sw cJ (10 * li + ((ss cJ li) - 1)))) rfl ?_
  refine lv_istore_n (lv' := [(3, .int (nI (sw cJ (10 * li + ((ss cJ li) - 1))))), (2, .int (nI ((ss cJ li) - 1))), (0, .ref o), (1, .int (nI li))]) hx hb dX1_cut_18 rfl hl (by decide) rfl (fun ls hl => ?_)
  refine lv_iload_n hx hb dX1_cut_19 rfl (lv_at hl 1 rfl) ?_
  refine n_i hC hB hS hx hb (hts (.arrayClass .int) (by decide +kernel)) (j := (ss cJ li) - 1) (by omega) (by show _ ≤ 2; omega) (by show _ ≤ 20; omega) dX1_cut_20 (fun q_20 m_20 H fq_20 xq_20 A_20 hC hS => ?_)
  have fb_20 : q_20 ∉ mS.1 := hE.nin fq_20
  have hE := Ex_t hE xq_20
  refine lv_astore (lv' := [(4, .ref q_20), (3, .int (nI (sw cJ (10 * li + ((ss cJ li) - 1))))), (2, .int (nI ((ss cJ li) - 1))), (0, .ref o), (1, .int (nI li))]) hx hb dX1_cut_22 hl (by decide) rfl (fun ls hl => ?_)
  refine lv_iload_n hx hb dX1_cut_24 rfl (lv_at hl 2 rfl) ?_
  refine n_o hC hB hS hx hb (ty := .boolean) (t := 3) hown (hts (.classLink RX1 35 "[Z") (by decide +kernel)) (by decide +kernel) rfl hC.2.2.2.1 (j := (ss cJ li) - 1) (by omega) (by show _ ≤ 2; omega) (by show _ ≤ 20; omega) dX1_cut_25 (fun q_25 m_25 H fq_25 xq_25 A_25 hC hS => ?_)
  have d_25_20 : q_20 ≠ q_25 := fun e9 => fq_25 (e9 ▸ A_20.1)
  have A_20 := A_20.ex xq_25
  have fb_25 : q_25 ∉ mS.1 := hE.nin fq_25
  have hE := Ex_t hE xq_25
  refine lv_astore (lv' := [(5, .ref q_25), (4, .ref q_20), (3, .int (nI (sw cJ (10 * li + ((ss cJ li) - 1))))), (2, .int (nI ((ss cJ li) - 1))), (0, .ref o), (1, .int (nI li))]) hx hb dX1_cut_28 hl (by decide) rfl (fun ls hl => ?_)
  refine lv_iconst (v := nI 0) hx hb dX1_cut_30 (by decide) ?_
  refine lv_istore (lv' := [(6, .int (nI 0)), (5, .ref q_25), (4, .ref q_20), (3, .int (nI (sw cJ (10 * li + ((ss cJ li) - 1))))), (2, .int (nI ((ss cJ li) - 1))), (0, .ref o), (1, .int (nI li))]) hx hb dX1_cut_31 hl (by decide) rfl (fun ls hl => ?_)
  have LP_33 : ∀ (n_ : Nat) (k : Nat) (mL : Pl_) (xL : Ax_), ss cJ li - 1 - k < n_ → (k ≤ ss cJ li - 1) → Ex_ mS mL → AI_ ct mL q_20 ((ss cJ li) - 1) (fun j => if j < k then nI (sw cJ (10 * li + j)) else 0) → AO_ ct 3 mL q_25 ((ss cJ li) - 1) (fun j => if j < k then some (ba li j) else none) → ∀ (H : Heap) (locs : List Loc), CX B0 g ct ad cS mL xL s H → va_S (AA B0) s.heap H locs → ∀ ls : Array Slot, lv_has ls 7 [(6, .int (nI k)), (5, .ref q_25), (4, .ref q_20), (3, .int (nI (sw cJ (10 * li + ((ss cJ li) - 1))))), (2, .int (nI ((ss cJ li) - 1))), (0, .ref o), (1, .int (nI li))] → W p l e (headSpec wsX1_cut (rm_ 0 2 20)).room s m ([.ref o, .int (nI li)] : List Value).toArray below meth c H locs (0 + 1 + 1) (0 + (ss cJ li - 1) + (ss cJ li - 1)) (MQ below (va_Qi (fun r (u : Qu_) => r = nI (sw cJ (10 * li + (ss cJ li - 1))) ∧ (fun m1 => SI_ ct m1 o (st_cut cJ li)) u.1) (fun u t => CW B0 g ct ad cS u.1 u.2 t.heap) (AA B0)) ([.ref o, .int (nI li)] : List Value).toArray s 2 20 (AA B0)) (F0 m 33 ls []) := by
    intro n_
    induction n_ with
    | zero => intro k mL xL hm; exact absurd hm (Nat.not_lt_zero _)
    | succ n_ ih_33 =>
      intro k mL xL hm hk hE A_20 A_25 H locs hC hS ls hl
      refine lv_iload hx hb dX1_cut_33 (lv_at hl 0 rfl) ?_
      refine lv_iload_n hx hb dX1_cut_35 rfl (lv_at hl 4 rfl) ?_
      refine lv_icmp_ge (tgt := 73) hx hb dX1_cut_36 (by decide) (fun c_36 => ?_) (fun c_36 => ?_)
      · skip
        have n_36 : (ss cJ li) - 1 ≤ k := (nI_leI (a := (ss cJ li) - 1) (b := k) (by omega) (by omega)).mp c_36
        have hk2 : k = ss cJ li - 1 := by omega
        have A_x : AI_ ct mL q_20 (ss cJ li - 1) (fun j => nI (sw cJ (10 * li + j))) := A_20.to (fun j hj => if_pos (by omega))
        have A_y : AO_ ct 3 mL q_25 (ss cJ li - 1) (fun j => some (ba li j)) := A_25.to (fun j hj => if_pos (by omega))
        refine lv_aload_n hx hb dX1_cut_73 rfl (lv_at hl 5 rfl) ?_
        refine q_f hC hx hb hts hin1 hown (hJ0.1.ex hE) 1 (by decide) (hts (.fieldLink RX1 9 "AbjadPoemsLaw$Sim" "lines" "[[I") (by decide +kernel)) (v := .ref lo) rfl dX1_cut_74 ?_
        refine lv_iload_n hx hb dX1_cut_77 rfl (lv_at hl 6 rfl) ?_
        refine lv_aload hx hb dX1_cut_78 (lv_at hl 2 rfl) ?_
        obtain ⟨w1_80, wf_80, w2_80, -⟩ := id A_x
        refine u_o hC hB hS hx hb (hJ0.2.1.ex hE) (ty := .int) (i := 0) rfl rfl (fun C9 h9 => by cases h9) hC.2.2.1 dX1_cut_80 (j := li) (by omega) (by omega) w1_80 w2_80 (fun m_80 H locs pu_80 B_80 hC hS => ?_)
        refine lv_aload_n hx hb dX1_cut_81 rfl (lv_at hl 5 rfl) ?_
        refine q_f hC hx hb hts hin1 hown ((hJ0.1.ex hE).pu pu_80 (ne_OB (hJ0.2.1.ex hE) (hJ0.1.ex hE)).symm) 2 (by decide) (hts (.fieldLink RX1 17 "AbjadPoemsLaw$Sim" "marks" "[[[Z") (by decide +kernel)) (v := .ref mo) rfl dX1_cut_82 ?_
        refine lv_iload_n hx hb dX1_cut_85 rfl (lv_at hl 6 rfl) ?_
        refine lv_aload hx hb dX1_cut_86 (lv_at hl 1 rfl) ?_
        obtain ⟨w1_88, wf_88, w2_88, -⟩ := id (A_y.pu pu_80 (ne_OO A_y (hJ0.2.1.ex hE) hCA.2.2.2.2.2.1.symm))
        refine u_o hC hB hS hx hb ((hJ0.2.2.1.ex hE).pu pu_80 (ne_OO (hJ0.2.2.1.ex hE) (hJ0.2.1.ex hE) hCA.2.2.2.2.2.2.1.symm)) (ty := .array .boolean) (i := 3) rfl rfl (fun C9 h9 => by cases h9) hC.2.2.2.2.1 dX1_cut_88 (j := li) (by omega) (by omega) w1_88 w2_88 (fun m_88 H locs pu_88 B_88 hC hS => ?_)
        refine lv_iload_n hx hb dX1_cut_89 rfl (lv_at hl 3 rfl) ?_
        refine W.widen (k := 2) (n := 20) (by omega) (by omega) ?_
        exact W.iret hx hb hr (fun t ht hW => ⟨⟨_, (m_88, xL), rfl, ⟨rfl, (hJ0.cut hCA hE hln A_x A_y pu_80 B_80 pu_88 B_88)⟩, (by show CW B0 g ct ad cS m_88 xL t.heap; rw [ht]; exact hC.1)⟩, hS.F ht⟩) hS.2.2 dX1_cut_90
      · skip
        have n_36 : ¬ (ss cJ li) - 1 ≤ k := fun q__ => c_36 ((nI_leI (a := (ss cJ li) - 1) (b := k) (by omega) (by omega)).mpr q__)
        refine lv_aload hx hb dX1_cut_39 (lv_at hl 2 rfl) ?_
        refine lv_iload hx hb dX1_cut_41 (lv_at hl 0 rfl) ?_
        refine lv_aload_n hx hb dX1_cut_43 rfl (lv_at hl 5 rfl) ?_
        refine q_f hC hx hb hts hin1 hown (hJ0.1.ex hE) 1 (by decide) (hts (.fieldLink RX1 9 "AbjadPoemsLaw$Sim" "lines" "[[I") (by decide +kernel)) (v := .ref lo) rfl dX1_cut_44 ?_
        refine lv_iload_n hx hb dX1_cut_47 rfl (lv_at hl 6 rfl) ?_
        refine q_o hC hx hb (hJ0.2.1.ex hE) (ty := .array .int) rfl rfl dX1_cut_48 (j := li) (by omega) (by omega) (v := la li) rfl ?_
        refine lv_iload hx hb dX1_cut_49 (lv_at hl 0 rfl) ?_
        refine q_i hC hx hb ((hJ0.2.2.2.1 li (by omega)).ex hE) dX1_cut_51 (j := k) (by omega) (by omega) ?_
        refine lv_tn (w := nI (sw cJ (10 * li + k))) rfl ?_
        refine u_i hC hB hS hx hb A_20 dX1_cut_52 (j := k) (v := nI (sw cJ (10 * li + k))) (by omega) (by omega) (fun m_52 H locs pu_52 A_52 hC hS => ?_)
        have A_25 := A_25.pu pu_52 d_25_20.symm
        have hE := hE.pu fb_20 pu_52
        refine lv_aload hx hb dX1_cut_53 (lv_at hl 1 rfl) ?_
        refine lv_iload hx hb dX1_cut_55 (lv_at hl 0 rfl) ?_
        refine lv_aload_n hx hb dX1_cut_57 rfl (lv_at hl 5 rfl) ?_
        refine q_f hC hx hb hts hin1 hown (hJ0.1.ex hE) 2 (by decide) (hts (.fieldLink RX1 17 "AbjadPoemsLaw$Sim" "marks" "[[[Z") (by decide +kernel)) (v := .ref mo) rfl dX1_cut_58 ?_
        refine lv_iload_n hx hb dX1_cut_61 rfl (lv_at hl 6 rfl) ?_
        refine q_o hC hx hb (hJ0.2.2.1.ex hE) (ty := .array (.array .boolean)) rfl rfl dX1_cut_62 (j := li) (by omega) (by omega) (v := wa li) rfl ?_
        refine lv_iload hx hb dX1_cut_63 (lv_at hl 0 rfl) ?_
        refine q_o hC hx hb ((hJ0.2.2.2.2.1 li (by omega)).ex hE) (ty := .array .boolean) rfl rfl dX1_cut_65 (j := k) (by omega) (by omega) (v := ba li k) rfl ?_
        obtain ⟨w1_66, wf_66, w2_66, -⟩ := id ((hJ0.2.2.2.2.2.1 li k (by omega) (by omega)).ex hE)
        refine u_o hC hB hS hx hb A_25 (ty := .boolean) (i := 2) rfl rfl (fun C9 h9 => by cases h9) hC.2.2.2.1 dX1_cut_66 (j := k) (by omega) (by omega) w1_66 w2_66 (fun m_66 H locs pu_66 A_66 hC hS => ?_)
        have A_52 := A_52.pu pu_66 d_25_20
        have hE := hE.pu fb_25 pu_66
        refine lv_iinc (v := nI (k + 1)) (lv' := [(6, .int (nI (k + 1))), (5, .ref q_25), (4, .ref q_20), (3, .int (nI (sw cJ (10 * li + ((ss cJ li) - 1))))), (2, .int (nI ((ss cJ li) - 1))), (0, .ref o), (1, .int (nI li))]) hx hb dX1_cut_67 hl (k := 0) rfl (nI_1 _) (by decide) rfl (fun ls hl => ?_)
        refine lv_goto (tgt := 33) hx hb dX1_cut_70 (by decide) ?_
        refine W.widen (k := 0 + 1 + 1) (n := 0 + (ss cJ li - 1) + (ss cJ li - 1)) (by omega) (by omega) ?_
        exact ih_33 (k + 1) m_66 xL (by omega) (by omega) hE (A_52.to (fun j _ => up_i (f := fun j => nI (sw cJ (10 * li + j))))) (A_66.to (fun j _ => up_o (f := ba li))) H locs hC hS ls (lv_sub hl [0, 1, 2, 3, 4, 5, 6] rfl)
  refine W.widen (k := 0 + 1 + 1) (n := 0 + (ss cJ li - 1) + (ss cJ li - 1)) (by omega) (by omega) ?_
  exact LP_33 _ 0 m_25 x (Nat.lt_succ_self _) (Nat.zero_le _) hE (A_20.to (fun j _ => (if_neg (Nat.not_lt_zero j)).symm)) (A_25.to (fun j _ => (if_neg (Nat.not_lt_zero j)).symm)) H [] hC hS ls (lv_sub hl [0, 1, 2, 3, 4, 5, 6] rfl)
set_option maxHeartbeats 4000000 in
set_option maxRecDepth 100000 in
theorem c_L_word (l : Launch) (v : Int32) : RI l yL_word wsL_word 1 (va_Pc [.int v] (fun _ => True)) (nI (gw_ v)) := by
  refine Met.ofW (cc := cL_word) (maxL := 4) (ret := (some .int)) (by decide) rfl ?_
  intro p e s m args below meth c s₁ B hml hv
  obtain ⟨rfl, -⟩ := hv
  have hx := B.exec
  have hb := B.bytes
  have hr := B.returns
  have hts := atoms_spec (ws := wsL_word) B.pre
  have hown : s.vm.findClass RL = some m.cls := findClass_of_methodNamed B.named
  have hlocks := B.notSynchronized
  have hg := gn_b v
  have hb2 := gb_b v
  have hb9 : bl_ (v >>> (nI 6 &&& 31)) 2 < 2 := bl_lt _ (by omega)
  have hb8 : bl_ (v >>> (nI 7 &&& 31)) 2 < 2 := bl_lt _ (by omega)
  have hb6 : bl_ (v >>> (nI 8 &&& 31)) 6 < 6 := bl_lt _ (by omega)
  have hb7 : bl_ (v >>> (nI 8 &&& 31)) 2 < 2 := bl_lt _ (by omega)
  have hl := lv_entry ([.int v]) (n := 4) (Nat.le_of_ble_eq_true rfl)
  rw [lg_entry_eq]
  generalize (lg_sl ([.int v]) ++ List.replicate (4 - (lg_sl ([.int v])).length) Slot.unset).toArray = ls at hl ⊢
  have hl : lv_has ls 4 [(0, .int v)] := hl
  refine lv_iconst (v := nI 0) hx hb dL_word_0 (by decide) ?_
  refine lv_istore_n (lv' := [(1, .int (nI 0)), (0, .int v)]) hx hb dL_word_1 rfl hl (by decide) rfl (fun ls hl => ?_)
  refine lv_iconst (v := nI 1) hx hb dL_word_2 (by decide) ?_
  refine lv_iload_n hx hb dL_word_3 rfl (lv_at hl 1 rfl) ?_
  refine lv_bipush (v := nI 8) hx hb dL_word_4 (by decide) ?_
  refine lv_ishr hx hb dL_word_6 ?_
  refine lv_iload_n hx hb dL_word_7 rfl (lv_at hl 1 rfl) ?_
  refine lv_bipush (v := nI 6) hx hb dL_word_8 (by decide) ?_
  refine lv_ishr hx hb dL_word_10 ?_
  refine lv_iconst (v := nI 2) hx hb dL_word_11 (by decide) ?_
  refine k_pS (As := [.int (v >>> (nI 6 &&& 31)), .int (nI 2)]) (rest := [.int (v >>> (nI 8 &&& 31)), .int (nI 1)]) (c_L_below l (v >>> (nI 6 &&& 31)) 2 (by omega) (by omega)) ⟨hx, hb, hml, hown, hts⟩ (va_cwS 2 hts gL_word_L_below rfl rfl rfl (by decide +kernel) ⟨Nat.le_of_ble_eq_true rfl, Nat.le_of_ble_eq_true rfl⟩) rfl hl.1 rfl (Nat.le_of_ble_eq_true rfl) dL_word_12 ⟨Nat.le_of_ble_eq_true rfl, Nat.le_of_ble_eq_true rfl⟩ ?_
  refine lv_if_ne (tgt := 23) hx hb dL_word_15 (by decide) (fun c_15 => ?_) (fun c_15 => ?_)
  · skip
    have n_15 : ¬ bl_ (v >>> (nI 6 &&& 31)) 2 = 0 := fun q__ => c_15 ((eq0_ (by omega)).mpr q__)
    have hn : 1 + bl_ (v >>> (nI 8 &&& 31)) 2 = gn_ v := by unfold gn_; rw [if_neg n_15]
    refine lv_iconst (v := nI 2) hx hb dL_word_23 (by decide) ?_
    refine k_pS (As := [.int (v >>> (nI 8 &&& 31)), .int (nI 2)]) (rest := [.int (nI 1)]) (c_L_below l (v >>> (nI 8 &&& 31)) 2 (by omega) (by omega)) ⟨hx, hb, hml, hown, hts⟩ (va_cwS 2 hts gL_word_L_below rfl rfl rfl (by decide +kernel) ⟨Nat.le_of_ble_eq_true rfl, Nat.le_of_ble_eq_true rfl⟩) rfl hl.1 rfl (Nat.le_of_ble_eq_true rfl) dL_word_24 ⟨Nat.le_of_ble_eq_true rfl, Nat.le_of_ble_eq_true rfl⟩ ?_
    refine lv_iadd hx hb dL_word_27 ?_
    refine lv_tn (nI_add _ _) ?_
    refine lv_tn (w := nI (gn_ v)) (congrArg nI hn) ?_
    refine lv_istore_n (lv' := [(2, .int (nI (gn_ v))), (1, .int (nI 0)), (0, .int v)]) hx hb dL_word_28 rfl hl (by decide) rfl (fun ls hl => ?_)
    refine lv_iconst (v := nI 0) hx hb dL_word_29 (by decide) ?_
    refine lv_istore_n (lv' := [(3, .int (nI 0)), (2, .int (nI (gn_ v))), (1, .int (nI 0)), (0, .int v)]) hx hb dL_word_30 rfl hl (by decide) rfl (fun ls hl => ?_)
    have LP_31 : ∀ (n_ : Nat) (t : Nat) (k : Nat), gn_ v - k < n_ → (t = gv_ v k) → (k ≤ gn_ v) → ∀ ls : Array Slot, lv_has ls 4 [(3, .int (nI k)), (2, .int (nI (gn_ v))), (1, .int (nI t)), (0, .int v)] → W p l e (headSpec wsL_word (rm_ 1 0 0)).room s m ([.int v] : List Value).toArray below meth c s.heap [] 0 0 (MQ below (vp_Si (fun r => r = nI (gw_ v))) ([.int v] : List Value).toArray s 0 0 (fun _ => False)) (F0 m 31 ls []) := by
      intro n_
      induction n_ with
      | zero => intro t k hm; exact absurd hm (Nat.not_lt_zero _)
      | succ n_ ih_31 =>
        intro t k hm h1 h2 ls hl
        refine lv_iload_n hx hb dL_word_31 rfl (lv_at hl 0 rfl) ?_
        refine lv_iload_n hx hb dL_word_32 rfl (lv_at hl 1 rfl) ?_
        refine lv_icmp_ge (tgt := 80) hx hb dL_word_33 (by decide) (fun c_33 => ?_) (fun c_33 => ?_)
        · skip
          have n_33 : gn_ v ≤ k := (nI_leI (a := gn_ v) (b := k) (by omega) (by omega)).mp c_33
          have hE : t = gw_ v := by rw [h1, show k = gn_ v by omega]; rfl
          refine lv_iload_n hx hb dL_word_80 rfl (lv_at hl 2 rfl) ?_
          exact W.iret hx hb hr (fun t ht hW => ⟨_, rfl, (congrArg nI hE), ht⟩) (fun q hq => absurd hq List.not_mem_nil) dL_word_81
        · skip
          have n_33 : ¬ gn_ v ≤ k := fun q__ => c_33 ((nI_leI (a := gn_ v) (b := k) (by omega) (by omega)).mpr q__)
          refine lv_bipush (v := nI 27) hx hb dL_word_36 (by decide) ?_
          refine lv_iload_n hx hb dL_word_38 rfl (lv_at hl 2 rfl) ?_
          refine lv_imul hx hb dL_word_39 ?_
          refine lv_tn (pk_mul _ _) ?_
          refine lv_iconst (v := nI 1) hx hb dL_word_40 (by decide) ?_
          refine lv_iadd hx hb dL_word_41 ?_
          refine lv_tn (nI_add _ _) ?_
          refine lv_iload_n hx hb dL_word_42 rfl (lv_at hl 3 rfl) ?_
          refine lv_iconst (v := nI 3) hx hb dL_word_43 (by decide) ?_
          refine lv_iload_n hx hb dL_word_44 rfl (lv_at hl 0 rfl) ?_
          refine lv_imul hx hb dL_word_45 ?_
          refine lv_tn (pk_mul _ _) ?_
          refine lv_ishr hx hb dL_word_46 ?_
          refine lv_iconst (v := nI 5) hx hb dL_word_47 (by decide) ?_
          refine lv_iload_n hx hb dL_word_48 rfl (lv_at hl 0 rfl) ?_
          refine lv_imul hx hb dL_word_49 ?_
          refine lv_tn (pk_mul _ _) ?_
          refine lv_iadd hx hb dL_word_50 ?_
          refine lv_iload_n hx hb dL_word_51 rfl (lv_at hl 3 rfl) ?_
          refine lv_bipush (v := nI 7) hx hb dL_word_52 (by decide) ?_
          refine lv_ishr hx hb dL_word_54 ?_
          refine lv_iconst (v := nI 2) hx hb dL_word_55 (by decide) ?_
          refine k_pS (As := [.int (v >>> (nI 7 &&& 31)), .int (nI 2)]) (rest := [.int ((v >>> (nI (3 * k) &&& 31)) + (nI (5 * k))), .int (nI ((27 * t) + 1))]) (c_L_below l (v >>> (nI 7 &&& 31)) 2 (by omega) (by omega)) ⟨hx, hb, hml, hown, hts⟩ (va_cwS 2 hts gL_word_L_below rfl rfl rfl (by decide +kernel) ⟨Nat.le_of_ble_eq_true rfl, Nat.le_of_ble_eq_true rfl⟩) rfl hl.1 rfl (Nat.le_of_ble_eq_true rfl) dL_word_56 ⟨Nat.le_of_ble_eq_true rfl, Nat.le_of_ble_eq_true rfl⟩ ?_
          refine lv_if_ne (tgt := 67) hx hb dL_word_59 (by decide) (fun c_59 => ?_) (fun c_59 => ?_)
          · skip
            have n_59 : ¬ bl_ (v >>> (nI 7 &&& 31)) 2 = 0 := fun q__ => c_59 ((eq0_ (by omega)).mpr q__)
            have hx1 : bl_ ((v >>> (nI (3 * k) &&& 31)) + nI (5 * k)) 9 = gd2_ v k := by unfold gd2_ gb_; rw [if_neg n_59]
            refine lv_bipush (v := nI 9) hx hb dL_word_67 (by decide) ?_
            refine k_pS (As := [.int ((v >>> (nI (3 * k) &&& 31)) + (nI (5 * k))), .int (nI 9)]) (rest := [.int (nI ((27 * t) + 1))]) (c_L_below l ((v >>> (nI (3 * k) &&& 31)) + (nI (5 * k))) 9 (by omega) (by omega)) ⟨hx, hb, hml, hown, hts⟩ (va_cwS 2 hts gL_word_L_below rfl rfl rfl (by decide +kernel) ⟨Nat.le_of_ble_eq_true rfl, Nat.le_of_ble_eq_true rfl⟩) rfl hl.1 rfl (Nat.le_of_ble_eq_true rfl) dL_word_69 ⟨Nat.le_of_ble_eq_true rfl, Nat.le_of_ble_eq_true rfl⟩ ?_
            refine lv_iadd hx hb dL_word_72 ?_
            refine lv_tn (nI_add _ _) ?_
            refine lv_istore_n (lv' := [(1, .int (nI (((27 * t) + 1) + (bl_ ((v >>> (nI (3 * k) &&& 31)) + (nI (5 * k))) 9)))), (3, .int (nI k)), (2, .int (nI (gn_ v))), (0, .int v)]) hx hb dL_word_73 rfl hl (by decide) rfl (fun ls hl => ?_)
            refine lv_iinc (v := nI (k + 1)) (lv' := [(3, .int (nI (k + 1))), (1, .int (nI (((27 * t) + 1) + (bl_ ((v >>> (nI (3 * k) &&& 31)) + (nI (5 * k))) 9)))), (2, .int (nI (gn_ v))), (0, .int v)]) hx hb dL_word_74 hl (k := 1) rfl (nI_1 _) (by decide) rfl (fun ls hl => ?_)
            refine lv_goto (tgt := 31) hx hb dL_word_77 (by decide) ?_
            exact ih_31 (((27 * t) + 1) + (bl_ ((v >>> (nI (3 * k) &&& 31)) + (nI (5 * k))) 9)) (k + 1) (by omega) (by rw [h1, hx1]; rfl) (by omega) ls (lv_sub hl [0, 2, 1, 3] rfl)
          · skip
            have n_59 : bl_ (v >>> (nI 7 &&& 31)) 2 = 0 := (eq0_ (by omega)).mp c_59
            have hx1 : bl_ ((v >>> (nI (3 * k) &&& 31)) + nI (5 * k)) 26 = gd2_ v k := by unfold gd2_ gb_; rw [if_pos n_59]
            refine lv_bipush (v := nI 26) hx hb dL_word_62 (by decide) ?_
            refine lv_goto (tgt := 69) hx hb dL_word_64 (by decide) ?_
            refine k_pS (As := [.int ((v >>> (nI (3 * k) &&& 31)) + (nI (5 * k))), .int (nI 26)]) (rest := [.int (nI ((27 * t) + 1))]) (c_L_below l ((v >>> (nI (3 * k) &&& 31)) + (nI (5 * k))) 26 (by omega) (by omega)) ⟨hx, hb, hml, hown, hts⟩ (va_cwS 2 hts gL_word_L_below rfl rfl rfl (by decide +kernel) ⟨Nat.le_of_ble_eq_true rfl, Nat.le_of_ble_eq_true rfl⟩) rfl hl.1 rfl (Nat.le_of_ble_eq_true rfl) dL_word_69 ⟨Nat.le_of_ble_eq_true rfl, Nat.le_of_ble_eq_true rfl⟩ ?_
            refine lv_iadd hx hb dL_word_72 ?_
            refine lv_tn (nI_add _ _) ?_
            refine lv_istore_n (lv' := [(1, .int (nI (((27 * t) + 1) + (bl_ ((v >>> (nI (3 * k) &&& 31)) + (nI (5 * k))) 26)))), (3, .int (nI k)), (2, .int (nI (gn_ v))), (0, .int v)]) hx hb dL_word_73 rfl hl (by decide) rfl (fun ls hl => ?_)
            refine lv_iinc (v := nI (k + 1)) (lv' := [(3, .int (nI (k + 1))), (1, .int (nI (((27 * t) + 1) + (bl_ ((v >>> (nI (3 * k) &&& 31)) + (nI (5 * k))) 26)))), (2, .int (nI (gn_ v))), (0, .int v)]) hx hb dL_word_74 hl (k := 1) rfl (nI_1 _) (by decide) rfl (fun ls hl => ?_)
            refine lv_goto (tgt := 31) hx hb dL_word_77 (by decide) ?_
            exact ih_31 (((27 * t) + 1) + (bl_ ((v >>> (nI (3 * k) &&& 31)) + (nI (5 * k))) 26)) (k + 1) (by omega) (by rw [h1, hx1]; rfl) (by omega) ls (lv_sub hl [0, 2, 1, 3] rfl)
    exact LP_31 _ 0 0 (Nat.lt_succ_self _) rfl (Nat.zero_le _) ls (lv_sub hl [0, 1, 2, 3] rfl)
  · skip
    have n_15 : bl_ (v >>> (nI 6 &&& 31)) 2 = 0 := (eq0_ (by omega)).mp c_15
    have hn : 1 + bl_ (v >>> (nI 8 &&& 31)) 6 = gn_ v := by unfold gn_; rw [if_pos n_15]
    refine lv_bipush (v := nI 6) hx hb dL_word_18 (by decide) ?_
    refine lv_goto (tgt := 24) hx hb dL_word_20 (by decide) ?_
    refine k_pS (As := [.int (v >>> (nI 8 &&& 31)), .int (nI 6)]) (rest := [.int (nI 1)]) (c_L_below l (v >>> (nI 8 &&& 31)) 6 (by omega) (by omega)) ⟨hx, hb, hml, hown, hts⟩ (va_cwS 2 hts gL_word_L_below rfl rfl rfl (by decide +kernel) ⟨Nat.le_of_ble_eq_true rfl, Nat.le_of_ble_eq_true rfl⟩) rfl hl.1 rfl (Nat.le_of_ble_eq_true rfl) dL_word_24 ⟨Nat.le_of_ble_eq_true rfl, Nat.le_of_ble_eq_true rfl⟩ ?_
    refine lv_iadd hx hb dL_word_27 ?_
    refine lv_tn (nI_add _ _) ?_
    refine lv_tn (w := nI (gn_ v)) (congrArg nI hn) ?_
    refine lv_istore_n (lv' := [(2, .int (nI (gn_ v))), (1, .int (nI 0)), (0, .int v)]) hx hb dL_word_28 rfl hl (by decide) rfl (fun ls hl => ?_)
    refine lv_iconst (v := nI 0) hx hb dL_word_29 (by decide) ?_
    refine lv_istore_n (lv' := [(3, .int (nI 0)), (2, .int (nI (gn_ v))), (1, .int (nI 0)), (0, .int v)]) hx hb dL_word_30 rfl hl (by decide) rfl (fun ls hl => ?_)
    have LP_31 : ∀ (n_ : Nat) (t : Nat) (k : Nat), gn_ v - k < n_ → (t = gv_ v k) → (k ≤ gn_ v) → ∀ ls : Array Slot, lv_has ls 4 [(3, .int (nI k)), (2, .int (nI (gn_ v))), (1, .int (nI t)), (0, .int v)] → W p l e (headSpec wsL_word (rm_ 1 0 0)).room s m ([.int v] : List Value).toArray below meth c s.heap [] 0 0 (MQ below (vp_Si (fun r => r = nI (gw_ v))) ([.int v] : List Value).toArray s 0 0 (fun _ => False)) (F0 m 31 ls []) := by
      intro n_
      induction n_ with
      | zero => intro t k hm; exact absurd hm (Nat.not_lt_zero _)
      | succ n_ ih_31 =>
        intro t k hm h1 h2 ls hl
        refine lv_iload_n hx hb dL_word_31 rfl (lv_at hl 0 rfl) ?_
        refine lv_iload_n hx hb dL_word_32 rfl (lv_at hl 1 rfl) ?_
        refine lv_icmp_ge (tgt := 80) hx hb dL_word_33 (by decide) (fun c_33 => ?_) (fun c_33 => ?_)
        · skip
          have n_33 : gn_ v ≤ k := (nI_leI (a := gn_ v) (b := k) (by omega) (by omega)).mp c_33
          have hE : t = gw_ v := by rw [h1, show k = gn_ v by omega]; rfl
          refine lv_iload_n hx hb dL_word_80 rfl (lv_at hl 2 rfl) ?_
          exact W.iret hx hb hr (fun t ht hW => ⟨_, rfl, (congrArg nI hE), ht⟩) (fun q hq => absurd hq List.not_mem_nil) dL_word_81
        · skip
          have n_33 : ¬ gn_ v ≤ k := fun q__ => c_33 ((nI_leI (a := gn_ v) (b := k) (by omega) (by omega)).mpr q__)
          refine lv_bipush (v := nI 27) hx hb dL_word_36 (by decide) ?_
          refine lv_iload_n hx hb dL_word_38 rfl (lv_at hl 2 rfl) ?_
          refine lv_imul hx hb dL_word_39 ?_
          refine lv_tn (pk_mul _ _) ?_
          refine lv_iconst (v := nI 1) hx hb dL_word_40 (by decide) ?_
          refine lv_iadd hx hb dL_word_41 ?_
          refine lv_tn (nI_add _ _) ?_
          refine lv_iload_n hx hb dL_word_42 rfl (lv_at hl 3 rfl) ?_
          refine lv_iconst (v := nI 3) hx hb dL_word_43 (by decide) ?_
          refine lv_iload_n hx hb dL_word_44 rfl (lv_at hl 0 rfl) ?_
          refine lv_imul hx hb dL_word_45 ?_
          refine lv_tn (pk_mul _ _) ?_
          refine lv_ishr hx hb dL_word_46 ?_
          refine lv_iconst (v := nI 5) hx hb dL_word_47 (by decide) ?_
          refine lv_iload_n hx hb dL_word_48 rfl (lv_at hl 0 rfl) ?_
          refine lv_imul hx hb dL_word_49 ?_
          refine lv_tn (pk_mul _ _) ?_
          refine lv_iadd hx hb dL_word_50 ?_
          refine lv_iload_n hx hb dL_word_51 rfl (lv_at hl 3 rfl) ?_
          refine lv_bipush (v := nI 7) hx hb dL_word_52 (by decide) ?_
          refine lv_ishr hx hb dL_word_54 ?_
          refine lv_iconst (v := nI 2) hx hb dL_word_55 (by decide) ?_
          refine k_pS (As := [.int (v >>> (nI 7 &&& 31)), .int (nI 2)]) (rest := [.int ((v >>> (nI (3 * k) &&& 31)) + (nI (5 * k))), .int (nI ((27 * t) + 1))]) (c_L_below l (v >>> (nI 7 &&& 31)) 2 (by omega) (by omega)) ⟨hx, hb, hml, hown, hts⟩ (va_cwS 2 hts gL_word_L_below rfl rfl rfl (by decide +kernel) ⟨Nat.le_of_ble_eq_true rfl, Nat.le_of_ble_eq_true rfl⟩) rfl hl.1 rfl (Nat.le_of_ble_eq_true rfl) dL_word_56 ⟨Nat.le_of_ble_eq_true rfl, Nat.le_of_ble_eq_true rfl⟩ ?_
          refine lv_if_ne (tgt := 67) hx hb dL_word_59 (by decide) (fun c_59 => ?_) (fun c_59 => ?_)
          · skip
            have n_59 : ¬ bl_ (v >>> (nI 7 &&& 31)) 2 = 0 := fun q__ => c_59 ((eq0_ (by omega)).mpr q__)
            have hx1 : bl_ ((v >>> (nI (3 * k) &&& 31)) + nI (5 * k)) 9 = gd2_ v k := by unfold gd2_ gb_; rw [if_neg n_59]
            refine lv_bipush (v := nI 9) hx hb dL_word_67 (by decide) ?_
            refine k_pS (As := [.int ((v >>> (nI (3 * k) &&& 31)) + (nI (5 * k))), .int (nI 9)]) (rest := [.int (nI ((27 * t) + 1))]) (c_L_below l ((v >>> (nI (3 * k) &&& 31)) + (nI (5 * k))) 9 (by omega) (by omega)) ⟨hx, hb, hml, hown, hts⟩ (va_cwS 2 hts gL_word_L_below rfl rfl rfl (by decide +kernel) ⟨Nat.le_of_ble_eq_true rfl, Nat.le_of_ble_eq_true rfl⟩) rfl hl.1 rfl (Nat.le_of_ble_eq_true rfl) dL_word_69 ⟨Nat.le_of_ble_eq_true rfl, Nat.le_of_ble_eq_true rfl⟩ ?_
            refine lv_iadd hx hb dL_word_72 ?_
            refine lv_tn (nI_add _ _) ?_
            refine lv_istore_n (lv' := [(1, .int (nI (((27 * t) + 1) + (bl_ ((v >>> (nI (3 * k) &&& 31)) + (nI (5 * k))) 9)))), (3, .int (nI k)), (2, .int (nI (gn_ v))), (0, .int v)]) hx hb dL_word_73 rfl hl (by decide) rfl (fun ls hl => ?_)
            refine lv_iinc (v := nI (k + 1)) (lv' := [(3, .int (nI (k + 1))), (1, .int (nI (((27 * t) + 1) + (bl_ ((v >>> (nI (3 * k) &&& 31)) + (nI (5 * k))) 9)))), (2, .int (nI (gn_ v))), (0, .int v)]) hx hb dL_word_74 hl (k := 1) rfl (nI_1 _) (by decide) rfl (fun ls hl => ?_)
            refine lv_goto (tgt := 31) hx hb dL_word_77 (by decide) ?_
            exact ih_31 (((27 * t) + 1) + (bl_ ((v >>> (nI (3 * k) &&& 31)) + (nI (5 * k))) 9)) (k + 1) (by omega) (by rw [h1, hx1]; rfl) (by omega) ls (lv_sub hl [0, 2, 1, 3] rfl)
          · skip
            have n_59 : bl_ (v >>> (nI 7 &&& 31)) 2 = 0 := (eq0_ (by omega)).mp c_59
            have hx1 : bl_ ((v >>> (nI (3 * k) &&& 31)) + nI (5 * k)) 26 = gd2_ v k := by unfold gd2_ gb_; rw [if_pos n_59]
            refine lv_bipush (v := nI 26) hx hb dL_word_62 (by decide) ?_
            refine lv_goto (tgt := 69) hx hb dL_word_64 (by decide) ?_
            refine k_pS (As := [.int ((v >>> (nI (3 * k) &&& 31)) + (nI (5 * k))), .int (nI 26)]) (rest := [.int (nI ((27 * t) + 1))]) (c_L_below l ((v >>> (nI (3 * k) &&& 31)) + (nI (5 * k))) 26 (by omega) (by omega)) ⟨hx, hb, hml, hown, hts⟩ (va_cwS 2 hts gL_word_L_below rfl rfl rfl (by decide +kernel) ⟨Nat.le_of_ble_eq_true rfl, Nat.le_of_ble_eq_true rfl⟩) rfl hl.1 rfl (Nat.le_of_ble_eq_true rfl) dL_word_69 ⟨Nat.le_of_ble_eq_true rfl, Nat.le_of_ble_eq_true rfl⟩ ?_
            refine lv_iadd hx hb dL_word_72 ?_
            refine lv_tn (nI_add _ _) ?_
            refine lv_istore_n (lv' := [(1, .int (nI (((27 * t) + 1) + (bl_ ((v >>> (nI (3 * k) &&& 31)) + (nI (5 * k))) 26)))), (3, .int (nI k)), (2, .int (nI (gn_ v))), (0, .int v)]) hx hb dL_word_73 rfl hl (by decide) rfl (fun ls hl => ?_)
            refine lv_iinc (v := nI (k + 1)) (lv' := [(3, .int (nI (k + 1))), (1, .int (nI (((27 * t) + 1) + (bl_ ((v >>> (nI (3 * k) &&& 31)) + (nI (5 * k))) 26)))), (2, .int (nI (gn_ v))), (0, .int v)]) hx hb dL_word_74 hl (k := 1) rfl (nI_1 _) (by decide) rfl (fun ls hl => ?_)
            refine lv_goto (tgt := 31) hx hb dL_word_77 (by decide) ?_
            exact ih_31 (((27 * t) + 1) + (bl_ ((v >>> (nI (3 * k) &&& 31)) + (nI (5 * k))) 26)) (k + 1) (by omega) (by rw [h1, hx1]; rfl) (by omega) ls (lv_sub hl [0, 2, 1, 3] rfl)
    exact LP_31 _ 0 0 (Nat.lt_succ_self _) rfl (Nat.zero_le _) ls (lv_sub hl [0, 1, 2, 3] rfl)
end
section
/-- five numbers in a row -/
def t5_ (a b c d e : Nat) (j : Nat) : Int32 := if j = 0 then nI a else if j = 1 then nI b else if j = 2 then nI c else if j = 3 then nI d else nI e
theorem t5_w {c : St_} {l w d e j : Nat} (hj : j < 5) (hd : d = wc_ (sw c (10 * l + w)) (sk c (10 * l + w))) (he : e = wm_ (so c) (sw c (10 * l + w)) (sk c (10 * l + w))) : t5_ (sw c (10 * l + w)) (ln_ (sw c (10 * l + w))) (ws0 (so c) (sw c (10 * l + w))) d e j = nI (wt_ c l w j) := by
  subst hd
  subst he
  rcases (show j = 0 ∨ j = 1 ∨ j = 2 ∨ j = 3 ∨ j = 4 by omega) with rfl | rfl | rfl | rfl | rfl <;> rfl
section L5
variable {c : St_} {l k p j : Nat}
theorem l5_a : (if j = 0 then nI (ss c l) else nI (qs_ (fun w => wt_ c l w j) k)) = if j = 0 then nI (ss c l) else if j < 1 then nI (qs_ (fun w => wt_ c l w j) (k + 1)) else nI (qs_ (fun w => wt_ c l w j) k) := by
  by_cases e : j = 0
  · rw [if_pos e, if_pos e]
  · rw [if_neg e, if_neg e, if_neg (by omega)]
theorem l5_e (hj : j < 5) (hp : 5 ≤ p) : (if j = 0 then nI (ss c l) else if j < p then nI (qs_ (fun w => wt_ c l w j) (k + 1)) else nI (qs_ (fun w => wt_ c l w j) k)) = if j = 0 then nI (ss c l) else nI (qs_ (fun w => wt_ c l w j) (k + 1)) := by
  by_cases e : j = 0
  · rw [if_pos e, if_pos e]
  · rw [if_neg e, if_neg e, if_pos (by omega)]
theorem l5_z (hk : k = ss c l) : (if j = 0 then nI (ss c l) else nI (qs_ (fun w => wt_ c l w j) k)) = nI (lt_ c l j) := by
  subst hk
  unfold lt_
  by_cases e : j = 0
  · rw [if_pos e, if_pos e]
  · rw [if_neg e, if_neg e]
theorem l5_r (hp : 1 ≤ p) : (if p = 0 then nI (ss c l) else if p < p then nI (qs_ (fun w => wt_ c l w p) (k + 1)) else nI (qs_ (fun w => wt_ c l w p) k)) = nI (qs_ (fun w => wt_ c l w p) k) := by
  rw [if_neg (by omega), if_neg (by omega)]
theorem l5_s (hp : 1 ≤ p) : upd (fun j => if j = 0 then nI (ss c l) else if j < p then nI (qs_ (fun w => wt_ c l w j) (k + 1)) else nI (qs_ (fun w => wt_ c l w j) k)) p (nI (qs_ (fun w => wt_ c l w p) k + wt_ c l k p)) j = if j = 0 then nI (ss c l) else if j < p + 1 then nI (qs_ (fun w => wt_ c l w j) (k + 1)) else nI (qs_ (fun w => wt_ c l w j) k) := by
  unfold upd
  by_cases e : j = p
  · subst e
    rw [if_pos rfl, if_neg (by omega), if_pos (by omega)]
    rfl
  · rw [if_neg e]
    show (if j = 0 then nI (ss c l) else if j < p then nI (qs_ (fun w => wt_ c l w j) (k + 1)) else nI (qs_ (fun w => wt_ c l w j) k)) = _
    by_cases e0 : j = 0
    · rw [if_pos e0, if_pos e0]
    · rw [if_neg e0, if_neg e0]
      by_cases q : j < p
      · rw [if_pos q, if_pos (by omega)]
      · rw [if_neg q, if_neg (by omega)]
end L5
end
section
set_option maxHeartbeats 4000000 in
set_option maxRecDepth 100000 in
theorem c_X1_word (l : Launch) (B0 : Nat) (g : va_G) (ct ad : Nat → Nat) (cS : St_) (mS : Pl_) (x : Ax_) (o : Nat) (cJ : St_) (hI : Iv_ cJ) (hJ : SI_ ct mS o cJ) (li wi : Nat) (hln : li < sn cJ) (hwn : wi < ss cJ li) : WR l yX1_word wsX1_word 2 3 17 B0 g ct ad cS mS x [.ref o, .int (nI li), .int (nI wi)] cS (fun r m1 => Ex_ mS m1 ∧ r ∉ mS.1 ∧ AI_ ct m1 r 5 (fun q => nI (wt_ cJ li wi q))) := by
  refine Met.ofW (cc := cX1_word) (maxL := 6) (ret := (some (.array .int))) (by decide) rfl ?_
  intro p e s m args below meth c s₁ B hml hv
  obtain ⟨rfl, hC⟩ := hv
  have hx := B.exec
  have hb := B.bytes
  have hr := B.returns
  have hts := atoms_spec (ws := wsX1_word) B.pre
  have hown : s.vm.findClass RX1 = some m.cls := findClass_of_methodNamed B.named
  have hlocks := B.notSynchronized
  have hin1 : ∀ w ∈ wsX10, w ∈ wsX1_word := fun _ h => List.mem_cons_of_mem _ (List.mem_append_right _ h)
  have hS : va_S (AA B0) s.heap s.heap [] := va_S.rf
  have hB : B0 ≤ s.heap.size := hC.1.2.2.1
  obtain ⟨lo, mo, la, wa, ba, hJ0⟩ := hJ
  have hE := Ex_r mS
  have h12 := hI.2.1
  have h10 := hI.2.2.1
  have hls := h10 li
  have hw6 := hI.2.2.2.1 (10 * li + wi)
  have h6 := ln_le hw6
  have hl := lv_entry ([.ref o, .int (nI li), .int (nI wi)]) (n := 6) (Nat.le_of_ble_eq_true rfl)
  rw [lg_entry_eq]
  generalize (lg_sl ([.ref o, .int (nI li), .int (nI wi)]) ++ List.replicate (6 - (lg_sl ([.ref o, .int (nI li), .int (nI wi)])).length) Slot.unset).toArray = ls at hl ⊢
  have hl : lv_has ls 6 [(0, .ref o), (1, .int (nI li)), (2, .int (nI wi))] := hl
  refine lv_aload_n hx hb dX1_word_0 rfl (lv_at hl 0 rfl) ?_
  refine q_f hC hx hb hts hin1 hown (hJ0.1.ex hE) 1 (by decide) (hts (.fieldLink RX1 9 "AbjadPoemsLaw$Sim" "lines" "[[I") (by decide +kernel)) (v := .ref lo) rfl dX1_word_1 ?_
  refine lv_iload_n hx hb dX1_word_4 rfl (lv_at hl 1 rfl) ?_
  refine q_o hC hx hb (hJ0.2.1.ex hE) (ty := .array .int) rfl rfl dX1_word_5 (j := li) (by omega) (by omega) (v := la li) rfl ?_
  refine lv_iload_n hx hb dX1_word_6 rfl (lv_at hl 2 rfl) ?_
  refine q_i hC hx hb ((hJ0.2.2.2.1 li (by omega)).ex hE) dX1_word_7 (j := wi) (by omega) (by omega) ?_
  refine lv_tn (w := nI (sw cJ (10 * li + wi))) rfl ?_
  refine k_RN (As := [.int (nI (sw cJ (10 * li + wi)))]) (rest := []) (c_L_letters l B0 g ct ad cS mS x (sw cJ (10 * li + wi)) (by omega)) hC hS ⟨hx, hb, hml, hown, hts⟩ ⟨va_cnB 1 hts gX1_word_L_letters_n21 rfl rfl rfl hC.2.2.2.2.2.1 (hts (.initialized RL) (by decide +kernel)) (by decide +kernel) ⟨Nat.le_of_ble_eq_true rfl, Nat.le_of_ble_eq_true rfl⟩, hts (.static yL_letters) (by decide +kernel), trivial⟩ rfl hl.1 rfl (Nat.le_of_ble_eq_true rfl) dX1_word_8 ⟨(by show _ ≤ 3; omega), (by show _ ≤ 17; omega)⟩ (fun m_8 x_8 q_8 H locs hr_8 hC hS => ?_)
  obtain ⟨xq_8, fq_8, A_8⟩ := hr_8
  have fb_8 : q_8 ∉ mS.1 := hE.nin fq_8
  have hE := Ex_t hE xq_8
  refine lv_astore_n (lv' := [(3, .ref q_8), (0, .ref o), (1, .int (nI li)), (2, .int (nI wi))]) hx hb dX1_word_11 rfl hl (by decide) rfl (fun ls hl => ?_)
  refine lv_iconst (v := nI 5) hx hb dX1_word_12 (by decide) ?_
  refine n_i hC hB hS hx hb (hts (.arrayClass .int) (by decide +kernel)) (j := 5) (by omega) (by show _ ≤ 3; omega) (by show _ ≤ 17; omega) dX1_word_13 (fun q_13 m_13 H fq_13 xq_13 A_13 hC hS => ?_)
  have d_13_8 : q_8 ≠ q_13 := fun e9 => fq_13 (e9 ▸ A_8.1)
  have A_8 := A_8.ex xq_13
  have fb_13 : q_13 ∉ mS.1 := hE.nin fq_13
  have hE := Ex_t hE xq_13
  refine lv_dup hx hb dX1_word_15 rfl ?_
  refine lv_iconst (v := nI 0) hx hb dX1_word_16 (by decide) ?_
  refine lv_aload_n hx hb dX1_word_17 rfl (lv_at hl 1 rfl) ?_
  refine q_f hC hx hb hts hin1 hown (hJ0.1.ex hE) 1 (by decide) (hts (.fieldLink RX1 9 "AbjadPoemsLaw$Sim" "lines" "[[I") (by decide +kernel)) (v := .ref lo) rfl dX1_word_18 ?_
  refine lv_iload_n hx hb dX1_word_21 rfl (lv_at hl 2 rfl) ?_
  refine q_o hC hx hb (hJ0.2.1.ex hE) (ty := .array .int) rfl rfl dX1_word_22 (j := li) (by omega) (by omega) (v := la li) rfl ?_
  refine lv_iload_n hx hb dX1_word_23 rfl (lv_at hl 3 rfl) ?_
  refine q_i hC hx hb ((hJ0.2.2.2.1 li (by omega)).ex hE) dX1_word_24 (j := wi) (by omega) (by omega) ?_
  refine lv_tn (w := nI (sw cJ (10 * li + wi))) rfl ?_
  refine u_i hC hB hS hx hb A_13 dX1_word_25 (j := 0) (v := nI (sw cJ (10 * li + wi))) (by omega) (by omega) (fun m_25 H locs pu_25 A_25 hC hS => ?_)
  have A_8 := A_8.pu pu_25 d_13_8
  have hE := hE.pu fb_13 pu_25
  refine lv_dup hx hb dX1_word_26 rfl ?_
  refine lv_iconst (v := nI 1) hx hb dX1_word_27 (by decide) ?_
  refine lv_aload_n hx hb dX1_word_28 rfl (lv_at hl 0 rfl) ?_
  refine q_il hC hx hb A_8 dX1_word_29 ?_
  refine u_i hC hB hS hx hb A_25 dX1_word_30 (j := 1) (v := nI (ln_ (sw cJ (10 * li + wi)))) (by omega) (by omega) (fun m_30 H locs pu_30 A_30 hC hS => ?_)
  have A_8 := A_8.pu pu_30 d_13_8
  have hE := hE.pu fb_13 pu_30
  refine lv_dup hx hb dX1_word_31 rfl ?_
  refine lv_iconst (v := nI 2) hx hb dX1_word_32 (by decide) ?_
  refine lv_aload_n hx hb dX1_word_33 rfl (lv_at hl 1 rfl) ?_
  refine lv_aload_n hx hb dX1_word_34 rfl (lv_at hl 1 rfl) ?_
  refine q_f hC hx hb hts hin1 hown (hJ0.1.ex hE) 1 (by decide) (hts (.fieldLink RX1 9 "AbjadPoemsLaw$Sim" "lines" "[[I") (by decide +kernel)) (v := .ref lo) rfl dX1_word_35 ?_
  refine lv_iload_n hx hb dX1_word_38 rfl (lv_at hl 2 rfl) ?_
  refine q_o hC hx hb (hJ0.2.1.ex hE) (ty := .array .int) rfl rfl dX1_word_39 (j := li) (by omega) (by omega) (v := la li) rfl ?_
  refine lv_iload_n hx hb dX1_word_40 rfl (lv_at hl 3 rfl) ?_
  refine q_i hC hx hb ((hJ0.2.2.2.1 li (by omega)).ex hE) dX1_word_41 (j := wi) (by omega) (by omega) ?_
  refine lv_tn (w := nI (sw cJ (10 * li + wi))) rfl ?_
  refine k_qV (As := [.int (nI (sw cJ (10 * li + wi)))]) (rest := [.int (nI 2), .ref q_13, .ref q_13]) (c_X1_value l B0 g ct ad cS m_30 x_8 o cJ hI ⟨lo, mo, la, wa, ba, hJ0.ex hE⟩ (sw cJ (10 * li + wi)) (by omega)) hC hS ⟨hx, hb, hml, hown, hts⟩ (cwV 1 hts gX1_word_X1_value rfl rfl rfl (by decide +kernel) ⟨Nat.le_of_ble_eq_true rfl, Nat.le_of_ble_eq_true rfl⟩) (rc1 hC (hJ0.1.ex hE)) rfl hl.1 rfl (Nat.le_of_ble_eq_true rfl) dX1_word_42 ⟨(by show _ ≤ 3; omega), (by show _ ≤ 17; omega)⟩ (fun m_42 x_42 H locs hr_42 hC hS => ?_)
  have A_8 := A_8.ex hr_42
  have A_30 := A_30.ex hr_42
  have hE := Ex_t hE hr_42
  refine u_i hC hB hS hx hb A_30 dX1_word_45 (j := 2) (v := nI (ws0 (so cJ) (sw cJ (10 * li + wi)))) (by omega) (by omega) (fun m_45 H locs pu_45 A_45 hC hS => ?_)
  have A_8 := A_8.pu pu_45 d_13_8
  have hE := hE.pu fb_13 pu_45
  refine lv_dup hx hb dX1_word_46 rfl ?_
  refine lv_iconst (v := nI 3) hx hb dX1_word_47 (by decide) ?_
  refine lv_iconst (v := nI 0) hx hb dX1_word_48 (by decide) ?_
  refine u_i hC hB hS hx hb A_45 dX1_word_49 (j := 3) (v := nI 0) (by omega) (by omega) (fun m_49 H locs pu_49 A_49 hC hS => ?_)
  have A_8 := A_8.pu pu_49 d_13_8
  have hE := hE.pu fb_13 pu_49
  refine lv_dup hx hb dX1_word_50 rfl ?_
  refine lv_iconst (v := nI 4) hx hb dX1_word_51 (by decide) ?_
  refine lv_iconst (v := nI 0) hx hb dX1_word_52 (by decide) ?_
  refine u_i hC hB hS hx hb A_49 dX1_word_53 (j := 4) (v := nI 0) (by omega) (by omega) (fun m_53 H locs pu_53 A_53 hC hS => ?_)
  have A_8 := A_8.pu pu_53 d_13_8
  have hE := hE.pu fb_13 pu_53
  have A_53 : AI_ ct m_53 q_13 5 (t5_ (sw cJ (10 * li + wi)) (ln_ (sw cJ (10 * li + wi))) (ws0 (so cJ) (sw cJ (10 * li + wi))) (0) (0)) := A_53.to (fun j hj => by rcases (show j = 0 ∨ j = 1 ∨ j = 2 ∨ j = 3 ∨ j = 4 by omega) with rfl | rfl | rfl | rfl | rfl <;> rfl)
  refine lv_astore (lv' := [(4, .ref q_13), (3, .ref q_8), (0, .ref o), (1, .int (nI li)), (2, .int (nI wi))]) hx hb dX1_word_54 hl (by decide) rfl (fun ls hl => ?_)
  refine lv_iconst (v := nI 0) hx hb dX1_word_56 (by decide) ?_
  refine lv_istore (lv' := [(5, .int (nI 0)), (4, .ref q_13), (3, .ref q_8), (0, .ref o), (1, .int (nI li)), (2, .int (nI wi))]) hx hb dX1_word_57 hl (by decide) rfl (fun ls hl => ?_)
  have LP_59 : ∀ (n_ : Nat) (k : Nat) (d_ : Nat) (e_ : Nat) (mL : Pl_) (xL : Ax_), ln_ (sw cJ (10 * li + wi)) - k < n_ → (d_ = qs_ (wb_ (sk cJ (10 * li + wi))) k) → (e_ = wq_ (so cJ) (sw cJ (10 * li + wi)) (sk cJ (10 * li + wi)) k) → (k ≤ ln_ (sw cJ (10 * li + wi))) → Ex_ mS mL → AI_ ct mL q_8 (ln_ (sw cJ (10 * li + wi))) (fun k => nI (at_ (sw cJ (10 * li + wi)) k)) → AI_ ct mL q_13 5 (t5_ (sw cJ (10 * li + wi)) (ln_ (sw cJ (10 * li + wi))) (ws0 (so cJ) (sw cJ (10 * li + wi))) (d_) (e_)) → ∀ (H : Heap) (locs : List Loc), CX B0 g ct ad cS mL xL s H → va_S (AA B0) s.heap H locs → ∀ ls : Array Slot, lv_has ls 6 [(5, .int (nI k)), (4, .ref q_13), (3, .ref q_8), (0, .ref o), (1, .int (nI li)), (2, .int (nI wi))] → W p l e (headSpec wsX1_word (rm_ 2 3 17)).room s m ([.ref o, .int (nI li), .int (nI wi)] : List Value).toArray below meth c H locs (0 + 1 + 1 + 1) (0 + 6 + 5 + 6) (MQ below (va_Qr (fun (_ : Qu_) => True) (fun u r t => (fun r m1 => Ex_ mS m1 ∧ r ∉ mS.1 ∧ AI_ ct m1 r 5 (fun q => nI (wt_ cJ li wi q))) r u.1 ∧ CW B0 g ct ad cS u.1 u.2 t.heap) (AA B0)) ([.ref o, .int (nI li), .int (nI wi)] : List Value).toArray s 3 17 (AA B0)) (F0 m 59 ls []) := by
    intro n_
    induction n_ with
    | zero => intro k d_ e_ mL xL hm; exact absurd hm (Nat.not_lt_zero _)
    | succ n_ ih_59 =>
      intro k d_ e_ mL xL hm h1 h2 h3 hE A_8 A_53 H locs hC hS ls hl
      refine lv_iload hx hb dX1_word_59 (lv_at hl 0 rfl) ?_
      refine lv_aload_n hx hb dX1_word_61 rfl (lv_at hl 2 rfl) ?_
      refine q_il hC hx hb A_8 dX1_word_62 ?_
      refine lv_icmp_ge (tgt := 115) hx hb dX1_word_63 (by decide) (fun c_63 => ?_) (fun c_63 => ?_)
      · skip
        have n_63 : ln_ (sw cJ (10 * li + wi)) ≤ k := (nI_leI (a := ln_ (sw cJ (10 * li + wi))) (b := k) (by omega) (by omega)).mp c_63
        have hk9 : k = ln_ (sw cJ (10 * li + wi)) := by omega
        have A_end : AI_ ct mL q_13 5 (fun q => nI (wt_ cJ li wi q)) := A_53.to (fun j hj => t5_w hj (by rw [h1, hk9]; rfl) (by rw [h2, hk9]; rfl))
        refine lv_aload hx hb dX1_word_115 (lv_at hl 1 rfl) ?_
        refine W.widen (k := 3) (n := 17) (by omega) (by omega) ?_
        exact W.aret hx hb hr (Or.inr ⟨_, rfl⟩) (Or.inr ⟨_, rfl⟩) (fun t ht hW => ⟨⟨(mL, xL), _, rfl, trivial, ⟨hE, fb_13, A_end⟩, (by show CW B0 g ct ad cS mL xL t.heap; rw [ht]; exact hC.1)⟩, hS.F ht⟩) hS.2.2 dX1_word_117
      · skip
        have n_63 : ¬ ln_ (sw cJ (10 * li + wi)) ≤ k := fun q__ => c_63 ((nI_leI (a := ln_ (sw cJ (10 * li + wi))) (b := k) (by omega) (by omega)).mpr q__)
        refine lv_aload_n hx hb dX1_word_66 rfl (lv_at hl 3 rfl) ?_
        refine q_f hC hx hb hts hin1 hown (hJ0.1.ex hE) 2 (by decide) (hts (.fieldLink RX1 17 "AbjadPoemsLaw$Sim" "marks" "[[[Z") (by decide +kernel)) (v := .ref mo) rfl dX1_word_67 ?_
        refine lv_iload_n hx hb dX1_word_70 rfl (lv_at hl 4 rfl) ?_
        refine q_o hC hx hb (hJ0.2.2.1.ex hE) (ty := .array (.array .boolean)) rfl rfl dX1_word_71 (j := li) (by omega) (by omega) (v := wa li) rfl ?_
        refine lv_iload_n hx hb dX1_word_72 rfl (lv_at hl 5 rfl) ?_
        refine q_o hC hx hb ((hJ0.2.2.2.2.1 li (by omega)).ex hE) (ty := .array .boolean) rfl rfl dX1_word_73 (j := wi) (by omega) (by omega) (v := ba li wi) rfl ?_
        refine lv_iload hx hb dX1_word_74 (lv_at hl 0 rfl) ?_
        refine q_z hC hx hb ((hJ0.2.2.2.2.2.1 li wi (by omega) (by omega)).ex hE) dX1_word_76 (j := k) (by omega) (by omega) ?_
        refine lv_tn (w := b2_ ((sk cJ (10 * li + wi)).testBit k)) rfl ?_
        refine lv_if_ne (tgt := 83) hx hb dX1_word_77 (by decide) (fun c_77 => ?_) (fun c_77 => ?_)
        · skip
          have hbt : (sk cJ (10 * li + wi)).testBit k = true := b2_ne c_77
          refine lv_aload hx hb dX1_word_83 (lv_at hl 1 rfl) ?_
          refine lv_iconst (v := nI 3) hx hb dX1_word_85 (by decide) ?_
          refine lv_dup2_11 hx hb dX1_word_86 rfl rfl ?_
          refine q_i hC hx hb A_53 dX1_word_87 (j := 3) (by omega) (by omega) ?_
          refine lv_tn (w := nI d_) rfl ?_
          refine lv_iconst (v := nI 1) hx hb dX1_word_88 (by decide) ?_
          refine lv_iadd hx hb dX1_word_89 ?_
          refine lv_tn (nI_add _ _) ?_
          refine u_i hC hB hS hx hb A_53 dX1_word_90 (j := 3) (v := nI (d_ + 1)) (by omega) (by omega) (fun m_90 H locs pu_90 A_90 hC hS => ?_)
          have A_8 := A_8.pu pu_90 d_13_8
          have hE := hE.pu fb_13 pu_90
          have A_90 : AI_ ct m_90 q_13 5 (t5_ (sw cJ (10 * li + wi)) (ln_ (sw cJ (10 * li + wi))) (ws0 (so cJ) (sw cJ (10 * li + wi))) (d_ + 1) (e_)) := A_90.to (fun j hj => by rcases (show j = 0 ∨ j = 1 ∨ j = 2 ∨ j = 3 ∨ j = 4 by omega) with rfl | rfl | rfl | rfl | rfl <;> rfl)
          refine lv_aload hx hb dX1_word_91 (lv_at hl 1 rfl) ?_
          refine lv_iconst (v := nI 4) hx hb dX1_word_93 (by decide) ?_
          refine lv_dup2_11 hx hb dX1_word_94 rfl rfl ?_
          refine q_i hC hx hb A_90 dX1_word_95 (j := 4) (by omega) (by omega) ?_
          refine lv_tn (w := nI e_) rfl ?_
          refine lv_aload_n hx hb dX1_word_96 rfl (lv_at hl 3 rfl) ?_
          refine q_f hC hx hb hts hin1 hown (hJ0.1.ex hE) 0 (by decide) (hts (.fieldLink RX1 27 "AbjadPoemsLaw$Sim" "order" "I") (by decide +kernel)) (v := .int (nI (so cJ))) rfl dX1_word_97 ?_
          refine lv_aload_n hx hb dX1_word_100 rfl (lv_at hl 2 rfl) ?_
          refine lv_iload hx hb dX1_word_101 (lv_at hl 0 rfl) ?_
          refine q_i hC hx hb A_8 dX1_word_103 (j := k) (by omega) (by omega) ?_
          refine lv_tn (w := nI (at_ (sw cJ (10 * li + wi)) k)) rfl ?_
          refine k_fN (As := [.int (nI (so cJ)), .int (nI (at_ (sw cJ (10 * li + wi)) k))]) (rest := [.int (nI e_), .int (nI 4), .ref q_13]) (c_L_value l (so cJ) (at_ (sw cJ (10 * li + wi)) k) hI.1 (at_lt _ _)) hC hS ⟨hx, hb, hml, hown, hts⟩ ⟨va_cnB 2 hts gX1_word_L_value_n31 rfl rfl rfl hC.2.2.2.2.2.2.1 (hts (.initialized RL) (by decide +kernel)) (by decide +kernel) ⟨Nat.le_of_ble_eq_true rfl, Nat.le_of_ble_eq_true rfl⟩, hts (.static yL_value) (by decide +kernel), trivial⟩ rfl hl.1 rfl (Nat.le_of_ble_eq_true rfl) dX1_word_104 ⟨(by show _ ≤ 3; omega), (by show _ ≤ 17; omega)⟩ (fun H locs hC hS => ?_)
          refine lv_iadd hx hb dX1_word_107 ?_
          refine lv_tn (nI_add _ _) ?_
          refine u_i hC hB hS hx hb A_90 dX1_word_108 (j := 4) (v := nI (e_ + (vl_ (so cJ) (at_ (sw cJ (10 * li + wi)) k)))) (by omega) (by omega) (fun m_108 H locs pu_108 A_108 hC hS => ?_)
          have A_8 := A_8.pu pu_108 d_13_8
          have hE := hE.pu fb_13 pu_108
          have A_108 : AI_ ct m_108 q_13 5 (t5_ (sw cJ (10 * li + wi)) (ln_ (sw cJ (10 * li + wi))) (ws0 (so cJ) (sw cJ (10 * li + wi))) (d_ + 1) (e_ + vl_ (so cJ) (at_ (sw cJ (10 * li + wi)) k))) := A_108.to (fun j hj => by rcases (show j = 0 ∨ j = 1 ∨ j = 2 ∨ j = 3 ∨ j = 4 by omega) with rfl | rfl | rfl | rfl | rfl <;> rfl)
          refine lv_iinc (v := nI (k + 1)) (lv' := [(5, .int (nI (k + 1))), (4, .ref q_13), (3, .ref q_8), (0, .ref o), (1, .int (nI li)), (2, .int (nI wi))]) hx hb dX1_word_109 hl (k := 0) rfl (nI_1 _) (by decide) rfl (fun ls hl => ?_)
          refine lv_goto (tgt := 59) hx hb dX1_word_112 (by decide) ?_
          refine W.widen (k := 0 + 1 + 1 + 1) (n := 0 + 6 + 5 + 6) (by omega) (by omega) ?_
          exact ih_59 (k + 1) (d_ + 1) (e_ + vl_ (so cJ) (at_ (sw cJ (10 * li + wi)) k)) m_108 xL (by omega) (by first | (rw [wb_1 hbt, h1]) | (rw [wb_2 hbt]; exact h1)) (by first | (rw [wq_1 hbt, h2]) | (rw [wq_2 hbt]; exact h2)) (by omega) hE A_8 (A_108.to (fun j hj => rfl)) H locs hC hS ls (lv_sub hl [0, 1, 2, 3, 4, 5] rfl)
        · skip
          have hbt : (sk cJ (10 * li + wi)).testBit k = false := b2_0.mp c_77
          refine lv_goto (tgt := 109) hx hb dX1_word_80 (by decide) ?_
          refine lv_iinc (v := nI (k + 1)) (lv' := [(5, .int (nI (k + 1))), (4, .ref q_13), (3, .ref q_8), (0, .ref o), (1, .int (nI li)), (2, .int (nI wi))]) hx hb dX1_word_109 hl (k := 0) rfl (nI_1 _) (by decide) rfl (fun ls hl => ?_)
          refine lv_goto (tgt := 59) hx hb dX1_word_112 (by decide) ?_
          refine W.widen (k := 0 + 1 + 1 + 1) (n := 0 + 6 + 5 + 6) (by omega) (by omega) ?_
          exact ih_59 (k + 1) d_ e_ mL xL (by omega) (by first | (rw [wb_1 hbt, h1]) | (rw [wb_2 hbt]; exact h1)) (by first | (rw [wq_1 hbt, h2]) | (rw [wq_2 hbt]; exact h2)) (by omega) hE A_8 (A_53.to (fun j hj => rfl)) H locs hC hS ls (lv_sub hl [0, 1, 2, 3, 4, 5] rfl)
  refine W.widen (k := 0 + 1 + 1 + 1) (n := 0 + 6 + 5 + 6) (by omega) (by omega) ?_
  exact LP_59 _ 0 0 0 m_53 x_42 (Nat.lt_succ_self _) rfl rfl (Nat.zero_le _) hE A_8 (A_53.to (fun j hj => rfl)) H locs hC hS ls (lv_sub hl [0, 1, 2, 3, 4, 5] rfl)
set_option maxHeartbeats 4000000 in
set_option maxRecDepth 100000 in
theorem c_X1_line (l : Launch) (B0 : Nat) (g : va_G) (ct ad : Nat → Nat) (cS : St_) (mS : Pl_) (x : Ax_) (o : Nat) (cJ : St_) (hI : Iv_ cJ) (hJ : SI_ ct mS o cJ) (li : Nat) (hln : li < sn cJ) : WR l yX1_line wsX1_line 3 31 175 B0 g ct ad cS mS x [.ref o, .int (nI li)] cS (fun r m1 => Ex_ mS m1 ∧ r ∉ mS.1 ∧ AI_ ct m1 r 5 (fun q => nI (lt_ cJ li q))) := by
  refine Met.ofW (cc := cX1_line) (maxL := 6) (ret := (some (.array .int))) (by decide) rfl ?_
  intro p e s m args below meth c s₁ B hml hv
  obtain ⟨rfl, hC⟩ := hv
  have hx := B.exec
  have hb := B.bytes
  have hr := B.returns
  have hts := atoms_spec (ws := wsX1_line) B.pre
  have hown : s.vm.findClass RX1 = some m.cls := findClass_of_methodNamed B.named
  have hlocks := B.notSynchronized
  have hin1 : ∀ w ∈ wsX10, w ∈ wsX1_line := fun _ h => List.mem_cons_of_mem _ (List.mem_append_right _ h)
  have hS : va_S (AA B0) s.heap s.heap [] := va_S.rf
  have hB : B0 ≤ s.heap.size := hC.1.2.2.1
  obtain ⟨lo, mo, la, wa, ba, hJ0⟩ := hJ
  have hE := Ex_r mS
  have h12 := hI.2.1
  have h10 := hI.2.2.1
  have hls := h10 li
  have hl := lv_entry ([.ref o, .int (nI li)]) (n := 6) (Nat.le_of_ble_eq_true rfl)
  rw [lg_entry_eq]
  generalize (lg_sl ([.ref o, .int (nI li)]) ++ List.replicate (6 - (lg_sl ([.ref o, .int (nI li)])).length) Slot.unset).toArray = ls at hl ⊢
  have hl : lv_has ls 6 [(0, .ref o), (1, .int (nI li))] := hl
  refine lv_iconst (v := nI 5) hx hb dX1_line_0 (by decide) ?_
  refine n_i hC hB hS hx hb (hts (.arrayClass .int) (by decide +kernel)) (j := 5) (by omega) (by show _ ≤ 31; omega) (by show _ ≤ 175; omega) dX1_line_1 (fun q_1 m_1 H fq_1 xq_1 A_1 hC hS => ?_)
  have fb_1 : q_1 ∉ mS.1 := hE.nin fq_1
  have hE := Ex_t hE xq_1
  refine lv_dup hx hb dX1_line_3 rfl ?_
  refine lv_iconst (v := nI 0) hx hb dX1_line_4 (by decide) ?_
  refine lv_aload_n hx hb dX1_line_5 rfl (lv_at hl 0 rfl) ?_
  refine q_f hC hx hb hts hin1 hown (hJ0.1.ex hE) 1 (by decide) (hts (.fieldLink RX1 9 "AbjadPoemsLaw$Sim" "lines" "[[I") (by decide +kernel)) (v := .ref lo) rfl dX1_line_6 ?_
  refine lv_iload_n hx hb dX1_line_9 rfl (lv_at hl 1 rfl) ?_
  refine q_o hC hx hb (hJ0.2.1.ex hE) (ty := .array .int) rfl rfl dX1_line_10 (j := li) (by omega) (by omega) (v := la li) rfl ?_
  refine q_il hC hx hb ((hJ0.2.2.2.1 li (by omega)).ex hE) dX1_line_11 ?_
  refine u_i hC hB hS hx hb A_1 dX1_line_12 (j := 0) (v := nI (ss cJ li)) (by omega) (by omega) (fun m_12 H locs pu_12 A_12 hC hS => ?_)
  have hE := hE.pu fb_1 pu_12
  refine lv_dup hx hb dX1_line_13 rfl ?_
  refine lv_iconst (v := nI 1) hx hb dX1_line_14 (by decide) ?_
  refine lv_iconst (v := nI 0) hx hb dX1_line_15 (by decide) ?_
  refine u_i hC hB hS hx hb A_12 dX1_line_16 (j := 1) (v := nI 0) (by omega) (by omega) (fun m_16 H locs pu_16 A_16 hC hS => ?_)
  have hE := hE.pu fb_1 pu_16
  refine lv_dup hx hb dX1_line_17 rfl ?_
  refine lv_iconst (v := nI 2) hx hb dX1_line_18 (by decide) ?_
  refine lv_iconst (v := nI 0) hx hb dX1_line_19 (by decide) ?_
  refine u_i hC hB hS hx hb A_16 dX1_line_20 (j := 2) (v := nI 0) (by omega) (by omega) (fun m_20 H locs pu_20 A_20 hC hS => ?_)
  have hE := hE.pu fb_1 pu_20
  refine lv_dup hx hb dX1_line_21 rfl ?_
  refine lv_iconst (v := nI 3) hx hb dX1_line_22 (by decide) ?_
  refine lv_iconst (v := nI 0) hx hb dX1_line_23 (by decide) ?_
  refine u_i hC hB hS hx hb A_20 dX1_line_24 (j := 3) (v := nI 0) (by omega) (by omega) (fun m_24 H locs pu_24 A_24 hC hS => ?_)
  have hE := hE.pu fb_1 pu_24
  refine lv_dup hx hb dX1_line_25 rfl ?_
  refine lv_iconst (v := nI 4) hx hb dX1_line_26 (by decide) ?_
  refine lv_iconst (v := nI 0) hx hb dX1_line_27 (by decide) ?_
  refine u_i hC hB hS hx hb A_24 dX1_line_28 (j := 4) (v := nI 0) (by omega) (by omega) (fun m_28 H locs pu_28 A_28 hC hS => ?_)
  have hE := hE.pu fb_1 pu_28
  have A_28 : AI_ ct m_28 q_1 5 (fun j => if j = 0 then nI (ss cJ li) else nI (qs_ (fun w => wt_ cJ li w j) 0)) := A_28.to (fun j hj => by rcases (show j = 0 ∨ j = 1 ∨ j = 2 ∨ j = 3 ∨ j = 4 by omega) with rfl | rfl | rfl | rfl | rfl <;> rfl)
  refine lv_astore_n (lv' := [(2, .ref q_1), (0, .ref o), (1, .int (nI li))]) hx hb dX1_line_29 rfl hl (by decide) rfl (fun ls hl => ?_)
  refine lv_iconst (v := nI 0) hx hb dX1_line_30 (by decide) ?_
  refine lv_istore_n (lv' := [(3, .int (nI 0)), (2, .ref q_1), (0, .ref o), (1, .int (nI li))]) hx hb dX1_line_31 rfl hl (by decide) rfl (fun ls hl => ?_)
  have LP_32 : ∀ (n_ : Nat) (k : Nat) (mL : Pl_) (xL : Ax_), ss cJ li - k < n_ → (k ≤ ss cJ li) → Ex_ mS mL → AI_ ct mL q_1 5 (fun j => if j = 0 then nI (ss cJ li) else nI (qs_ (fun w => wt_ cJ li w j) k)) → ∀ (H : Heap) (locs : List Loc), CX B0 g ct ad cS mL xL s H → va_S (AA B0) s.heap H locs → ∀ ls : Array Slot, lv_has ls 6 [(3, .int (nI k)), (2, .ref q_1), (0, .ref o), (1, .int (nI li))] → W p l e (headSpec wsX1_line (rm_ 3 31 175)).room s m ([.ref o, .int (nI li)] : List Value).toArray below meth c H locs (1 + 3 * k) (5 + 17 * k) (MQ below (va_Qr (fun (_ : Qu_) => True) (fun u r t => (fun r m1 => Ex_ mS m1 ∧ r ∉ mS.1 ∧ AI_ ct m1 r 5 (fun q => nI (lt_ cJ li q))) r u.1 ∧ CW B0 g ct ad cS u.1 u.2 t.heap) (AA B0)) ([.ref o, .int (nI li)] : List Value).toArray s 31 175 (AA B0)) (F0 m 32 ls []) := by
    intro n_
    induction n_ with
    | zero => intro k mL xL hm; exact absurd hm (Nat.not_lt_zero _)
    | succ n_ ih_32 =>
      intro k mL xL hm hk hE A_28 H locs hC hS ls hl
      refine lv_iload_n hx hb dX1_line_32 rfl (lv_at hl 0 rfl) ?_
      refine lv_aload_n hx hb dX1_line_33 rfl (lv_at hl 2 rfl) ?_
      refine q_f hC hx hb hts hin1 hown (hJ0.1.ex hE) 1 (by decide) (hts (.fieldLink RX1 9 "AbjadPoemsLaw$Sim" "lines" "[[I") (by decide +kernel)) (v := .ref lo) rfl dX1_line_34 ?_
      refine lv_iload_n hx hb dX1_line_37 rfl (lv_at hl 3 rfl) ?_
      refine q_o hC hx hb (hJ0.2.1.ex hE) (ty := .array .int) rfl rfl dX1_line_38 (j := li) (by omega) (by omega) (v := la li) rfl ?_
      refine q_il hC hx hb ((hJ0.2.2.2.1 li (by omega)).ex hE) dX1_line_39 ?_
      refine lv_icmp_ge (tgt := 84) hx hb dX1_line_40 (by decide) (fun c_40 => ?_) (fun c_40 => ?_)
      · skip
        have n_40 : ss cJ li ≤ k := (nI_leI (a := ss cJ li) (b := k) (by omega) (by omega)).mp c_40
        have hk9 : k = ss cJ li := by omega
        have A_end : AI_ ct mL q_1 5 (fun q => nI (lt_ cJ li q)) := A_28.to (fun j hj => l5_z hk9)
        refine lv_aload_n hx hb dX1_line_84 rfl (lv_at hl 1 rfl) ?_
        refine W.widen (k := 31) (n := 175) (by omega) (by omega) ?_
        exact W.aret hx hb hr (Or.inr ⟨_, rfl⟩) (Or.inr ⟨_, rfl⟩) (fun t ht hW => ⟨⟨(mL, xL), _, rfl, trivial, ⟨hE, fb_1, A_end⟩, (by show CW B0 g ct ad cS mL xL t.heap; rw [ht]; exact hC.1)⟩, hS.F ht⟩) hS.2.2 dX1_line_85
      · skip
        have n_40 : ¬ ss cJ li ≤ k := fun q__ => c_40 ((nI_leI (a := ss cJ li) (b := k) (by omega) (by omega)).mpr q__)
        refine lv_aload_n hx hb dX1_line_43 rfl (lv_at hl 2 rfl) ?_
        refine lv_iload_n hx hb dX1_line_44 rfl (lv_at hl 3 rfl) ?_
        refine lv_iload_n hx hb dX1_line_45 rfl (lv_at hl 0 rfl) ?_
        refine k_RV (As := [.int (nI li), .int (nI k)]) (rest := []) (c_X1_word l B0 g ct ad cS mL xL o cJ hI ⟨lo, mo, la, wa, ba, hJ0.ex hE⟩ li k (by omega) (by omega)) hC hS ⟨hx, hb, hml, hown, hts⟩ (cwV 2 hts gX1_line_X1_word rfl rfl rfl (by decide +kernel) ⟨Nat.le_of_ble_eq_true rfl, Nat.le_of_ble_eq_true rfl⟩) (rc1 hC (hJ0.1.ex hE)) rfl hl.1 rfl (Nat.le_of_ble_eq_true rfl) dX1_line_46 ⟨(by show _ ≤ 31; omega), (by show _ ≤ 175; omega)⟩ (fun m_46 x_46 q_46 H locs hr_46 hC hS => ?_)
        obtain ⟨xq_46, fq_46, A_46⟩ := hr_46
        have d_46_1 : q_1 ≠ q_46 := fun e9 => fq_46 (e9 ▸ A_28.1)
        have A_28 := A_28.ex xq_46
        have fb_46 : q_46 ∉ mS.1 := hE.nin fq_46
        have hE := Ex_t hE xq_46
        refine lv_astore (lv' := [(4, .ref q_46), (3, .int (nI k)), (2, .ref q_1), (0, .ref o), (1, .int (nI li))]) hx hb dX1_line_49 hl (by decide) rfl (fun ls hl => ?_)
        refine lv_iconst (v := nI 1) hx hb dX1_line_51 (by decide) ?_
        refine lv_istore (lv' := [(5, .int (nI 1)), (4, .ref q_46), (3, .int (nI k)), (2, .ref q_1), (0, .ref o), (1, .int (nI li))]) hx hb dX1_line_52 hl (by decide) rfl (fun ls hl => ?_)
        have LP_54 : ∀ (n_ : Nat) (p_ : Nat) (mL : Pl_) (xL : Ax_), 5 - p_ < n_ → (1 ≤ p_ ∧ p_ ≤ 5) → Ex_ mS mL → AI_ ct mL q_1 5 (fun j => if j = 0 then nI (ss cJ li) else if j < p_ then nI (qs_ (fun w => wt_ cJ li w j) (k + 1)) else nI (qs_ (fun w => wt_ cJ li w j) k)) → AI_ ct mL q_46 5 (fun q => nI (wt_ cJ li k q)) → ∀ (H : Heap) (locs : List Loc), CX B0 g ct ad cS mL xL s H → va_S (AA B0) s.heap H locs → ∀ ls : Array Slot, lv_has ls 6 [(5, .int (nI p_)), (4, .ref q_46), (3, .int (nI k)), (2, .ref q_1), (0, .ref o), (1, .int (nI li))] → W p l e (headSpec wsX1_line (rm_ 3 31 175)).room s m ([.ref o, .int (nI li)] : List Value).toArray below meth c H locs (1 + 3 * k + 3) (5 + 17 * k + 17) (MQ below (va_Qr (fun (_ : Qu_) => True) (fun u r t => (fun r m1 => Ex_ mS m1 ∧ r ∉ mS.1 ∧ AI_ ct m1 r 5 (fun q => nI (lt_ cJ li q))) r u.1 ∧ CW B0 g ct ad cS u.1 u.2 t.heap) (AA B0)) ([.ref o, .int (nI li)] : List Value).toArray s 31 175 (AA B0)) (F0 m 54 ls []) := by
          intro n_
          induction n_ with
          | zero => intro p_ mL xL hm; exact absurd hm (Nat.not_lt_zero _)
          | succ n_ ih_54 =>
            intro p_ mL xL hm hp hE A_28 A_46 H locs hC hS ls hl
            refine lv_iload hx hb dX1_line_54 (lv_at hl 0 rfl) ?_
            refine lv_iconst (v := nI 5) hx hb dX1_line_56 (by decide) ?_
            refine lv_icmp_ge (tgt := 78) hx hb dX1_line_57 (by decide) (fun c_57 => ?_) (fun c_57 => ?_)
            · skip
              have n_57 : 5 ≤ p_ := (nI_leI (a := 5) (b := p_) (by omega) (by omega)).mp c_57
              have hp5 : p_ = 5 := by omega
              refine lv_iinc (v := nI (k + 1)) (lv' := [(3, .int (nI (k + 1))), (5, .int (nI p_)), (4, .ref q_46), (2, .ref q_1), (0, .ref o), (1, .int (nI li))]) hx hb dX1_line_78 hl (k := 2) rfl (nI_1 _) (by decide) rfl (fun ls hl => ?_)
              refine lv_goto (tgt := 32) hx hb dX1_line_81 (by decide) ?_
              refine W.widen (k := 1 + 3 * (k + 1)) (n := 5 + 17 * (k + 1)) (by omega) (by omega) ?_
              exact ih_32 (k + 1) mL xL (by omega) (by omega) hE (A_28.to (fun j hj => l5_e hj (by omega))) H locs hC hS ls (lv_sub hl [0, 3, 4, 5] rfl)
            · skip
              have n_57 : ¬ 5 ≤ p_ := fun q__ => c_57 ((nI_leI (a := 5) (b := p_) (by omega) (by omega)).mpr q__)
              refine lv_aload_n hx hb dX1_line_60 rfl (lv_at hl 3 rfl) ?_
              refine lv_iload hx hb dX1_line_61 (lv_at hl 0 rfl) ?_
              refine lv_dup2_11 hx hb dX1_line_63 rfl rfl ?_
              refine q_i hC hx hb A_28 dX1_line_64 (j := p_) (by omega) (by omega) ?_
              refine lv_tn (w := nI (qs_ (fun w => wt_ cJ li w p_) k)) (l5_r (by omega)) ?_
              refine lv_aload hx hb dX1_line_65 (lv_at hl 1 rfl) ?_
              refine lv_iload hx hb dX1_line_67 (lv_at hl 0 rfl) ?_
              refine q_i hC hx hb A_46 dX1_line_69 (j := p_) (by omega) (by omega) ?_
              refine lv_tn (w := nI (wt_ cJ li k p_)) rfl ?_
              refine lv_iadd hx hb dX1_line_70 ?_
              refine lv_tn (nI_add _ _) ?_
              refine u_i hC hB hS hx hb A_28 dX1_line_71 (j := p_) (v := nI ((qs_ (fun w => wt_ cJ li w p_) k) + (wt_ cJ li k p_))) (by omega) (by omega) (fun m_71 H locs pu_71 A_71 hC hS => ?_)
              have A_46 := A_46.pu pu_71 d_46_1.symm
              have hE := hE.pu fb_1 pu_71
              have A_71 : AI_ ct m_71 q_1 5 (fun j => if j = 0 then nI (ss cJ li) else if j < (p_ + 1) then nI (qs_ (fun w => wt_ cJ li w j) (k + 1)) else nI (qs_ (fun w => wt_ cJ li w j) k)) := A_71.to (fun j hj => l5_s (by omega))
              refine lv_iinc (v := nI (p_ + 1)) (lv' := [(5, .int (nI (p_ + 1))), (4, .ref q_46), (3, .int (nI k)), (2, .ref q_1), (0, .ref o), (1, .int (nI li))]) hx hb dX1_line_72 hl (k := 0) rfl (nI_1 _) (by decide) rfl (fun ls hl => ?_)
              refine lv_goto (tgt := 54) hx hb dX1_line_75 (by decide) ?_
              refine W.widen (k := 1 + 3 * k + 3) (n := 5 + 17 * k + 17) (by omega) (by omega) ?_
              exact ih_54 (p_ + 1) m_71 xL (by omega) (by omega) hE (A_71.to (fun j hj => rfl)) A_46 H locs hC hS ls (lv_sub hl [0, 1, 2, 3, 4, 5] rfl)
        refine W.widen (k := 1 + 3 * k + 3) (n := 5 + 17 * k + 17) (by omega) (by omega) ?_
        exact LP_54 _ 1 m_46 x_46 (Nat.lt_succ_self _) (by omega) hE (A_28.to (fun j hj => l5_a)) A_46 H locs hC hS ls (lv_sub hl [0, 1, 2, 3, 4, 5] rfl)
  refine W.widen (k := 1 + 3 * 0) (n := 5 + 17 * 0) (by omega) (by omega) ?_
  exact LP_32 _ 0 m_28 x (Nat.lt_succ_self _) (Nat.zero_le _) hE (A_28.to (fun j hj => rfl)) H locs hC hS ls (lv_sub hl [0, 1, 2, 3] rfl)
end
section
def z0_ : St_ := (0, 0, fun _ => 0, fun _ => 0, fun _ => 0)
theorem SI_zero {ct : Nat → Nat} {m : Pl_} {o lo mo : Nat} {P P' : Nat → Option Nat} (h : OB_ m o 0 (some lo) (some mo)) (h1 : AO_ ct 1 m lo 0 P) (h2 : AO_ ct 4 m mo 0 P') : SI_ ct m o z0_ :=
  ⟨lo, mo, fun _ => 0, fun _ => 0, fun _ _ => 0, h, h1.to (fun k hk => absurd hk (Nat.not_lt_zero k)), h2.to (fun k hk => absurd hk (Nat.not_lt_zero k)), fun i hi => absurd hi (Nat.not_lt_zero i), fun i hi => absurd hi (Nat.not_lt_zero i), fun i w hi => absurd hi (Nat.not_lt_zero i), fun i w i' w' hi => absurd hi (Nat.not_lt_zero i)⟩
theorem IZ_z : IZ_ z0_ := ⟨fun _ _ => rfl, fun l w hl => absurd hl (Nat.not_lt_zero l)⟩
theorem Iv_z : Iv_ z0_ := ⟨by decide, by decide, fun _ => Nat.zero_le _, fun _ => (by decide : (0 : Nat) < 387420489), fun _ => (by decide : (0 : Nat) < 64), fun l w h => absurd h (Nat.not_lt_zero _)⟩
theorem SJ_.count {ct : Nat → Nat} {m m1 : Pl_} {o : Nat} {c : St_} {lo mo : Nat} {la wa : Nat → Nat} {ba : Nat → Nat → Nat} (h : SJ_ ct m o c lo mo la wa ba) (hx : PU_ m o m1) {k : Nat} (hO : OB_ m1 o (nI k) (some lo) (some mo)) : SI_ ct m1 o (st_count c k) := by
  obtain ⟨h1, h2, h3, h4, h5, h6, h7⟩ := h
  exact ⟨lo, mo, la, wa, ba, hO, h2.pu hx (ne_OB h2 h1), h3.pu hx (ne_OB h3 h1), fun i hi => (h4 i hi).pu hx (ne_IB (h4 i hi) h1), fun i hi => (h5 i hi).pu hx (ne_OB (h5 i hi) h1), fun i w hi hw => (h6 i w hi hw).pu hx (ne_ZB (h6 i w hi hw) h1), h7⟩
end
section
set_option maxHeartbeats 4000000 in
set_option maxRecDepth 100000 in
theorem c_X1_init (l : Launch) (B0 : Nat) (g : va_G) (ct ad : Nat → Nat) (cS : St_) (mS : Pl_) (x : Ax_) (o : Nat) (hO : OB_ mS o 0 none none) : WN l yX1_init wsX1_init 1 2 0 B0 g ct ad cS mS x [.ref o] cS (fun m1 => SI_ ct m1 o z0_) := by
  refine Met.ofW (cc := cX1_init) (maxL := 1) (ret := none) (by decide) rfl ?_
  intro p e s m args below meth c s₁ B hml hv
  obtain ⟨rfl, hC⟩ := hv
  have hx := B.exec
  have hb := B.bytes
  have hr := B.returns
  have hts := atoms_spec (ws := wsX1_init) B.pre
  have hown : s.vm.findClass RX1 = some m.cls := findClass_of_methodNamed B.named
  have hlocks := B.notSynchronized
  have hin1 : ∀ w ∈ wsX10, w ∈ wsX1_init := fun _ h => List.mem_cons_of_mem _ (List.mem_append_right _ h)
  have hS : va_S (AA B0) s.heap s.heap [] := va_S.rf
  have hB : B0 ≤ s.heap.size := hC.1.2.2.1
  have hE := Ex_r mS
  have hl := lv_entry ([.ref o]) (n := 1) (Nat.le_of_ble_eq_true rfl)
  rw [lg_entry_eq]
  generalize (lg_sl ([.ref o]) ++ List.replicate (1 - (lg_sl ([.ref o])).length) Slot.unset).toArray = ls at hl ⊢
  have hl : lv_has ls 1 [(0, .ref o)] := hl
  refine lv_aload_n hx hb dX1_init_0 rfl (lv_at hl 0 rfl) ?_
  refine W.objInit hx hb hown (hts (.methodLink RX1 1 objectInit) (by decide +kernel)) (hts (.instanceMethod objectInit) (by decide +kernel)) (hts (.code objectInit ⟨#[0xb1]⟩ 1 none) (by decide +kernel)) rfl (by rw [hml]; exact hl.1) rfl dX1_init_1 (Nat.le_of_ble_eq_true rfl) (Nat.le_of_ble_eq_true rfl) ?_
  refine W.eq (g2 := F0 m 4 ls []) rfl ?_
  refine lv_aload_n hx hb dX1_init_4 rfl (lv_at hl 0 rfl) ?_
  refine lv_iconst (v := nI 0) hx hb dX1_init_5 (by decide) ?_
  refine n_o hC hB hS hx hb (ty := .int) (t := 1) hown (hts (.classLink RX1 7 "[I") (by decide +kernel)) (by decide +kernel) rfl hC.2.2.1 (j := 0) (by omega) (by show _ ≤ 2; omega) (by show _ ≤ 0; omega) dX1_init_6 (fun q_6 m_6 H fq_6 xq_6 A_6 hC hS => ?_)
  have fb_6 : q_6 ∉ mS.1 := hE.nin fq_6
  have hE := Ex_t hE xq_6
  refine u_f hC hB hS hx hb hts hin1 hown (hO.ex hE) (o' := 0) (lo' := some q_6) (mo' := none) 1 (by decide) (hts (.fieldLink RX1 9 "AbjadPoemsLaw$Sim" "lines" "[[I") (by decide +kernel)) (v := .ref q_6) (ty := .array (.array .int)) (by decide +kernel) rfl rfl rfl dX1_init_9 (fun m_9 H locs pu_9 O_9 hC hS => ?_)
  have A_6 := A_6.pu pu_9 (ne_OB A_6 (hO.ex hE))
  refine lv_aload_n hx hb dX1_init_12 rfl (lv_at hl 0 rfl) ?_
  refine lv_iconst (v := nI 0) hx hb dX1_init_13 (by decide) ?_
  refine n_o hC hB hS hx hb (ty := .array .boolean) (t := 4) hown (va_Nw.use rfl hC.2.2.2.2.2.2.2.2) (by decide +kernel) rfl hC.2.2.2.2.1 (j := 0) (by omega) (by show _ ≤ 2; omega) (by show _ ≤ 0; omega) dX1_init_14 (fun q_14 m_14 H fq_14 xq_14 A_14 hC hS => ?_)
  have d_14_6 : q_6 ≠ q_14 := fun e9 => fq_14 (e9 ▸ A_6.1)
  have A_6 := A_6.ex xq_14
  refine u_f hC hB hS hx hb hts hin1 hown (O_9.ex xq_14) (o' := 0) (lo' := some q_6) (mo' := some q_14) 2 (by decide) (hts (.fieldLink RX1 17 "AbjadPoemsLaw$Sim" "marks" "[[[Z") (by decide +kernel)) (v := .ref q_14) (ty := .array (.array (.array .boolean))) (by decide +kernel) rfl rfl rfl dX1_init_17 (fun m_17 H locs pu_17 O_17 hC hS => ?_)
  have A_6 := A_6.pu pu_17 (ne_OB A_6 (O_9.ex xq_14))
  have A_14 := A_14.pu pu_17 (ne_OB A_14 (O_9.ex xq_14))
  refine W.widen (k := 2) (n := 0) (by omega) (by omega) ?_
  exact W.vret hx hb hr (fun t ht hW => ⟨⟨(m_17, x), rfl, (SI_zero O_17 A_6 A_14), (by show CW B0 g ct ad cS m_17 x t.heap; rw [ht]; exact hC.1)⟩, hS.F ht⟩) hS.2.2 dX1_init_20
set_option maxHeartbeats 4000000 in
set_option maxRecDepth 100000 in
theorem c_L_cell (l : Launch) (b L : Nat) (xs : Nat → Int32) (k : Nat) (hk : k < 1000) (hL : L ≤ 260) : Met l yL_cell wsL_cell (rm_ 0 0 0) (va_Pc [.ref b, .int (nI k)] (fun U => va_X b L xs U U.heap)) (vp_Si (fun _ => True)) 0 0 (fun _ => False) := by
  refine Met.ofW (cc := cL_cell) (maxL := 2) (ret := (some .int)) (by decide) rfl ?_
  intro p e s m args below meth c s₁ B hml hv
  obtain ⟨rfl, hX⟩ := hv
  have hx := B.exec
  have hb := B.bytes
  have hr := B.returns
  have hts := atoms_spec (ws := wsL_cell) B.pre
  have hown : s.vm.findClass RL = some m.cls := findClass_of_methodNamed B.named
  have hbl : b < s.heap.size := by
    obtain ⟨scr, h1, -⟩ := hX
    exact (Array.getElem?_eq_some_iff.mp h1).1
  have hS : va_S (fun _ => False) s.heap s.heap [] := va_S.rf
  have hl := lv_entry ([.ref b, .int (nI k)]) (n := 2) (Nat.le_of_ble_eq_true rfl)
  rw [lg_entry_eq]
  generalize (lg_sl ([.ref b, .int (nI k)]) ++ List.replicate (2 - (lg_sl ([.ref b, .int (nI k)])).length) Slot.unset).toArray = ls at hl ⊢
  have hl : lv_has ls 2 [(0, .ref b), (1, .int (nI k))] := hl
  refine lv_iload_n hx hb dL_cell_0 rfl (lv_at hl 1 rfl) ?_
  refine lv_aload_n hx hb dL_cell_1 rfl (lv_at hl 0 rfl) ?_
  refine va_slen hx hb hX hbl (fun z => z) hS dL_cell_2 ?_
  refine lv_icmp_ge (tgt := 12) hx hb dL_cell_3 (by decide) (fun hg => ?_) (fun hg => ?_)
  · refine lv_ldc hx hb hown (hts (.constant RL 8 (790386105)) (by decide +kernel)) dL_cell_12 ?_
    refine lv_iload_n hx hb dL_cell_14 rfl (lv_at hl 1 rfl) ?_
    refine lv_iconst (v := nI 3) hx hb dL_cell_15 (by decide) ?_
    refine lv_iadd hx hb dL_cell_16 ?_
    refine lv_imul hx hb dL_cell_17 ?_
    exact W.iret hx hb hr (fun t ht hW => ⟨_, rfl, trivial, ht⟩) (fun q hq => absurd hq List.not_mem_nil) dL_cell_18
  · have hk2 : k < L := by
      have : ¬ nI L ≤ nI k := hg
      rw [nI_leI (by omega) (by omega)] at this
      omega
    refine lv_aload_n hx hb dL_cell_6 rfl (lv_at hl 0 rfl) ?_
    refine lv_iload_n hx hb dL_cell_7 rfl (lv_at hl 1 rfl) ?_
    refine va_sld hx hb hX hbl (fun z => z) hS (i := nI k) (vp_in_nI hk2 (by omega)) dL_cell_8 ?_
    refine lv_goto (tgt := 18) hx hb dL_cell_9 (by decide) ?_
    exact W.iret hx hb hr (fun t ht hW => ⟨_, rfl, trivial, ht⟩) (fun q hq => absurd hq List.not_mem_nil) dL_cell_18
/-- an act of the law: done to both, told alike -/
abbrev WA (l : Launch) (B0 : Nat) (g : va_G) (ct ad : Nat → Nat) (cS : St_) (mS : Pl_) (x : Ax_) (o : Nat) (v : Int32) : Prop := Met l yL_act wsL_act (rm_ 3 4 32) (PX B0 g ct ad cS mS x [.ref (ad 0), .ref o, .int v]) (va_Qi (fun r (u : St_ × Pl_ × Ax_) => r = 1 ∧ SI_ ct u.2.1 o u.1 ∧ IZ_ u.1) (fun u t => CW B0 g ct ad u.1 u.2.1 u.2.2 t.heap) (AA B0)) 4 32 (AA B0)
set_option maxHeartbeats 4000000 in
set_option maxRecDepth 100000 in
theorem c_L_act (l : Launch) (B0 : Nat) (g : va_G) (ct ad : Nat → Nat) (cS : St_) (mS : Pl_) (x : Ax_) (o : Nat) (hJ : SI_ ct mS o cS) (hZ : IZ_ cS) (v : Int32) : WA l B0 g ct ad cS mS x o v := by
  refine Met.ofW (cc := cL_act) (maxL := 10) (ret := (some .boolean)) (by decide) rfl ?_
  intro p e s m args below meth c s₁ B hml hv
  obtain ⟨rfl, hC⟩ := hv
  have hx := B.exec
  have hb := B.bytes
  have hr := B.returns
  have hts := atoms_spec (ws := wsL_act) B.pre
  have hown : s.vm.findClass RL = some m.cls := findClass_of_methodNamed B.named
  have hlocks := B.notSynchronized
  have hin : ∀ w ∈ wsX00, w ∈ wsL_act := fun _ h => List.mem_cons_of_mem _ (List.mem_append_left _ (List.mem_append_left _ (List.mem_append_left _ (List.mem_append_right _ h))))
  have hin1 : ∀ w ∈ wsX10, w ∈ wsL_act := fun _ h => List.mem_cons_of_mem _ (List.mem_append_left _ (List.mem_append_left _ (List.mem_append_left _ (List.mem_append_left _ (List.mem_append_right _ h)))))
  have hS : va_S (AA B0) s.heap s.heap [] := va_S.rf
  have hB : B0 ≤ s.heap.size := hC.1.2.2.1
  have hI := hC.1.2.2.2
  have hCA := CA_of hC.2.1
  obtain ⟨lo, mo, la, wa, ba, hJ0⟩ := id hJ
  have hE := Ex_r mS
  have h12 := hI.2.1
  have h10 := hI.2.2.1
  have ho9 := hI.1
  have hb3 : bl_ (v >>> (nI 3 &&& 31)) 2 < 2 := bl_lt _ (by omega)
  have hl := lv_entry ([.ref (ad 0), .ref o, .int v]) (n := 10) (Nat.le_of_ble_eq_true rfl)
  rw [lg_entry_eq]
  generalize (lg_sl ([.ref (ad 0), .ref o, .int v]) ++ List.replicate (10 - (lg_sl ([.ref (ad 0), .ref o, .int v])).length) Slot.unset).toArray = ls at hl ⊢
  have hl : lv_has ls 10 [(0, .ref (ad 0)), (1, .ref o), (2, .int v)] := hl
  refine lv_aload_n hx hb dL_act_0 rfl (lv_at hl 1 rfl) ?_
  refine q_f hC hx hb hts hin1 hown (hJ0.1.ex hE) 1 (by decide) (hts (.fieldLink RL 15 "AbjadPoemsLaw$Sim" "lines" "[[I") (by decide +kernel)) (v := .ref lo) rfl dL_act_1 ?_
  refine q_ol hC hx hb (hJ0.2.1.ex hE) (ty := .array .int) rfl dL_act_4 ?_
  refine lv_istore_n (lv' := [(3, .int (nI (sn cS))), (0, .ref (ad 0)), (1, .ref o), (2, .int v)]) hx hb dL_act_5 rfl hl (by decide) rfl (fun ls hl => ?_)
  refine lv_iload_n hx hb dL_act_6 rfl (lv_at hl 0 rfl) ?_
  refine lv_if_ne (tgt := 14) hx hb dL_act_7 (by decide) (fun c_7 => ?_) (fun c_7 => ?_)
  · skip
    have n_7 : ¬ sn cS = 0 := fun q__ => c_7 ((eq0_ (by omega)).mpr q__)
    refine lv_iload_n hx hb dL_act_14 rfl (lv_at hl 3 rfl) ?_
    refine lv_iload_n hx hb dL_act_15 rfl (lv_at hl 0 rfl) ?_
    refine k_pS (As := [.int v, .int (nI (sn cS))]) (rest := []) (c_L_below l v (sn cS) (by omega) (by omega)) ⟨hx, hb, hml, hown, hts⟩ (va_cwS 2 hts gL_act_L_below rfl rfl rfl (by decide +kernel) ⟨Nat.le_of_ble_eq_true rfl, Nat.le_of_ble_eq_true rfl⟩) rfl hl.1 rfl (Nat.le_of_ble_eq_true rfl) dL_act_16 ⟨(by show _ ≤ 4; omega), (by show _ ≤ 32; omega)⟩ ?_
    obtain ⟨li, h_li⟩ : ∃ li, li = bl_ v (sn cS) := ⟨_, rfl⟩
    have b_li : li < sn cS := by rw [h_li]; exact bl_lt _ (by omega)
    have hzl := h10 li
    have hwc := hI.2.2.2.1 (10 * li + (ss cS li - 1))
    refine lv_tn (w := nI li) (congrArg nI h_li.symm) ?_
    refine lv_istore (lv' := [(4, .int (nI li)), (3, .int (nI (sn cS))), (0, .ref (ad 0)), (1, .ref o), (2, .int v)]) hx hb dL_act_19 hl (by decide) rfl (fun ls hl => ?_)
    refine lv_iload_n hx hb dL_act_21 rfl (lv_at hl 1 rfl) ?_
    refine lv_if_ne (tgt := 29) hx hb dL_act_22 (by decide) (fun c_22 => ?_) (fun c_22 => ?_)
    · skip
      have n_22 : ¬ sn cS = 0 := fun q__ => c_22 ((eq0_ (by omega)).mpr q__)
      refine lv_aload_n hx hb dL_act_29 rfl (lv_at hl 3 rfl) ?_
      refine q_f hC hx hb hts hin1 hown (hJ0.1.ex hE) 1 (by decide) (hts (.fieldLink RL 15 "AbjadPoemsLaw$Sim" "lines" "[[I") (by decide +kernel)) (v := .ref lo) rfl dL_act_30 ?_
      refine lv_iload hx hb dL_act_33 (lv_at hl 0 rfl) ?_
      refine q_o hC hx hb (hJ0.2.1.ex hE) (ty := .array .int) rfl rfl dL_act_35 (j := li) (by omega) (by omega) (v := la li) rfl ?_
      refine q_il hC hx hb ((hJ0.2.2.2.1 li (by omega)).ex hE) dL_act_36 ?_
      refine lv_istore (lv' := [(5, .int (nI (ss cS li))), (4, .int (nI li)), (3, .int (nI (sn cS))), (0, .ref (ad 0)), (1, .ref o), (2, .int v)]) hx hb dL_act_37 hl (by decide) rfl (fun ls hl => ?_)
      refine lv_iload_n hx hb dL_act_39 rfl (lv_at hl 2 rfl) ?_
      refine lv_if_ne (tgt := 47) hx hb dL_act_40 (by decide) (fun c_40 => ?_) (fun c_40 => ?_)
      · skip
        have n_40 : ¬ sn cS = 0 := fun q__ => c_40 ((eq0_ (by omega)).mpr q__)
        refine lv_iload_n hx hb dL_act_47 rfl (lv_at hl 5 rfl) ?_
        refine lv_bipush (v := nI 9) hx hb dL_act_48 (by decide) ?_
        refine lv_ishr hx hb dL_act_50 ?_
        refine lv_bipush (v := nI 14) hx hb dL_act_51 (by decide) ?_
        refine k_pS (As := [.int (v >>> (nI 9 &&& 31)), .int (nI 14)]) (rest := []) (c_L_below l (v >>> (nI 9 &&& 31)) 14 (by omega) (by omega)) ⟨hx, hb, hml, hown, hts⟩ (va_cwS 2 hts gL_act_L_below rfl rfl rfl (by decide +kernel) ⟨Nat.le_of_ble_eq_true rfl, Nat.le_of_ble_eq_true rfl⟩) rfl hl.1 rfl (Nat.le_of_ble_eq_true rfl) dL_act_53 ⟨(by show _ ≤ 4; omega), (by show _ ≤ 32; omega)⟩ ?_
        have hsw := bl_lt (v >>> (nI 9 &&& 31)) (show 0 < 14 by omega)
        obtain ⟨jw, hjw⟩ : ∃ jw, jw = bl_ (v >>> (nI 9 &&& 31)) 14 := ⟨_, rfl⟩
        rw [← hjw]
        rw [← hjw] at hsw
        rcases (show jw = 0 ∨ jw = 1 ∨ jw = 2 ∨ jw = 3 ∨ jw = 4 ∨ jw = 5 ∨ jw = 6 ∨ 7 ≤ jw by omega) with rfl | rfl | rfl | rfl | rfl | rfl | rfl | h7
        · skip
          refine lv_tableIn (x := nI 0) (off := 44) (tgt := 100) hx hb dL_act_56 (by decide) (by decide) rfl (by decide) ?_
          refine lv_iload_n hx hb dL_act_100 rfl (lv_at hl 2 rfl) ?_
          refine lv_bipush (v := nI 12) hx hb dL_act_101 (by decide) ?_
          refine lv_icmp_ne (tgt := 108) hx hb dL_act_103 (by decide) (fun c_103 => ?_) (fun c_103 => ?_)
          · skip
            have n_103 : ¬ sn cS = 12 := fun q__ => c_103 ((nI_eq (a := sn cS) (b := 12) (by omega) (by omega)).mpr q__)
            refine lv_aload_n hx hb dL_act_108 rfl (lv_at hl 4 rfl) ?_
            refine k_nV (As := []) (rest := []) (c_X1_write l B0 g ct ad cS mS x o cS hI ⟨lo, mo, la, wa, ba, hJ0.ex hE⟩ (hZ.1 _ (Nat.le_refl _))) hC hS ⟨hx, hb, hml, hown, hts⟩ (cwV 0 hts gL_act_X1_write rfl rfl rfl (by decide +kernel) ⟨Nat.le_of_ble_eq_true rfl, Nat.le_of_ble_eq_true rfl⟩) (rc1 hC (hJ0.1.ex hE)) rfl hl.1 rfl (Nat.le_of_ble_eq_true rfl) dL_act_109 ⟨(by show _ ≤ 4; omega), (by show _ ≤ 32; omega)⟩ (fun m_109 x_109 H locs hr_109 hC hS => ?_)
            refine lv_aload_n hx hb dL_act_112 rfl (lv_at hl 3 rfl) ?_
            refine k_wV (As := []) (rest := []) (c_X0_write l B0 g ct ad cS m_109 x_109 (by omega)) hC hB hS ⟨hx, hb, hml, hown, hts⟩ (cwV 0 hts gL_act_X0_write rfl rfl rfl (by decide +kernel) ⟨Nat.le_of_ble_eq_true rfl, Nat.le_of_ble_eq_true rfl⟩) (rc0 hC) rfl hl.1 rfl (Nat.le_of_ble_eq_true rfl) dL_act_113 ⟨(by show _ ≤ 4; omega), (by show _ ≤ 32; omega)⟩ (fun u_113 H locs hu_113 hC hS => ?_)
            refine lv_iload_n hx hb dL_act_116 rfl (lv_at hl 2 rfl) ?_
            refine lv_icmp_ne (tgt := 124) hx hb dL_act_117 (by decide) (fun c_117 => ?_) (fun c_117 => ?_)
            · skip
              have n_117 : ¬ sn cS = sn cS := fun q__ => c_117 ((nI_eq (a := sn cS) (b := sn cS) (by omega) (by omega)).mpr q__)
              exact absurd rfl n_117
            · skip
              have n_117 : sn cS = sn cS := (nI_eq (a := sn cS) (b := sn cS) (by omega) (by omega)).mp c_117
              refine lv_iconst (v := nI 1) hx hb dL_act_120 (by decide) ?_
              refine lv_goto (tgt := 125) hx hb dL_act_121 (by decide) ?_
              refine W.widen (k := 4) (n := 32) (by omega) (by omega) ?_
              exact W.zret hx hb hr rfl (fun t ht hW => ⟨⟨_, ((st_write cS), m_109, u_113), rfl, ⟨rfl, ⟨hr_109, hZ.write⟩⟩, (by show CW B0 g ct ad (st_write cS) m_109 u_113 t.heap; rw [ht]; exact hC.1)⟩, hS.F ht⟩) hS.2.2 dL_act_125
          · skip
            have n_103 : sn cS = 12 := (nI_eq (a := sn cS) (b := 12) (by omega) (by omega)).mp c_103
            refine lv_iconst (v := nI 1) hx hb dL_act_106 (by decide) ?_
            refine W.widen (k := 4) (n := 32) (by omega) (by omega) ?_
            exact W.zret hx hb hr rfl (fun t ht hW => ⟨⟨_, (cS, mS, x), rfl, ⟨rfl, ⟨hJ, hZ⟩⟩, (by show CW B0 g ct ad cS mS x t.heap; rw [ht]; exact hC.1)⟩, hS.F ht⟩) hS.2.2 dL_act_107
        · skip
          refine lv_tableIn (x := nI 1) (off := 70) (tgt := 126) hx hb dL_act_56 (by decide) (by decide) rfl (by decide) ?_
          refine lv_aload_n hx hb dL_act_126 rfl (lv_at hl 4 rfl) ?_
          refine q_f hC hx hb hts hin1 hown (hJ0.1.ex hE) 0 (by decide) (hts (.fieldLink RL 29 "AbjadPoemsLaw$Sim" "order" "I") (by decide +kernel)) (v := .int (nI (so cS))) rfl dL_act_127 ?_
          refine lv_istore (lv' := [(6, .int (nI (so cS))), (5, .int (nI (ss cS li))), (4, .int (nI li)), (3, .int (nI (sn cS))), (0, .ref (ad 0)), (1, .ref o), (2, .int v)]) hx hb dL_act_130 hl (by decide) rfl (fun ls hl => ?_)
          refine lv_aload_n hx hb dL_act_132 rfl (lv_at hl 5 rfl) ?_
          refine lv_iload_n hx hb dL_act_133 rfl (lv_at hl 6 rfl) ?_
          refine lv_iconst (v := nI 2) hx hb dL_act_134 (by decide) ?_
          refine lv_ishr hx hb dL_act_135 ?_
          refine lv_iconst (v := nI 3) hx hb dL_act_136 (by decide) ?_
          refine k_pS (As := [.int (v >>> (nI 2 &&& 31)), .int (nI 3)]) (rest := [.ref o]) (c_L_below l (v >>> (nI 2 &&& 31)) 3 (by omega) (by omega)) ⟨hx, hb, hml, hown, hts⟩ (va_cwS 2 hts gL_act_L_below rfl rfl rfl (by decide +kernel) ⟨Nat.le_of_ble_eq_true rfl, Nat.le_of_ble_eq_true rfl⟩) rfl hl.1 rfl (Nat.le_of_ble_eq_true rfl) dL_act_137 ⟨(by show _ ≤ 4; omega), (by show _ ≤ 32; omega)⟩ ?_
          obtain ⟨kv, h_kv⟩ : ∃ kv, kv = bl_ (v >>> (nI 2 &&& 31)) 3 := ⟨_, rfl⟩
          have b_kv : kv < 3 := by rw [h_kv]; exact bl_lt _ (by omega)
          refine lv_tn (w := nI kv) (congrArg nI h_kv.symm) ?_
          refine u_f hC hB hS hx hb hts hin1 hown (hJ0.1.ex hE) (o' := nI kv) (lo' := some lo) (mo' := some mo) 0 (by decide) (hts (.fieldLink RL 29 "AbjadPoemsLaw$Sim" "order" "I") (by decide +kernel)) (v := .int (nI kv)) (ty := .int) (by decide +kernel) rfl rfl rfl dL_act_140 (fun m_140 H locs pu_140 O_140 hC hS => ?_)
          refine lv_aload_n hx hb dL_act_143 rfl (lv_at hl 4 rfl) ?_
          refine lv_aload_n hx hb dL_act_144 rfl (lv_at hl 5 rfl) ?_
          refine q_f hC hx hb hts hin1 hown O_140 0 (by decide) (hts (.fieldLink RL 29 "AbjadPoemsLaw$Sim" "order" "I") (by decide +kernel)) (v := .int (nI kv)) rfl dL_act_145 ?_
          refine k_wV (As := [.int (nI kv)]) (rest := []) (c_X0_count l B0 g ct ad cS m_140 x kv (by omega)) hC hB hS ⟨hx, hb, hml, hown, hts⟩ (cwV 1 hts gL_act_X0_count rfl rfl rfl (by decide +kernel) ⟨Nat.le_of_ble_eq_true rfl, Nat.le_of_ble_eq_true rfl⟩) (rc0 hC) rfl hl.1 rfl (Nat.le_of_ble_eq_true rfl) dL_act_148 ⟨(by show _ ≤ 4; omega), (by show _ ≤ 32; omega)⟩ (fun u_148 H locs hu_148 hC hS => ?_)
          refine lv_iload hx hb dL_act_151 (lv_at hl 0 rfl) ?_
          refine lv_icmp_ne (tgt := 160) hx hb dL_act_153 (by decide) (fun c_153 => ?_) (fun c_153 => ?_)
          · skip
            have n_153 : ¬ so cS = so cS := fun q__ => c_153 ((nI_eq (a := so cS) (b := so cS) (by omega) (by omega)).mpr q__)
            exact absurd rfl n_153
          · skip
            have n_153 : so cS = so cS := (nI_eq (a := so cS) (b := so cS) (by omega) (by omega)).mp c_153
            refine lv_iconst (v := nI 1) hx hb dL_act_156 (by decide) ?_
            refine lv_goto (tgt := 161) hx hb dL_act_157 (by decide) ?_
            refine W.widen (k := 4) (n := 32) (by omega) (by omega) ?_
            exact W.zret hx hb hr rfl (fun t ht hW => ⟨⟨_, ((st_count cS kv), m_140, u_148), rfl, ⟨rfl, ⟨hJ0.count pu_140 O_140, hZ.count kv⟩⟩, (by show CW B0 g ct ad (st_count cS kv) m_140 u_148 t.heap; rw [ht]; exact hC.1)⟩, hS.F ht⟩) hS.2.2 dL_act_161
        · skip
          refine lv_tableIn (x := nI 2) (off := 106) (tgt := 162) hx hb dL_act_56 (by decide) (by decide) rfl (by decide) ?_
          refine lv_iload hx hb dL_act_162 (lv_at hl 0 rfl) ?_
          refine lv_if_eq (tgt := 192) hx hb dL_act_164 (by decide) (fun c_164 => ?_) (fun c_164 => ?_)
          · skip
            have n_164 : ss cS li = 0 := (eq0_ (by omega)).mp c_164
            refine lv_iconst (v := nI 1) hx hb dL_act_192 (by decide) ?_
            refine lv_goto (tgt := 197) hx hb dL_act_193 (by decide) ?_
            refine W.widen (k := 4) (n := 32) (by omega) (by omega) ?_
            exact W.zret hx hb hr rfl (fun t ht hW => ⟨⟨_, (cS, mS, x), rfl, ⟨rfl, ⟨hJ, hZ⟩⟩, (by show CW B0 g ct ad cS mS x t.heap; rw [ht]; exact hC.1)⟩, hS.F ht⟩) hS.2.2 dL_act_197
          · skip
            have n_164 : ¬ ss cS li = 0 := fun q__ => c_164 ((eq0_ (by omega)).mpr q__)
            refine lv_iload_n hx hb dL_act_167 rfl (lv_at hl 5 rfl) ?_
            refine lv_iconst (v := nI 3) hx hb dL_act_168 (by decide) ?_
            refine lv_ishr hx hb dL_act_169 ?_
            refine lv_iconst (v := nI 2) hx hb dL_act_170 (by decide) ?_
            refine k_pS (As := [.int (v >>> (nI 3 &&& 31)), .int (nI 2)]) (rest := []) (c_L_below l (v >>> (nI 3 &&& 31)) 2 (by omega) (by omega)) ⟨hx, hb, hml, hown, hts⟩ (va_cwS 2 hts gL_act_L_below rfl rfl rfl (by decide +kernel) ⟨Nat.le_of_ble_eq_true rfl, Nat.le_of_ble_eq_true rfl⟩) rfl hl.1 rfl (Nat.le_of_ble_eq_true rfl) dL_act_171 ⟨(by show _ ≤ 4; omega), (by show _ ≤ 32; omega)⟩ ?_
            refine lv_if_eq (tgt := 192) hx hb dL_act_174 (by decide) (fun c_174 => ?_) (fun c_174 => ?_)
            · skip
              have n_174 : bl_ (v >>> (nI 3 &&& 31)) 2 = 0 := (eq0_ (by omega)).mp c_174
              refine lv_iconst (v := nI 1) hx hb dL_act_192 (by decide) ?_
              refine lv_goto (tgt := 197) hx hb dL_act_193 (by decide) ?_
              refine W.widen (k := 4) (n := 32) (by omega) (by omega) ?_
              exact W.zret hx hb hr rfl (fun t ht hW => ⟨⟨_, (cS, mS, x), rfl, ⟨rfl, ⟨hJ, hZ⟩⟩, (by show CW B0 g ct ad cS mS x t.heap; rw [ht]; exact hC.1)⟩, hS.F ht⟩) hS.2.2 dL_act_197
            · skip
              have n_174 : ¬ bl_ (v >>> (nI 3 &&& 31)) 2 = 0 := fun q__ => c_174 ((eq0_ (by omega)).mpr q__)
              refine lv_aload_n hx hb dL_act_177 rfl (lv_at hl 3 rfl) ?_
              refine lv_iload hx hb dL_act_178 (lv_at hl 1 rfl) ?_
              refine k_wV (As := [.int (nI li)]) (rest := []) (c_X0_cut l B0 g ct ad cS mS x li (by omega) (by omega)) hC hB hS ⟨hx, hb, hml, hown, hts⟩ (cwV 1 hts gL_act_X0_cut rfl rfl rfl (by decide +kernel) ⟨Nat.le_of_ble_eq_true rfl, Nat.le_of_ble_eq_true rfl⟩) (rc0 hC) rfl hl.1 rfl (Nat.le_of_ble_eq_true rfl) dL_act_180 ⟨(by show _ ≤ 4; omega), (by show _ ≤ 32; omega)⟩ (fun u_180 H locs hu_180 hC hS => ?_)
              have hK9 : CA_ ct := hCA
              refine lv_aload_n hx hb dL_act_183 rfl (lv_at hl 4 rfl) ?_
              refine lv_iload hx hb dL_act_184 (lv_at hl 1 rfl) ?_
              refine k_qV (As := [.int (nI li)]) (rest := [.int (nI (sw cS (10 * li + (ss cS li - 1))))]) (c_X1_cut l B0 g ct ad (st_cut cS li) mS u_180 o cS hI ⟨lo, mo, la, wa, ba, hJ0.ex hE⟩ li (by omega) (by omega)) hC hS ⟨hx, hb, hml, hown, hts⟩ (cwV 1 hts gL_act_X1_cut rfl rfl rfl (by decide +kernel) ⟨Nat.le_of_ble_eq_true rfl, Nat.le_of_ble_eq_true rfl⟩) (rc1 hC (hJ0.1.ex hE)) rfl hl.1 rfl (Nat.le_of_ble_eq_true rfl) dL_act_186 ⟨(by show _ ≤ 4; omega), (by show _ ≤ 32; omega)⟩ (fun m_186 x_186 H locs hr_186 hC hS => ?_)
              refine lv_icmp_ne (tgt := 196) hx hb dL_act_189 (by decide) (fun c_189 => ?_) (fun c_189 => ?_)
              · skip
                have n_189 : ¬ sw cS (10 * li + (ss cS li - 1)) = sw cS (10 * li + (ss cS li - 1)) := fun q__ => c_189 ((nI_eq (a := sw cS (10 * li + (ss cS li - 1))) (b := sw cS (10 * li + (ss cS li - 1))) (by omega) (by omega)).mpr q__)
                exact absurd rfl n_189
              · skip
                have n_189 : sw cS (10 * li + (ss cS li - 1)) = sw cS (10 * li + (ss cS li - 1)) := (nI_eq (a := sw cS (10 * li + (ss cS li - 1))) (b := sw cS (10 * li + (ss cS li - 1))) (by omega) (by omega)).mp c_189
                have hpmc := hr_186
                refine lv_iconst (v := nI 1) hx hb dL_act_192 (by decide) ?_
                refine lv_goto (tgt := 197) hx hb dL_act_193 (by decide) ?_
                refine W.widen (k := 4) (n := 32) (by omega) (by omega) ?_
                exact W.zret hx hb hr rfl (fun t ht hW => ⟨⟨_, ((st_cut cS li), m_186, x_186), rfl, ⟨rfl, ⟨hpmc, hZ.cut li⟩⟩, (by show CW B0 g ct ad (st_cut cS li) m_186 x_186 t.heap; rw [ht]; exact hC.1)⟩, hS.F ht⟩) hS.2.2 dL_act_197
        · skip
          refine lv_tableIn (x := nI 3) (off := 142) (tgt := 198) hx hb dL_act_56 (by decide) (by decide) rfl (by decide) ?_
          refine lv_iload hx hb dL_act_198 (lv_at hl 0 rfl) ?_
          refine lv_if_ne (tgt := 205) hx hb dL_act_200 (by decide) (fun c_200 => ?_) (fun c_200 => ?_)
          · skip
            have n_200 : ¬ ss cS li = 0 := fun q__ => c_200 ((eq0_ (by omega)).mpr q__)
            refine lv_iload_n hx hb dL_act_205 rfl (lv_at hl 5 rfl) ?_
            refine lv_iconst (v := nI 2) hx hb dL_act_206 (by decide) ?_
            refine lv_ishr hx hb dL_act_207 ?_
            refine lv_iload hx hb dL_act_208 (lv_at hl 0 rfl) ?_
            refine k_pS (As := [.int (v >>> (nI 2 &&& 31)), .int (nI (ss cS li))]) (rest := []) (c_L_below l (v >>> (nI 2 &&& 31)) (ss cS li) (by omega) (by omega)) ⟨hx, hb, hml, hown, hts⟩ (va_cwS 2 hts gL_act_L_below rfl rfl rfl (by decide +kernel) ⟨Nat.le_of_ble_eq_true rfl, Nat.le_of_ble_eq_true rfl⟩) rfl hl.1 rfl (Nat.le_of_ble_eq_true rfl) dL_act_210 ⟨(by show _ ≤ 4; omega), (by show _ ≤ 32; omega)⟩ ?_
            obtain ⟨wi, h_wi⟩ : ∃ wi, wi = bl_ (v >>> (nI 2 &&& 31)) (ss cS li) := ⟨_, rfl⟩
            have b_wi : wi < ss cS li := by rw [h_wi]; exact bl_lt _ (by omega)
            have hw6 := hI.2.2.2.1 (10 * li + wi)
            have hl6 := ln_le hw6
            have hl1 : 0 < ln_ (sw cS (10 * li + wi)) := by
              have hiw := hZ.2 li wi (by omega) (by omega)
              simp only [iw_, Bool.and_eq_true, decide_eq_true_eq] at hiw
              rw [ln_s hiw.1.1 hw6]; omega
            have hk6 := hI.2.2.2.2.1 (10 * li + wi)
            refine lv_tn (w := nI wi) (congrArg nI h_wi.symm) ?_
            refine lv_istore (lv' := [(7, .int (nI wi)), (5, .int (nI (ss cS li))), (4, .int (nI li)), (3, .int (nI (sn cS))), (0, .ref (ad 0)), (1, .ref o), (2, .int v)]) hx hb dL_act_213 hl (by decide) rfl (fun ls hl => ?_)
            refine lv_aload_n hx hb dL_act_215 rfl (lv_at hl 5 rfl) ?_
            refine q_f hC hx hb hts hin1 hown (hJ0.1.ex hE) 2 (by decide) (hts (.fieldLink RL 41 "AbjadPoemsLaw$Sim" "marks" "[[[Z") (by decide +kernel)) (v := .ref mo) rfl dL_act_216 ?_
            refine lv_iload hx hb dL_act_219 (lv_at hl 2 rfl) ?_
            refine q_o hC hx hb (hJ0.2.2.1.ex hE) (ty := .array (.array .boolean)) rfl rfl dL_act_221 (j := li) (by omega) (by omega) (v := wa li) rfl ?_
            refine lv_iload hx hb dL_act_222 (lv_at hl 0 rfl) ?_
            refine q_o hC hx hb ((hJ0.2.2.2.2.1 li (by omega)).ex hE) (ty := .array .boolean) rfl rfl dL_act_224 (j := wi) (by omega) (by omega) (v := ba li wi) rfl ?_
            refine lv_astore (lv' := [(8, .ref (ba li wi)), (7, .int (nI wi)), (5, .int (nI (ss cS li))), (4, .int (nI li)), (3, .int (nI (sn cS))), (0, .ref (ad 0)), (1, .ref o), (2, .int v)]) hx hb dL_act_225 hl (by decide) rfl (fun ls hl => ?_)
            refine lv_iload_n hx hb dL_act_227 rfl (lv_at hl 7 rfl) ?_
            refine lv_iconst (v := nI 4) hx hb dL_act_228 (by decide) ?_
            refine lv_ishr hx hb dL_act_229 ?_
            refine lv_aload hx hb dL_act_230 (lv_at hl 0 rfl) ?_
            refine q_zl hC hx hb ((hJ0.2.2.2.2.2.1 li wi (by omega) (by omega)).ex hE) dL_act_232 ?_
            refine k_pS (As := [.int (v >>> (nI 4 &&& 31)), .int (nI (ln_ (sw cS (10 * li + wi))))]) (rest := []) (c_L_below l (v >>> (nI 4 &&& 31)) (ln_ (sw cS (10 * li + wi))) (by omega) (by omega)) ⟨hx, hb, hml, hown, hts⟩ (va_cwS 2 hts gL_act_L_below rfl rfl rfl (by decide +kernel) ⟨Nat.le_of_ble_eq_true rfl, Nat.le_of_ble_eq_true rfl⟩) rfl hl.1 rfl (Nat.le_of_ble_eq_true rfl) dL_act_233 ⟨(by show _ ≤ 4; omega), (by show _ ≤ 32; omega)⟩ ?_
            obtain ⟨kp, h_kp⟩ : ∃ kp, kp = bl_ (v >>> (nI 4 &&& 31)) (ln_ (sw cS (10 * li + wi))) := ⟨_, rfl⟩
            have b_kp : kp < ln_ (sw cS (10 * li + wi)) := by rw [h_kp]; exact bl_lt _ (by omega)
            refine lv_tn (w := nI kp) (congrArg nI h_kp.symm) ?_
            refine lv_istore (lv' := [(9, .int (nI kp)), (8, .ref (ba li wi)), (7, .int (nI wi)), (5, .int (nI (ss cS li))), (4, .int (nI li)), (3, .int (nI (sn cS))), (0, .ref (ad 0)), (1, .ref o), (2, .int v)]) hx hb dL_act_236 hl (by decide) rfl (fun ls hl => ?_)
            refine lv_aload hx hb dL_act_238 (lv_at hl 1 rfl) ?_
            refine lv_iload hx hb dL_act_240 (lv_at hl 0 rfl) ?_
            refine lv_aload hx hb dL_act_242 (lv_at hl 1 rfl) ?_
            refine lv_iload hx hb dL_act_244 (lv_at hl 0 rfl) ?_
            refine q_z hC hx hb ((hJ0.2.2.2.2.2.1 li wi (by omega) (by omega)).ex hE) dL_act_246 (j := kp) (by omega) (by omega) ?_
            refine lv_tn (w := b2_ ((sk cS (10 * li + wi)).testBit kp)) rfl ?_
            refine lv_if_ne (tgt := 254) hx hb dL_act_247 (by decide) (fun c_247 => ?_) (fun c_247 => ?_)
            · skip
              have hbt : (sk cS (10 * li + wi)).testBit kp = true := b2_ne c_247
              have hv9 : nI 0 = b2_ (!(sk cS (10 * li + wi)).testBit kp) := by rw [hbt]; rfl
              refine lv_iconst (v := nI 0) hx hb dL_act_254 (by decide) ?_
              refine u_z hC hB hS hx hb ((hJ0.2.2.2.2.2.1 li wi (by omega) (by omega)).ex hE) dL_act_255 (j := kp) (v := nI 0) (by omega) (by omega) rfl (fun m_255 H locs pu_255 B_255 hC hS => ?_)
              refine lv_aload_n hx hb dL_act_256 rfl (lv_at hl 6 rfl) ?_
              refine lv_iload hx hb dL_act_257 (lv_at hl 4 rfl) ?_
              refine lv_iload hx hb dL_act_259 (lv_at hl 2 rfl) ?_
              refine lv_iload hx hb dL_act_261 (lv_at hl 0 rfl) ?_
              refine k_wV (As := [.int (nI li), .int (nI wi), .int (nI kp)]) (rest := []) (c_X0_mark l B0 g ct ad cS m_255 x li wi kp (by omega) (by omega) (by omega)) hC hB hS ⟨hx, hb, hml, hown, hts⟩ (cwV 3 hts gL_act_X0_mark rfl rfl rfl (by decide +kernel) ⟨Nat.le_of_ble_eq_true rfl, Nat.le_of_ble_eq_true rfl⟩) (rc0 hC) rfl hl.1 rfl (Nat.le_of_ble_eq_true rfl) dL_act_263 ⟨(by show _ ≤ 4; omega), (by show _ ≤ 32; omega)⟩ (fun u_263 H locs hu_263 hC hS => ?_)
              refine lv_aload hx hb dL_act_266 (lv_at hl 1 rfl) ?_
              refine lv_iload hx hb dL_act_268 (lv_at hl 0 rfl) ?_
              refine q_z hC hx hb B_255 dL_act_270 (j := kp) (by omega) (by omega) ?_
              refine lv_tn (w := nI 0) pk_us ?_
              refine lv_icmp_ne (tgt := 278) hx hb dL_act_271 (by decide) (fun c_271 => ?_) (fun c_271 => ?_)
              · skip
                refine absurd ?_ c_271
                rw [xb_ _ hk6 kp (by omega) kp (by omega), if_pos rfl]
                exact hv9.symm
              · skip
                refine lv_iconst (v := nI 1) hx hb dL_act_274 (by decide) ?_
                refine lv_goto (tgt := 279) hx hb dL_act_275 (by decide) ?_
                refine W.widen (k := 4) (n := 32) (by omega) (by omega) ?_
                exact W.zret hx hb hr rfl (fun t ht hW => ⟨⟨_, ((st_mark cS (10 * li + wi) kp), m_255, u_263), rfl, ⟨rfl, ⟨hJ0.mark hCA (by omega) (by omega) h10 hw6 hk6 (by omega) pu_255 hv9 B_255, hZ.mark _ _⟩⟩, (by show CW B0 g ct ad (st_mark cS (10 * li + wi) kp) m_255 u_263 t.heap; rw [ht]; exact hC.1)⟩, hS.F ht⟩) hS.2.2 dL_act_279
            · skip
              have hbt : (sk cS (10 * li + wi)).testBit kp = false := b2_0.mp c_247
              have hv9 : nI 1 = b2_ (!(sk cS (10 * li + wi)).testBit kp) := by rw [hbt]; rfl
              refine lv_iconst (v := nI 1) hx hb dL_act_250 (by decide) ?_
              refine lv_goto (tgt := 255) hx hb dL_act_251 (by decide) ?_
              refine u_z hC hB hS hx hb ((hJ0.2.2.2.2.2.1 li wi (by omega) (by omega)).ex hE) dL_act_255 (j := kp) (v := nI 1) (by omega) (by omega) rfl (fun m_255 H locs pu_255 B_255 hC hS => ?_)
              refine lv_aload_n hx hb dL_act_256 rfl (lv_at hl 6 rfl) ?_
              refine lv_iload hx hb dL_act_257 (lv_at hl 4 rfl) ?_
              refine lv_iload hx hb dL_act_259 (lv_at hl 2 rfl) ?_
              refine lv_iload hx hb dL_act_261 (lv_at hl 0 rfl) ?_
              refine k_wV (As := [.int (nI li), .int (nI wi), .int (nI kp)]) (rest := []) (c_X0_mark l B0 g ct ad cS m_255 x li wi kp (by omega) (by omega) (by omega)) hC hB hS ⟨hx, hb, hml, hown, hts⟩ (cwV 3 hts gL_act_X0_mark rfl rfl rfl (by decide +kernel) ⟨Nat.le_of_ble_eq_true rfl, Nat.le_of_ble_eq_true rfl⟩) (rc0 hC) rfl hl.1 rfl (Nat.le_of_ble_eq_true rfl) dL_act_263 ⟨(by show _ ≤ 4; omega), (by show _ ≤ 32; omega)⟩ (fun u_263 H locs hu_263 hC hS => ?_)
              refine lv_aload hx hb dL_act_266 (lv_at hl 1 rfl) ?_
              refine lv_iload hx hb dL_act_268 (lv_at hl 0 rfl) ?_
              refine q_z hC hx hb B_255 dL_act_270 (j := kp) (by omega) (by omega) ?_
              refine lv_tn (w := nI 1) pk_us ?_
              refine lv_icmp_ne (tgt := 278) hx hb dL_act_271 (by decide) (fun c_271 => ?_) (fun c_271 => ?_)
              · skip
                refine absurd ?_ c_271
                rw [xb_ _ hk6 kp (by omega) kp (by omega), if_pos rfl]
                exact hv9.symm
              · skip
                refine lv_iconst (v := nI 1) hx hb dL_act_274 (by decide) ?_
                refine lv_goto (tgt := 279) hx hb dL_act_275 (by decide) ?_
                refine W.widen (k := 4) (n := 32) (by omega) (by omega) ?_
                exact W.zret hx hb hr rfl (fun t ht hW => ⟨⟨_, ((st_mark cS (10 * li + wi) kp), m_255, u_263), rfl, ⟨rfl, ⟨hJ0.mark hCA (by omega) (by omega) h10 hw6 hk6 (by omega) pu_255 hv9 B_255, hZ.mark _ _⟩⟩, (by show CW B0 g ct ad (st_mark cS (10 * li + wi) kp) m_255 u_263 t.heap; rw [ht]; exact hC.1)⟩, hS.F ht⟩) hS.2.2 dL_act_279
          · skip
            have n_200 : ss cS li = 0 := (eq0_ (by omega)).mp c_200
            refine lv_iconst (v := nI 1) hx hb dL_act_203 (by decide) ?_
            refine W.widen (k := 4) (n := 32) (by omega) (by omega) ?_
            exact W.zret hx hb hr rfl (fun t ht hW => ⟨⟨_, (cS, mS, x), rfl, ⟨rfl, ⟨hJ, hZ⟩⟩, (by show CW B0 g ct ad cS mS x t.heap; rw [ht]; exact hC.1)⟩, hS.F ht⟩) hS.2.2 dL_act_204
        · skip
          refine lv_tableIn (x := nI 4) (off := 142) (tgt := 198) hx hb dL_act_56 (by decide) (by decide) rfl (by decide) ?_
          refine lv_iload hx hb dL_act_198 (lv_at hl 0 rfl) ?_
          refine lv_if_ne (tgt := 205) hx hb dL_act_200 (by decide) (fun c_200 => ?_) (fun c_200 => ?_)
          · skip
            have n_200 : ¬ ss cS li = 0 := fun q__ => c_200 ((eq0_ (by omega)).mpr q__)
            refine lv_iload_n hx hb dL_act_205 rfl (lv_at hl 5 rfl) ?_
            refine lv_iconst (v := nI 2) hx hb dL_act_206 (by decide) ?_
            refine lv_ishr hx hb dL_act_207 ?_
            refine lv_iload hx hb dL_act_208 (lv_at hl 0 rfl) ?_
            refine k_pS (As := [.int (v >>> (nI 2 &&& 31)), .int (nI (ss cS li))]) (rest := []) (c_L_below l (v >>> (nI 2 &&& 31)) (ss cS li) (by omega) (by omega)) ⟨hx, hb, hml, hown, hts⟩ (va_cwS 2 hts gL_act_L_below rfl rfl rfl (by decide +kernel) ⟨Nat.le_of_ble_eq_true rfl, Nat.le_of_ble_eq_true rfl⟩) rfl hl.1 rfl (Nat.le_of_ble_eq_true rfl) dL_act_210 ⟨(by show _ ≤ 4; omega), (by show _ ≤ 32; omega)⟩ ?_
            obtain ⟨wi, h_wi⟩ : ∃ wi, wi = bl_ (v >>> (nI 2 &&& 31)) (ss cS li) := ⟨_, rfl⟩
            have b_wi : wi < ss cS li := by rw [h_wi]; exact bl_lt _ (by omega)
            have hw6 := hI.2.2.2.1 (10 * li + wi)
            have hl6 := ln_le hw6
            have hl1 : 0 < ln_ (sw cS (10 * li + wi)) := by
              have hiw := hZ.2 li wi (by omega) (by omega)
              simp only [iw_, Bool.and_eq_true, decide_eq_true_eq] at hiw
              rw [ln_s hiw.1.1 hw6]; omega
            have hk6 := hI.2.2.2.2.1 (10 * li + wi)
            refine lv_tn (w := nI wi) (congrArg nI h_wi.symm) ?_
            refine lv_istore (lv' := [(7, .int (nI wi)), (5, .int (nI (ss cS li))), (4, .int (nI li)), (3, .int (nI (sn cS))), (0, .ref (ad 0)), (1, .ref o), (2, .int v)]) hx hb dL_act_213 hl (by decide) rfl (fun ls hl => ?_)
            refine lv_aload_n hx hb dL_act_215 rfl (lv_at hl 5 rfl) ?_
            refine q_f hC hx hb hts hin1 hown (hJ0.1.ex hE) 2 (by decide) (hts (.fieldLink RL 41 "AbjadPoemsLaw$Sim" "marks" "[[[Z") (by decide +kernel)) (v := .ref mo) rfl dL_act_216 ?_
            refine lv_iload hx hb dL_act_219 (lv_at hl 2 rfl) ?_
            refine q_o hC hx hb (hJ0.2.2.1.ex hE) (ty := .array (.array .boolean)) rfl rfl dL_act_221 (j := li) (by omega) (by omega) (v := wa li) rfl ?_
            refine lv_iload hx hb dL_act_222 (lv_at hl 0 rfl) ?_
            refine q_o hC hx hb ((hJ0.2.2.2.2.1 li (by omega)).ex hE) (ty := .array .boolean) rfl rfl dL_act_224 (j := wi) (by omega) (by omega) (v := ba li wi) rfl ?_
            refine lv_astore (lv' := [(8, .ref (ba li wi)), (7, .int (nI wi)), (5, .int (nI (ss cS li))), (4, .int (nI li)), (3, .int (nI (sn cS))), (0, .ref (ad 0)), (1, .ref o), (2, .int v)]) hx hb dL_act_225 hl (by decide) rfl (fun ls hl => ?_)
            refine lv_iload_n hx hb dL_act_227 rfl (lv_at hl 7 rfl) ?_
            refine lv_iconst (v := nI 4) hx hb dL_act_228 (by decide) ?_
            refine lv_ishr hx hb dL_act_229 ?_
            refine lv_aload hx hb dL_act_230 (lv_at hl 0 rfl) ?_
            refine q_zl hC hx hb ((hJ0.2.2.2.2.2.1 li wi (by omega) (by omega)).ex hE) dL_act_232 ?_
            refine k_pS (As := [.int (v >>> (nI 4 &&& 31)), .int (nI (ln_ (sw cS (10 * li + wi))))]) (rest := []) (c_L_below l (v >>> (nI 4 &&& 31)) (ln_ (sw cS (10 * li + wi))) (by omega) (by omega)) ⟨hx, hb, hml, hown, hts⟩ (va_cwS 2 hts gL_act_L_below rfl rfl rfl (by decide +kernel) ⟨Nat.le_of_ble_eq_true rfl, Nat.le_of_ble_eq_true rfl⟩) rfl hl.1 rfl (Nat.le_of_ble_eq_true rfl) dL_act_233 ⟨(by show _ ≤ 4; omega), (by show _ ≤ 32; omega)⟩ ?_
            obtain ⟨kp, h_kp⟩ : ∃ kp, kp = bl_ (v >>> (nI 4 &&& 31)) (ln_ (sw cS (10 * li + wi))) := ⟨_, rfl⟩
            have b_kp : kp < ln_ (sw cS (10 * li + wi)) := by rw [h_kp]; exact bl_lt _ (by omega)
            refine lv_tn (w := nI kp) (congrArg nI h_kp.symm) ?_
            refine lv_istore (lv' := [(9, .int (nI kp)), (8, .ref (ba li wi)), (7, .int (nI wi)), (5, .int (nI (ss cS li))), (4, .int (nI li)), (3, .int (nI (sn cS))), (0, .ref (ad 0)), (1, .ref o), (2, .int v)]) hx hb dL_act_236 hl (by decide) rfl (fun ls hl => ?_)
            refine lv_aload hx hb dL_act_238 (lv_at hl 1 rfl) ?_
            refine lv_iload hx hb dL_act_240 (lv_at hl 0 rfl) ?_
            refine lv_aload hx hb dL_act_242 (lv_at hl 1 rfl) ?_
            refine lv_iload hx hb dL_act_244 (lv_at hl 0 rfl) ?_
            refine q_z hC hx hb ((hJ0.2.2.2.2.2.1 li wi (by omega) (by omega)).ex hE) dL_act_246 (j := kp) (by omega) (by omega) ?_
            refine lv_tn (w := b2_ ((sk cS (10 * li + wi)).testBit kp)) rfl ?_
            refine lv_if_ne (tgt := 254) hx hb dL_act_247 (by decide) (fun c_247 => ?_) (fun c_247 => ?_)
            · skip
              have hbt : (sk cS (10 * li + wi)).testBit kp = true := b2_ne c_247
              have hv9 : nI 0 = b2_ (!(sk cS (10 * li + wi)).testBit kp) := by rw [hbt]; rfl
              refine lv_iconst (v := nI 0) hx hb dL_act_254 (by decide) ?_
              refine u_z hC hB hS hx hb ((hJ0.2.2.2.2.2.1 li wi (by omega) (by omega)).ex hE) dL_act_255 (j := kp) (v := nI 0) (by omega) (by omega) rfl (fun m_255 H locs pu_255 B_255 hC hS => ?_)
              refine lv_aload_n hx hb dL_act_256 rfl (lv_at hl 6 rfl) ?_
              refine lv_iload hx hb dL_act_257 (lv_at hl 4 rfl) ?_
              refine lv_iload hx hb dL_act_259 (lv_at hl 2 rfl) ?_
              refine lv_iload hx hb dL_act_261 (lv_at hl 0 rfl) ?_
              refine k_wV (As := [.int (nI li), .int (nI wi), .int (nI kp)]) (rest := []) (c_X0_mark l B0 g ct ad cS m_255 x li wi kp (by omega) (by omega) (by omega)) hC hB hS ⟨hx, hb, hml, hown, hts⟩ (cwV 3 hts gL_act_X0_mark rfl rfl rfl (by decide +kernel) ⟨Nat.le_of_ble_eq_true rfl, Nat.le_of_ble_eq_true rfl⟩) (rc0 hC) rfl hl.1 rfl (Nat.le_of_ble_eq_true rfl) dL_act_263 ⟨(by show _ ≤ 4; omega), (by show _ ≤ 32; omega)⟩ (fun u_263 H locs hu_263 hC hS => ?_)
              refine lv_aload hx hb dL_act_266 (lv_at hl 1 rfl) ?_
              refine lv_iload hx hb dL_act_268 (lv_at hl 0 rfl) ?_
              refine q_z hC hx hb B_255 dL_act_270 (j := kp) (by omega) (by omega) ?_
              refine lv_tn (w := nI 0) pk_us ?_
              refine lv_icmp_ne (tgt := 278) hx hb dL_act_271 (by decide) (fun c_271 => ?_) (fun c_271 => ?_)
              · skip
                refine absurd ?_ c_271
                rw [xb_ _ hk6 kp (by omega) kp (by omega), if_pos rfl]
                exact hv9.symm
              · skip
                refine lv_iconst (v := nI 1) hx hb dL_act_274 (by decide) ?_
                refine lv_goto (tgt := 279) hx hb dL_act_275 (by decide) ?_
                refine W.widen (k := 4) (n := 32) (by omega) (by omega) ?_
                exact W.zret hx hb hr rfl (fun t ht hW => ⟨⟨_, ((st_mark cS (10 * li + wi) kp), m_255, u_263), rfl, ⟨rfl, ⟨hJ0.mark hCA (by omega) (by omega) h10 hw6 hk6 (by omega) pu_255 hv9 B_255, hZ.mark _ _⟩⟩, (by show CW B0 g ct ad (st_mark cS (10 * li + wi) kp) m_255 u_263 t.heap; rw [ht]; exact hC.1)⟩, hS.F ht⟩) hS.2.2 dL_act_279
            · skip
              have hbt : (sk cS (10 * li + wi)).testBit kp = false := b2_0.mp c_247
              have hv9 : nI 1 = b2_ (!(sk cS (10 * li + wi)).testBit kp) := by rw [hbt]; rfl
              refine lv_iconst (v := nI 1) hx hb dL_act_250 (by decide) ?_
              refine lv_goto (tgt := 255) hx hb dL_act_251 (by decide) ?_
              refine u_z hC hB hS hx hb ((hJ0.2.2.2.2.2.1 li wi (by omega) (by omega)).ex hE) dL_act_255 (j := kp) (v := nI 1) (by omega) (by omega) rfl (fun m_255 H locs pu_255 B_255 hC hS => ?_)
              refine lv_aload_n hx hb dL_act_256 rfl (lv_at hl 6 rfl) ?_
              refine lv_iload hx hb dL_act_257 (lv_at hl 4 rfl) ?_
              refine lv_iload hx hb dL_act_259 (lv_at hl 2 rfl) ?_
              refine lv_iload hx hb dL_act_261 (lv_at hl 0 rfl) ?_
              refine k_wV (As := [.int (nI li), .int (nI wi), .int (nI kp)]) (rest := []) (c_X0_mark l B0 g ct ad cS m_255 x li wi kp (by omega) (by omega) (by omega)) hC hB hS ⟨hx, hb, hml, hown, hts⟩ (cwV 3 hts gL_act_X0_mark rfl rfl rfl (by decide +kernel) ⟨Nat.le_of_ble_eq_true rfl, Nat.le_of_ble_eq_true rfl⟩) (rc0 hC) rfl hl.1 rfl (Nat.le_of_ble_eq_true rfl) dL_act_263 ⟨(by show _ ≤ 4; omega), (by show _ ≤ 32; omega)⟩ (fun u_263 H locs hu_263 hC hS => ?_)
              refine lv_aload hx hb dL_act_266 (lv_at hl 1 rfl) ?_
              refine lv_iload hx hb dL_act_268 (lv_at hl 0 rfl) ?_
              refine q_z hC hx hb B_255 dL_act_270 (j := kp) (by omega) (by omega) ?_
              refine lv_tn (w := nI 1) pk_us ?_
              refine lv_icmp_ne (tgt := 278) hx hb dL_act_271 (by decide) (fun c_271 => ?_) (fun c_271 => ?_)
              · skip
                refine absurd ?_ c_271
                rw [xb_ _ hk6 kp (by omega) kp (by omega), if_pos rfl]
                exact hv9.symm
              · skip
                refine lv_iconst (v := nI 1) hx hb dL_act_274 (by decide) ?_
                refine lv_goto (tgt := 279) hx hb dL_act_275 (by decide) ?_
                refine W.widen (k := 4) (n := 32) (by omega) (by omega) ?_
                exact W.zret hx hb hr rfl (fun t ht hW => ⟨⟨_, ((st_mark cS (10 * li + wi) kp), m_255, u_263), rfl, ⟨rfl, ⟨hJ0.mark hCA (by omega) (by omega) h10 hw6 hk6 (by omega) pu_255 hv9 B_255, hZ.mark _ _⟩⟩, (by show CW B0 g ct ad (st_mark cS (10 * li + wi) kp) m_255 u_263 t.heap; rw [ht]; exact hC.1)⟩, hS.F ht⟩) hS.2.2 dL_act_279
          · skip
            have n_200 : ss cS li = 0 := (eq0_ (by omega)).mp c_200
            refine lv_iconst (v := nI 1) hx hb dL_act_203 (by decide) ?_
            refine W.widen (k := 4) (n := 32) (by omega) (by omega) ?_
            exact W.zret hx hb hr rfl (fun t ht hW => ⟨⟨_, (cS, mS, x), rfl, ⟨rfl, ⟨hJ, hZ⟩⟩, (by show CW B0 g ct ad cS mS x t.heap; rw [ht]; exact hC.1)⟩, hS.F ht⟩) hS.2.2 dL_act_204
        · skip
          refine lv_tableIn (x := nI 5) (off := 142) (tgt := 198) hx hb dL_act_56 (by decide) (by decide) rfl (by decide) ?_
          refine lv_iload hx hb dL_act_198 (lv_at hl 0 rfl) ?_
          refine lv_if_ne (tgt := 205) hx hb dL_act_200 (by decide) (fun c_200 => ?_) (fun c_200 => ?_)
          · skip
            have n_200 : ¬ ss cS li = 0 := fun q__ => c_200 ((eq0_ (by omega)).mpr q__)
            refine lv_iload_n hx hb dL_act_205 rfl (lv_at hl 5 rfl) ?_
            refine lv_iconst (v := nI 2) hx hb dL_act_206 (by decide) ?_
            refine lv_ishr hx hb dL_act_207 ?_
            refine lv_iload hx hb dL_act_208 (lv_at hl 0 rfl) ?_
            refine k_pS (As := [.int (v >>> (nI 2 &&& 31)), .int (nI (ss cS li))]) (rest := []) (c_L_below l (v >>> (nI 2 &&& 31)) (ss cS li) (by omega) (by omega)) ⟨hx, hb, hml, hown, hts⟩ (va_cwS 2 hts gL_act_L_below rfl rfl rfl (by decide +kernel) ⟨Nat.le_of_ble_eq_true rfl, Nat.le_of_ble_eq_true rfl⟩) rfl hl.1 rfl (Nat.le_of_ble_eq_true rfl) dL_act_210 ⟨(by show _ ≤ 4; omega), (by show _ ≤ 32; omega)⟩ ?_
            obtain ⟨wi, h_wi⟩ : ∃ wi, wi = bl_ (v >>> (nI 2 &&& 31)) (ss cS li) := ⟨_, rfl⟩
            have b_wi : wi < ss cS li := by rw [h_wi]; exact bl_lt _ (by omega)
            have hw6 := hI.2.2.2.1 (10 * li + wi)
            have hl6 := ln_le hw6
            have hl1 : 0 < ln_ (sw cS (10 * li + wi)) := by
              have hiw := hZ.2 li wi (by omega) (by omega)
              simp only [iw_, Bool.and_eq_true, decide_eq_true_eq] at hiw
              rw [ln_s hiw.1.1 hw6]; omega
            have hk6 := hI.2.2.2.2.1 (10 * li + wi)
            refine lv_tn (w := nI wi) (congrArg nI h_wi.symm) ?_
            refine lv_istore (lv' := [(7, .int (nI wi)), (5, .int (nI (ss cS li))), (4, .int (nI li)), (3, .int (nI (sn cS))), (0, .ref (ad 0)), (1, .ref o), (2, .int v)]) hx hb dL_act_213 hl (by decide) rfl (fun ls hl => ?_)
            refine lv_aload_n hx hb dL_act_215 rfl (lv_at hl 5 rfl) ?_
            refine q_f hC hx hb hts hin1 hown (hJ0.1.ex hE) 2 (by decide) (hts (.fieldLink RL 41 "AbjadPoemsLaw$Sim" "marks" "[[[Z") (by decide +kernel)) (v := .ref mo) rfl dL_act_216 ?_
            refine lv_iload hx hb dL_act_219 (lv_at hl 2 rfl) ?_
            refine q_o hC hx hb (hJ0.2.2.1.ex hE) (ty := .array (.array .boolean)) rfl rfl dL_act_221 (j := li) (by omega) (by omega) (v := wa li) rfl ?_
            refine lv_iload hx hb dL_act_222 (lv_at hl 0 rfl) ?_
            refine q_o hC hx hb ((hJ0.2.2.2.2.1 li (by omega)).ex hE) (ty := .array .boolean) rfl rfl dL_act_224 (j := wi) (by omega) (by omega) (v := ba li wi) rfl ?_
            refine lv_astore (lv' := [(8, .ref (ba li wi)), (7, .int (nI wi)), (5, .int (nI (ss cS li))), (4, .int (nI li)), (3, .int (nI (sn cS))), (0, .ref (ad 0)), (1, .ref o), (2, .int v)]) hx hb dL_act_225 hl (by decide) rfl (fun ls hl => ?_)
            refine lv_iload_n hx hb dL_act_227 rfl (lv_at hl 7 rfl) ?_
            refine lv_iconst (v := nI 4) hx hb dL_act_228 (by decide) ?_
            refine lv_ishr hx hb dL_act_229 ?_
            refine lv_aload hx hb dL_act_230 (lv_at hl 0 rfl) ?_
            refine q_zl hC hx hb ((hJ0.2.2.2.2.2.1 li wi (by omega) (by omega)).ex hE) dL_act_232 ?_
            refine k_pS (As := [.int (v >>> (nI 4 &&& 31)), .int (nI (ln_ (sw cS (10 * li + wi))))]) (rest := []) (c_L_below l (v >>> (nI 4 &&& 31)) (ln_ (sw cS (10 * li + wi))) (by omega) (by omega)) ⟨hx, hb, hml, hown, hts⟩ (va_cwS 2 hts gL_act_L_below rfl rfl rfl (by decide +kernel) ⟨Nat.le_of_ble_eq_true rfl, Nat.le_of_ble_eq_true rfl⟩) rfl hl.1 rfl (Nat.le_of_ble_eq_true rfl) dL_act_233 ⟨(by show _ ≤ 4; omega), (by show _ ≤ 32; omega)⟩ ?_
            obtain ⟨kp, h_kp⟩ : ∃ kp, kp = bl_ (v >>> (nI 4 &&& 31)) (ln_ (sw cS (10 * li + wi))) := ⟨_, rfl⟩
            have b_kp : kp < ln_ (sw cS (10 * li + wi)) := by rw [h_kp]; exact bl_lt _ (by omega)
            refine lv_tn (w := nI kp) (congrArg nI h_kp.symm) ?_
            refine lv_istore (lv' := [(9, .int (nI kp)), (8, .ref (ba li wi)), (7, .int (nI wi)), (5, .int (nI (ss cS li))), (4, .int (nI li)), (3, .int (nI (sn cS))), (0, .ref (ad 0)), (1, .ref o), (2, .int v)]) hx hb dL_act_236 hl (by decide) rfl (fun ls hl => ?_)
            refine lv_aload hx hb dL_act_238 (lv_at hl 1 rfl) ?_
            refine lv_iload hx hb dL_act_240 (lv_at hl 0 rfl) ?_
            refine lv_aload hx hb dL_act_242 (lv_at hl 1 rfl) ?_
            refine lv_iload hx hb dL_act_244 (lv_at hl 0 rfl) ?_
            refine q_z hC hx hb ((hJ0.2.2.2.2.2.1 li wi (by omega) (by omega)).ex hE) dL_act_246 (j := kp) (by omega) (by omega) ?_
            refine lv_tn (w := b2_ ((sk cS (10 * li + wi)).testBit kp)) rfl ?_
            refine lv_if_ne (tgt := 254) hx hb dL_act_247 (by decide) (fun c_247 => ?_) (fun c_247 => ?_)
            · skip
              have hbt : (sk cS (10 * li + wi)).testBit kp = true := b2_ne c_247
              have hv9 : nI 0 = b2_ (!(sk cS (10 * li + wi)).testBit kp) := by rw [hbt]; rfl
              refine lv_iconst (v := nI 0) hx hb dL_act_254 (by decide) ?_
              refine u_z hC hB hS hx hb ((hJ0.2.2.2.2.2.1 li wi (by omega) (by omega)).ex hE) dL_act_255 (j := kp) (v := nI 0) (by omega) (by omega) rfl (fun m_255 H locs pu_255 B_255 hC hS => ?_)
              refine lv_aload_n hx hb dL_act_256 rfl (lv_at hl 6 rfl) ?_
              refine lv_iload hx hb dL_act_257 (lv_at hl 4 rfl) ?_
              refine lv_iload hx hb dL_act_259 (lv_at hl 2 rfl) ?_
              refine lv_iload hx hb dL_act_261 (lv_at hl 0 rfl) ?_
              refine k_wV (As := [.int (nI li), .int (nI wi), .int (nI kp)]) (rest := []) (c_X0_mark l B0 g ct ad cS m_255 x li wi kp (by omega) (by omega) (by omega)) hC hB hS ⟨hx, hb, hml, hown, hts⟩ (cwV 3 hts gL_act_X0_mark rfl rfl rfl (by decide +kernel) ⟨Nat.le_of_ble_eq_true rfl, Nat.le_of_ble_eq_true rfl⟩) (rc0 hC) rfl hl.1 rfl (Nat.le_of_ble_eq_true rfl) dL_act_263 ⟨(by show _ ≤ 4; omega), (by show _ ≤ 32; omega)⟩ (fun u_263 H locs hu_263 hC hS => ?_)
              refine lv_aload hx hb dL_act_266 (lv_at hl 1 rfl) ?_
              refine lv_iload hx hb dL_act_268 (lv_at hl 0 rfl) ?_
              refine q_z hC hx hb B_255 dL_act_270 (j := kp) (by omega) (by omega) ?_
              refine lv_tn (w := nI 0) pk_us ?_
              refine lv_icmp_ne (tgt := 278) hx hb dL_act_271 (by decide) (fun c_271 => ?_) (fun c_271 => ?_)
              · skip
                refine absurd ?_ c_271
                rw [xb_ _ hk6 kp (by omega) kp (by omega), if_pos rfl]
                exact hv9.symm
              · skip
                refine lv_iconst (v := nI 1) hx hb dL_act_274 (by decide) ?_
                refine lv_goto (tgt := 279) hx hb dL_act_275 (by decide) ?_
                refine W.widen (k := 4) (n := 32) (by omega) (by omega) ?_
                exact W.zret hx hb hr rfl (fun t ht hW => ⟨⟨_, ((st_mark cS (10 * li + wi) kp), m_255, u_263), rfl, ⟨rfl, ⟨hJ0.mark hCA (by omega) (by omega) h10 hw6 hk6 (by omega) pu_255 hv9 B_255, hZ.mark _ _⟩⟩, (by show CW B0 g ct ad (st_mark cS (10 * li + wi) kp) m_255 u_263 t.heap; rw [ht]; exact hC.1)⟩, hS.F ht⟩) hS.2.2 dL_act_279
            · skip
              have hbt : (sk cS (10 * li + wi)).testBit kp = false := b2_0.mp c_247
              have hv9 : nI 1 = b2_ (!(sk cS (10 * li + wi)).testBit kp) := by rw [hbt]; rfl
              refine lv_iconst (v := nI 1) hx hb dL_act_250 (by decide) ?_
              refine lv_goto (tgt := 255) hx hb dL_act_251 (by decide) ?_
              refine u_z hC hB hS hx hb ((hJ0.2.2.2.2.2.1 li wi (by omega) (by omega)).ex hE) dL_act_255 (j := kp) (v := nI 1) (by omega) (by omega) rfl (fun m_255 H locs pu_255 B_255 hC hS => ?_)
              refine lv_aload_n hx hb dL_act_256 rfl (lv_at hl 6 rfl) ?_
              refine lv_iload hx hb dL_act_257 (lv_at hl 4 rfl) ?_
              refine lv_iload hx hb dL_act_259 (lv_at hl 2 rfl) ?_
              refine lv_iload hx hb dL_act_261 (lv_at hl 0 rfl) ?_
              refine k_wV (As := [.int (nI li), .int (nI wi), .int (nI kp)]) (rest := []) (c_X0_mark l B0 g ct ad cS m_255 x li wi kp (by omega) (by omega) (by omega)) hC hB hS ⟨hx, hb, hml, hown, hts⟩ (cwV 3 hts gL_act_X0_mark rfl rfl rfl (by decide +kernel) ⟨Nat.le_of_ble_eq_true rfl, Nat.le_of_ble_eq_true rfl⟩) (rc0 hC) rfl hl.1 rfl (Nat.le_of_ble_eq_true rfl) dL_act_263 ⟨(by show _ ≤ 4; omega), (by show _ ≤ 32; omega)⟩ (fun u_263 H locs hu_263 hC hS => ?_)
              refine lv_aload hx hb dL_act_266 (lv_at hl 1 rfl) ?_
              refine lv_iload hx hb dL_act_268 (lv_at hl 0 rfl) ?_
              refine q_z hC hx hb B_255 dL_act_270 (j := kp) (by omega) (by omega) ?_
              refine lv_tn (w := nI 1) pk_us ?_
              refine lv_icmp_ne (tgt := 278) hx hb dL_act_271 (by decide) (fun c_271 => ?_) (fun c_271 => ?_)
              · skip
                refine absurd ?_ c_271
                rw [xb_ _ hk6 kp (by omega) kp (by omega), if_pos rfl]
                exact hv9.symm
              · skip
                refine lv_iconst (v := nI 1) hx hb dL_act_274 (by decide) ?_
                refine lv_goto (tgt := 279) hx hb dL_act_275 (by decide) ?_
                refine W.widen (k := 4) (n := 32) (by omega) (by omega) ?_
                exact W.zret hx hb hr rfl (fun t ht hW => ⟨⟨_, ((st_mark cS (10 * li + wi) kp), m_255, u_263), rfl, ⟨rfl, ⟨hJ0.mark hCA (by omega) (by omega) h10 hw6 hk6 (by omega) pu_255 hv9 B_255, hZ.mark _ _⟩⟩, (by show CW B0 g ct ad (st_mark cS (10 * li + wi) kp) m_255 u_263 t.heap; rw [ht]; exact hC.1)⟩, hS.F ht⟩) hS.2.2 dL_act_279
          · skip
            have n_200 : ss cS li = 0 := (eq0_ (by omega)).mp c_200
            refine lv_iconst (v := nI 1) hx hb dL_act_203 (by decide) ?_
            refine W.widen (k := 4) (n := 32) (by omega) (by omega) ?_
            exact W.zret hx hb hr rfl (fun t ht hW => ⟨⟨_, (cS, mS, x), rfl, ⟨rfl, ⟨hJ, hZ⟩⟩, (by show CW B0 g ct ad cS mS x t.heap; rw [ht]; exact hC.1)⟩, hS.F ht⟩) hS.2.2 dL_act_204
        · skip
          refine lv_tableIn (x := nI 6) (off := 142) (tgt := 198) hx hb dL_act_56 (by decide) (by decide) rfl (by decide) ?_
          refine lv_iload hx hb dL_act_198 (lv_at hl 0 rfl) ?_
          refine lv_if_ne (tgt := 205) hx hb dL_act_200 (by decide) (fun c_200 => ?_) (fun c_200 => ?_)
          · skip
            have n_200 : ¬ ss cS li = 0 := fun q__ => c_200 ((eq0_ (by omega)).mpr q__)
            refine lv_iload_n hx hb dL_act_205 rfl (lv_at hl 5 rfl) ?_
            refine lv_iconst (v := nI 2) hx hb dL_act_206 (by decide) ?_
            refine lv_ishr hx hb dL_act_207 ?_
            refine lv_iload hx hb dL_act_208 (lv_at hl 0 rfl) ?_
            refine k_pS (As := [.int (v >>> (nI 2 &&& 31)), .int (nI (ss cS li))]) (rest := []) (c_L_below l (v >>> (nI 2 &&& 31)) (ss cS li) (by omega) (by omega)) ⟨hx, hb, hml, hown, hts⟩ (va_cwS 2 hts gL_act_L_below rfl rfl rfl (by decide +kernel) ⟨Nat.le_of_ble_eq_true rfl, Nat.le_of_ble_eq_true rfl⟩) rfl hl.1 rfl (Nat.le_of_ble_eq_true rfl) dL_act_210 ⟨(by show _ ≤ 4; omega), (by show _ ≤ 32; omega)⟩ ?_
            obtain ⟨wi, h_wi⟩ : ∃ wi, wi = bl_ (v >>> (nI 2 &&& 31)) (ss cS li) := ⟨_, rfl⟩
            have b_wi : wi < ss cS li := by rw [h_wi]; exact bl_lt _ (by omega)
            have hw6 := hI.2.2.2.1 (10 * li + wi)
            have hl6 := ln_le hw6
            have hl1 : 0 < ln_ (sw cS (10 * li + wi)) := by
              have hiw := hZ.2 li wi (by omega) (by omega)
              simp only [iw_, Bool.and_eq_true, decide_eq_true_eq] at hiw
              rw [ln_s hiw.1.1 hw6]; omega
            have hk6 := hI.2.2.2.2.1 (10 * li + wi)
            refine lv_tn (w := nI wi) (congrArg nI h_wi.symm) ?_
            refine lv_istore (lv' := [(7, .int (nI wi)), (5, .int (nI (ss cS li))), (4, .int (nI li)), (3, .int (nI (sn cS))), (0, .ref (ad 0)), (1, .ref o), (2, .int v)]) hx hb dL_act_213 hl (by decide) rfl (fun ls hl => ?_)
            refine lv_aload_n hx hb dL_act_215 rfl (lv_at hl 5 rfl) ?_
            refine q_f hC hx hb hts hin1 hown (hJ0.1.ex hE) 2 (by decide) (hts (.fieldLink RL 41 "AbjadPoemsLaw$Sim" "marks" "[[[Z") (by decide +kernel)) (v := .ref mo) rfl dL_act_216 ?_
            refine lv_iload hx hb dL_act_219 (lv_at hl 2 rfl) ?_
            refine q_o hC hx hb (hJ0.2.2.1.ex hE) (ty := .array (.array .boolean)) rfl rfl dL_act_221 (j := li) (by omega) (by omega) (v := wa li) rfl ?_
            refine lv_iload hx hb dL_act_222 (lv_at hl 0 rfl) ?_
            refine q_o hC hx hb ((hJ0.2.2.2.2.1 li (by omega)).ex hE) (ty := .array .boolean) rfl rfl dL_act_224 (j := wi) (by omega) (by omega) (v := ba li wi) rfl ?_
            refine lv_astore (lv' := [(8, .ref (ba li wi)), (7, .int (nI wi)), (5, .int (nI (ss cS li))), (4, .int (nI li)), (3, .int (nI (sn cS))), (0, .ref (ad 0)), (1, .ref o), (2, .int v)]) hx hb dL_act_225 hl (by decide) rfl (fun ls hl => ?_)
            refine lv_iload_n hx hb dL_act_227 rfl (lv_at hl 7 rfl) ?_
            refine lv_iconst (v := nI 4) hx hb dL_act_228 (by decide) ?_
            refine lv_ishr hx hb dL_act_229 ?_
            refine lv_aload hx hb dL_act_230 (lv_at hl 0 rfl) ?_
            refine q_zl hC hx hb ((hJ0.2.2.2.2.2.1 li wi (by omega) (by omega)).ex hE) dL_act_232 ?_
            refine k_pS (As := [.int (v >>> (nI 4 &&& 31)), .int (nI (ln_ (sw cS (10 * li + wi))))]) (rest := []) (c_L_below l (v >>> (nI 4 &&& 31)) (ln_ (sw cS (10 * li + wi))) (by omega) (by omega)) ⟨hx, hb, hml, hown, hts⟩ (va_cwS 2 hts gL_act_L_below rfl rfl rfl (by decide +kernel) ⟨Nat.le_of_ble_eq_true rfl, Nat.le_of_ble_eq_true rfl⟩) rfl hl.1 rfl (Nat.le_of_ble_eq_true rfl) dL_act_233 ⟨(by show _ ≤ 4; omega), (by show _ ≤ 32; omega)⟩ ?_
            obtain ⟨kp, h_kp⟩ : ∃ kp, kp = bl_ (v >>> (nI 4 &&& 31)) (ln_ (sw cS (10 * li + wi))) := ⟨_, rfl⟩
            have b_kp : kp < ln_ (sw cS (10 * li + wi)) := by rw [h_kp]; exact bl_lt _ (by omega)
            refine lv_tn (w := nI kp) (congrArg nI h_kp.symm) ?_
            refine lv_istore (lv' := [(9, .int (nI kp)), (8, .ref (ba li wi)), (7, .int (nI wi)), (5, .int (nI (ss cS li))), (4, .int (nI li)), (3, .int (nI (sn cS))), (0, .ref (ad 0)), (1, .ref o), (2, .int v)]) hx hb dL_act_236 hl (by decide) rfl (fun ls hl => ?_)
            refine lv_aload hx hb dL_act_238 (lv_at hl 1 rfl) ?_
            refine lv_iload hx hb dL_act_240 (lv_at hl 0 rfl) ?_
            refine lv_aload hx hb dL_act_242 (lv_at hl 1 rfl) ?_
            refine lv_iload hx hb dL_act_244 (lv_at hl 0 rfl) ?_
            refine q_z hC hx hb ((hJ0.2.2.2.2.2.1 li wi (by omega) (by omega)).ex hE) dL_act_246 (j := kp) (by omega) (by omega) ?_
            refine lv_tn (w := b2_ ((sk cS (10 * li + wi)).testBit kp)) rfl ?_
            refine lv_if_ne (tgt := 254) hx hb dL_act_247 (by decide) (fun c_247 => ?_) (fun c_247 => ?_)
            · skip
              have hbt : (sk cS (10 * li + wi)).testBit kp = true := b2_ne c_247
              have hv9 : nI 0 = b2_ (!(sk cS (10 * li + wi)).testBit kp) := by rw [hbt]; rfl
              refine lv_iconst (v := nI 0) hx hb dL_act_254 (by decide) ?_
              refine u_z hC hB hS hx hb ((hJ0.2.2.2.2.2.1 li wi (by omega) (by omega)).ex hE) dL_act_255 (j := kp) (v := nI 0) (by omega) (by omega) rfl (fun m_255 H locs pu_255 B_255 hC hS => ?_)
              refine lv_aload_n hx hb dL_act_256 rfl (lv_at hl 6 rfl) ?_
              refine lv_iload hx hb dL_act_257 (lv_at hl 4 rfl) ?_
              refine lv_iload hx hb dL_act_259 (lv_at hl 2 rfl) ?_
              refine lv_iload hx hb dL_act_261 (lv_at hl 0 rfl) ?_
              refine k_wV (As := [.int (nI li), .int (nI wi), .int (nI kp)]) (rest := []) (c_X0_mark l B0 g ct ad cS m_255 x li wi kp (by omega) (by omega) (by omega)) hC hB hS ⟨hx, hb, hml, hown, hts⟩ (cwV 3 hts gL_act_X0_mark rfl rfl rfl (by decide +kernel) ⟨Nat.le_of_ble_eq_true rfl, Nat.le_of_ble_eq_true rfl⟩) (rc0 hC) rfl hl.1 rfl (Nat.le_of_ble_eq_true rfl) dL_act_263 ⟨(by show _ ≤ 4; omega), (by show _ ≤ 32; omega)⟩ (fun u_263 H locs hu_263 hC hS => ?_)
              refine lv_aload hx hb dL_act_266 (lv_at hl 1 rfl) ?_
              refine lv_iload hx hb dL_act_268 (lv_at hl 0 rfl) ?_
              refine q_z hC hx hb B_255 dL_act_270 (j := kp) (by omega) (by omega) ?_
              refine lv_tn (w := nI 0) pk_us ?_
              refine lv_icmp_ne (tgt := 278) hx hb dL_act_271 (by decide) (fun c_271 => ?_) (fun c_271 => ?_)
              · skip
                refine absurd ?_ c_271
                rw [xb_ _ hk6 kp (by omega) kp (by omega), if_pos rfl]
                exact hv9.symm
              · skip
                refine lv_iconst (v := nI 1) hx hb dL_act_274 (by decide) ?_
                refine lv_goto (tgt := 279) hx hb dL_act_275 (by decide) ?_
                refine W.widen (k := 4) (n := 32) (by omega) (by omega) ?_
                exact W.zret hx hb hr rfl (fun t ht hW => ⟨⟨_, ((st_mark cS (10 * li + wi) kp), m_255, u_263), rfl, ⟨rfl, ⟨hJ0.mark hCA (by omega) (by omega) h10 hw6 hk6 (by omega) pu_255 hv9 B_255, hZ.mark _ _⟩⟩, (by show CW B0 g ct ad (st_mark cS (10 * li + wi) kp) m_255 u_263 t.heap; rw [ht]; exact hC.1)⟩, hS.F ht⟩) hS.2.2 dL_act_279
            · skip
              have hbt : (sk cS (10 * li + wi)).testBit kp = false := b2_0.mp c_247
              have hv9 : nI 1 = b2_ (!(sk cS (10 * li + wi)).testBit kp) := by rw [hbt]; rfl
              refine lv_iconst (v := nI 1) hx hb dL_act_250 (by decide) ?_
              refine lv_goto (tgt := 255) hx hb dL_act_251 (by decide) ?_
              refine u_z hC hB hS hx hb ((hJ0.2.2.2.2.2.1 li wi (by omega) (by omega)).ex hE) dL_act_255 (j := kp) (v := nI 1) (by omega) (by omega) rfl (fun m_255 H locs pu_255 B_255 hC hS => ?_)
              refine lv_aload_n hx hb dL_act_256 rfl (lv_at hl 6 rfl) ?_
              refine lv_iload hx hb dL_act_257 (lv_at hl 4 rfl) ?_
              refine lv_iload hx hb dL_act_259 (lv_at hl 2 rfl) ?_
              refine lv_iload hx hb dL_act_261 (lv_at hl 0 rfl) ?_
              refine k_wV (As := [.int (nI li), .int (nI wi), .int (nI kp)]) (rest := []) (c_X0_mark l B0 g ct ad cS m_255 x li wi kp (by omega) (by omega) (by omega)) hC hB hS ⟨hx, hb, hml, hown, hts⟩ (cwV 3 hts gL_act_X0_mark rfl rfl rfl (by decide +kernel) ⟨Nat.le_of_ble_eq_true rfl, Nat.le_of_ble_eq_true rfl⟩) (rc0 hC) rfl hl.1 rfl (Nat.le_of_ble_eq_true rfl) dL_act_263 ⟨(by show _ ≤ 4; omega), (by show _ ≤ 32; omega)⟩ (fun u_263 H locs hu_263 hC hS => ?_)
              refine lv_aload hx hb dL_act_266 (lv_at hl 1 rfl) ?_
              refine lv_iload hx hb dL_act_268 (lv_at hl 0 rfl) ?_
              refine q_z hC hx hb B_255 dL_act_270 (j := kp) (by omega) (by omega) ?_
              refine lv_tn (w := nI 1) pk_us ?_
              refine lv_icmp_ne (tgt := 278) hx hb dL_act_271 (by decide) (fun c_271 => ?_) (fun c_271 => ?_)
              · skip
                refine absurd ?_ c_271
                rw [xb_ _ hk6 kp (by omega) kp (by omega), if_pos rfl]
                exact hv9.symm
              · skip
                refine lv_iconst (v := nI 1) hx hb dL_act_274 (by decide) ?_
                refine lv_goto (tgt := 279) hx hb dL_act_275 (by decide) ?_
                refine W.widen (k := 4) (n := 32) (by omega) (by omega) ?_
                exact W.zret hx hb hr rfl (fun t ht hW => ⟨⟨_, ((st_mark cS (10 * li + wi) kp), m_255, u_263), rfl, ⟨rfl, ⟨hJ0.mark hCA (by omega) (by omega) h10 hw6 hk6 (by omega) pu_255 hv9 B_255, hZ.mark _ _⟩⟩, (by show CW B0 g ct ad (st_mark cS (10 * li + wi) kp) m_255 u_263 t.heap; rw [ht]; exact hC.1)⟩, hS.F ht⟩) hS.2.2 dL_act_279
          · skip
            have n_200 : ss cS li = 0 := (eq0_ (by omega)).mp c_200
            refine lv_iconst (v := nI 1) hx hb dL_act_203 (by decide) ?_
            refine W.widen (k := 4) (n := 32) (by omega) (by omega) ?_
            exact W.zret hx hb hr rfl (fun t ht hW => ⟨⟨_, (cS, mS, x), rfl, ⟨rfl, ⟨hJ, hZ⟩⟩, (by show CW B0 g ct ad cS mS x t.heap; rw [ht]; exact hC.1)⟩, hS.F ht⟩) hS.2.2 dL_act_204
        · skip
          refine lv_tableOut (x := nI jw) (tgt := 280) hx hb dL_act_56 (Or.inr (by rw [nI_toInt (by omega)]; omega)) (by decide) ?_
          refine lv_iload hx hb dL_act_280 (lv_at hl 0 rfl) ?_
          refine lv_bipush (v := nI 10) hx hb dL_act_282 (by decide) ?_
          refine lv_icmp_ne (tgt := 289) hx hb dL_act_284 (by decide) (fun c_284 => ?_) (fun c_284 => ?_)
          · skip
            have n_284 : ¬ ss cS li = 10 := fun q__ => c_284 ((nI_eq (a := ss cS li) (b := 10) (by omega) (by omega)).mpr q__)
            refine lv_aload_n hx hb dL_act_289 rfl (lv_at hl 4 rfl) ?_
            refine lv_iload hx hb dL_act_290 (lv_at hl 1 rfl) ?_
            refine lv_iload_n hx hb dL_act_292 rfl (lv_at hl 5 rfl) ?_
            refine k_pS (As := [.int v]) (rest := [.int (nI li), .ref o]) (c_L_word l v) ⟨hx, hb, hml, hown, hts⟩ (va_cwS 1 hts gL_act_L_word rfl rfl rfl (by decide +kernel) ⟨Nat.le_of_ble_eq_true rfl, Nat.le_of_ble_eq_true rfl⟩) rfl hl.1 rfl (Nat.le_of_ble_eq_true rfl) dL_act_293 ⟨(by show _ ≤ 4; omega), (by show _ ≤ 32; omega)⟩ ?_
            refine k_nV (As := [.int (nI li), .int (nI (gw_ v))]) (rest := []) (c_X1_add l B0 g ct ad cS mS x o cS hI ⟨lo, mo, la, wa, ba, hJ0.ex hE⟩ li (gw_ v) (by omega) (by omega) (gw_lt v)) hC hS ⟨hx, hb, hml, hown, hts⟩ (cwV 2 hts gL_act_X1_add rfl rfl rfl (by decide +kernel) ⟨Nat.le_of_ble_eq_true rfl, Nat.le_of_ble_eq_true rfl⟩) (rc1 hC (hJ0.1.ex hE)) rfl hl.1 rfl (Nat.le_of_ble_eq_true rfl) dL_act_296 ⟨(by show _ ≤ 4; omega), (by show _ ≤ 32; omega)⟩ (fun m_296 x_296 H locs hr_296 hC hS => ?_)
            refine lv_aload_n hx hb dL_act_299 rfl (lv_at hl 3 rfl) ?_
            refine lv_iload hx hb dL_act_300 (lv_at hl 1 rfl) ?_
            refine lv_iload_n hx hb dL_act_302 rfl (lv_at hl 5 rfl) ?_
            refine k_pS (As := [.int v]) (rest := [.int (nI li), .ref (ad 0)]) (c_L_word l v) ⟨hx, hb, hml, hown, hts⟩ (va_cwS 1 hts gL_act_L_word rfl rfl rfl (by decide +kernel) ⟨Nat.le_of_ble_eq_true rfl, Nat.le_of_ble_eq_true rfl⟩) rfl hl.1 rfl (Nat.le_of_ble_eq_true rfl) dL_act_303 ⟨(by show _ ≤ 4; omega), (by show _ ≤ 32; omega)⟩ ?_
            refine k_wV (As := [.int (nI li), .int (nI (gw_ v))]) (rest := []) (c_X0_add l B0 g ct ad cS m_296 x_296 li (gw_ v) (by omega) (gw_lt v) (by rw [wd_n (by have := gw_lt v; omega)]; exact gw_iw v) (by omega)) hC hB hS ⟨hx, hb, hml, hown, hts⟩ (cwV 2 hts gL_act_X0_add rfl rfl rfl (by decide +kernel) ⟨Nat.le_of_ble_eq_true rfl, Nat.le_of_ble_eq_true rfl⟩) (rc0 hC) rfl hl.1 rfl (Nat.le_of_ble_eq_true rfl) dL_act_306 ⟨(by show _ ≤ 4; omega), (by show _ ≤ 32; omega)⟩ (fun u_306 H locs hu_306 hC hS => ?_)
            refine lv_iload hx hb dL_act_309 (lv_at hl 0 rfl) ?_
            refine lv_iconst (v := nI 1) hx hb dL_act_311 (by decide) ?_
            refine lv_iadd hx hb dL_act_312 ?_
            refine lv_tn (nI_add _ _) ?_
            refine lv_icmp_ne (tgt := 320) hx hb dL_act_313 (by decide) (fun c_313 => ?_) (fun c_313 => ?_)
            · skip
              have n_313 : ¬ ss cS li + 1 = (ss cS li) + 1 := fun q__ => c_313 ((nI_eq (a := ss cS li + 1) (b := (ss cS li) + 1) (by omega) (by omega)).mpr q__)
              exact absurd rfl n_313
            · skip
              have n_313 : ss cS li + 1 = (ss cS li) + 1 := (nI_eq (a := ss cS li + 1) (b := (ss cS li) + 1) (by omega) (by omega)).mp c_313
              refine lv_iconst (v := nI 1) hx hb dL_act_316 (by decide) ?_
              refine lv_goto (tgt := 321) hx hb dL_act_317 (by decide) ?_
              refine W.widen (k := 4) (n := 32) (by omega) (by omega) ?_
              exact W.zret hx hb hr rfl (fun t ht hW => ⟨⟨_, ((st_add cS li (gw_ v)), m_296, u_306), rfl, ⟨rfl, ⟨hr_296, hZ.add h10 (by omega) (by omega) (gw_iw v)⟩⟩, (by show CW B0 g ct ad (st_add cS li (gw_ v)) m_296 u_306 t.heap; rw [ht]; exact hC.1)⟩, hS.F ht⟩) hS.2.2 dL_act_321
          · skip
            have n_284 : ss cS li = 10 := (nI_eq (a := ss cS li) (b := 10) (by omega) (by omega)).mp c_284
            refine lv_iconst (v := nI 1) hx hb dL_act_287 (by decide) ?_
            refine W.widen (k := 4) (n := 32) (by omega) (by omega) ?_
            exact W.zret hx hb hr rfl (fun t ht hW => ⟨⟨_, (cS, mS, x), rfl, ⟨rfl, ⟨hJ, hZ⟩⟩, (by show CW B0 g ct ad cS mS x t.heap; rw [ht]; exact hC.1)⟩, hS.F ht⟩) hS.2.2 dL_act_288
      · skip
        have n_40 : sn cS = 0 := (eq0_ (by omega)).mp c_40
        exact absurd n_40 n_7
    · skip
      have n_22 : sn cS = 0 := (eq0_ (by omega)).mp c_22
      exact absurd n_22 n_7
  · skip
    have n_7 : sn cS = 0 := (eq0_ (by omega)).mp c_7
    refine lv_iconst (v := nI 0) hx hb dL_act_10 (by decide) ?_
    refine lv_goto (tgt := 19) hx hb dL_act_11 (by decide) ?_
    refine lv_istore (lv' := [(4, .int (nI 0)), (3, .int (nI (sn cS))), (0, .ref (ad 0)), (1, .ref o), (2, .int v)]) hx hb dL_act_19 hl (by decide) rfl (fun ls hl => ?_)
    refine lv_iload_n hx hb dL_act_21 rfl (lv_at hl 1 rfl) ?_
    refine lv_if_ne (tgt := 29) hx hb dL_act_22 (by decide) (fun c_22 => ?_) (fun c_22 => ?_)
    · skip
      have n_22 : ¬ sn cS = 0 := fun q__ => c_22 ((eq0_ (by omega)).mpr q__)
      exact absurd n_7 n_22
    · skip
      have n_22 : sn cS = 0 := (eq0_ (by omega)).mp c_22
      refine lv_iconst (v := nI 0) hx hb dL_act_25 (by decide) ?_
      refine lv_goto (tgt := 37) hx hb dL_act_26 (by decide) ?_
      refine lv_istore (lv' := [(5, .int (nI 0)), (4, .int (nI 0)), (3, .int (nI (sn cS))), (0, .ref (ad 0)), (1, .ref o), (2, .int v)]) hx hb dL_act_37 hl (by decide) rfl (fun ls hl => ?_)
      refine lv_iload_n hx hb dL_act_39 rfl (lv_at hl 2 rfl) ?_
      refine lv_if_ne (tgt := 47) hx hb dL_act_40 (by decide) (fun c_40 => ?_) (fun c_40 => ?_)
      · skip
        have n_40 : ¬ sn cS = 0 := fun q__ => c_40 ((eq0_ (by omega)).mpr q__)
        exact absurd n_7 n_40
      · skip
        have n_40 : sn cS = 0 := (eq0_ (by omega)).mp c_40
        refine lv_iconst (v := nI 0) hx hb dL_act_43 (by decide) ?_
        refine lv_goto (tgt := 56) hx hb dL_act_44 (by decide) ?_
        refine lv_tableIn (x := nI 0) (off := 44) (tgt := 100) hx hb dL_act_56 (by decide) (by decide) rfl (by decide) ?_
        refine lv_iload_n hx hb dL_act_100 rfl (lv_at hl 2 rfl) ?_
        refine lv_bipush (v := nI 12) hx hb dL_act_101 (by decide) ?_
        refine lv_icmp_ne (tgt := 108) hx hb dL_act_103 (by decide) (fun c_103 => ?_) (fun c_103 => ?_)
        · skip
          have n_103 : ¬ sn cS = 12 := fun q__ => c_103 ((nI_eq (a := sn cS) (b := 12) (by omega) (by omega)).mpr q__)
          refine lv_aload_n hx hb dL_act_108 rfl (lv_at hl 4 rfl) ?_
          refine k_nV (As := []) (rest := []) (c_X1_write l B0 g ct ad cS mS x o cS hI ⟨lo, mo, la, wa, ba, hJ0.ex hE⟩ (hZ.1 _ (Nat.le_refl _))) hC hS ⟨hx, hb, hml, hown, hts⟩ (cwV 0 hts gL_act_X1_write rfl rfl rfl (by decide +kernel) ⟨Nat.le_of_ble_eq_true rfl, Nat.le_of_ble_eq_true rfl⟩) (rc1 hC (hJ0.1.ex hE)) rfl hl.1 rfl (Nat.le_of_ble_eq_true rfl) dL_act_109 ⟨(by show _ ≤ 4; omega), (by show _ ≤ 32; omega)⟩ (fun m_109 x_109 H locs hr_109 hC hS => ?_)
          refine lv_aload_n hx hb dL_act_112 rfl (lv_at hl 3 rfl) ?_
          refine k_wV (As := []) (rest := []) (c_X0_write l B0 g ct ad cS m_109 x_109 (by omega)) hC hB hS ⟨hx, hb, hml, hown, hts⟩ (cwV 0 hts gL_act_X0_write rfl rfl rfl (by decide +kernel) ⟨Nat.le_of_ble_eq_true rfl, Nat.le_of_ble_eq_true rfl⟩) (rc0 hC) rfl hl.1 rfl (Nat.le_of_ble_eq_true rfl) dL_act_113 ⟨(by show _ ≤ 4; omega), (by show _ ≤ 32; omega)⟩ (fun u_113 H locs hu_113 hC hS => ?_)
          refine lv_iload_n hx hb dL_act_116 rfl (lv_at hl 2 rfl) ?_
          refine lv_icmp_ne (tgt := 124) hx hb dL_act_117 (by decide) (fun c_117 => ?_) (fun c_117 => ?_)
          · skip
            have n_117 : ¬ sn cS = sn cS := fun q__ => c_117 ((nI_eq (a := sn cS) (b := sn cS) (by omega) (by omega)).mpr q__)
            exact absurd rfl n_117
          · skip
            have n_117 : sn cS = sn cS := (nI_eq (a := sn cS) (b := sn cS) (by omega) (by omega)).mp c_117
            refine lv_iconst (v := nI 1) hx hb dL_act_120 (by decide) ?_
            refine lv_goto (tgt := 125) hx hb dL_act_121 (by decide) ?_
            refine W.widen (k := 4) (n := 32) (by omega) (by omega) ?_
            exact W.zret hx hb hr rfl (fun t ht hW => ⟨⟨_, ((st_write cS), m_109, u_113), rfl, ⟨rfl, ⟨hr_109, hZ.write⟩⟩, (by show CW B0 g ct ad (st_write cS) m_109 u_113 t.heap; rw [ht]; exact hC.1)⟩, hS.F ht⟩) hS.2.2 dL_act_125
        · skip
          have n_103 : sn cS = 12 := (nI_eq (a := sn cS) (b := 12) (by omega) (by omega)).mp c_103
          refine lv_iconst (v := nI 1) hx hb dL_act_106 (by decide) ?_
          refine W.widen (k := 4) (n := 32) (by omega) (by omega) ?_
          exact W.zret hx hb hr rfl (fun t ht hW => ⟨⟨_, (cS, mS, x), rfl, ⟨rfl, ⟨hJ, hZ⟩⟩, (by show CW B0 g ct ad cS mS x t.heap; rw [ht]; exact hC.1)⟩, hS.F ht⟩) hS.2.2 dL_act_107
end
section
/-! ===== the mean; the sums of the poem by hand ===== -/
def mn_ (n t : Nat) : UInt64 := if n = 0 then FP.dconst0 else FP.ddiv (FP.i2d (nI t)) (FP.i2d (nI n))
theorem mn_0 {n t : Nat} (h : n = 0) : mn_ n t = FP.dconst0 := if_pos h
theorem mn_1 {n t : Nat} (h : ¬ n = 0) : mn_ n t = FP.ddiv (FP.i2d (nI t)) (FP.i2d (nI n)) := if_neg h
theorem nn_v {a : Int32} {n : Nat} (h : ¬ n = 0) (hn : n < 2 ^ 31) : FP.Core.val64 (FP.ddiv (FP.i2d a) (FP.i2d (nI n))) ≠ .nan := by
  have h1 : FP.Core.dIsNaN (FP.Core.ddiv (FP.Core.i2d a) (FP.Core.i2d (nI n))) = false := FP.Core.ddiv_out ((FP.Core.notNaN_iff _).mpr (FP.Core.i2d_fin a).ne_nan) (FP.Core.i2d_fin _) (fun q => FP.Core.i2d_ne_zero (nI_ne0 (by omega) hn) ((FP.Core.zero_bits2 _).mp q))
  exact (FP.Core.notNaN_iff _).mp h1
theorem nn_ {a : Int32} {n : Nat} (h : ¬ n = 0) (hn : n < 2 ^ 31) : vf_n64 (FP.ddiv (FP.i2d a) (FP.i2d (nI n))) := Jvm.Free.Fl.val64_no.mpr (nn_v h hn)
theorem mn_v {n t : Nat} (hn : n < 2 ^ 31) : FP.Core.val64 (mn_ n t) ≠ .nan := by
  by_cases h : n = 0
  · rw [mn_0 h]; decide +kernel
  · rw [mn_1 h]; exact nn_v h hn
theorem dc_ {n t : Nat} {y : UInt64} (hn : n < 2 ^ 31) (hy : y = mn_ n t) : Op.cmpValue (FP.dcmp (mn_ n t) y) CmpOp.l = nI 0 := by
  subst hy
  rw [show FP.dcmp (mn_ n t) (mn_ n t) = some .eq from FP.Core.dcmp_self (mn_v hn)]
  rfl
theorem al_b {c : St_} (h : Iv_ c) : al_ c 0 ≤ 120 := by
  have h1 : al_ c 0 ≤ sn c * 10 := qs_b (fun l _ => h.2.2.1 l)
  have := h.2.1
  omega
def t7_ (c : St_) (k p g j : Nat) : Int32 := if j = 0 then nI (sn c) else if j = 6 then nI g else if j < p then nI (qs_ (fun l => lt_ c l (j - 1)) (k + 1)) else nI (qs_ (fun l => lt_ c l (j - 1)) k)
section T7
variable {c : St_} {k p g g' j : Nat}
theorem t7_n (hj : j < 7) : t7_ c k 6 g j = t7_ c (k + 1) 1 g j := by
  unfold t7_
  by_cases e0 : j = 0
  · rw [if_pos e0, if_pos e0]
  · rw [if_neg e0, if_neg e0]
    by_cases e6 : j = 6
    · rw [if_pos e6, if_pos e6]
    · rw [if_neg e6, if_neg e6, if_pos (by omega), if_neg (by omega)]
theorem t7_r (hp : p < 5) : t7_ c k (p + 1) g (1 + p) = nI (qs_ (fun l => lt_ c l p) k) := by
  unfold t7_
  rw [if_neg (by omega), if_neg (by omega), if_neg (by omega), show 1 + p - 1 = p by omega]
theorem t7_s (hp : p < 5) (hj : j < 7) : upd (t7_ c k (p + 1) g) (1 + p) (nI (qs_ (fun l => lt_ c l p) k + lt_ c k p)) j = t7_ c k (p + 1 + 1) g j := by
  unfold upd
  by_cases e : j = 1 + p
  · subst e
    rw [if_pos rfl]
    unfold t7_
    rw [if_neg (by omega), if_neg (by omega), if_pos (by omega), show 1 + p - 1 = p by omega]
    rfl
  · rw [if_neg e]
    unfold t7_
    by_cases e0 : j = 0
    · rw [if_pos e0, if_pos e0]
    · rw [if_neg e0, if_neg e0]
      by_cases e6 : j = 6
      · rw [if_pos e6, if_pos e6]
      · rw [if_neg e6, if_neg e6]
        by_cases q : j < p + 1
        · rw [if_pos q, if_pos (by omega)]
        · rw [if_neg q, if_neg (by omega)]
theorem t7_6 : t7_ c k 6 g 6 = nI g := rfl
theorem t7_g (hj : j < 7) : upd (t7_ c k 6 g) 6 (nI g') j = t7_ c k 6 g' j := by
  unfold upd
  by_cases e : j = 6
  · subst e; rfl
  · rw [if_neg e]
    unfold t7_
    rw [if_neg e, if_neg e]
theorem t7_z (hj : j < 7) (hk : k = sn c) (hg : g = qs_ (pF_ c) (10 * k)) : t7_ c k 1 g j = nI (to_ c j) := by
  subst hk
  unfold t7_ to_
  by_cases e0 : j = 0
  · rw [if_pos e0, if_pos e0]
  · rw [if_neg e0, if_neg e0]
    by_cases e6 : j = 6
    · rw [if_pos e6, if_pos e6, hg]
      rfl
    · rw [if_neg e6, if_neg e6, if_neg (by omega)]
      rfl
end T7
end
section
set_option maxHeartbeats 4000000 in
set_option maxRecDepth 100000 in
theorem c_X0_mean (l : Launch) (B0 : Nat) (g : va_G) (ct ad : Nat → Nat) (cS : St_) (mS : Pl_) (x : Ax_) : RD_ l yX0_mean wsX0_mean 5 (PX B0 g ct ad cS mS x [.ref (ad 0)]) (mn_ (al_ cS 0) (al_ cS 2)) := by
  refine Met.ofW (cc := cX0_mean) (maxL := 2) (ret := (some .double)) (by decide) rfl ?_
  intro p e s m args below meth c s₁ B hml hv
  obtain ⟨rfl, hC⟩ := hv
  have hx := B.exec
  have hb := B.bytes
  have hr := B.returns
  have hts := atoms_spec (ws := wsX0_mean) B.pre
  have hown : s.vm.findClass RX0 = some m.cls := findClass_of_methodNamed B.named
  have hlocks := B.notSynchronized
  have hin : ∀ w ∈ wsX00, w ∈ wsX0_mean := fun _ h => List.mem_cons_of_mem _ (List.mem_append_right _ h)
  have hI := hC.1.2.2.2
  have hal := al_b hI
  have hl := lv_entry ([.ref (ad 0)]) (n := 2) (Nat.le_of_ble_eq_true rfl)
  rw [lg_entry_eq]
  generalize (lg_sl ([.ref (ad 0)]) ++ List.replicate (2 - (lg_sl ([.ref (ad 0)])).length) Slot.unset).toArray = ls at hl ⊢
  have hl : lv_has ls 2 [(0, .ref (ad 0))] := hl
  refine lv_aload_n hx hb dX0_mean_0 rfl (lv_at hl 0 rfl) ?_
  refine lv_iconst (v := nI 0) hx hb dX0_mean_1 (by decide) ?_
  refine k_rV (As := [.int (nI 0)]) (rest := []) (c_X0_sumOverLines l B0 g ct ad cS mS x 0 (by omega)) hC ⟨hx, hb, hml, hown, hts⟩ (cwV 1 hts gX0_mean_X0_sumOverLines rfl rfl rfl (by decide +kernel) ⟨Nat.le_of_ble_eq_true rfl, Nat.le_of_ble_eq_true rfl⟩) (rc0 hC) rfl hl.1 rfl (Nat.le_of_ble_eq_true rfl) dX0_mean_2 ⟨(by show _ ≤ 0; omega), (by show _ ≤ 0; omega)⟩ ?_
  refine lv_istore_n (lv' := [(1, .int (nI (al_ cS 0))), (0, .ref (ad 0))]) hx hb dX0_mean_5 rfl hl (by decide) rfl (fun ls hl => ?_)
  refine lv_iload_n hx hb dX0_mean_6 rfl (lv_at hl 0 rfl) ?_
  refine lv_if_ne (tgt := 12) hx hb dX0_mean_7 (by decide) (fun c_7 => ?_) (fun c_7 => ?_)
  · skip
    have n_7 : ¬ al_ cS 0 = 0 := fun q__ => c_7 ((eq0_ (by omega)).mpr q__)
    refine lv_aload_n hx hb dX0_mean_12 rfl (lv_at hl 1 rfl) ?_
    refine lv_iconst (v := nI 2) hx hb dX0_mean_13 (by decide) ?_
    refine k_rV (As := [.int (nI 2)]) (rest := []) (c_X0_sumOverLines l B0 g ct ad cS mS x 2 (by omega)) hC ⟨hx, hb, hml, hown, hts⟩ (cwV 1 hts gX0_mean_X0_sumOverLines rfl rfl rfl (by decide +kernel) ⟨Nat.le_of_ble_eq_true rfl, Nat.le_of_ble_eq_true rfl⟩) (rc0 hC) rfl hl.1 rfl (Nat.le_of_ble_eq_true rfl) dX0_mean_14 ⟨(by show _ ≤ 0; omega), (by show _ ≤ 0; omega)⟩ ?_
    refine lv_i2d hx hb dX0_mean_17 ?_
    refine lv_iload_n hx hb dX0_mean_18 rfl (lv_at hl 0 rfl) ?_
    refine lv_i2d hx hb dX0_mean_19 ?_
    refine lv_ddiv hx hb dX0_mean_20 (nn_ (by omega) (by omega)) ?_
    exact W.dret hx hb hr (fun t ht hW => ⟨_, rfl, (mn_1 n_7).symm, ht⟩) (fun q hq => absurd hq List.not_mem_nil) dX0_mean_21
  · skip
    have n_7 : al_ cS 0 = 0 := (eq0_ (by omega)).mp c_7
    refine lv_dconst0 hx hb dX0_mean_10 ?_
    exact W.dret hx hb hr (fun t ht hW => ⟨_, rfl, (mn_0 n_7).symm, ht⟩) (fun q hq => absurd hq List.not_mem_nil) dX0_mean_11
set_option maxHeartbeats 4000000 in
set_option maxRecDepth 100000 in
theorem c_X1_isSame (l : Launch) (B0 : Nat) (g : va_G) (ct ad : Nat → Nat) (cS : St_) (mS : Pl_) (x : Ax_) (o : Nat) (hJ : SI_ ct mS o cS) : WQ l yX1_isSame wsX1_isSame 6 734 4267 B0 g ct ad cS mS x [.ref o, .ref (ad 0)] (nI 1) cS (fun m1 => Ex_ mS m1) := by
  refine Met.ofW (cc := cX1_isSame) (maxL := 10) (ret := (some .boolean)) (by decide) rfl ?_
  intro p e s m args below meth c s₁ B hml hv
  obtain ⟨rfl, hC⟩ := hv
  have hx := B.exec
  have hb := B.bytes
  have hr := B.returns
  have hts := atoms_spec (ws := wsX1_isSame) B.pre
  have hown : s.vm.findClass RX1 = some m.cls := findClass_of_methodNamed B.named
  have hlocks := B.notSynchronized
  have hin : ∀ w ∈ wsX00, w ∈ wsX1_isSame := fun _ h => List.mem_cons_of_mem _ (List.mem_append_left _ (List.mem_append_right _ h))
  have hin1 : ∀ w ∈ wsX10, w ∈ wsX1_isSame := fun _ h => List.mem_cons_of_mem _ (List.mem_append_left _ (List.mem_append_left _ (List.mem_append_right _ h)))
  have hS : va_S (AA B0) s.heap s.heap [] := va_S.rf
  have hB : B0 ≤ s.heap.size := hC.1.2.2.1
  have hI := hC.1.2.2.2
  obtain ⟨lo, mo, la, wa, ba, hJ0⟩ := hJ
  have hE := Ex_r mS
  have h12 := hI.2.1
  have h10 := hI.2.2.1
  have hal := al_b hI
  have ho9 := hI.1
  have hl := lv_entry ([.ref o, .ref (ad 0)]) (n := 10) (Nat.le_of_ble_eq_true rfl)
  rw [lg_entry_eq]
  generalize (lg_sl ([.ref o, .ref (ad 0)]) ++ List.replicate (10 - (lg_sl ([.ref o, .ref (ad 0)])).length) Slot.unset).toArray = ls at hl ⊢
  have hl : lv_has ls 10 [(0, .ref o), (1, .ref (ad 0))] := hl
  refine lv_bipush (v := nI 7) hx hb dX1_isSame_0 (by decide) ?_
  refine n_i hC hB hS hx hb (hts (.arrayClass .int) (by decide +kernel)) (j := 7) (by omega) (by show _ ≤ 734; omega) (by show _ ≤ 4267; omega) dX1_isSame_2 (fun q_2 m_2 H fq_2 xq_2 A_2 hC hS => ?_)
  have fb_2 : q_2 ∉ mS.1 := hE.nin fq_2
  have hE := Ex_t hE xq_2
  refine lv_dup hx hb dX1_isSame_4 rfl ?_
  refine lv_iconst (v := nI 0) hx hb dX1_isSame_5 (by decide) ?_
  refine lv_aload_n hx hb dX1_isSame_6 rfl (lv_at hl 0 rfl) ?_
  refine q_f hC hx hb hts hin1 hown (hJ0.1.ex hE) 1 (by decide) (hts (.fieldLink RX1 9 "AbjadPoemsLaw$Sim" "lines" "[[I") (by decide +kernel)) (v := .ref lo) rfl dX1_isSame_7 ?_
  refine q_ol hC hx hb (hJ0.2.1.ex hE) (ty := .array .int) rfl dX1_isSame_10 ?_
  refine u_i hC hB hS hx hb A_2 dX1_isSame_11 (j := 0) (v := nI (sn cS)) (by omega) (by omega) (fun m_11 H locs pu_11 A_11 hC hS => ?_)
  have hE := hE.pu fb_2 pu_11
  refine lv_dup hx hb dX1_isSame_12 rfl ?_
  refine lv_iconst (v := nI 1) hx hb dX1_isSame_13 (by decide) ?_
  refine lv_iconst (v := nI 0) hx hb dX1_isSame_14 (by decide) ?_
  refine u_i hC hB hS hx hb A_11 dX1_isSame_15 (j := 1) (v := nI 0) (by omega) (by omega) (fun m_15 H locs pu_15 A_15 hC hS => ?_)
  have hE := hE.pu fb_2 pu_15
  refine lv_dup hx hb dX1_isSame_16 rfl ?_
  refine lv_iconst (v := nI 2) hx hb dX1_isSame_17 (by decide) ?_
  refine lv_iconst (v := nI 0) hx hb dX1_isSame_18 (by decide) ?_
  refine u_i hC hB hS hx hb A_15 dX1_isSame_19 (j := 2) (v := nI 0) (by omega) (by omega) (fun m_19 H locs pu_19 A_19 hC hS => ?_)
  have hE := hE.pu fb_2 pu_19
  refine lv_dup hx hb dX1_isSame_20 rfl ?_
  refine lv_iconst (v := nI 3) hx hb dX1_isSame_21 (by decide) ?_
  refine lv_iconst (v := nI 0) hx hb dX1_isSame_22 (by decide) ?_
  refine u_i hC hB hS hx hb A_19 dX1_isSame_23 (j := 3) (v := nI 0) (by omega) (by omega) (fun m_23 H locs pu_23 A_23 hC hS => ?_)
  have hE := hE.pu fb_2 pu_23
  refine lv_dup hx hb dX1_isSame_24 rfl ?_
  refine lv_iconst (v := nI 4) hx hb dX1_isSame_25 (by decide) ?_
  refine lv_iconst (v := nI 0) hx hb dX1_isSame_26 (by decide) ?_
  refine u_i hC hB hS hx hb A_23 dX1_isSame_27 (j := 4) (v := nI 0) (by omega) (by omega) (fun m_27 H locs pu_27 A_27 hC hS => ?_)
  have hE := hE.pu fb_2 pu_27
  refine lv_dup hx hb dX1_isSame_28 rfl ?_
  refine lv_iconst (v := nI 5) hx hb dX1_isSame_29 (by decide) ?_
  refine lv_iconst (v := nI 0) hx hb dX1_isSame_30 (by decide) ?_
  refine u_i hC hB hS hx hb A_27 dX1_isSame_31 (j := 5) (v := nI 0) (by omega) (by omega) (fun m_31 H locs pu_31 A_31 hC hS => ?_)
  have hE := hE.pu fb_2 pu_31
  refine lv_dup hx hb dX1_isSame_32 rfl ?_
  refine lv_bipush (v := nI 6) hx hb dX1_isSame_33 (by decide) ?_
  refine lv_iconst (v := nI 0) hx hb dX1_isSame_35 (by decide) ?_
  refine u_i hC hB hS hx hb A_31 dX1_isSame_36 (j := 6) (v := nI 0) (by omega) (by omega) (fun m_36 H locs pu_36 A_36 hC hS => ?_)
  have hE := hE.pu fb_2 pu_36
  have A_36 : AI_ ct m_36 q_2 7 (t7_ cS 0 1 0) := A_36.to (fun j hj => by rcases (show j = 0 ∨ j = 1 ∨ j = 2 ∨ j = 3 ∨ j = 4 ∨ j = 5 ∨ j = 6 by omega) with rfl | rfl | rfl | rfl | rfl | rfl | rfl <;> rfl)
  refine lv_astore_n (lv' := [(2, .ref q_2), (0, .ref o), (1, .ref (ad 0))]) hx hb dX1_isSame_37 rfl hl (by decide) rfl (fun ls hl => ?_)
  refine lv_bipush (v := nI 120) hx hb dX1_isSame_38 (by decide) ?_
  refine n_i hC hB hS hx hb (hts (.arrayClass .int) (by decide +kernel)) (j := 120) (by omega) (by show _ ≤ 734; omega) (by show _ ≤ 4267; omega) dX1_isSame_40 (fun q_40 m_40 H fq_40 xq_40 A_40 hC hS => ?_)
  have d_40_2 : q_2 ≠ q_40 := fun e9 => fq_40 (e9 ▸ A_36.1)
  have A_36 := A_36.ex xq_40
  have fb_40 : q_40 ∉ mS.1 := hE.nin fq_40
  have hE := Ex_t hE xq_40
  refine lv_astore_n (lv' := [(3, .ref q_40), (2, .ref q_2), (0, .ref o), (1, .ref (ad 0))]) hx hb dX1_isSame_42 rfl hl (by decide) rfl (fun ls hl => ?_)
  refine lv_iconst (v := nI 0) hx hb dX1_isSame_43 (by decide) ?_
  refine lv_istore (lv' := [(4, .int (nI 0)), (3, .ref q_40), (2, .ref q_2), (0, .ref o), (1, .ref (ad 0))]) hx hb dX1_isSame_44 hl (by decide) rfl (fun ls hl => ?_)
  refine lv_iconst (v := nI 0) hx hb dX1_isSame_46 (by decide) ?_
  refine lv_istore (lv' := [(5, .int (nI 0)), (4, .int (nI 0)), (3, .ref q_40), (2, .ref q_2), (0, .ref o), (1, .ref (ad 0))]) hx hb dX1_isSame_47 hl (by decide) rfl (fun ls hl => ?_)
  have LP_49 : ∀ (n_ : Nat) (k : Nat) (sN : Nat) (gN : Nat) (Vf : Nat → Int32) (mL : Pl_) (xL : Ax_), sn cS - k < n_ → (gN = qs_ (pF_ cS) (10 * k)) → (∀ v : Int32, qs_ (fun j => if Vf j = v then 1 else 0) sN = qs_ (pV_ cS v) (10 * k)) → (sN ≤ 10 * k) → (k ≤ sn cS) → Ex_ mS mL → AI_ ct mL q_2 7 (t7_ cS k 1 gN) → AI_ ct mL q_40 120 (Vf) → ∀ (H : Heap) (locs : List Loc), CX B0 g ct ad cS mL xL s H → va_S (AA B0) s.heap H locs → ∀ ls : Array Slot, lv_has ls 10 [(5, .int (nI k)), (4, .int (nI sN)), (3, .ref q_40), (2, .ref q_2), (0, .ref o), (1, .ref (ad 0))] → W p l e (headSpec wsX1_isSame (rm_ 6 734 4267)).room s m ([.ref o, .ref (ad 0)] : List Value).toArray below meth c H locs (2 + 61 * k) (127 + 345 * k) (MQ below (va_Qi (fun r (u : Qu_) => r = nI 1 ∧ (fun m1 => Ex_ mS m1) u.1) (fun u t => CW B0 g ct ad cS u.1 u.2 t.heap) (AA B0)) ([.ref o, .ref (ad 0)] : List Value).toArray s 734 4267 (AA B0)) (F0 m 49 ls []) := by
    intro n_
    induction n_ with
    | zero => intro k sN gN Vf mL xL hm; exact absurd hm (Nat.not_lt_zero _)
    | succ n_ ih_49 =>
      intro k sN gN Vf mL xL hm hg hw hN hk hE A_36 A_40 H locs hC hS ls hl
      have hz := h10 k
      refine lv_iload hx hb dX1_isSame_49 (lv_at hl 0 rfl) ?_
      refine lv_aload_n hx hb dX1_isSame_51 rfl (lv_at hl 4 rfl) ?_
      refine q_f hC hx hb hts hin1 hown (hJ0.1.ex hE) 1 (by decide) (hts (.fieldLink RX1 9 "AbjadPoemsLaw$Sim" "lines" "[[I") (by decide +kernel)) (v := .ref lo) rfl dX1_isSame_52 ?_
      refine q_ol hC hx hb (hJ0.2.1.ex hE) (ty := .array .int) rfl dX1_isSame_55 ?_
      refine lv_icmp_ge (tgt := 237) hx hb dX1_isSame_56 (by decide) (fun c_56 => ?_) (fun c_56 => ?_)
      · skip
        have n_56 : sn cS ≤ k := (nI_leI (a := sn cS) (b := k) (by omega) (by omega)).mp c_56
        have hk9 : k = sn cS := by omega
        have A_36 : AI_ ct mL q_2 7 (fun q => nI (to_ cS q)) := A_36.to (fun j hj => t7_z hj hk9 hg)
        refine lv_iconst (v := nI 0) hx hb dX1_isSame_237 (by decide) ?_
        refine lv_istore (lv' := [(5, .int (nI 0)), (4, .int (nI sN)), (3, .ref q_40), (2, .ref q_2), (0, .ref o), (1, .ref (ad 0))]) hx hb dX1_isSame_238 hl (by decide) rfl (fun ls hl => ?_)
        have LP_240 : ∀ (n_ : Nat) (p_ : Nat) (mL : Pl_) (xL : Ax_), 7 - p_ < n_ → (p_ ≤ 7) → Ex_ mS mL → AI_ ct mL q_2 7 (fun q => nI (to_ cS q)) → AI_ ct mL q_40 120 (Vf) → ∀ (H : Heap) (locs : List Loc), CX B0 g ct ad cS mL xL s H → va_S (AA B0) s.heap H locs → ∀ ls : Array Slot, lv_has ls 10 [(5, .int (nI p_)), (3, .ref q_40), (2, .ref q_2), (0, .ref o), (1, .ref (ad 0))] → W p l e (headSpec wsX1_isSame (rm_ 6 734 4267)).room s m ([.ref o, .ref (ad 0)] : List Value).toArray below meth c H locs 734 4267 (MQ below (va_Qi (fun r (u : Qu_) => r = nI 1 ∧ (fun m1 => Ex_ mS m1) u.1) (fun u t => CW B0 g ct ad cS u.1 u.2 t.heap) (AA B0)) ([.ref o, .ref (ad 0)] : List Value).toArray s 734 4267 (AA B0)) (F0 m 240 ls []) := by
          intro n_
          induction n_ with
          | zero => intro p_ mL xL hm; exact absurd hm (Nat.not_lt_zero _)
          | succ n_ ih_240 =>
            intro p_ mL xL hm hp7 hE A_36 A_40 H locs hC hS ls hl
            refine lv_iload hx hb dX1_isSame_240 (lv_at hl 0 rfl) ?_
            refine lv_bipush (v := nI 7) hx hb dX1_isSame_242 (by decide) ?_
            refine lv_icmp_ge (tgt := 268) hx hb dX1_isSame_244 (by decide) (fun c_244 => ?_) (fun c_244 => ?_)
            · skip
              have n_244 : 7 ≤ p_ := (nI_leI (a := 7) (b := p_) (by omega) (by omega)).mp c_244
              refine lv_aload_n hx hb dX1_isSame_268 rfl (lv_at hl 4 rfl) ?_
              refine k_dV (As := []) (rest := []) (c_X0_mean l B0 g ct ad cS mL xL) hC ⟨hx, hb, hml, hown, hts⟩ (cwV 0 hts gX1_isSame_X0_mean rfl rfl rfl (by decide +kernel) ⟨Nat.le_of_ble_eq_true rfl, Nat.le_of_ble_eq_true rfl⟩) (rc0 hC) rfl hl.1 rfl (Nat.le_of_ble_eq_true rfl) dX1_isSame_269 ⟨(by show _ ≤ 734; omega), (by show _ ≤ 4267; omega)⟩ ?_
              refine lv_aload_n hx hb dX1_isSame_272 rfl (lv_at hl 2 rfl) ?_
              refine lv_iconst (v := nI 1) hx hb dX1_isSame_273 (by decide) ?_
              refine q_i hC hx hb A_36 dX1_isSame_274 (j := 1) (by omega) (by omega) ?_
              refine lv_tn (w := nI (al_ cS 0)) rfl ?_
              refine lv_if_ne (tgt := 282) hx hb dX1_isSame_275 (by decide) (fun c_275 => ?_) (fun c_275 => ?_)
              · skip
                have n_275 : ¬ al_ cS 0 = 0 := fun q__ => c_275 ((eq0_ (by omega)).mpr q__)
                refine lv_aload_n hx hb dX1_isSame_282 rfl (lv_at hl 2 rfl) ?_
                refine lv_iconst (v := nI 3) hx hb dX1_isSame_283 (by decide) ?_
                refine q_i hC hx hb A_36 dX1_isSame_284 (j := 3) (by omega) (by omega) ?_
                refine lv_tn (w := nI (al_ cS 2)) rfl ?_
                refine lv_i2d hx hb dX1_isSame_285 ?_
                refine lv_aload_n hx hb dX1_isSame_286 rfl (lv_at hl 2 rfl) ?_
                refine lv_iconst (v := nI 1) hx hb dX1_isSame_287 (by decide) ?_
                refine q_i hC hx hb A_36 dX1_isSame_288 (j := 1) (by omega) (by omega) ?_
                refine lv_tn (w := nI (al_ cS 0)) rfl ?_
                refine lv_i2d hx hb dX1_isSame_289 ?_
                refine lv_ddiv hx hb dX1_isSame_290 (nn_ (by omega) (by omega)) ?_
                refine lv_dcmp hx hb dX1_isSame_291 ?_
                refine lv_tn (w := nI 0) (dc_ (by omega) (mn_1 n_275).symm) ?_
                refine lv_if_ne (tgt := 299) hx hb dX1_isSame_292 (by decide) (fun c_292 => ?_) (fun c_292 => ?_)
                · skip
                  have n_292 : ¬ 0 = 0 := fun q__ => c_292 ((eq0_ (by omega)).mpr q__)
                  exact absurd rfl n_292
                · skip
                  have n_292 : 0 = 0 := (eq0_ (by omega)).mp c_292
                  refine lv_iconst (v := nI 1) hx hb dX1_isSame_295 (by decide) ?_
                  refine lv_goto (tgt := 300) hx hb dX1_isSame_296 (by decide) ?_
                  refine W.widen (k := 734) (n := 4267) (by omega) (by omega) ?_
                  exact W.zret hx hb hr rfl (fun t ht hW => ⟨⟨_, (mL, xL), rfl, ⟨rfl, hE⟩, (by show CW B0 g ct ad cS mL xL t.heap; rw [ht]; exact hC.1)⟩, hS.F ht⟩) hS.2.2 dX1_isSame_300
              · skip
                have n_275 : al_ cS 0 = 0 := (eq0_ (by omega)).mp c_275
                refine lv_dconst0 hx hb dX1_isSame_278 ?_
                refine lv_goto (tgt := 291) hx hb dX1_isSame_279 (by decide) ?_
                refine lv_dcmp hx hb dX1_isSame_291 ?_
                refine lv_tn (w := nI 0) (dc_ (by omega) (mn_0 n_275).symm) ?_
                refine lv_if_ne (tgt := 299) hx hb dX1_isSame_292 (by decide) (fun c_292 => ?_) (fun c_292 => ?_)
                · skip
                  have n_292 : ¬ 0 = 0 := fun q__ => c_292 ((eq0_ (by omega)).mpr q__)
                  exact absurd rfl n_292
                · skip
                  have n_292 : 0 = 0 := (eq0_ (by omega)).mp c_292
                  refine lv_iconst (v := nI 1) hx hb dX1_isSame_295 (by decide) ?_
                  refine lv_goto (tgt := 300) hx hb dX1_isSame_296 (by decide) ?_
                  refine W.widen (k := 734) (n := 4267) (by omega) (by omega) ?_
                  exact W.zret hx hb hr rfl (fun t ht hW => ⟨⟨_, (mL, xL), rfl, ⟨rfl, hE⟩, (by show CW B0 g ct ad cS mL xL t.heap; rw [ht]; exact hC.1)⟩, hS.F ht⟩) hS.2.2 dX1_isSame_300
            · skip
              have n_244 : ¬ 7 ≤ p_ := fun q__ => c_244 ((nI_leI (a := 7) (b := p_) (by omega) (by omega)).mpr q__)
              refine lv_aload_n hx hb dX1_isSame_247 rfl (lv_at hl 4 rfl) ?_
              refine lv_iload hx hb dX1_isSame_248 (lv_at hl 0 rfl) ?_
              refine k_wV (As := [.int (nI p_)]) (rest := []) (c_X0_told l B0 g ct ad cS mL xL p_ (by omega)) hC hB hS ⟨hx, hb, hml, hown, hts⟩ (cwV 1 hts gX1_isSame_X0_told rfl rfl rfl (by decide +kernel) ⟨Nat.le_of_ble_eq_true rfl, Nat.le_of_ble_eq_true rfl⟩) (rc0 hC) rfl hl.1 rfl (Nat.le_of_ble_eq_true rfl) dX1_isSame_250 ⟨(by show _ ≤ 734; omega), (by show _ ≤ 4267; omega)⟩ (fun u_250 H locs hu_250 hC hS => ?_)
              refine lv_aload_n hx hb dX1_isSame_253 rfl (lv_at hl 2 rfl) ?_
              refine lv_iload hx hb dX1_isSame_254 (lv_at hl 0 rfl) ?_
              refine q_i hC hx hb A_36 dX1_isSame_256 (j := p_) (by omega) (by omega) ?_
              refine lv_tn (w := nI (to_ cS p_)) rfl ?_
              refine lv_icmp_eq (tgt := 262) hx hb dX1_isSame_257 (by decide) (fun c_257 => ?_) (fun c_257 => ?_)
              · skip
                refine lv_iinc (v := nI (p_ + 1)) (lv' := [(5, .int (nI (p_ + 1))), (3, .ref q_40), (2, .ref q_2), (0, .ref o), (1, .ref (ad 0))]) hx hb dX1_isSame_262 hl (k := 0) rfl (nI_1 _) (by decide) rfl (fun ls hl => ?_)
                refine lv_goto (tgt := 240) hx hb dX1_isSame_265 (by decide) ?_
                refine W.widen (k := 734) (n := 4267) (by omega) (by omega) ?_
                exact ih_240 (p_ + 1) mL u_250 (by omega) (by omega) hE A_36 A_40 H locs hC hS ls (lv_sub hl [0, 1, 2, 3, 4] rfl)
              · skip
                exact absurd rfl c_257
        refine W.widen (k := 734) (n := 4267) (by omega) (by omega) ?_
        exact LP_240 _ 0 mL xL (Nat.lt_succ_self _) (Nat.zero_le _) hE A_36 A_40 H locs hC hS ls (lv_sub hl [0, 2, 3, 4, 5] rfl)
      · skip
        have n_56 : ¬ sn cS ≤ k := fun q__ => c_56 ((nI_leI (a := sn cS) (b := k) (by omega) (by omega)).mpr q__)
        refine lv_aload_n hx hb dX1_isSame_59 rfl (lv_at hl 4 rfl) ?_
        refine lv_iload hx hb dX1_isSame_60 (lv_at hl 0 rfl) ?_
        refine k_RV (As := [.int (nI k)]) (rest := []) (c_X1_line l B0 g ct ad cS mL xL o cS hI ⟨lo, mo, la, wa, ba, hJ0.ex hE⟩ k (by omega)) hC hS ⟨hx, hb, hml, hown, hts⟩ (cwV 1 hts gX1_isSame_X1_line rfl rfl rfl (by decide +kernel) ⟨Nat.le_of_ble_eq_true rfl, Nat.le_of_ble_eq_true rfl⟩) (rc1 hC (hJ0.1.ex hE)) rfl hl.1 rfl (Nat.le_of_ble_eq_true rfl) dX1_isSame_62 ⟨(by show _ ≤ 734; omega), (by show _ ≤ 4267; omega)⟩ (fun m_62 x_62 q_62 H locs hr_62 hC hS => ?_)
        obtain ⟨xq_62, fq_62, A_62⟩ := hr_62
        have d_62_2 : q_2 ≠ q_62 := fun e9 => fq_62 (e9 ▸ A_36.1)
        have A_36 := A_36.ex xq_62
        have d_62_40 : q_40 ≠ q_62 := fun e9 => fq_62 (e9 ▸ A_40.1)
        have A_40 := A_40.ex xq_62
        have fb_62 : q_62 ∉ mS.1 := hE.nin fq_62
        have hE := Ex_t hE xq_62
        refine lv_astore (lv' := [(6, .ref q_62), (5, .int (nI k)), (4, .int (nI sN)), (3, .ref q_40), (2, .ref q_2), (0, .ref o), (1, .ref (ad 0))]) hx hb dX1_isSame_65 hl (by decide) rfl (fun ls hl => ?_)
        refine lv_iconst (v := nI 0) hx hb dX1_isSame_67 (by decide) ?_
        refine lv_istore (lv' := [(7, .int (nI 0)), (6, .ref q_62), (5, .int (nI k)), (4, .int (nI sN)), (3, .ref q_40), (2, .ref q_2), (0, .ref o), (1, .ref (ad 0))]) hx hb dX1_isSame_68 hl (by decide) rfl (fun ls hl => ?_)
        have LP_70 : ∀ (n_ : Nat) (p_ : Nat) (mL : Pl_) (xL : Ax_), 5 - p_ < n_ → (p_ ≤ 5) → Ex_ mS mL → AI_ ct mL q_2 7 (t7_ cS k (p_ + 1) gN) → AI_ ct mL q_40 120 (Vf) → AI_ ct mL q_62 5 (fun q => nI (lt_ cS k q)) → ∀ (H : Heap) (locs : List Loc), CX B0 g ct ad cS mL xL s H → va_S (AA B0) s.heap H locs → ∀ ls : Array Slot, lv_has ls 10 [(7, .int (nI p_)), (6, .ref q_62), (5, .int (nI k)), (4, .int (nI sN)), (3, .ref q_40), (2, .ref q_2), (0, .ref o), (1, .ref (ad 0))] → W p l e (headSpec wsX1_isSame (rm_ 6 734 4267)).room s m ([.ref o, .ref (ad 0)] : List Value).toArray below meth c H locs (2 + 61 * k + 31) (127 + 345 * k + 175) (MQ below (va_Qi (fun r (u : Qu_) => r = nI 1 ∧ (fun m1 => Ex_ mS m1) u.1) (fun u t => CW B0 g ct ad cS u.1 u.2 t.heap) (AA B0)) ([.ref o, .ref (ad 0)] : List Value).toArray s 734 4267 (AA B0)) (F0 m 70 ls []) := by
          intro n_
          induction n_ with
          | zero => intro p_ mL xL hm; exact absurd hm (Nat.not_lt_zero _)
          | succ n_ ih_70 =>
            intro p_ mL xL hm hp hE A_36 A_40 A_62 H locs hC hS ls hl
            refine lv_iload hx hb dX1_isSame_70 (lv_at hl 0 rfl) ?_
            refine lv_iconst (v := nI 5) hx hb dX1_isSame_72 (by decide) ?_
            refine lv_icmp_ge (tgt := 114) hx hb dX1_isSame_73 (by decide) (fun c_73 => ?_) (fun c_73 => ?_)
            · skip
              have n_73 : 5 ≤ p_ := (nI_leI (a := 5) (b := p_) (by omega) (by omega)).mp c_73
              have hp5 : p_ = 5 := by omega
              refine lv_iconst (v := nI 0) hx hb dX1_isSame_114 (by decide) ?_
              refine lv_istore (lv' := [(7, .int (nI 0)), (6, .ref q_62), (5, .int (nI k)), (4, .int (nI sN)), (3, .ref q_40), (2, .ref q_2), (0, .ref o), (1, .ref (ad 0))]) hx hb dX1_isSame_115 hl (by decide) rfl (fun ls hl => ?_)
              have LP_117 : ∀ (n_ : Nat) (w : Nat) (sM : Nat) (g1 : Nat) (Vg : Nat → Int32) (mL : Pl_) (xL : Ax_), ss cS k - w < n_ → (g1 = qs_ (pF_ cS) (10 * k + w)) → (∀ v : Int32, qs_ (fun j => if Vg j = v then 1 else 0) sM = qs_ (pV_ cS v) (10 * k + w)) → (sM ≤ 10 * k + w) → (w ≤ ss cS k) → Ex_ mS mL → AI_ ct mL q_2 7 (t7_ cS k 6 g1) → AI_ ct mL q_40 120 (Vg) → AI_ ct mL q_62 5 (fun q => nI (lt_ cS k q)) → ∀ (H : Heap) (locs : List Loc), CX B0 g ct ad cS mL xL s H → va_S (AA B0) s.heap H locs → ∀ ls : Array Slot, lv_has ls 10 [(7, .int (nI w)), (6, .ref q_62), (5, .int (nI k)), (4, .int (nI sM)), (3, .ref q_40), (2, .ref q_2), (0, .ref o), (1, .ref (ad 0))] → W p l e (headSpec wsX1_isSame (rm_ 6 734 4267)).room s m ([.ref o, .ref (ad 0)] : List Value).toArray below meth c H locs (2 + 61 * k + 31 + 3 * w) (127 + 345 * k + 175 + 17 * w) (MQ below (va_Qi (fun r (u : Qu_) => r = nI 1 ∧ (fun m1 => Ex_ mS m1) u.1) (fun u t => CW B0 g ct ad cS u.1 u.2 t.heap) (AA B0)) ([.ref o, .ref (ad 0)] : List Value).toArray s 734 4267 (AA B0)) (F0 m 117 ls []) := by
                intro n_
                induction n_ with
                | zero => intro w sM g1 Vg mL xL hm; exact absurd hm (Nat.not_lt_zero _)
                | succ n_ ih_117 =>
                  intro w sM g1 Vg mL xL hm hu hq hM hj hE A_36 A_40 A_62 H locs hC hS ls hl
                  refine lv_iload hx hb dX1_isSame_117 (lv_at hl 0 rfl) ?_
                  refine lv_aload_n hx hb dX1_isSame_119 rfl (lv_at hl 6 rfl) ?_
                  refine q_f hC hx hb hts hin1 hown (hJ0.1.ex hE) 1 (by decide) (hts (.fieldLink RX1 9 "AbjadPoemsLaw$Sim" "lines" "[[I") (by decide +kernel)) (v := .ref lo) rfl dX1_isSame_120 ?_
                  refine lv_iload hx hb dX1_isSame_123 (lv_at hl 2 rfl) ?_
                  refine q_o hC hx hb (hJ0.2.1.ex hE) (ty := .array .int) rfl rfl dX1_isSame_125 (j := k) (by omega) (by omega) (v := la k) rfl ?_
                  refine q_il hC hx hb ((hJ0.2.2.2.1 k (by omega)).ex hE) dX1_isSame_126 ?_
                  refine lv_icmp_ge (tgt := 231) hx hb dX1_isSame_127 (by decide) (fun c_127 => ?_) (fun c_127 => ?_)
                  · skip
                    have n_127 : ss cS k ≤ w := (nI_leI (a := ss cS k) (b := w) (by omega) (by omega)).mp c_127
                    have hw9 : w = ss cS k := by omega
                    refine lv_iinc (v := nI (k + 1)) (lv' := [(5, .int (nI (k + 1))), (7, .int (nI w)), (6, .ref q_62), (4, .int (nI sM)), (3, .ref q_40), (2, .ref q_2), (0, .ref o), (1, .ref (ad 0))]) hx hb dX1_isSame_231 hl (k := 2) rfl (nI_1 _) (by decide) rfl (fun ls hl => ?_)
                    refine lv_goto (tgt := 49) hx hb dX1_isSame_234 (by decide) ?_
                    refine W.widen (k := 2 + 61 * (k + 1)) (n := 127 + 345 * (k + 1)) (by omega) (by omega) ?_
                    exact ih_49 (k + 1) sM g1 Vg mL xL (by omega) (by rw [hu, pF_e hz, show w = ss cS k by omega]) (fun v => by rw [pV_e hz, hq v, show w = ss cS k by omega]) (by omega) (by omega) hE (A_36.to (fun j hj => t7_n hj)) (A_40.to (fun j hj => rfl)) H locs hC hS ls (lv_sub hl [0, 3, 4, 5, 6, 7] rfl)
                  · skip
                    have n_127 : ¬ ss cS k ≤ w := fun q__ => c_127 ((nI_leI (a := ss cS k) (b := w) (by omega) (by omega)).mpr q__)
                    have hon : on_ cS (10 * k + w) = true := on_t (by omega) (by omega) (by omega)
                    have hww := hI.2.2.2.1 (10 * k + w)
                    refine lv_aload_n hx hb dX1_isSame_130 rfl (lv_at hl 6 rfl) ?_
                    refine lv_iload hx hb dX1_isSame_131 (lv_at hl 2 rfl) ?_
                    refine lv_iload hx hb dX1_isSame_133 (lv_at hl 0 rfl) ?_
                    refine k_RV (As := [.int (nI k), .int (nI w)]) (rest := []) (c_X1_word l B0 g ct ad cS mL xL o cS hI ⟨lo, mo, la, wa, ba, hJ0.ex hE⟩ k w (by omega) (by omega)) hC hS ⟨hx, hb, hml, hown, hts⟩ (cwV 2 hts gX1_isSame_X1_word rfl rfl rfl (by decide +kernel) ⟨Nat.le_of_ble_eq_true rfl, Nat.le_of_ble_eq_true rfl⟩) (rc1 hC (hJ0.1.ex hE)) rfl hl.1 rfl (Nat.le_of_ble_eq_true rfl) dX1_isSame_135 ⟨(by show _ ≤ 734; omega), (by show _ ≤ 4267; omega)⟩ (fun m_135 x_135 q_135 H locs hr_135 hC hS => ?_)
                    obtain ⟨xq_135, fq_135, A_135⟩ := hr_135
                    have d_135_2 : q_2 ≠ q_135 := fun e9 => fq_135 (e9 ▸ A_36.1)
                    have A_36 := A_36.ex xq_135
                    have d_135_40 : q_40 ≠ q_135 := fun e9 => fq_135 (e9 ▸ A_40.1)
                    have A_40 := A_40.ex xq_135
                    have d_135_62 : q_62 ≠ q_135 := fun e9 => fq_135 (e9 ▸ A_62.1)
                    have A_62 := A_62.ex xq_135
                    have fb_135 : q_135 ∉ mS.1 := hE.nin fq_135
                    have hE := Ex_t hE xq_135
                    refine lv_astore (lv' := [(8, .ref q_135), (7, .int (nI w)), (6, .ref q_62), (5, .int (nI k)), (4, .int (nI sM)), (3, .ref q_40), (2, .ref q_2), (0, .ref o), (1, .ref (ad 0))]) hx hb dX1_isSame_138 hl (by decide) rfl (fun ls hl => ?_)
                    refine lv_iconst (v := nI 0) hx hb dX1_isSame_140 (by decide) ?_
                    refine lv_istore (lv' := [(9, .int (nI 0)), (8, .ref q_135), (7, .int (nI w)), (6, .ref q_62), (5, .int (nI k)), (4, .int (nI sM)), (3, .ref q_40), (2, .ref q_2), (0, .ref o), (1, .ref (ad 0))]) hx hb dX1_isSame_141 hl (by decide) rfl (fun ls hl => ?_)
                    have LP_143 : ∀ (n_ : Nat) (p_ : Nat), 5 - p_ < n_ → (p_ ≤ 5) → ∀ ls : Array Slot, lv_has ls 10 [(9, .int (nI p_)), (8, .ref q_135), (7, .int (nI w)), (6, .ref q_62), (5, .int (nI k)), (4, .int (nI sM)), (3, .ref q_40), (2, .ref q_2), (0, .ref o), (1, .ref (ad 0))] → W p l e (headSpec wsX1_isSame (rm_ 6 734 4267)).room s m ([.ref o, .ref (ad 0)] : List Value).toArray below meth c H locs (2 + 61 * k + 31 + 3 * w + 3) (127 + 345 * k + 175 + 17 * w + 17) (MQ below (va_Qi (fun r (u : Qu_) => r = nI 1 ∧ (fun m1 => Ex_ mS m1) u.1) (fun u t => CW B0 g ct ad cS u.1 u.2 t.heap) (AA B0)) ([.ref o, .ref (ad 0)] : List Value).toArray s 734 4267 (AA B0)) (F0 m 143 ls []) := by
                      intro n_
                      induction n_ with
                      | zero => intro p_ hm; exact absurd hm (Nat.not_lt_zero _)
                      | succ n_ ih_143 =>
                        intro p_ hm hp2 ls hl
                        refine lv_iload hx hb dX1_isSame_143 (lv_at hl 0 rfl) ?_
                        refine lv_iconst (v := nI 5) hx hb dX1_isSame_145 (by decide) ?_
                        refine lv_icmp_ge (tgt := 175) hx hb dX1_isSame_146 (by decide) (fun c_146 => ?_) (fun c_146 => ?_)
                        · skip
                          have n_146 : 5 ≤ p_ := (nI_leI (a := 5) (b := p_) (by omega) (by omega)).mp c_146
                          refine lv_iconst (v := nI 0) hx hb dX1_isSame_175 (by decide) ?_
                          refine lv_istore (lv' := [(9, .int (nI 0)), (8, .ref q_135), (7, .int (nI w)), (6, .ref q_62), (5, .int (nI k)), (4, .int (nI sM)), (3, .ref q_40), (2, .ref q_2), (0, .ref o), (1, .ref (ad 0))]) hx hb dX1_isSame_176 hl (by decide) rfl (fun ls hl => ?_)
                          have LP_178 : ∀ (n_ : Nat) (z_ : Nat) (g2 : Nat) (mL : Pl_) (xL : Ax_), sM - z_ < n_ → (g2 = g1 + qs_ (fun j => if Vg j = nI (ws0 (so cS) (sw cS (10 * k + w))) then 1 else 0) z_) → (z_ ≤ sM) → Ex_ mS mL → AI_ ct mL q_2 7 (t7_ cS k 6 g2) → AI_ ct mL q_40 120 (Vg) → AI_ ct mL q_62 5 (fun q => nI (lt_ cS k q)) → AI_ ct mL q_135 5 (fun q => nI (wt_ cS k w q)) → ∀ (H : Heap) (locs : List Loc), CX B0 g ct ad cS mL xL s H → va_S (AA B0) s.heap H locs → ∀ ls : Array Slot, lv_has ls 10 [(9, .int (nI z_)), (8, .ref q_135), (7, .int (nI w)), (6, .ref q_62), (5, .int (nI k)), (4, .int (nI sM)), (3, .ref q_40), (2, .ref q_2), (0, .ref o), (1, .ref (ad 0))] → W p l e (headSpec wsX1_isSame (rm_ 6 734 4267)).room s m ([.ref o, .ref (ad 0)] : List Value).toArray below meth c H locs (2 + 61 * k + 31 + 3 * w + 3) (127 + 345 * k + 175 + 17 * w + 17) (MQ below (va_Qi (fun r (u : Qu_) => r = nI 1 ∧ (fun m1 => Ex_ mS m1) u.1) (fun u t => CW B0 g ct ad cS u.1 u.2 t.heap) (AA B0)) ([.ref o, .ref (ad 0)] : List Value).toArray s 734 4267 (AA B0)) (F0 m 178 ls []) := by
                            intro n_
                            induction n_ with
                            | zero => intro z_ g2 mL xL hm; exact absurd hm (Nat.not_lt_zero _)
                            | succ n_ ih_178 =>
                              intro z_ g2 mL xL hm hf2 hz3 hE A_36 A_40 A_62 A_135 H locs hC hS ls hl
                              refine lv_iload hx hb dX1_isSame_178 (lv_at hl 0 rfl) ?_
                              refine lv_iload hx hb dX1_isSame_180 (lv_at hl 5 rfl) ?_
                              refine lv_icmp_ge (tgt := 214) hx hb dX1_isSame_182 (by decide) (fun c_182 => ?_) (fun c_182 => ?_)
                              · skip
                                have n_182 : sM ≤ z_ := (nI_leI (a := sM) (b := z_) (by omega) (by omega)).mp c_182
                                refine lv_aload_n hx hb dX1_isSame_214 rfl (lv_at hl 6 rfl) ?_
                                refine lv_iload hx hb dX1_isSame_215 (lv_at hl 5 rfl) ?_
                                refine lv_aload hx hb dX1_isSame_217 (lv_at hl 1 rfl) ?_
                                refine lv_iconst (v := nI 2) hx hb dX1_isSame_219 (by decide) ?_
                                refine q_i hC hx hb A_135 dX1_isSame_220 (j := 2) (by omega) (by omega) ?_
                                refine lv_tn (w := nI (ws0 (so cS) (sw cS (10 * k + w)))) rfl ?_
                                refine u_i hC hB hS hx hb A_40 dX1_isSame_221 (j := sM) (v := nI (ws0 (so cS) (sw cS (10 * k + w)))) (by omega) (by omega) (fun m_221 H locs pu_221 A_221 hC hS => ?_)
                                have A_36 := A_36.pu pu_221 d_40_2
                                have A_62 := A_62.pu pu_221 d_62_40.symm
                                have A_135 := A_135.pu pu_221 d_135_40.symm
                                have hE := hE.pu fb_40 pu_221
                                refine lv_iinc (v := nI (sM + 1)) (lv' := [(4, .int (nI (sM + 1))), (9, .int (nI z_)), (8, .ref q_135), (7, .int (nI w)), (6, .ref q_62), (5, .int (nI k)), (3, .ref q_40), (2, .ref q_2), (0, .ref o), (1, .ref (ad 0))]) hx hb dX1_isSame_222 hl (k := 5) rfl (nI_1 _) (by decide) rfl (fun ls hl => ?_)
                                refine lv_iinc (v := nI (w + 1)) (lv' := [(7, .int (nI (w + 1))), (4, .int (nI (sM + 1))), (9, .int (nI z_)), (8, .ref q_135), (6, .ref q_62), (5, .int (nI k)), (3, .ref q_40), (2, .ref q_2), (0, .ref o), (1, .ref (ad 0))]) hx hb dX1_isSame_225 hl (k := 3) rfl (nI_1 _) (by decide) rfl (fun ls hl => ?_)
                                refine lv_goto (tgt := 117) hx hb dX1_isSame_228 (by decide) ?_
                                refine W.widen (k := 2 + 61 * k + 31 + 3 * (w + 1)) (n := 127 + 345 * k + 175 + 17 * (w + 1)) (by omega) (by omega) ?_
                                exact ih_117 (w + 1) (sM + 1) g2 (upd Vg sM (nI (ws0 (so cS) (sw cS (10 * k + w))))) m_221 xL (by omega) (by rw [show 10 * k + (w + 1) = 10 * k + w + 1 by omega, pF_t hon, hf2, show z_ = sM by omega, hu, hq, pV_a hI]) (fun v => pw_n hon hq v) (by omega) (by omega) hE (A_36.to (fun j hj => rfl)) (A_221.to (fun j hj => rfl)) A_62 H locs hC hS ls (lv_sub hl [0, 4, 5, 1, 6, 7, 8, 9] rfl)
                              · skip
                                have n_182 : ¬ sM ≤ z_ := fun q__ => c_182 ((nI_leI (a := sM) (b := z_) (by omega) (by omega)).mpr q__)
                                refine lv_aload_n hx hb dX1_isSame_185 rfl (lv_at hl 7 rfl) ?_
                                refine lv_bipush (v := nI 6) hx hb dX1_isSame_186 (by decide) ?_
                                refine lv_dup2_11 hx hb dX1_isSame_188 rfl rfl ?_
                                refine q_i hC hx hb A_36 dX1_isSame_189 (j := 6) (by omega) (by omega) ?_
                                refine lv_tn (w := nI g2) t7_6 ?_
                                refine lv_aload_n hx hb dX1_isSame_190 rfl (lv_at hl 6 rfl) ?_
                                refine lv_iload hx hb dX1_isSame_191 (lv_at hl 0 rfl) ?_
                                refine q_i hC hx hb A_40 dX1_isSame_193 (j := z_) (by omega) (by omega) ?_
                                refine lv_tn (w := (Vg) z_) rfl ?_
                                refine lv_aload hx hb dX1_isSame_194 (lv_at hl 1 rfl) ?_
                                refine lv_iconst (v := nI 2) hx hb dX1_isSame_196 (by decide) ?_
                                refine q_i hC hx hb A_135 dX1_isSame_197 (j := 2) (by omega) (by omega) ?_
                                refine lv_tn (w := nI (ws0 (so cS) (sw cS (10 * k + w)))) rfl ?_
                                refine lv_icmp_ne (tgt := 205) hx hb dX1_isSame_198 (by decide) (fun c_198 => ?_) (fun c_198 => ?_)
                                · skip
                                  refine lv_iconst (v := nI 0) hx hb dX1_isSame_205 (by decide) ?_
                                  refine lv_iadd hx hb dX1_isSame_206 ?_
                                  refine lv_tn (nI_add _ _) ?_
                                  refine u_i hC hB hS hx hb A_36 dX1_isSame_207 (j := 6) (v := nI (g2 + 0)) (by omega) (by omega) (fun m_207 H locs pu_207 A_207 hC hS => ?_)
                                  have A_40 := A_40.pu pu_207 d_40_2.symm
                                  have A_62 := A_62.pu pu_207 d_62_2.symm
                                  have A_135 := A_135.pu pu_207 d_135_2.symm
                                  have hE := hE.pu fb_2 pu_207
                                  have A_207 : AI_ ct m_207 q_2 7 (t7_ cS k 6 (g2 + 0)) := A_207.to (fun j hj => t7_g hj)
                                  refine lv_iinc (v := nI (z_ + 1)) (lv' := [(9, .int (nI (z_ + 1))), (8, .ref q_135), (7, .int (nI w)), (6, .ref q_62), (5, .int (nI k)), (4, .int (nI sM)), (3, .ref q_40), (2, .ref q_2), (0, .ref o), (1, .ref (ad 0))]) hx hb dX1_isSame_208 hl (k := 0) rfl (nI_1 _) (by decide) rfl (fun ls hl => ?_)
                                  refine lv_goto (tgt := 178) hx hb dX1_isSame_211 (by decide) ?_
                                  refine W.widen (k := 2 + 61 * k + 31 + 3 * w + 3) (n := 127 + 345 * k + 175 + 17 * w + 17) (by omega) (by omega) ?_
                                  exact ih_178 (z_ + 1) ((g2 + 0)) m_207 xL (by omega) (by first | (rw [qs_1 (f := fun j => if Vg j = nI (ws0 (so cS) (sw cS (10 * k + w))) then 1 else 0) (v := 0) (if_neg c_198)]; omega) | (rw [qs_1 (f := fun j => if Vg j = nI (ws0 (so cS) (sw cS (10 * k + w))) then 1 else 0) (v := 1) (if_pos c_198)]; omega)) (by omega) hE (A_207.to (fun j hj => rfl)) A_40 A_62 A_135 H locs hC hS ls (lv_sub hl [0, 1, 2, 3, 4, 5, 6, 7, 8, 9] rfl)
                                · skip
                                  refine lv_iconst (v := nI 1) hx hb dX1_isSame_201 (by decide) ?_
                                  refine lv_goto (tgt := 206) hx hb dX1_isSame_202 (by decide) ?_
                                  refine lv_iadd hx hb dX1_isSame_206 ?_
                                  refine lv_tn (nI_add _ _) ?_
                                  refine u_i hC hB hS hx hb A_36 dX1_isSame_207 (j := 6) (v := nI (g2 + 1)) (by omega) (by omega) (fun m_207 H locs pu_207 A_207 hC hS => ?_)
                                  have A_40 := A_40.pu pu_207 d_40_2.symm
                                  have A_62 := A_62.pu pu_207 d_62_2.symm
                                  have A_135 := A_135.pu pu_207 d_135_2.symm
                                  have hE := hE.pu fb_2 pu_207
                                  have A_207 : AI_ ct m_207 q_2 7 (t7_ cS k 6 (g2 + 1)) := A_207.to (fun j hj => t7_g hj)
                                  refine lv_iinc (v := nI (z_ + 1)) (lv' := [(9, .int (nI (z_ + 1))), (8, .ref q_135), (7, .int (nI w)), (6, .ref q_62), (5, .int (nI k)), (4, .int (nI sM)), (3, .ref q_40), (2, .ref q_2), (0, .ref o), (1, .ref (ad 0))]) hx hb dX1_isSame_208 hl (k := 0) rfl (nI_1 _) (by decide) rfl (fun ls hl => ?_)
                                  refine lv_goto (tgt := 178) hx hb dX1_isSame_211 (by decide) ?_
                                  refine W.widen (k := 2 + 61 * k + 31 + 3 * w + 3) (n := 127 + 345 * k + 175 + 17 * w + 17) (by omega) (by omega) ?_
                                  exact ih_178 (z_ + 1) ((g2 + 1)) m_207 xL (by omega) (by first | (rw [qs_1 (f := fun j => if Vg j = nI (ws0 (so cS) (sw cS (10 * k + w))) then 1 else 0) (v := 0) (if_neg c_198)]; omega) | (rw [qs_1 (f := fun j => if Vg j = nI (ws0 (so cS) (sw cS (10 * k + w))) then 1 else 0) (v := 1) (if_pos c_198)]; omega)) (by omega) hE (A_207.to (fun j hj => rfl)) A_40 A_62 A_135 H locs hC hS ls (lv_sub hl [0, 1, 2, 3, 4, 5, 6, 7, 8, 9] rfl)
                          refine W.widen (k := 2 + 61 * k + 31 + 3 * w + 3) (n := 127 + 345 * k + 175 + 17 * w + 17) (by omega) (by omega) ?_
                          exact LP_178 _ 0 g1 m_135 x_135 (Nat.lt_succ_self _) rfl (Nat.zero_le _) hE (A_36.to (fun j hj => rfl)) A_40 A_62 A_135 H locs hC hS ls (lv_sub hl [0, 1, 2, 3, 4, 5, 6, 7, 8, 9] rfl)
                        · skip
                          have n_146 : ¬ 5 ≤ p_ := fun q__ => c_146 ((nI_leI (a := 5) (b := p_) (by omega) (by omega)).mpr q__)
                          refine lv_aload_n hx hb dX1_isSame_149 rfl (lv_at hl 9 rfl) ?_
                          refine lv_iload hx hb dX1_isSame_150 (lv_at hl 4 rfl) ?_
                          refine lv_iload hx hb dX1_isSame_152 (lv_at hl 2 rfl) ?_
                          refine lv_iload hx hb dX1_isSame_154 (lv_at hl 0 rfl) ?_
                          refine k_rV (As := [.int (nI k), .int (nI w), .int (nI p_)]) (rest := []) (c_X0_word l B0 g ct ad cS m_135 x_135 k w p_ (by omega) (by omega) (by omega)) hC ⟨hx, hb, hml, hown, hts⟩ (cwV 3 hts gX1_isSame_X0_word rfl rfl rfl (by decide +kernel) ⟨Nat.le_of_ble_eq_true rfl, Nat.le_of_ble_eq_true rfl⟩) (rc0 hC) rfl hl.1 rfl (Nat.le_of_ble_eq_true rfl) dX1_isSame_156 ⟨(by show _ ≤ 734; omega), (by show _ ≤ 4267; omega)⟩ ?_
                          refine lv_aload hx hb dX1_isSame_159 (lv_at hl 1 rfl) ?_
                          refine lv_iload hx hb dX1_isSame_161 (lv_at hl 0 rfl) ?_
                          refine q_i hC hx hb A_135 dX1_isSame_163 (j := p_) (by omega) (by omega) ?_
                          refine lv_tn (w := nI (wt_ cS k w p_)) rfl ?_
                          refine lv_icmp_eq (tgt := 169) hx hb dX1_isSame_164 (by decide) (fun c_164 => ?_) (fun c_164 => ?_)
                          · skip
                            refine lv_iinc (v := nI (p_ + 1)) (lv' := [(9, .int (nI (p_ + 1))), (8, .ref q_135), (7, .int (nI w)), (6, .ref q_62), (5, .int (nI k)), (4, .int (nI sM)), (3, .ref q_40), (2, .ref q_2), (0, .ref o), (1, .ref (ad 0))]) hx hb dX1_isSame_169 hl (k := 0) rfl (nI_1 _) (by decide) rfl (fun ls hl => ?_)
                            refine lv_goto (tgt := 143) hx hb dX1_isSame_172 (by decide) ?_
                            refine W.widen (k := 2 + 61 * k + 31 + 3 * w + 3) (n := 127 + 345 * k + 175 + 17 * w + 17) (by omega) (by omega) ?_
                            exact ih_143 (p_ + 1) (by omega) (by omega) ls (lv_sub hl [0, 1, 2, 3, 4, 5, 6, 7, 8, 9] rfl)
                          · skip
                            exact absurd rfl c_164
                    refine W.widen (k := 2 + 61 * k + 31 + 3 * w + 3) (n := 127 + 345 * k + 175 + 17 * w + 17) (by omega) (by omega) ?_
                    exact LP_143 _ 0 (Nat.lt_succ_self _) (Nat.zero_le _) ls (lv_sub hl [0, 1, 2, 3, 4, 5, 6, 7, 8, 9] rfl)
              refine W.widen (k := 2 + 61 * k + 31 + 3 * 0) (n := 127 + 345 * k + 175 + 17 * 0) (by omega) (by omega) ?_
              exact LP_117 _ 0 sN gN Vf mL xL (Nat.lt_succ_self _) hg hw hN (Nat.zero_le _) hE (A_36.to (fun j hj => by rw [show p_ + 1 = 6 by omega])) (A_40.to (fun j hj => rfl)) A_62 H locs hC hS ls (lv_sub hl [0, 1, 2, 3, 4, 5, 6, 7] rfl)
            · skip
              have n_73 : ¬ 5 ≤ p_ := fun q__ => c_73 ((nI_leI (a := 5) (b := p_) (by omega) (by omega)).mpr q__)
              refine lv_aload_n hx hb dX1_isSame_76 rfl (lv_at hl 5 rfl) ?_
              refine lv_iconst (v := nI 1) hx hb dX1_isSame_77 (by decide) ?_
              refine lv_iload hx hb dX1_isSame_78 (lv_at hl 0 rfl) ?_
              refine lv_iadd hx hb dX1_isSame_80 ?_
              refine lv_tn (nI_add _ _) ?_
              refine lv_dup2_11 hx hb dX1_isSame_81 rfl rfl ?_
              refine q_i hC hx hb A_36 dX1_isSame_82 (j := 1 + p_) (by omega) (by omega) ?_
              refine lv_tn (w := nI (qs_ (fun l => lt_ cS l p_) k)) (t7_r (by omega)) ?_
              refine lv_aload hx hb dX1_isSame_83 (lv_at hl 1 rfl) ?_
              refine lv_iload hx hb dX1_isSame_85 (lv_at hl 0 rfl) ?_
              refine q_i hC hx hb A_62 dX1_isSame_87 (j := p_) (by omega) (by omega) ?_
              refine lv_tn (w := nI (lt_ cS k p_)) rfl ?_
              refine lv_iadd hx hb dX1_isSame_88 ?_
              refine lv_tn (nI_add _ _) ?_
              refine u_i hC hB hS hx hb A_36 dX1_isSame_89 (j := 1 + p_) (v := nI ((qs_ (fun l => lt_ cS l p_) k) + (lt_ cS k p_))) (by omega) (by omega) (fun m_89 H locs pu_89 A_89 hC hS => ?_)
              have A_40 := A_40.pu pu_89 d_40_2.symm
              have A_62 := A_62.pu pu_89 d_62_2.symm
              have hE := hE.pu fb_2 pu_89
              have A_89 : AI_ ct m_89 q_2 7 (t7_ cS k (p_ + 1 + 1) gN) := A_89.to (fun j hj => t7_s (by omega) hj)
              refine lv_aload_n hx hb dX1_isSame_90 rfl (lv_at hl 7 rfl) ?_
              refine lv_iload hx hb dX1_isSame_91 (lv_at hl 2 rfl) ?_
              refine lv_iload hx hb dX1_isSame_93 (lv_at hl 0 rfl) ?_
              refine k_rV (As := [.int (nI k), .int (nI p_)]) (rest := []) (c_X0_line l B0 g ct ad cS m_89 xL k p_ (by omega) (by omega)) hC ⟨hx, hb, hml, hown, hts⟩ (cwV 2 hts gX1_isSame_X0_line rfl rfl rfl (by decide +kernel) ⟨Nat.le_of_ble_eq_true rfl, Nat.le_of_ble_eq_true rfl⟩) (rc0 hC) rfl hl.1 rfl (Nat.le_of_ble_eq_true rfl) dX1_isSame_95 ⟨(by show _ ≤ 734; omega), (by show _ ≤ 4267; omega)⟩ ?_
              refine lv_aload hx hb dX1_isSame_98 (lv_at hl 1 rfl) ?_
              refine lv_iload hx hb dX1_isSame_100 (lv_at hl 0 rfl) ?_
              refine q_i hC hx hb A_62 dX1_isSame_102 (j := p_) (by omega) (by omega) ?_
              refine lv_tn (w := nI (lt_ cS k p_)) rfl ?_
              refine lv_icmp_eq (tgt := 108) hx hb dX1_isSame_103 (by decide) (fun c_103 => ?_) (fun c_103 => ?_)
              · skip
                refine lv_iinc (v := nI (p_ + 1)) (lv' := [(7, .int (nI (p_ + 1))), (6, .ref q_62), (5, .int (nI k)), (4, .int (nI sN)), (3, .ref q_40), (2, .ref q_2), (0, .ref o), (1, .ref (ad 0))]) hx hb dX1_isSame_108 hl (k := 0) rfl (nI_1 _) (by decide) rfl (fun ls hl => ?_)
                refine lv_goto (tgt := 70) hx hb dX1_isSame_111 (by decide) ?_
                refine W.widen (k := 2 + 61 * k + 31) (n := 127 + 345 * k + 175) (by omega) (by omega) ?_
                exact ih_70 (p_ + 1) m_89 xL (by omega) (by omega) hE (A_89.to (fun j hj => rfl)) A_40 A_62 H locs hC hS ls (lv_sub hl [0, 1, 2, 3, 4, 5, 6, 7] rfl)
              · skip
                exact absurd rfl c_103
        refine W.widen (k := 2 + 61 * k + 31) (n := 127 + 345 * k + 175) (by omega) (by omega) ?_
        exact LP_70 _ 0 m_62 x_62 (Nat.lt_succ_self _) (Nat.zero_le _) hE (A_36.to (fun j hj => rfl)) A_40 A_62 H locs hC hS ls (lv_sub hl [0, 1, 2, 3, 4, 5, 6, 7] rfl)
  refine W.widen (k := 2 + 61 * 0) (n := 127 + 345 * 0) (by omega) (by omega) ?_
  exact LP_49 _ 0 0 0 (fun _ => 0) m_40 x (Nat.lt_succ_self _) rfl (fun v => rfl) (Nat.zero_le _) (Nat.zero_le _) hE (A_36.to (fun j hj => rfl)) (A_40.to (fun j hj => rfl)) H locs hC hS ls (lv_sub hl [0, 1, 2, 3, 4, 5] rfl)
end
section
/-! ===== what the law's checks rest on ===== -/
theorem dv27 (r j : Nat) : r / 27 / 27 ^ j = r / 27 ^ (j + 1) := by rw [Nat.div_div_eq_div_mul, Nat.pow_succ, Nat.mul_comm]
theorem ws_s {o r : Nat} (h : 0 < r) (h2 : r < 387420489) : ws0 o r = ws0 o (r / 27) + vl_ o (r % 27) := by
  have hl := ln_s h h2
  show qs_ (fun p => vl_ o (at_ r p)) (ln_ r) = qs_ (fun p => vl_ o (at_ (r / 27) p)) (ln_ (r / 27)) + _
  rw [hl, qs_s]
  congr 1
  · refine qs_c (fun p hp => ?_)
    show vl_ o (at_ r p) = vl_ o (at_ (r / 27) p)
    unfold at_
    rw [dv27, hl, show ln_ (r / 27) - 1 - p + 1 = ln_ (r / 27) + 1 - 1 - p by omega]
  · show vl_ o (at_ r (ln_ (r / 27))) = _
    unfold at_
    rw [hl, show ln_ (r / 27) + 1 - 1 - ln_ (r / 27) = 0 by omega, Nat.pow_zero, Nat.div_one]
theorem ws_0 (o : Nat) : ws0 o 0 = 0 := by
  unfold ws0
  rw [ln_0]
  rfl
theorem nz_d : ∀ (f r : Nat), nz_ f r = true → ∀ j, j < lnf f r → r / 27 ^ j % 27 ≠ 0
  | 0, _, _, j, hj => absurd hj (Nat.not_lt_zero j)
  | f + 1, r, h, j, hj => by
    by_cases e : r = 0
    · subst e; rw [lnf_0] at hj; omega
    · rw [lnf_s e] at hj
      rw [nz_, if_neg e] at h
      by_cases e2 : r % 27 = 0
      · rw [if_pos e2] at h; cases h
      · rw [if_neg e2] at h
        cases j with
        | zero => rw [Nat.pow_zero, Nat.div_one]; exact e2
        | succ j =>
          rw [← dv27]
          exact nz_d f (r / 27) h j (by omega)
/-- no letter of it is 0 -/
def ND_ (r : Nat) : Prop := ∀ j, j < ln_ r → r / 27 ^ j % 27 ≠ 0
theorem ND_.of {w : Nat} (h : iw_ w = true) : ND_ w := by
  simp only [iw_, Bool.and_eq_true, decide_eq_true_eq] at h
  exact nz_d 7 w h.2
theorem ND_.s {r : Nat} (h : ND_ r) (h0 : 0 < r) (h2 : r < 387420489) : ND_ (r / 27) := fun j hj => by
  rw [dv27]
  exact h (j + 1) (by rw [ln_s h0 h2]; omega)
theorem ND_.d {r : Nat} (h : ND_ r) (h0 : 0 < r) (h2 : r < 387420489) : 1 ≤ r % 27 := by
  have := h 0 (by rw [ln_s h0 h2]; omega)
  rw [Nat.pow_zero, Nat.div_one] at this
  omega
theorem ND_.at_ {w p : Nat} (h : ND_ w) (hp : p < ln_ w) : 0 < at_ w p := by
  have := h (ln_ w - 1 - p) (by omega)
  unfold Jvm.Pilot.CAbjadPoemsLaw_law_r4269_013c4d.at_
  omega
theorem qs_m {f g : Nat → Nat} : ∀ {n : Nat}, (∀ k, k < n → f k ≤ g k) → qs_ f n ≤ qs_ g n
  | 0, _ => Nat.le_refl _
  | n + 1, h => by
    rw [qs_s, qs_s]
    exact Nat.add_le_add (qs_m (fun k hk => h k (by omega))) (h n (by omega))
theorem qs_e {f g : Nat → Nat} : ∀ {n : Nat}, (∀ k, k < n → f k ≤ g k) → qs_ f n = qs_ g n → ∀ k, k < n → f k = g k
  | 0, _, _, k, hk => absurd hk (Nat.not_lt_zero k)
  | n + 1, h, he, k, hk => by
    rw [qs_s, qs_s] at he
    have h1 : qs_ f n ≤ qs_ g n := qs_m (fun k hk => h k (by omega))
    have h2 := h n (by omega)
    by_cases e : k = n
    · subst e; omega
    · exact qs_e (f := f) (g := g) (n := n) (fun k hk => h k (by omega)) (by omega) k (by omega)
theorem qs_1s : ∀ n, qs_ (fun _ => 1) n = n
  | 0 => rfl
  | n + 1 => by rw [qs_s, qs_1s n]
theorem qs_0s : ∀ n, qs_ (fun _ => 0) n = 0
  | 0 => rfl
  | n + 1 => by rw [qs_s, qs_0s n]
theorem wc_b (w m : Nat) : wc_ w m ≤ ln_ w := by
  have := qs_m (f := fun p => if m.testBit p then 1 else 0) (g := fun _ => 1) (n := ln_ w) (fun k _ => by show (if _ then 1 else 0) ≤ 1; split <;> omega)
  rw [qs_1s] at this
  exact this
theorem wm_f (o w m k : Nat) : (if m.testBit k then vl_ o (at_ w k) else 0) ≤ vl_ o (at_ w k) := by split <;> omega
theorem wm_b (o w m : Nat) : wm_ o w m ≤ ws0 o w := qs_m (fun k _ => wm_f o w m k)
theorem wm_0 {o w m : Nat} (ho : o < 3) (h : ND_ w) : wm_ o w m = 0 ↔ wc_ w m = 0 := by
  have hp : ∀ k, k < ln_ w → 0 < vl_ o (at_ w k) := fun k hk => vl_pos o ho _ (at_lt w k) (h.at_ hk)
  constructor
  · intro e
    have h1 := qs_e (f := fun _ => 0) (g := fun p => if m.testBit p then vl_ o (at_ w p) else 0) (n := ln_ w) (fun _ _ => Nat.zero_le _) (by rw [qs_0s]; exact e.symm)
    show qs_ _ _ = 0
    refine (qs_c (g := fun _ => 0) (fun k hk => ?_)).trans (qs_0s (ln_ w))
    have h2 := h1 k hk
    have h3 := hp k hk
    show (if m.testBit k then 1 else 0) = 0
    by_cases q : m.testBit k = true
    · simp only [q, if_true] at h2; omega
    · rw [if_neg q]
  · intro e
    have h1 := qs_e (f := fun _ => 0) (g := fun p => if m.testBit p then 1 else 0) (n := ln_ w) (fun _ _ => Nat.zero_le _) (by rw [qs_0s]; exact e.symm)
    show qs_ _ _ = 0
    refine (qs_c (g := fun _ => 0) (fun k hk => ?_)).trans (qs_0s (ln_ w))
    have h2 := h1 k hk
    show (if m.testBit k then vl_ o (at_ w k) else 0) = 0
    by_cases q : m.testBit k = true
    · simp only [q, if_true] at h2; omega
    · rw [if_neg q]
theorem wm_1 {o w m : Nat} (ho : o < 3) (h : ND_ w) : wm_ o w m = ws0 o w ↔ wc_ w m = ln_ w := by
  have hp : ∀ k, k < ln_ w → 0 < vl_ o (at_ w k) := fun k hk => vl_pos o ho _ (at_lt w k) (h.at_ hk)
  constructor
  · intro e
    have h1 := qs_e (fun k _ => wm_f o w m k) e
    have : qs_ (fun p => if m.testBit p then 1 else 0) (ln_ w) = qs_ (fun _ => 1) (ln_ w) := qs_c (fun k hk => by
      have h2 := h1 k hk
      have h3 := hp k hk
      show (if m.testBit k then 1 else 0) = 1
      by_cases q : m.testBit k = true
      · rw [if_pos q]
      · rw [if_neg q] at h2; omega)
    rw [qs_1s] at this
    exact this
  · intro e
    have h1 := qs_e (f := fun p => if m.testBit p then 1 else 0) (g := fun _ => 1) (n := ln_ w) (fun k _ => by show (if _ then 1 else 0) ≤ 1; split <;> omega) (by rw [qs_1s]; exact e)
    refine qs_c (fun k hk => ?_)
    have h2 := h1 k hk
    show (if m.testBit k then vl_ o (at_ w k) else 0) = vl_ o (at_ w k)
    by_cases q : m.testBit k = true
    · rw [if_pos q]
    · have h2 : (if m.testBit k then 1 else 0) = 1 := h2
      rw [if_neg q] at h2; omega
theorem ws_p {o w : Nat} (ho : o < 3) (h : iw_ w = true) : 0 < ws0 o w := by
  have hn := ND_.of h
  have hl := iw_lt h
  simp only [iw_, Bool.and_eq_true, decide_eq_true_eq] at h
  rw [ws_s h.1.1 hl]
  have := vl_pos o ho (w % 27) (Nat.mod_lt _ (by omega)) (hn.d h.1.1 hl)
  omega
/-- runs of words -/
theorem rn_hi {c : St_} {l y : Nat} (hI : Iv_ c) (hp : ∀ w, w < ss c l → 0 < ws0 (so c) (sw c (10 * l + w))) (hy : y < 500) : ∀ (n w x : Nat), w + n ≤ ss c l → y ≤ x → x + 5400 * n < 2 ^ 31 → rn_ c l (nI y) n w x = -1
  | 0, _, _, _, _, _ => rfl
  | n + 1, w, x, h1, h2, h3 => by
    have a1 := hp w (by omega)
    have a2 := ws_le hI.1 (hI.2.2.2.1 (10 * l + w))
    rw [rn_, if_neg (by rw [nI_eq (by omega) (by omega)]; omega)]
    exact rn_hi hI hp hy n (w + 1) _ (by omega) (by omega) (by omega)
def RJ_ (c : St_) (l y i : Nat) (fi : Int32) (h0 j sm : Nat) (fi2 : Int32) (h2 : Nat) : Prop :=
  (fi2 = fi ∧ h2 = h0 ∧ rn_ c l (nI y) (ss c l - j) j sm = ru_ c l (nI y) i) ∨ (fi2 = nI (10 * i) + ru_ c l (nI y) i ∧ h2 = h0 + 1 ∧ ¬ ru_ c l (nI y) i = -1 ∧ y ≤ sm)
section RJ
variable {c : St_} {l y i h0 j sm h2 : Nat} {fi fi2 : Int32}
theorem RJ_0 : RJ_ c l y i fi h0 i 0 fi h0 := Or.inl ⟨rfl, rfl, rfl⟩
theorem RJ_m (hI : Iv_ c) (h : RJ_ c l y i fi h0 j sm fi2 h2) (hj : j < ss c l) (hs : sm < y) (e : sm + ws0 (so c) (sw c (10 * l + j)) = y) : RJ_ c l y i fi h0 (j + 1) (sm + ws0 (so c) (sw c (10 * l + j))) (nI (10 * i + j)) (h2 + 1) := by
  rcases h with ⟨rfl, rfl, h⟩ | ⟨-, -, -, h⟩
  · have h10 := hI.2.2.1 l
    have hr : ru_ c l (nI y) i = nI j := by rw [← h, rn_s hj, if_pos (by rw [e])]
    refine Or.inr ⟨by rw [hr, nI_add], rfl, ?_, by omega⟩
    rw [hr]
    intro q
    exact nI_pos (n := j) (by omega) (by rw [q]; decide)
  · omega
theorem RJ_n (hI : Iv_ c) (h : RJ_ c l y i fi h0 j sm fi2 h2) (hj : j < ss c l) (hs : sm < y) (hy : y < 500) (e : ¬ sm + ws0 (so c) (sw c (10 * l + j)) = y) : RJ_ c l y i fi h0 (j + 1) (sm + ws0 (so c) (sw c (10 * l + j))) fi2 h2 := by
  rcases h with ⟨rfl, rfl, h⟩ | ⟨-, -, -, h⟩
  · have a2 := ws_le hI.1 (hI.2.2.2.1 (10 * l + j))
    refine Or.inl ⟨rfl, rfl, ?_⟩
    rw [← h, rn_s hj, if_neg (by rw [nI_eq (by omega) (by omega)]; exact e)]
  · omega
theorem RJ_e (hI : Iv_ c) (hZ : IZ_ c) (hl : l < sn c) (h : RJ_ c l y i fi h0 j sm fi2 h2) (hy : y < 500) (hj : j ≤ ss c l) (hb : sm ≤ 5400 * j) (e : ss c l ≤ j ∨ y ≤ sm) : fi2 = (if ru_ c l (nI y) i = -1 then fi else nI (10 * i) + ru_ c l (nI y) i) ∧ h2 = h0 + hf_ c (nI y) l i := by
  rcases h with ⟨rfl, rfl, h⟩ | ⟨rfl, rfl, h, -⟩
  · have h10 := hI.2.2.1 l
    have hr : ru_ c l (nI y) i = -1 := by
      rw [← h]
      rcases e with e | e
      · rw [show ss c l - j = 0 by omega]; rfl
      · exact rn_hi hI (fun w hw => ws_p hI.1 (hZ.2 l w hl hw)) hy _ _ _ (by omega) e (by omega)
    unfold hf_
    rw [if_pos hr, if_pos hr]
    exact ⟨rfl, rfl⟩
  · unfold hf_
    rw [if_neg h, if_neg h]
    exact ⟨rfl, rfl⟩
end RJ
theorem hd_p {c : St_} {l p : Nat} {y fi fi2 : Int32} (hp : 0 < p) (hs : p ≤ ss c l) (h : fi = hd_ c l y (ss c l - p) p) (h2 : fi2 = if ru_ c l y (p - 1) = -1 then fi else nI (10 * (p - 1)) + ru_ c l y (p - 1)) : fi2 = hd_ c l y (ss c l - (p - 1)) (p - 1) := by
  rw [hd_s (by omega), h2, h, show p - 1 + 1 = p by omega]
theorem hf_p {c : St_} {l p h0 h2 a b : Nat} {y : Int32} (hp : 0 < p) (h : h0 + qs_ (hf_ c y l) p = a + b) (e : h2 = h0 + hf_ c y l (p - 1)) : h2 + qs_ (hf_ c y l) (p - 1) = a + b := by
  obtain ⟨q, rfl⟩ : ∃ q, p = q + 1 := ⟨p - 1, by omega⟩
  rw [qs_s] at h
  simp only [Nat.add_sub_cancel] at e ⊢
  omega
/-- the letter that lacks -/
theorem lk_r (c : St_) (l : Nat) (y : Int32) : ∀ (n k : Nat), (lk_ c l y n k = -1 ∧ ∀ i, k ≤ i → i < k + n → ¬ nI (lt_ c l 2 + vl_ (so c) i) = y) ∨ ∃ j, k ≤ j ∧ j < k + n ∧ lk_ c l y n k = nI j ∧ nI (lt_ c l 2 + vl_ (so c) j) = y ∧ ∀ i, k ≤ i → i < j → ¬ nI (lt_ c l 2 + vl_ (so c) i) = y
  | 0, k => Or.inl ⟨rfl, fun i h1 h2 => absurd h2 (by omega)⟩
  | n + 1, k => by
    rw [lk_]
    by_cases e : nI (lt_ c l 2 + vl_ (so c) k) = y
    · rw [if_pos e]
      exact Or.inr ⟨k, by omega, by omega, rfl, e, fun i h1 h2 => absurd h2 (by omega)⟩
    · rw [if_neg e]
      rcases lk_r c l y n (k + 1) with ⟨h1, h2⟩ | ⟨j, h1, h2, h3, h4, h5⟩
      · refine Or.inl ⟨h1, fun i a b => ?_⟩
        by_cases q : i = k
        · subst q; exact e
        · exact h2 i (by omega) (by omega)
      · refine Or.inr ⟨j, by omega, by omega, h3, h4, fun i a b => ?_⟩
        by_cases q : i = k
        · subst q; exact e
        · exact h5 i (by omega) b
theorem sub_eq {a b : Nat} {v : Int32} (h : nI (a + b) = v) : nI b = v - nI a := by
  rw [← h, ← nI_add, Int32.add_comm, Int32.add_sub_cancel]
theorem eq_sub {a b : Nat} {v : Int32} (h : nI b = v - nI a) : nI (a + b) = v := by
  rw [← nI_add, h, Int32.add_comm, Int32.sub_add_cancel]
theorem lk_y {c : St_} {l : Nat} {y : Int32} (h : ¬ lk_ c l y 26 1 < 0) : ∃ j, 1 ≤ j ∧ j ≤ 26 ∧ lk_ c l y 26 1 = nI j ∧ nI (vl_ (so c) j) = y - nI (lt_ c l 2) := by
  rcases lk_r c l y 26 1 with ⟨h1, -⟩ | ⟨j, h1, h2, h3, h4, -⟩
  · rw [h1] at h; exact absurd (by decide) h
  · exact ⟨j, h1, by omega, h3, sub_eq h4⟩
theorem lk_m {c : St_} {l z : Nat} {y : Int32} (hz : 1 ≤ z) (hz2 : z ≤ 26) (h : nI (vl_ (so c) z) = y - nI (lt_ c l 2)) : ∃ j, 1 ≤ j ∧ j ≤ z ∧ lk_ c l y 26 1 = nI j := by
  have h := eq_sub h
  rcases lk_r c l y 26 1 with ⟨-, h2⟩ | ⟨j, h1, h2, h3, h4, h5⟩
  · exact absurd h (h2 z hz (by omega))
  · refine ⟨j, h1, ?_, h3⟩
    by_cases q : j ≤ z
    · exact q
    · exact absurd h (h5 z hz (by omega))
/-- how far a line is from a year -/
def di_ (a y : Nat) : Nat := if a ≤ y then y - a else a - y
def ai_ (v : Int32) : Int32 := if 0 ≤ v then v else 0 - v
theorem ai_d {a y : Nat} (ha : a < 2 ^ 30) (hy : y < 2 ^ 30) : ai_ (nI y - nI a) = nI (di_ a y) := by
  unfold ai_ di_
  by_cases e : a ≤ y
  · rw [if_pos e, pk_sub e, if_pos (nI_pos' (by omega))]
  · have h1 : nI y - nI a < 0 := pk_sneg ha (by omega)
    rw [if_neg e, if_neg (fun q => absurd h1 (Int32.not_lt.mpr q)), ← pk_sub (show y ≤ a by omega), Int32.zero_sub, Int32.neg_sub]
theorem gp_d {c : St_} {l y : Nat} (ha : lt_ c l 2 < 2 ^ 30) (hy : y < 2 ^ 30) : gp_ c (nI y) l = lN (di_ (lt_ c l 2) y) := by
  unfold gp_ di_
  rw [nI_l (by omega), nI_l (by omega)]
  by_cases e : y < lt_ c l 2
  · rw [if_neg (show ¬ lt_ c l 2 ≤ y by omega), lN_sub (by omega), if_pos]
    have : (0 : Int64) = lN 0 := rfl
    rw [this, lN_lt (by omega) (by omega)]
    omega
  · rw [if_pos (show lt_ c l 2 ≤ y by omega)]
    by_cases e2 : lt_ c l 2 = y
    · rw [e2, Int64.sub_self, if_neg (by decide), Nat.sub_self]; rfl
    · rw [if_neg, Int64.neg_sub, lN_sub (by omega)]
      intro q
      have h1 : lN (lt_ c l 2) - lN y = -(lN (y - lt_ c l 2)) := by rw [← lN_sub (by omega), Int64.neg_sub]
      rw [h1] at q
      rw [Int64.lt_iff_toInt_lt, Int64.toInt_neg] at q
      have h2 : (lN (y - lt_ c l 2)).toInt = ((y - lt_ c l 2 : Nat) : Int) := lN_toInt (by omega)
      rw [h2] at q
      have h3 : (0 : Int64).toInt = 0 := rfl
      rw [h3] at q
      have h4 : (-((y - lt_ c l 2 : Nat) : Int)).bmod (2 ^ 64) = -((y - lt_ c l 2 : Nat) : Int) := Int.bmod_eq_of_le (by omega) (by omega)
      rw [h4] at q
      omega
theorem lt2_b {c : St_} (hI : Iv_ c) (l : Nat) : lt_ c l 2 ≤ 54000 := by
  have h1 : lt_ c l 2 ≤ ss c l * 5400 := qs_b (fun w _ => ws_le hI.1 (hI.2.2.2.1 (10 * l + w)))
  have := hI.2.2.1 l
  omega
theorem ab_g {c : St_} (hI : Iv_ c) {k b y : Nat} (hy : y < 500) : ai_ (nI y - nI (lt_ c b 2)) ≤ ai_ (nI y - nI (lt_ c k 2)) ↔ ¬ gp_ c (nI y) k < gp_ c (nI y) b := by
  have h1 := lt2_b hI k
  have h2 := lt2_b hI b
  have d1 : di_ (lt_ c k 2) y ≤ 54500 := by unfold di_; split <;> omega
  have d2 : di_ (lt_ c b 2) y ≤ 54500 := by unfold di_; split <;> omega
  rw [ai_d (by omega) (by omega), ai_d (by omega) (by omega), gp_d (by omega) (by omega), gp_d (by omega) (by omega), nI_leI (by omega) (by omega), lN_lt (by omega) (by omega)]
  omega
/-- pairs are no more than all pairs -/
def ob1_ (c : St_) (a : Nat) : Nat := if on_ c a then 1 else 0
theorem tri_n (n : Nat) : 2 * n + n * (n - 1) = (n + 1) * (n + 1 - 1) := by
  cases n with
  | zero => rfl
  | succ d =>
    show 2 * (d + 1) + (d + 1) * d = (d + 1 + 1) * (d + 1)
    have e1 : (d + 1 + 1) * (d + 1) = (d + 1) * (d + 1) + (d + 1) := Nat.succ_mul _ _
    have e2 : (d + 1) * (d + 1) = (d + 1) * d + (d + 1) := Nat.mul_succ _ _
    omega
theorem pr_1 (c : St_) : ∀ n, 2 * qs_ (pF_ c) n ≤ qs_ (ob1_ c) n * (qs_ (ob1_ c) n - 1)
  | 0 => Nat.le_refl _
  | n + 1 => by
    have ih := pr_1 c n
    rw [qs_s, qs_s]
    by_cases e : on_ c n = true
    · have h1 : pF_ c n = qs_ (fun b => eq_ c n b) n := if_pos e
      have h2 : ob1_ c n = 1 := if_pos e
      have h3 : qs_ (fun b => eq_ c n b) n ≤ qs_ (ob1_ c) n := qs_m (fun b _ => by
        unfold eq_ ob1_
        by_cases q : on_ c b = true
        · rw [if_pos q]; split <;> omega
        · rw [if_neg q, if_neg (by simp [q])]; omega)
      rw [h1, h2, ← tri_n]
      omega
    · have h1 : pF_ c n = 0 := if_neg e
      have h2 : ob1_ c n = 0 := if_neg e
      rw [h1, h2]
      omega
theorem ob_l {c : St_} (h10 : ∀ l, ss c l ≤ 10) : ∀ k, k ≤ sn c → qs_ (ob1_ c) (10 * k) = qs_ (fun l => ss c l) k
  | 0, _ => rfl
  | k + 1, hk => by
    have h := h10 k
    have a1 : ∀ w, w ≤ ss c k → qs_ (ob1_ c) (10 * k + w) = qs_ (ob1_ c) (10 * k) + w := by
      intro w
      induction w with
      | zero => intro _; rfl
      | succ w ih =>
        intro hw
        show qs_ (ob1_ c) (10 * k + w + 1) = _
        rw [qs_s, ih (by omega)]
        have : ob1_ c (10 * k + w) = 1 := if_pos (on_t (by omega) (by omega) (by omega))
        omega
    have a2 : qs_ (ob1_ c) (10 * (k + 1)) = qs_ (ob1_ c) (10 * k + ss c k) := qs_z (by omega) (fun j h1 h2 => by
      have e : j = 10 * k + (j - 10 * k) := by omega
      rw [e]
      exact if_neg (by rw [on_f (by omega) (by omega)]; decide))
    rw [a2, a1 _ (Nat.le_refl _), ob_l h10 k (by omega), qs_s]
theorem pr_b {c : St_} (hI : Iv_ c) : pr_ c ≤ al_ c 0 * (al_ c 0 - 1) / 2 := by
  have h1 := pr_1 c (10 * sn c)
  have h2 : qs_ (ob1_ c) (10 * sn c) = al_ c 0 := ob_l hI.2.2.1 (sn c) (Nat.le_refl _)
  rw [h2] at h1
  have h3 : pr_ c = qs_ (pF_ c) (10 * sn c) := rfl
  rw [h3]
  omega
theorem tri_i : ∀ a, a < 121 → nI a * (nI a - nI 1) / nI 2 = nI (a * (a - 1) / 2) := by decide +kernel
theorem tri_b {a : Nat} (h : a ≤ 120) : a * (a - 1) / 2 ≤ 7140 := by
  have h1 : a * (a - 1) ≤ 120 * 119 := Nat.mul_le_mul h (by omega)
  omega
end
section
section RW10
variable {p : Program} {l : Launch} {e : Env} {R : Room} {s : State} {m : MethodId} {args : Array Value} {below : List Frame} {meth : Method} {c : Code} {H : Heap} {locs : List Loc} {cells slots : Nat} {Q : State → Prop}
variable {cc : ByteArray} {pc : Nat} {ls : Array Slot} {rest : List Value} {B0 : Nat} {g : va_G} {ct ad : Nat → Nat} {cS c' : St_} {mS m' : Pl_} {x x' : Ax_} {Ts : List Cond}
theorem n_s (hC : CX B0 g ct ad cS mS x s H) (hB : B0 ≤ s.heap.size) (hS : va_S (AA B0) s.heap H locs) (hexec : p.tables.exec = Jvm.exec) (hb : c.code = cc) (hts : ∀ w ∈ Ts, w.before args s = true) (hin : ∀ w ∈ wsX10, w ∈ Ts) {own : String} {index : Nat} (hown : s.vm.findClass own = some m.cls) (hcl : (Cond.classLink own index RX1).before args s = true) (hinst : (Cond.instantiable RX1 3).before args s = true) (hini : (Cond.initialized RX1).before args s = true) (hcells : cells + 1 ≤ R.cells) (hslots : slots + 3 ≤ R.slots) (hdg : decode cc pc = .ok (.new index, 3))
    (kk : ∀ (q : Nat) (m1 : Pl_) (H1 : Heap), q ∉ mS.1 → Ex_ mS m1 → OB_ m1 q 0 none none → CX B0 g ct ad cS m1 x s H1 → va_S (AA B0) s.heap H1 locs → W p l e R s m args below meth c H1 locs (cells + 1) (slots + 3) Q (F0 m (pc + 3) ls (.ref q :: rest))) : W p l e R s m args below meth c H locs cells slots Q (F0 m pc ls rest) := by
  refine va_new (D := g) (cl := vwCl) (ci := 1) (fs := ob_ 0 none none) (C := RX1) (T := TX1) (N := 3) hexec hb hts hin tyX1 tyX1_ok hown hcl hinst hini hC.2.1 hC.1.1 hC.1.2.1 hS (fun q h => Nat.le_trans hB h) rfl (fun j hj => by rcases (show j = 0 ∨ j = 1 ∨ j = 2 by omega) with rfl | rfl | rfl <;> rfl) hcells hslots hdg (fun q H1 hP hD hS1 => ?_)
  obtain ⟨m1, h1, h2, h3, h4, h5⟩ := pl_new hC.1.2.2.2 (Nat.le_trans hB hS1.1) hP hD
  exact kk q m1 H1 h1 h2 ⟨h3, h4⟩ ⟨h5, hC.2⟩ hS1
theorem X_blind {av : List Value} {b L : Nat} {xs : Nat → Int32} : FrameBlind (va_Pc av (fun U => va_X b L xs U U.heap)) := by
  intro a U f mk h
  exact ⟨h.1, va_X.moved (u := U) (U := U.calling f mk a) (Vm.Alike.refl U.vm) h.2⟩
/-- a cell of the script is read -/
theorem k_cell {own : String} {y : MethodName} {bytes : ByteArray} {maxL nL n index d b L : Nat} {xs : Nat → Int32} {ret : Option FieldType} {ws : List Cond} {As st : List Value} (hM : Met l y ws (rm_ d 0 0) (va_Pc As (fun U => va_X b L xs U U.heap)) (vp_Si (fun _ => True)) 0 0 (fun _ => False)) (hX : va_X b L xs s s.heap) (hbl : b < s.heap.size) (hbA : ¬ AA B0 b) (hS : va_S (AA B0) s.heap H locs) (S : CallFix p m c cc nL s args Ts own) (cw : CallB R s args own index y bytes maxL ret ws (rm_ d 0 0) 0 0 n ∧ (Cond.static y).before args s = true) (hn : As.length = n) (hsize : ls.size = nL) (hst : st = As.reverse ++ rest) (hW : (rest.map fun v => v.category).sum ≤ 8) (hdg : decode cc pc = .ok (.invokestatic index, 3)) (hf : cells ≤ R.cells ∧ slots ≤ R.slots)
    (kk : ∀ v : Int32, W p l e R s m args below meth c H locs cells slots Q (F0 m (pc + 3) ls (.int v :: rest))) : W p l e R s m args below meth c H locs cells slots Q (F0 m pc ls st) :=
  vp_callSi (W.runS S hM cw ⟨X_blind, fun U hU hW => ⟨rfl, va_X.moved hW.alike (by rw [hU]; exact hX.kept (hS.2.1 b hbl hbA))⟩⟩ rfl hn hsize hst (lv_room hW) hdg ⟨hf.1, hf.2⟩) (fun r _ => kk r)
/-- an act of the law -/
theorem k_act {own : String} {nL index o : Nat} {v : Int32} {st : List Value} (hM : WA l B0 g ct ad cS mS x o v) (hC : CX B0 g ct ad cS mS x s H) (hS : va_S (AA B0) s.heap H locs) (S : CallFix p m c cc nL s args Ts own) (cw : CallB R s args own index yL_act cL_act 10 (some .boolean) wsL_act (rm_ 3 4 32) 4 32 3 ∧ (Cond.static yL_act).before args s = true) (hsize : ls.size = nL) (hst : st = .int v :: .ref o :: .ref (ad 0) :: rest) (hW : (rest.map fun v => v.category).sum ≤ 8) (hdg : decode cc pc = .ok (.invokestatic index, 3)) (hf : cells + 4 ≤ R.cells ∧ slots + 32 ≤ R.slots)
    (kk : ∀ (c1 : St_) (m1 : Pl_) (x1 : Ax_) (H1 : Heap) (locs1 : List Loc), SI_ ct m1 o c1 → IZ_ c1 → CX B0 g ct ad c1 m1 x1 s H1 → va_S (AA B0) s.heap H1 locs1 → W p l e R s m args below meth c H1 locs1 (cells + 4) (slots + 32) Q (F0 m (pc + 3) ls (.int (nI 1) :: rest))) : W p l e R s m args below meth c H locs cells slots Q (F0 m pc ls st) :=
  va_calli (va_runS (As := [.ref (ad 0), .ref o, .int v]) S hM cw ⟨CX.blind, fun U hU hW => ⟨rfl, hC.warm hU hW⟩⟩ rfl rfl hsize hst (lv_room hW) hdg hf) hS (fun q _ h => h) (fun q h => h) (fun r u t H1 locs1 ht hvm hw hB1 hz hk hS1 => by
    obtain ⟨rfl, h1, h2⟩ := hw
    rw [ht] at hB1
    exact kk u.1 u.2.1 u.2.2 H1 locs1 h1 h2 (CX.nextW hC hB1) hS1)
end RW10
end
section
/-- the poem that cells choose -/
abbrev WB (l : Launch) (B0 : Nat) (g : va_G) (ct ad : Nat → Nat) (mS : Pl_) (x : Ax_) (b L : Nat) (xs : Nat → Int32) : Prop := Met l yL_build wsL_build (rm_ 4 147 1155) (va_Pc [.ref (ad 0), .ref b] (fun U => CX B0 g ct ad z0_ mS x U U.heap ∧ va_X b L xs U U.heap)) (va_Qr (fun (u : St_ × Pl_ × Ax_) => IZ_ u.1) (fun u r t => SI_ ct u.2.1 r u.1 ∧ CW B0 g ct ad u.1 u.2.1 u.2.2 t.heap) (AA B0)) 147 1155 (AA B0)
set_option maxHeartbeats 4000000 in
set_option maxRecDepth 100000 in
theorem c_L_build (l : Launch) (B0 : Nat) (g : va_G) (ct ad : Nat → Nat) (mS : Pl_) (x : Ax_) (b L : Nat) (xs : Nat → Int32) (hL : L ≤ 260) (hbB : b < B0) : WB l B0 g ct ad mS x b L xs := by
  refine Met.ofW (cc := cL_build) (maxL := 4) (ret := (some (.object "AbjadPoemsLaw$Sim"))) (by decide) rfl ?_
  intro p e s m args below meth c s₁ B hml hv
  obtain ⟨rfl, hC, hX⟩ := hv
  have hx := B.exec
  have hb := B.bytes
  have hr := B.returns
  have hts := atoms_spec (ws := wsL_build) B.pre
  have hown : s.vm.findClass RL = some m.cls := findClass_of_methodNamed B.named
  have hlocks := B.notSynchronized
  have hin : ∀ w ∈ wsX00, w ∈ wsL_build := fun _ h => List.mem_cons_of_mem _ (List.mem_append_left _ (List.mem_append_left _ (List.mem_append_left _ (List.mem_append_right _ h))))
  have hin1 : ∀ w ∈ wsX10, w ∈ wsL_build := fun _ h => List.mem_cons_of_mem _ (List.mem_append_left _ (List.mem_append_left _ (List.mem_append_left _ (List.mem_append_left _ (List.mem_append_right _ h)))))
  have hS : va_S (AA B0) s.heap s.heap [] := va_S.rf
  have hB : B0 ≤ s.heap.size := hC.1.2.2.1
  have hbA : ¬ AA B0 b := fun q => absurd hbB (Nat.not_lt.mpr q)
  have hbl : b < s.heap.size := Nat.lt_of_lt_of_le hbB hB
  have hl := lv_entry ([.ref (ad 0), .ref b]) (n := 4) (Nat.le_of_ble_eq_true rfl)
  rw [lg_entry_eq]
  generalize (lg_sl ([.ref (ad 0), .ref b]) ++ List.replicate (4 - (lg_sl ([.ref (ad 0), .ref b])).length) Slot.unset).toArray = ls at hl ⊢
  have hl : lv_has ls 4 [(0, .ref (ad 0)), (1, .ref b)] := hl
  refine n_s hC hB hS hx hb hts hin1 hown (hts (.classLink RL 16 RX1) (by decide +kernel)) (hts (.instantiable RX1 3) (by decide +kernel)) (hts (.initialized RX1) (by decide +kernel)) (by show _ ≤ 147; omega) (by show _ ≤ 1155; omega) dL_build_0 (fun q_0 m_0 H fq_0 xq_0 O_0 hC hS => ?_)
  refine lv_dup hx hb dL_build_3 rfl ?_
  refine k_nI (As := []) (rest := [.ref q_0]) (c_X1_init l B0 g ct ad z0_ m_0 x q_0 O_0) hC hS ⟨hx, hb, hml, hown, hts⟩ ⟨va_cnB 0 hts gL_build_X1_init_n58 rfl rfl rfl hC.2.2.2.2.2.2.2.1 (hts (.initialized RX1) (by decide +kernel)) (by decide +kernel) ⟨Nat.le_of_ble_eq_true rfl, Nat.le_of_ble_eq_true rfl⟩, rfl, hts (.instanceMethod yX1_init) (by decide +kernel)⟩ rfl hl.1 rfl (Nat.le_of_ble_eq_true rfl) dL_build_4 ⟨(by show _ ≤ 147; omega), (by show _ ≤ 1155; omega)⟩ (fun m_4 x_4 H locs hr_4 hC hS => ?_)
  refine lv_astore_n (lv' := [(2, .ref q_0), (0, .ref (ad 0)), (1, .ref b)]) hx hb dL_build_7 rfl hl (by decide) rfl (fun ls hl => ?_)
  refine lv_iconst (v := nI 0) hx hb dL_build_8 (by decide) ?_
  refine lv_istore_n (lv' := [(3, .int (nI 0)), (2, .ref q_0), (0, .ref (ad 0)), (1, .ref b)]) hx hb dL_build_9 rfl hl (by decide) rfl (fun ls hl => ?_)
  have LP_10 : ∀ (n_ : Nat) (k : Nat) (cL : St_) (mL : Pl_) (xL : Ax_), 36 - k < n_ → (k ≤ 36) → (SI_ ct mL q_0 cL) → (IZ_ cL) → ∀ (H : Heap) (locs : List Loc), CX B0 g ct ad cL mL xL s H → va_S (AA B0) s.heap H locs → ∀ ls : Array Slot, lv_has ls 4 [(3, .int (nI k)), (2, .ref q_0), (0, .ref (ad 0)), (1, .ref b)] → W p l e (headSpec wsL_build (rm_ 4 147 1155)).room s m ([.ref (ad 0), .ref b] : List Value).toArray below meth c H locs (3 + 4 * k) (3 + 32 * k) (MQ below (va_Qr (fun (u : St_ × Pl_ × Ax_) => IZ_ u.1) (fun u r t => SI_ ct u.2.1 r u.1 ∧ CW B0 g ct ad u.1 u.2.1 u.2.2 t.heap) (AA B0)) ([.ref (ad 0), .ref b] : List Value).toArray s 147 1155 (AA B0)) (F0 m 10 ls []) := by
    intro n_
    induction n_ with
    | zero => intro k cL mL xL hm; exact absurd hm (Nat.not_lt_zero _)
    | succ n_ ih_10 =>
      intro k cL mL xL hm hk hJL hZL H locs hC hS ls hl
      refine lv_iload_n hx hb dL_build_10 rfl (lv_at hl 0 rfl) ?_
      refine lv_bipush (v := nI 36) hx hb dL_build_11 (by decide) ?_
      refine lv_icmp_ge (tgt := 53) hx hb dL_build_13 (by decide) (fun c_13 => ?_) (fun c_13 => ?_)
      · skip
        have n_13 : 36 ≤ k := (nI_leI (a := 36) (b := k) (by omega) (by omega)).mp c_13
        refine lv_aload_n hx hb dL_build_53 rfl (lv_at hl 1 rfl) ?_
        refine W.widen (k := 147) (n := 1155) (by omega) (by omega) ?_
        exact W.aret hx hb hr (Or.inl ⟨_, rfl⟩) (Or.inr ⟨_, rfl⟩) (fun t ht hW => ⟨⟨(cL, mL, xL), _, rfl, hZL, hJL, (by show CW B0 g ct ad cL mL xL t.heap; rw [ht]; exact hC.1)⟩, hS.F ht⟩) hS.2.2 dL_build_54
      · skip
        have n_13 : ¬ 36 ≤ k := fun q__ => c_13 ((nI_leI (a := 36) (b := k) (by omega) (by omega)).mpr q__)
        refine lv_aload_n hx hb dL_build_16 rfl (lv_at hl 2 rfl) ?_
        refine lv_aload_n hx hb dL_build_17 rfl (lv_at hl 1 rfl) ?_
        refine lv_aload_n hx hb dL_build_18 rfl (lv_at hl 3 rfl) ?_
        refine lv_iload_n hx hb dL_build_19 rfl (lv_at hl 0 rfl) ?_
        refine lv_bipush (v := nI 16) hx hb dL_build_20 (by decide) ?_
        refine lv_irem hx hb dL_build_22 (by decide) ?_
        refine lv_tn (pk_rem (by omega) (by decide) (by decide)) ?_
        refine k_cell (As := [.ref b, .int (nI (k % 16))]) (rest := [.ref q_0, .ref (ad 0)]) (c_L_cell l b L xs (k % 16) (by omega) hL) hX hbl hbA hS ⟨hx, hb, hml, hown, hts⟩ (va_cwS 2 hts gL_build_L_cell rfl rfl rfl (by decide +kernel) ⟨Nat.le_of_ble_eq_true rfl, Nat.le_of_ble_eq_true rfl⟩) rfl hl.1 rfl (Nat.le_of_ble_eq_true rfl) dL_build_23 ⟨(by show _ ≤ 147; omega), (by show _ ≤ 1155; omega)⟩ (fun v_23 => ?_)
        refine lv_iload_n hx hb dL_build_26 rfl (lv_at hl 0 rfl) ?_
        refine lv_bipush (v := nI 16) hx hb dL_build_27 (by decide) ?_
        refine lv_idiv hx hb dL_build_29 (by decide) ?_
        refine lv_tn (pk_div (by omega) (by decide) (by decide)) ?_
        refine lv_iconst (v := nI 3) hx hb dL_build_30 (by decide) ?_
        refine lv_imul hx hb dL_build_31 ?_
        refine lv_tn (pk_mul _ _) ?_
        refine lv_ishr hx hb dL_build_32 ?_
        refine lv_sipush (v := nI 239) hx hb dL_build_33 (by decide) ?_
        refine lv_iload_n hx hb dL_build_36 rfl (lv_at hl 0 rfl) ?_
        refine lv_imul hx hb dL_build_37 ?_
        refine lv_tn (pk_mul _ _) ?_
        refine lv_iadd hx hb dL_build_38 ?_
        refine k_act (rest := []) (c_L_act l B0 g ct ad cL mL xL q_0 hJL hZL ((v_23 >>> (nI ((k / 16) * 3) &&& 31)) + (nI (239 * k)))) hC hS ⟨hx, hb, hml, hown, hts⟩ (va_cwS 3 hts gL_build_L_act rfl rfl rfl (by decide +kernel) ⟨Nat.le_of_ble_eq_true rfl, Nat.le_of_ble_eq_true rfl⟩) hl.1 rfl (Nat.le_of_ble_eq_true rfl) dL_build_39 ⟨(by show _ ≤ 147; omega), (by show _ ≤ 1155; omega)⟩ (fun c_a39 m_a39 x_a39 H locs hJ_39 hZ_39 hC hS => ?_)
        refine lv_if_ne (tgt := 47) hx hb dL_build_42 (by decide) (fun c_42 => ?_) (fun c_42 => ?_)
        · skip
          have n_42 : ¬ 1 = 0 := fun q__ => c_42 ((eq0_ (by omega)).mpr q__)
          refine lv_iinc (v := nI (k + 1)) (lv' := [(3, .int (nI (k + 1))), (2, .ref q_0), (0, .ref (ad 0)), (1, .ref b)]) hx hb dL_build_47 hl (k := 0) rfl (nI_1 _) (by decide) rfl (fun ls hl => ?_)
          refine lv_goto (tgt := 10) hx hb dL_build_50 (by decide) ?_
          refine W.widen (k := 3 + 4 * (k + 1)) (n := 3 + 32 * (k + 1)) (by omega) (by omega) ?_
          exact ih_10 (k + 1) c_a39 m_a39 x_a39 (by omega) (by omega) hJ_39 hZ_39 H locs hC hS ls (lv_sub hl [0, 1, 2, 3] rfl)
        · skip
          have n_42 : 1 = 0 := (eq0_ (by omega)).mp c_42
          exact absurd n_42 (by decide)
  refine W.widen (k := 3 + 4 * 0) (n := 3 + 32 * 0) (by omega) (by omega) ?_
  exact LP_10 _ 0 z0_ m_4 x_4 (Nat.lt_succ_self _) (by omega) hr_4 IZ_z H locs hC hS ls (lv_sub hl [0, 1, 2, 3] rfl)
end
section
theorem zz_ : True := trivial
end
