section
-- ===== PART A: goes FIRST, ahead of the names: the tables' words, and 'selects' of the private methods out of them =====
/-- a private method of a class that the tables say can be made, by its rows of tables_1 -/
def lw_okq (q : MethodName × Nat) : Prop := (q.1.cls ≠ "java/lang/invoke/MethodHandle" ∧ q.1.cls ≠ "java/lang/invoke/VarHandle") ∧ Cond.instantiable q.1.cls q.2 ∈ tables_1 ∧ Cond.privateMethod q.1 ∈ tables_1 ∧ Cond.instanceMethod q.1 ∈ tables_1
theorem lw_p0 : lw_okq (⟨"AbjadPoems", "lastOfRun", "(III)I"⟩, 8) := ⟨⟨by decide +kernel, by decide +kernel⟩, List.mem_of_getElem? (i := 12) (by decide +kernel), List.mem_of_getElem? (i := 53) (by decide +kernel), List.mem_of_getElem? (i := 54) (by decide +kernel)⟩
theorem lw_p1 : lw_okq (⟨"AbjadPoems", "worthOfPlaces", "(II)I"⟩, 8) := ⟨⟨by decide +kernel, by decide +kernel⟩, List.mem_of_getElem? (i := 12) (by decide +kernel), List.mem_of_getElem? (i := 57) (by decide +kernel), List.mem_of_getElem? (i := 58) (by decide +kernel)⟩
theorem lw_p2 : lw_okq (⟨"AbjadPoems", "worthOfLetter", "(I)I"⟩, 8) := ⟨⟨by decide +kernel, by decide +kernel⟩, List.mem_of_getElem? (i := 12) (by decide +kernel), List.mem_of_getElem? (i := 67) (by decide +kernel), List.mem_of_getElem? (i := 68) (by decide +kernel)⟩
theorem lw_p3 : lw_okq (⟨"AbjadPoems", "figureOfLine", "(II)I"⟩, 8) := ⟨⟨by decide +kernel, by decide +kernel⟩, List.mem_of_getElem? (i := 12) (by decide +kernel), List.mem_of_getElem? (i := 75) (by decide +kernel), List.mem_of_getElem? (i := 76) (by decide +kernel)⟩
theorem lw_p4 : lw_okq (⟨"AbjadPoems", "figureOfWord", "(III)I"⟩, 8) := ⟨⟨by decide +kernel, by decide +kernel⟩, List.mem_of_getElem? (i := 12) (by decide +kernel), List.mem_of_getElem? (i := 79) (by decide +kernel), List.mem_of_getElem? (i := 80) (by decide +kernel)⟩
theorem lw_p5 : lw_okq (⟨"AbjadPoems", "sumOverLines", "(I)I"⟩, 8) := ⟨⟨by decide +kernel, by decide +kernel⟩, List.mem_of_getElem? (i := 12) (by decide +kernel), List.mem_of_getElem? (i := 96) (by decide +kernel), List.mem_of_getElem? (i := 97) (by decide +kernel)⟩
theorem lw_p6 : lw_okq (⟨"java/lang/Throwable", "fillInStackTrace", "(I)Ljava/lang/Throwable;"⟩, 6) := ⟨⟨by decide +kernel, by decide +kernel⟩, List.mem_of_getElem? (i := 151) (by decide +kernel), List.mem_of_getElem? (i := 149) (by decide +kernel), List.mem_of_getElem? (i := 150) (by decide +kernel)⟩
theorem lw_p7 : lw_okq (⟨"AbjadPoems", "pairsOfSameWorth", "()I"⟩, 8) := ⟨⟨by decide +kernel, by decide +kernel⟩, List.mem_of_getElem? (i := 12) (by decide +kernel), List.mem_of_getElem? (i := 181) (by decide +kernel), List.mem_of_getElem? (i := 182) (by decide +kernel)⟩
theorem lw_p8 : lw_okq (⟨"AbjadPoems", "timesAmongWorths", "(II)I"⟩, 8) := ⟨⟨by decide +kernel, by decide +kernel⟩, List.mem_of_getElem? (i := 12) (by decide +kernel), List.mem_of_getElem? (i := 185) (by decide +kernel), List.mem_of_getElem? (i := 186) (by decide +kernel)⟩
theorem lw_p9 : lw_okq (⟨"AbjadPoems", "digestOfLine", "(JI)J"⟩, 8) := ⟨⟨by decide +kernel, by decide +kernel⟩, List.mem_of_getElem? (i := 12) (by decide +kernel), List.mem_of_getElem? (i := 189) (by decide +kernel), List.mem_of_getElem? (i := 190) (by decide +kernel)⟩
theorem lw_p10 : lw_okq (⟨"AbjadPoems", "checkLine", "(I)V"⟩, 8) := ⟨⟨by decide +kernel, by decide +kernel⟩, List.mem_of_getElem? (i := 12) (by decide +kernel), List.mem_of_getElem? (i := 282) (by decide +kernel), List.mem_of_getElem? (i := 283) (by decide +kernel)⟩
theorem lw_p11 : lw_okq (⟨"AbjadPoems", "checkWordOfLine", "(II)V"⟩, 8) := ⟨⟨by decide +kernel, by decide +kernel⟩, List.mem_of_getElem? (i := 12) (by decide +kernel), List.mem_of_getElem? (i := 303) (by decide +kernel), List.mem_of_getElem? (i := 304) (by decide +kernel)⟩
theorem lw_p12 : lw_okq (⟨"AbjadPoems", "fillFewest", "()V"⟩, 8) := ⟨⟨by decide +kernel, by decide +kernel⟩, List.mem_of_getElem? (i := 12) (by decide +kernel), List.mem_of_getElem? (i := 352) (by decide +kernel), List.mem_of_getElem? (i := 353) (by decide +kernel)⟩
theorem lw_p13 : lw_okq (⟨"AbjadPoems", "fewestBySmaller", "(I)I"⟩, 8) := ⟨⟨by decide +kernel, by decide +kernel⟩, List.mem_of_getElem? (i := 12) (by decide +kernel), List.mem_of_getElem? (i := 356) (by decide +kernel), List.mem_of_getElem? (i := 357) (by decide +kernel)⟩
theorem lw_p14 : lw_okq (⟨"AbjadPoems", "greatestFirst", "(I)I"⟩, 8) := ⟨⟨by decide +kernel, by decide +kernel⟩, List.mem_of_getElem? (i := 12) (by decide +kernel), List.mem_of_getElem? (i := 367) (by decide +kernel), List.mem_of_getElem? (i := 368) (by decide +kernel)⟩
theorem lw_p15 : lw_okq (⟨"AbjadPoemsModel", "fail", "(I)I"⟩, 6) := ⟨⟨by decide +kernel, by decide +kernel⟩, List.mem_of_getElem? (i := 371) (by decide +kernel), List.mem_of_getElem? (i := 407) (by decide +kernel), List.mem_of_getElem? (i := 408) (by decide +kernel)⟩
def lw_privs_1 : List (MethodName × Nat) := [(⟨"AbjadPoems", "lastOfRun", "(III)I"⟩, 8), (⟨"AbjadPoems", "worthOfPlaces", "(II)I"⟩, 8), (⟨"AbjadPoems", "worthOfLetter", "(I)I"⟩, 8), (⟨"AbjadPoems", "figureOfLine", "(II)I"⟩, 8), (⟨"AbjadPoems", "figureOfWord", "(III)I"⟩, 8), (⟨"AbjadPoems", "sumOverLines", "(I)I"⟩, 8), (⟨"java/lang/Throwable", "fillInStackTrace", "(I)Ljava/lang/Throwable;"⟩, 6), (⟨"AbjadPoems", "pairsOfSameWorth", "()I"⟩, 8), (⟨"AbjadPoems", "timesAmongWorths", "(II)I"⟩, 8), (⟨"AbjadPoems", "digestOfLine", "(JI)J"⟩, 8), (⟨"AbjadPoems", "checkLine", "(I)V"⟩, 8), (⟨"AbjadPoems", "checkWordOfLine", "(II)V"⟩, 8), (⟨"AbjadPoems", "fillFewest", "()V"⟩, 8), (⟨"AbjadPoems", "fewestBySmaller", "(I)I"⟩, 8), (⟨"AbjadPoems", "greatestFirst", "(I)I"⟩, 8), (⟨"AbjadPoemsModel", "fail", "(I)I"⟩, 6)]
theorem lw_r1 : ∀ q ∈ lw_privs_1, lw_okq q := List.forall_mem_cons.mpr ⟨lw_p0, List.forall_mem_cons.mpr ⟨lw_p1, List.forall_mem_cons.mpr ⟨lw_p2, List.forall_mem_cons.mpr ⟨lw_p3, List.forall_mem_cons.mpr ⟨lw_p4, List.forall_mem_cons.mpr ⟨lw_p5, List.forall_mem_cons.mpr ⟨lw_p6, List.forall_mem_cons.mpr ⟨lw_p7, List.forall_mem_cons.mpr ⟨lw_p8, List.forall_mem_cons.mpr ⟨lw_p9, List.forall_mem_cons.mpr ⟨lw_p10, List.forall_mem_cons.mpr ⟨lw_p11, List.forall_mem_cons.mpr ⟨lw_p12, List.forall_mem_cons.mpr ⟨lw_p13, List.forall_mem_cons.mpr ⟨lw_p14, List.forall_mem_cons.mpr ⟨lw_p15, fun _ h => absurd h List.not_mem_nil⟩⟩⟩⟩⟩⟩⟩⟩⟩⟩⟩⟩⟩⟩⟩⟩
theorem lw_p16 : lw_okq (⟨"AbjadPoemsModel", "valueOf", "(I)I"⟩, 6) := ⟨⟨by decide +kernel, by decide +kernel⟩, List.mem_of_getElem? (i := 371) (by decide +kernel), List.mem_of_getElem? (i := 415) (by decide +kernel), List.mem_of_getElem? (i := 416) (by decide +kernel)⟩
theorem lw_p17 : lw_okq (⟨"AbjadPoemsModel", "sum", "(I)I"⟩, 6) := ⟨⟨by decide +kernel, by decide +kernel⟩, List.mem_of_getElem? (i := 371) (by decide +kernel), List.mem_of_getElem? (i := 429) (by decide +kernel), List.mem_of_getElem? (i := 430) (by decide +kernel)⟩
theorem lw_p18 : lw_okq (⟨"AbjadPoemsModel", "isLine", "(I)Z"⟩, 6) := ⟨⟨by decide +kernel, by decide +kernel⟩, List.mem_of_getElem? (i := 371) (by decide +kernel), List.mem_of_getElem? (i := 451) (by decide +kernel), List.mem_of_getElem? (i := 452) (by decide +kernel)⟩
theorem lw_p19 : lw_okq (⟨"AbjadPoemsModel", "base", "(II)I"⟩, 6) := ⟨⟨by decide +kernel, by decide +kernel⟩, List.mem_of_getElem? (i := 371) (by decide +kernel), List.mem_of_getElem? (i := 455) (by decide +kernel), List.mem_of_getElem? (i := 456) (by decide +kernel)⟩
theorem lw_p20 : lw_okq (⟨"AbjadPoemsModel", "wo", "(II)I"⟩, 6) := ⟨⟨by decide +kernel, by decide +kernel⟩, List.mem_of_getElem? (i := 371) (by decide +kernel), List.mem_of_getElem? (i := 463) (by decide +kernel), List.mem_of_getElem? (i := 464) (by decide +kernel)⟩
theorem lw_p21 : lw_okq (⟨"AbjadPoemsModel", "isOne", "(II)Z"⟩, 6) := ⟨⟨by decide +kernel, by decide +kernel⟩, List.mem_of_getElem? (i := 371) (by decide +kernel), List.mem_of_getElem? (i := 471) (by decide +kernel), List.mem_of_getElem? (i := 472) (by decide +kernel)⟩
theorem lw_p22 : lw_okq (⟨"AbjadPoemsModel", "wordTold", "(III)I"⟩, 6) := ⟨⟨by decide +kernel, by decide +kernel⟩, List.mem_of_getElem? (i := 371) (by decide +kernel), List.mem_of_getElem? (i := 479) (by decide +kernel), List.mem_of_getElem? (i := 480) (by decide +kernel)⟩
theorem lw_p23 : lw_okq (⟨"AbjadPoemsModel", "lineTold", "(II)I"⟩, 6) := ⟨⟨by decide +kernel, by decide +kernel⟩, List.mem_of_getElem? (i := 371) (by decide +kernel), List.mem_of_getElem? (i := 487) (by decide +kernel), List.mem_of_getElem? (i := 488) (by decide +kernel)⟩
theorem lw_p24 : lw_okq (⟨"AbjadPoemsModel", "toldOf", "(I)I"⟩, 6) := ⟨⟨by decide +kernel, by decide +kernel⟩, List.mem_of_getElem? (i := 371) (by decide +kernel), List.mem_of_getElem? (i := 495) (by decide +kernel), List.mem_of_getElem? (i := 496) (by decide +kernel)⟩
theorem lw_p25 : lw_okq (⟨"AbjadPoemsModel", "pairs", "()I"⟩, 6) := ⟨⟨by decide +kernel, by decide +kernel⟩, List.mem_of_getElem? (i := 371) (by decide +kernel), List.mem_of_getElem? (i := 499) (by decide +kernel), List.mem_of_getElem? (i := 500) (by decide +kernel)⟩
theorem lw_p26 : lw_okq (⟨"AbjadPoemsModel", "all", "(I)I"⟩, 6) := ⟨⟨by decide +kernel, by decide +kernel⟩, List.mem_of_getElem? (i := 371) (by decide +kernel), List.mem_of_getElem? (i := 503) (by decide +kernel), List.mem_of_getElem? (i := 504) (by decide +kernel)⟩
theorem lw_p27 : lw_okq (⟨"AbjadPoemsModel", "runTo", "(III)I"⟩, 6) := ⟨⟨by decide +kernel, by decide +kernel⟩, List.mem_of_getElem? (i := 371) (by decide +kernel), List.mem_of_getElem? (i := 511) (by decide +kernel), List.mem_of_getElem? (i := 512) (by decide +kernel)⟩
theorem lw_p28 : lw_okq (⟨"AbjadPoemsModel", "fewest", "(I)[I"⟩, 6) := ⟨⟨by decide +kernel, by decide +kernel⟩, List.mem_of_getElem? (i := 371) (by decide +kernel), List.mem_of_getElem? (i := 532) (by decide +kernel), List.mem_of_getElem? (i := 533) (by decide +kernel)⟩
def lw_privs_2 : List (MethodName × Nat) := [(⟨"AbjadPoemsModel", "valueOf", "(I)I"⟩, 6), (⟨"AbjadPoemsModel", "sum", "(I)I"⟩, 6), (⟨"AbjadPoemsModel", "isLine", "(I)Z"⟩, 6), (⟨"AbjadPoemsModel", "base", "(II)I"⟩, 6), (⟨"AbjadPoemsModel", "wo", "(II)I"⟩, 6), (⟨"AbjadPoemsModel", "isOne", "(II)Z"⟩, 6), (⟨"AbjadPoemsModel", "wordTold", "(III)I"⟩, 6), (⟨"AbjadPoemsModel", "lineTold", "(II)I"⟩, 6), (⟨"AbjadPoemsModel", "toldOf", "(I)I"⟩, 6), (⟨"AbjadPoemsModel", "pairs", "()I"⟩, 6), (⟨"AbjadPoemsModel", "all", "(I)I"⟩, 6), (⟨"AbjadPoemsModel", "runTo", "(III)I"⟩, 6), (⟨"AbjadPoemsModel", "fewest", "(I)[I"⟩, 6)]
theorem lw_r2 : ∀ q ∈ lw_privs_2, lw_okq q := List.forall_mem_cons.mpr ⟨lw_p16, List.forall_mem_cons.mpr ⟨lw_p17, List.forall_mem_cons.mpr ⟨lw_p18, List.forall_mem_cons.mpr ⟨lw_p19, List.forall_mem_cons.mpr ⟨lw_p20, List.forall_mem_cons.mpr ⟨lw_p21, List.forall_mem_cons.mpr ⟨lw_p22, List.forall_mem_cons.mpr ⟨lw_p23, List.forall_mem_cons.mpr ⟨lw_p24, List.forall_mem_cons.mpr ⟨lw_p25, List.forall_mem_cons.mpr ⟨lw_p26, List.forall_mem_cons.mpr ⟨lw_p27, List.forall_mem_cons.mpr ⟨lw_p28, fun _ h => absurd h List.not_mem_nil⟩⟩⟩⟩⟩⟩⟩⟩⟩⟩⟩⟩⟩
def lw_privs : List (MethodName × Nat) := lw_privs_1 ++ (lw_privs_2)
def lw_tbl : List Cond := k2_sels lw_privs ++ tables_1
theorem lw_privs_ok : ∀ q ∈ lw_privs, lw_okq q := by
  show ∀ q ∈ lw_privs_1 ++ (lw_privs_2), lw_okq q
  exact List.forall_mem_append.mpr ⟨lw_r1, lw_r2⟩
/-- the streams that the claim lets the run draw from -/
abbrev lw_cs : List Choice := [Jvm.Choice.named "NaN.bits"]
theorem lw_bits : nanBits ∈ lw_cs := by first | decide | exact List.mem_cons_self | simp [lw_cs, nanBits]
-- ===== end of PART A; then your names; then what follows =====
/-! ===== BEGIN words of one list among another's, by their places ===== -/
theorem goodIn_r {big : List Cond} (ws : List Cond) (ps : List Nat) (hp : ws = ps.filterMap (fun i => big[i]?)) (h : ws.all goodWord = true) : GoodIn big ws := by
  intro w hw
  have h1 := List.all_eq_true.mp h w hw
  rw [hp] at hw
  obtain ⟨i, -, hi⟩ := List.mem_filterMap.mp hw
  have hm : w ∈ big := by first | exact List.mem_of_getElem? hi | exact List.getElem?_mem hi
  exact ⟨hm, good_of_word h1⟩
theorem goodIn_app {big a b : List Cond} (ha : GoodIn big a) (hb : GoodIn big b) : GoodIn big (a ++ b) := fun w h => (List.mem_append.mp h).elim (ha w) (hb w)
theorem goodIn_ca {big a b : List Cond} {c : Cond} (ha : GoodIn big (c :: a)) (hb : GoodIn big b) : GoodIn big (c :: (a ++ b)) := fun w h => (List.mem_cons.mp h).elim (fun e => ha w (List.mem_cons.mpr (Or.inl e))) (fun h => (List.mem_append.mp h).elim (fun h => ha w (List.mem_cons.mpr (Or.inr h))) (hb w))
theorem goodIn_sub {big ws : List Cond} (hm : ∀ w ∈ ws, w ∈ big) (h : ws.all goodWord = true) : GoodIn big ws := fun w hw => ⟨hm w hw, good_of_word (List.all_eq_true.mp h w hw)⟩
/-! ===== END ===== -/

/-- wanted by va_mna below: what the tables say of an array over arrays -/
def va_AOA (t : FieldType) (U : State) : Prop := (Cond.arrayOver (.array t)).before #[] U = true
theorem va_AOA.of {t : FieldType} {A : Array Value} {U : State} (h : (Cond.arrayOver (.array t)).before A U = true) : va_AOA t U := h
theorem va_AOA.use {t : FieldType} {A : Array Value} {U : State} (h : va_AOA t U) : (Cond.arrayOver (.array t)).before A U = true := h
/-! ===== BEGIN new T[n][m]: the outer array a place, the inner ones among the pooled ===== -/
/-- f, but v at every address of l -/
def vr_up {α : Type} (f : Nat → α) (l : List Nat) (v : α) : Nat → α := fun a => if a ∈ l then v else f a
theorem vr_up_in {α : Type} {f : Nat → α} {l : List Nat} {v : α} {a : Nat} (h : a ∈ l) : vr_up f l v a = v := if_pos h
theorem vr_up_ne {α : Type} {f : Nat → α} {l : List Nat} {v : α} {a : Nat} (h : a ∉ l) : vr_up f l v a = f a := if_neg h
theorem vr_rows {L l : List Nat} {f : Nat → va_E} {e : va_E} (h : ∀ a, a ∈ l → a ∉ L) : va_pl L f ++ l.map (fun a => (a, e)) = va_pl (L ++ l) (vr_up f l e) := by
  unfold va_pl
  rw [List.map_append]
  congr 1
  · apply List.map_congr_left
    intro a ha
    rw [vr_up_ne (fun q => h a q ha)]
  · apply List.map_congr_left
    intro a ha
    rw [vr_up_in ha]
theorem vr_lay {X rows : va_W} {x : Nat × va_E} {pl : va_W} {D : va_G} {cl : List vw_C} {H : Heap} (hP : va_P D cl (((X ++ pl) ++ [x]) ++ rows) H) : va_P D cl ((X ++ [x]) ++ (pl ++ rows)) H := by
  rw [List.append_assoc (X ++ pl)] at hP
  have h := va_P.swap hP
  rw [← List.append_assoc X] at h
  have h2 := va_P.swap h
  rw [List.append_assoc (X ++ [x])] at h2
  exact h2
theorem vr_layD {X rows : va_W} {x : Nat × va_E} {pl : va_W} {A : Nat → Prop} (hD : va_D A (((X ++ pl) ++ [x]) ++ rows)) : va_D A ((X ++ [x]) ++ (pl ++ rows)) := by
  rw [List.append_assoc (X ++ pl)] at hD
  have h := va_D.swap hD
  rw [← List.append_assoc X] at h
  have h2 := va_D.swap h
  rw [List.append_assoc (X ++ [x])] at h2
  exact h2
theorem vr_outer (c : ClassId) (N h0 : Nat) : ∀ i : Nat, Jvm.Free.Multi.outerC c N h0 i = arrV c N (fun j => va_rf (if j < i then some (h0 + 1 + j) else none))
  | 0 => by
    show ({ cls := c, slots := Array.replicate N .null, vm := .none } : Cell) = _
    rw [arrV_new]
    refine congrArg (arrV c N) (funext fun j => ?_)
    simp [va_rf]
  | i + 1 => by
    show (Jvm.Free.Multi.outerC c N h0 i).setSlot i (.ref (h0 + 1 + i)) = _
    rw [vr_outer c N h0 i, arrV_store]
    refine congrArg (arrV c N) (funext fun j => ?_)
    by_cases e : j = i
    · subst e
      simp [updV, va_rf]
    · by_cases h : j < i
      · simp [updV, e, h, Nat.lt_succ_of_lt h]
      · simp [updV, e, h, show ¬ j < i + 1 by omega]
section VGM
variable {p : Program} {l : Launch} {e : Env} {R : Room} {s : State} {m : MethodId} {args : Array Value} {below : List Frame} {meth : Method} {c : Code} {H : Heap} {locs : List Loc} {cells slots : Nat} {Q : State → Prop}
variable {cc : ByteArray} {pc : Nat} {ls : Array Slot} {rest : List Value} {D : va_G} {cl : List vw_C} {A : Nat → Prop} {a : Nat} {tys : List (ClassId × FieldType)} {ws : va_W} {H0 : Heap}
theorem va_mna {X : va_W} {L : List Nat} {f : Nat → va_E} {cc : ByteArray} (hexec : p.tables.exec = Jvm.exec) (hb : c.code = cc) {own : String} {index : Nat} {ty : FieldType} {cy : ClassId} (hown : s.vm.findClass own = some m.cls) (hclink : (Cond.classLink own index ("[" ++ (FieldType.array ty).toString)).before args s = true) (hover : va_AOA ty s) (harr : (Cond.arrayClass ty).before args s = true) (hcy : s.vm.findClass (FieldType.array ty).toString = some cy)
    (hK : va_K D cl tys s) (hP : va_P D cl (X ++ va_pl L f) H) (hD : va_D A (X ++ va_pl L f)) (hS : va_S A H0 H locs) (hA : ∀ q, H0.size ≤ q → A q) {n k : Int32} {N' K' : Nat} {z : vp_A} (hn : ¬ n < 0) (hk : ¬ k < 0) (hN : n.toNatClampNeg = N') (hM : k.toNatClampNeg = K')
    (hb1 : N' * 4 ≤ 536870912) (hb2 : K' * componentBytes ty ≤ 536870912) (hb3 : K' ≤ 536870912) (hdf : fits ty (defaultValue ty) = true) (hdd : (defaultValue ty).isDefault = true) (hcells : cells + (1 + N') ≤ R.cells) (hslots : slots + (N' + N' * K') ≤ R.slots) (hz : ∀ c : ClassId, Jvm.Free.Multi.innerC c K' (defaultValue ty) = vp_cell c z) (hdg : decode cc pc = .ok (.multianewarray index 2, 4))
    (kk : ∀ (q : Nat) (r : Nat → Nat) (cA : ClassId) (H1 : Heap), (∀ i j : Nat, i < N' → j < N' → r i = r j → i = j) → (∀ i : Nat, i < N' → r i ∉ L) → va_K D cl (tys ++ [(cA, .array ty)]) s →
      va_P D cl ((X ++ [(q, .inl (cA, N', .inr (.inr (.inr (.inr (fun i => if i < N' then some (r i) else none))))))]) ++ va_pl (L ++ (List.range N').map r) (vr_up f ((List.range N').map r) (.inl (cy, z)))) H1 → va_D A ((X ++ [(q, .inl (cA, N', .inr (.inr (.inr (.inr (fun i => if i < N' then some (r i) else none))))))]) ++ va_pl (L ++ (List.range N').map r) (vr_up f ((List.range N').map r) (.inl (cy, z)))) → va_S A H0 H1 locs →
      W p l e R s m args below meth c H1 locs (cells + 1 + N') (slots + N' + N' * K') Q (F0 m (pc + 4) ls (.ref q :: rest))) : W p l e R s m args below meth c H locs cells slots Q (F0 m pc ls (.int k :: .int n :: rest)) := by
  subst hN
  subst hM
  intro T hT Xs
  obtain ⟨vm₁, cA, comp, -, fA, fC, hO, -, X', step⟩ := Xs.multianewarray2F hexec hown hclink (va_AOA.use hover) harr (g := F0 m pc ls (.int k :: .int n :: rest)) rfl (by rw [hb]; exact hdg) rfl hn hk hb1 hb2 hb3 hdf hdd hcells hslots
  have ec : some cy = some comp := hcy.symm.trans fC
  cases ec
  generalize hF : Jvm.Free.Multi.fill (T.setVm vm₁) cA cy n.toNatClampNeg k.toNatClampNeg (defaultValue ty) n.toNatClampNeg = F at X' step
  have hTh : (T.setVm vm₁).heap = H := hT
  obtain ⟨f1, f2, -, -⟩ := Jvm.Free.Multi.fill_facts (T.setVm vm₁) cA cy n.toNatClampNeg k.toNatClampNeg (defaultValue ty) n.toNatClampNeg
  rw [hF, hTh] at f1 f2
  have hold : ∀ x : Nat, x < H.size → F.heap[x]? = H[x]? := fun x hx => by
    have := Jvm.Free.Multi.fill_old (T.setVm vm₁) cA cy n.toNatClampNeg k.toNatClampNeg (defaultValue ty) (a := x) (by rw [hTh]; exact hx) n.toNatClampNeg
    rw [hF, hTh] at this
    exact this
  have hrow : ∀ j : Nat, j < n.toNatClampNeg → F.heap[H.size + 1 + j]? = some (vp_cell cy z) := fun j hj => by
    have := Jvm.Free.Multi.fill_inner (T.setVm vm₁) cA cy n.toNatClampNeg k.toNatClampNeg (defaultValue ty) n.toNatClampNeg j hj
    rw [hF, hTh, hz] at this
    exact this
  have hout : Jvm.Free.Multi.outerC cA n.toNatClampNeg H.size n.toNatClampNeg = vp_cell cA (n.toNatClampNeg, .inr (.inr (.inr (.inr (fun i => if i < n.toNatClampNeg then some (H.size + 1 + i) else none))))) := by
    rw [vp_cell_q]
    exact vr_outer cA n.toNatClampNeg H.size n.toNatClampNeg
  rw [hout] at f2
  have hlt : ∀ a, a ∈ L → a < H.size := fun a ha => by
    obtain ⟨k9, hk9⟩ := va_pl_get (X := X) (f := f) ha
    exact (hP k9 _ hk9).lt
  have hnl : ∀ i : Nat, i < n.toNatClampNeg → H.size + 1 + i ∉ L := fun i _ h => by
    have := hlt _ h
    omega
  have hnm : ∀ a, a ∈ (List.range n.toNatClampNeg).map (fun i => H.size + 1 + i) → a ∉ L := fun a ha h => by
    obtain ⟨i, -, rfl⟩ := List.mem_map.mp ha
    have := hlt _ h
    omega
  have hP0 : va_P D cl (X ++ va_pl L f) F.heap := hP.kept (fun k9 x hx => hold x.1 ((hP k9 x hx).lt))
  have hP1 : va_P D cl ((X ++ va_pl L f) ++ [(H.size, .inl (cA, n.toNatClampNeg, .inr (.inr (.inr (.inr (fun i => if i < n.toNatClampNeg then some (H.size + 1 + i) else none))))))]) F.heap := hP0.app (fun k9 x hx => by
    have h0 : k9 < 1 := (List.getElem?_eq_some_iff.mp hx).1
    rw [show k9 = 0 by omega] at hx
    cases hx
    exact f2)
  have hP2 : va_P D cl (((X ++ va_pl L f) ++ [(H.size, .inl (cA, n.toNatClampNeg, .inr (.inr (.inr (.inr (fun i => if i < n.toNatClampNeg then some (H.size + 1 + i) else none))))))]) ++ ((List.range n.toNatClampNeg).map (fun i => H.size + 1 + i)).map (fun a => (a, .inl (cy, z)))) F.heap := hP1.app (fun k9 x hx => by
    obtain ⟨a, ha, rfl⟩ := List.mem_map.mp (List.mem_of_getElem? hx)
    obtain ⟨i, hi, rfl⟩ := List.mem_map.mp ha
    exact hrow i (List.mem_range.mp hi))
  have hD2 : va_D A (((X ++ va_pl L f) ++ [(H.size, .inl (cA, n.toNatClampNeg, .inr (.inr (.inr (.inr (fun i => if i < n.toNatClampNeg then some (H.size + 1 + i) else none))))))]) ++ ((List.range n.toNatClampNeg).map (fun i => H.size + 1 + i)).map (fun a => (a, .inl (cy, z)))) := by
    have hD1 := hD.push (e := .inl (cA, n.toNatClampNeg, .inr (.inr (.inr (.inr (fun i => if i < n.toNatClampNeg then some (H.size + 1 + i) else none)))))) hP rfl (hA _ hS.1)
    generalize hW1 : (X ++ va_pl L f) ++ [(H.size, .inl (cA, n.toNatClampNeg, .inr (.inr (.inr (.inr (fun i => if i < n.toNatClampNeg then some (H.size + 1 + i) else none))))))] = W1 at hD1 hP1 ⊢
    have hle : ∀ (k9 : Nat) (x : Nat × va_E), W1[k9]? = some x → x.1 ≤ H.size := fun k9 x hx => by
      rw [← hW1] at hx
      by_cases hl : k9 < (X ++ va_pl L f).length
      · rw [List.getElem?_append_left hl] at hx
        exact Nat.le_of_lt ((hP k9 x hx).lt)
      · rw [List.getElem?_append_right (by omega)] at hx
        have h0 : k9 - (X ++ va_pl L f).length < 1 := (List.getElem?_eq_some_iff.mp hx).1
        rw [show k9 - (X ++ va_pl L f).length = 0 by omega] at hx
        cases hx
        exact Nat.le_refl _
    have hr : ∀ (k9 : Nat) (x : Nat × va_E), (((List.range n.toNatClampNeg).map (fun i => H.size + 1 + i)).map (fun a => ((a, .inl (cy, z)) : Nat × va_E)))[k9]? = some x → x.1 = H.size + 1 + k9 := fun k9 x hx => by
      rw [List.getElem?_map, List.getElem?_map] at hx
      by_cases h9 : k9 < n.toNatClampNeg
      · rw [List.getElem?_range h9] at hx
        cases hx
        rfl
      · have hn0 : (List.range n.toNatClampNeg)[k9]? = none := List.getElem?_eq_none (by rw [List.length_range]; omega)
        rw [hn0] at hx
        cases hx
    refine ⟨fun i j x y hi hj hxy => ?_, fun k9 x hx => ?_⟩
    · by_cases h1 : i < W1.length <;> by_cases h2 : j < W1.length
      · rw [List.getElem?_append_left h1] at hi
        rw [List.getElem?_append_left h2] at hj
        exact hD1.1 i j x y hi hj hxy
      · rw [List.getElem?_append_left h1] at hi
        rw [List.getElem?_append_right (by omega)] at hj
        have := hle _ _ hi
        have := hr _ _ hj
        omega
      · rw [List.getElem?_append_right (by omega)] at hi
        rw [List.getElem?_append_left h2] at hj
        have := hle _ _ hj
        have := hr _ _ hi
        omega
      · rw [List.getElem?_append_right (by omega)] at hi hj
        have := hr _ _ hi
        have := hr _ _ hj
        omega
    · by_cases h1 : k9 < W1.length
      · rw [List.getElem?_append_left h1] at hx
        exact hD1.2 k9 x hx
      · rw [List.getElem?_append_right (by omega)] at hx
        have := hr _ _ hx
        exact hA _ (by have := hS.1; omega)
  have hAr : ArrOfT s cA (.array ty) := fun N9 z9 => by
    obtain ⟨-, k9, hk9, cm9, hkk9⟩ := (hO 0 0 0).1
    exact ⟨(fun q hq => by cases hq), k9, hk9, cm9, hkk9⟩
  have hK2 : va_K D cl (tys ++ [(cA, .array ty)]) s := ⟨hK.1, fun k9 x hx => by
    by_cases hl : k9 < tys.length
    · rw [List.getElem?_append_left hl] at hx
      exact hK.2 k9 x hx
    · rw [List.getElem?_append_right (by omega)] at hx
      have h0 : k9 - tys.length < 1 := (List.getElem?_eq_some_iff.mp hx).1
      rw [show k9 - tys.length = 0 by omega] at hx
      cases hx
      exact ⟨hAr, fA⟩⟩
  obtain ⟨t, a1, b1⟩ := kk H.size (fun i => H.size + 1 + i) cA F.heap (fun i j _ _ h => by have h9 : H.size + 1 + i = H.size + 1 + j := h; omega) hnl hK2 (by rw [← vr_rows hnm]; exact vr_lay hP2) (by rw [← vr_rows hnm]; exact vr_layD hD2) ⟨by rw [f1]; have := hS.1; omega, fun x h1 h2 => (hold x (Nat.lt_of_lt_of_le h1 hS.1)).trans (hS.2.1 x h1 h2), hS.2.2⟩ F rfl X'
  refine ⟨t, step t ?_, b1⟩
  have e : T.heap.size = H.size := by rw [hT]
  rw [e]
  exact a1
end VGM
/-! ===== END ===== -/

/-! ===== BEGIN exceptions that leave a method, and their catching by the caller (launches without stack traces) ===== -/
section VXA
/-! The laws vx_back, vx_callV, vx_callS, vx_callSW, vx_throw0, vx_throwS follow proofs of the library, with one case more: JvmDerived/Free/Laws.lean (Back.of_free), Shelf42/LK1.lean (callV, callS), Shelf/KitTraced.lean (throwNew0V, throwNewS). -/
/-- where a method has thrown q: the class by its name, the cell, what was written, the world -/
def vx_T (XC : String → State → State → Prop) (st : State) (q : Addr) (t : State) (mc ms : Nat) (free : Addr → Prop) : Prop :=
  ∃ (E : String) (ce : Cell) (L : List Loc), XC E st t ∧ t.heap[q]? = some ce ∧ ce.vm = .none ∧ st.vm.findClass E = some ce.cls ∧ st.WarmedH t.vm ∧ st.sameButNew ({ t with vm := st.vm } : State) L mc ms ∧ ∀ z ∈ L, free z.base
def vx_Q (Qc : Array Value → State → Outcome → State → Prop) (XC : String → State → State → Prop) (mc ms : Nat) (free : Addr → Prop) : Array Value → State → Outcome → State → Prop := fun a st o t =>
  (Qc a st o t ∧ ∃ L, FrameEnd st o t L mc ms ∧ ∀ q ∈ L, free q.base) ∨ ∃ q, o = .threw q ∧ vx_T XC st q t mc ms free
/-- a callee that returns or throws -/
def vx_Met (l : Launch) (y : MethodName) (ws : List Cond) (rm : Room) (Pc : Array Value → State → Prop) (Qc : Array Value → State → Outcome → State → Prop) (XC : String → State → State → Prop) (mc ms : Nat) (free : Addr → Prop) : Prop :=
  MetFree l y (headSpec ws rm) Pc (fun _ _ _ _ _ => True) (vx_Q Qc XC mc ms free)
def vx_Post (XC : String → State → State → Prop) (mc ms : Nat) (free : Addr → Prop) : Pt → Array Value → Addr → Pt → Prop := fun A a q B =>
  ∃ (g : JFrame) (mk : MethodId) (t : State) (L : List Loc) (E : String) (ce : Cell), B.U.heap = t.heap ∧ B.U.vm = t.vm ∧ XC E (A.U.calling g mk a) t ∧ t.heap[q]? = some ce ∧ ce.vm = .none ∧ A.U.vm.findClass E = some ce.cls ∧ B.locs = A.locs ++ L ∧ (∀ z ∈ L, free z.base) ∧ B.cells = A.cells + mc ∧ B.slots = A.slots + ms
def vx_Back (l : Launch) (R : Room) (p : Program) (e : Env) (below : List Frame) (s : State) (sargs : Array Value) (y : MethodName) (len W9 : Nat)
    (Pre : Pt → Array Value → Prop) (Post : Pt → Array Value → Option Value → Pt → Prop) (PostX : Pt → Array Value → Addr → Pt → Prop) : Prop :=
  ∀ (m : MethodId) (meth : Method) (c : Code) (A : Pt) (g : JFrame) (ig : Instr) (mk : MethodId) (a : Array Value),
    Stand p l e R s m sargs below meth c A.U A.locs A.cells A.slots → g.method = m → g.locals.size = c.maxLocals → decode c.code g.pc = .ok (ig, len) →
    2 * g.monitorRoom + (g.stack.map fun v => v.category).sum ≤ W9 → A.U.methodNamed? y = some mk → Pre A a →
    (∃ (v : Option Value) (B : Pt), Stand p l e R s m sargs below meth c B.U B.locs B.cells B.slots ∧ Post A a v B ∧
      Steps p.tables e below (doInvoke e (A.U.setTop g) [] mk a).1 (B.U.setTop { g with pc := g.pc + len, stack := v.toList ++ g.stack })) ∨
    (∃ (q : Addr) (B : Pt), Stand p l e R s m sargs below meth c B.U B.locs B.cells B.slots ∧ PostX A a q B ∧
      Steps p.tables e below (doInvoke e (A.U.setTop g) [] mk a).1 ((B.U.setTop g).pushFrame (.throwing q)))
section Payer
variable {l : Launch} {R : Room} {p : Program} {e : Env} {below : List Frame} {s : State} {sargs : Array Value} {y : MethodName} {len W9 : Nat}
theorem vx_back {ws : List Cond} {rm : Room} {Pc : Array Value → State → Prop} {Qc : Array Value → State → Outcome → State → Prop} {XC : String → State → State → Prop} {mc ms : Nat} {free : Addr → Prop} {bytes : ByteArray} {maxL : Nat} {ret : Option FieldType}
    (hM : vx_Met l y ws rm Pc Qc XC mc ms free) (hblind : FrameBlind Pc) (hrc : rm.cells = mc) (hrs : rm.slots = ms)
    (hframes : rm.frames + 1 ≤ R.frames) (hlocals : W9 + (maxL + 11) + rm.locals ≤ R.locals)
    (hws : ∀ w ∈ ws, ∀ a' U, s.WarmedH U.vm → w.before a' U = true) (hcode : Cond.code y bytes maxL ret ∈ ws) (hinit : ∀ a' U, s.WarmedH U.vm → (Cond.initialized y.cls).before a' U = true) :
    vx_Back l R p e below s sargs y len W9 (PreOf R mc ms Pc) (PostOf Qc mc ms free) (vx_Post XC mc ms free) := by
  intro m meth c A g ig mk a X hg hsize hdg hW hn hp
  have h1 : (headSpec ws rm).pre.before a A.U = true := atoms_intro fun w hw => hws w hw _ _ X.warmed
  have h2 : (Cond.code y bytes maxL ret).before a A.U = true := hws _ hcode _ _ X.warmed
  have h3 : (Cond.initialized y.cls).before a A.U = true := hinit _ _ X.warmed
  have h4 : A.cells + (headSpec ws rm).room.cells ≤ R.cells := by rw [show (headSpec ws rm).room.cells = mc from hrc]; exact hp.1
  have h5 : A.slots + (headSpec ws rm).room.slots ≤ R.slots := by rw [show (headSpec ws rm).room.slots = ms from hrs]; exact hp.2.1
  have hPc : Pc a (A.U.calling g mk a) := hblind _ _ _ _ hp.2.2
  obtain ⟨U, Ls, c0, s0⟩ := A
  dsimp only [Pt.U, Pt.locs, Pt.cells, Pt.slots] at h1 h2 h3 h4 h5 X hn hPc ⊢
  obtain ⟨methY, cY, hmY, hcY, -, hlY, -, -, -, -⟩ := Cond.code_spec hn h2
  obtain ⟨kY, hkY, -⟩ := className_of_methodNamed hn
  have hinitY : kY.init = .initialized := Cond.initialized_spec (findClass_of_methodNamed hn) hkY h3
  have h : At U g.method c below := by rw [hg]; exact X.here
  have hlocals9 : W9 + (maxL + 11) + (headSpec ws rm).room.locals ≤ R.locals := hlocals
  have happ : (headSpec ws rm).appliesLoose y e.platform (U.calling g mk a) = true :=
    Spec.appliesLoose_calling (g := g) h hdg hn hkY hinitY
      (X.room_calling (g := g) (R' := (headSpec ws rm).room) hsize hmY hcY hframes (by rw [hlY]; omega) h4 h5) h1
  obtain ⟨mid, hmid⟩ := h.above
  have hfr : (U.setTop g).frames = (.java g :: mid) ++ below := by rw [State.frames_setTop' g h.top, hmid]; rfl
  obtain ⟨o, s₂, hsteps, -, hend, hq⟩ := Steps.callFree hM p X.admits X.cas X.clock (acts := []) hfr happ hPc trivial
  have hq' : vx_Q Qc XC mc ms free a (U.calling g mk a) o s₂ := hq
  rw [State.frames_setTop' g h.top] at hend
  obtain ⟨g₀, hg0⟩ := Option.isSome_iff_exists.mp h.top
  obtain ⟨r, hr⟩ := State.topJava?_eq_some.mp hg0
  have hr' : (({ U with heap := s₂.heap, slotsUsed := s₂.slotsUsed } : State).setVm s₂.vm).frames = .java g₀ :: r := hr
  rcases hq' with ⟨hqc, L, hfe, hL⟩ | ⟨q, rfl, E, ce, L, hx, hce, hcv, hcl, hW₂, hsm, hL⟩
  · obtain ⟨⟨v, rfl⟩, hW₂, e2, q2, q3, q4, q5, q6⟩ := id hfe
    have e3 : s₂ = ({ (U.calling g mk a).setFrames s₂.frames with heap := s₂.heap, slotsUsed := s₂.slotsUsed } : State).setVm s₂.vm := by
      have : s₂ = ({ s₂ with vm := (U.calling g mk a).vm } : State).setVm s₂.vm := rfl
      rw [e2] at this
      exact this
    obtain ⟨c₂, i₂, len₂, hc₂, hd₂, hf₂⟩ := hend
    have hW' : U.WarmedH s₂.vm := hW₂
    have hcc : c₂ = c := by
      have h1 : s₂.code? g.method = U.code? g.method := by
        rw [State.code?_eq, State.code?_eq, hW'.alike.method?]
      exact Option.some.inj (hc₂.symm.trans (h1.trans h.code))
    subst hcc
    have hlen : len₂ = len := by rw [hdg] at hd₂; cases hd₂; rfl
    subst hlen
    have hs₂ : s₂ = (({ U with heap := s₂.heap, slotsUsed := s₂.slotsUsed } : State).setVm s₂.vm).setTop { g with pc := g.pc + len₂, stack := v.toList ++ g.stack } := by
      refine e3.trans ?_
      rw [hf₂, State.calling_eq h.top, State.setFrames_setFrames, State.setTop_of_frames _ hr', hr]
      rfl
    have hsame : U.sameButNew ({ U with heap := s₂.heap, slotsUsed := s₂.slotsUsed } : State) L mc ms := by
      refine ⟨?_, q2, q3, q4, q5, q6⟩
      obtain ⟨t, ht, -⟩ := State.frames_cons hr
      show ({ U with heap := s₂.heap, slotsUsed := s₂.slotsUsed } : State) = { U.setFrames U.frames with heap := s₂.heap, slotsUsed := s₂.slotsUsed }
      rw [State.setFrames_self ht]
    subst hg
    refine Or.inl ⟨v, ⟨(({ U with heap := s₂.heap, slotsUsed := s₂.slotsUsed } : State).setVm s₂.vm), Ls ++ L, c0 + mc, s0 + ms⟩,
      ⟨X.admits, X.cas, X.clock, X.frames, X.room, X.hears, X.method, X.code, (X.here.setHeapUsed s₂.heap s₂.slotsUsed).setVm hW'.alike, X.tail, State.WarmedH.trans X.warmed hW', X.limits, X.bytes, X.same.trans (hsame.setVm s.vm)⟩,
      ⟨g, mk, s₂, L, rfl, rfl, hqc, rfl, hL, rfl, rfl⟩, ?_⟩
    show Steps p.tables e below _ ((({ U with heap := s₂.heap, slotsUsed := s₂.slotsUsed } : State).setVm s₂.vm).setTop { g with pc := g.pc + len₂, stack := v.toList ++ g.stack })
    rw [← hs₂]
    exact hsteps
  · obtain ⟨e2, q2, q3, q4, q5, q6⟩ := id hsm
    have e3 : s₂ = ({ (U.calling g mk a).setFrames s₂.frames with heap := s₂.heap, slotsUsed := s₂.slotsUsed } : State).setVm s₂.vm := by
      have : s₂ = ({ s₂ with vm := (U.calling g mk a).vm } : State).setVm s₂.vm := rfl
      rw [e2] at this
      exact this
    have hf₂ : s₂.frames = .throwing q :: .java g :: U.frames.tail := hend
    have hW' : U.WarmedH s₂.vm := hW₂
    have hs₂ : s₂ = ((({ U with heap := s₂.heap, slotsUsed := s₂.slotsUsed } : State).setVm s₂.vm).setTop g).pushFrame (.throwing q) := by
      refine e3.trans ?_
      rw [hf₂, State.calling_eq h.top, State.setFrames_setFrames, State.pushFrame, State.frames_setTop _ hr', State.setTop_of_frames _ hr', State.setFrames_setFrames, hr]
      rfl
    have hsame : U.sameButNew ({ U with heap := s₂.heap, slotsUsed := s₂.slotsUsed } : State) L mc ms := by
      refine ⟨?_, q2, q3, q4, q5, q6⟩
      obtain ⟨t, ht, -⟩ := State.frames_cons hr
      show ({ U with heap := s₂.heap, slotsUsed := s₂.slotsUsed } : State) = { U.setFrames U.frames with heap := s₂.heap, slotsUsed := s₂.slotsUsed }
      rw [State.setFrames_self ht]
    subst hg
    refine Or.inr ⟨q, ⟨(({ U with heap := s₂.heap, slotsUsed := s₂.slotsUsed } : State).setVm s₂.vm), Ls ++ L, c0 + mc, s0 + ms⟩,
      ⟨X.admits, X.cas, X.clock, X.frames, X.room, X.hears, X.method, X.code, (X.here.setHeapUsed s₂.heap s₂.slotsUsed).setVm hW'.alike, X.tail, State.WarmedH.trans X.warmed hW', X.limits, X.bytes, X.same.trans (hsame.setVm s.vm)⟩,
      ⟨g, mk, s₂, L, E, ce, rfl, rfl, hx, hce, hcv, hcl, rfl, hL, rfl, rfl⟩, ?_⟩
    show Steps p.tables e below _ (((({ U with heap := s₂.heap, slotsUsed := s₂.slotsUsed } : State).setVm s₂.vm).setTop g).pushFrame (.throwing q))
    rw [← hs₂]
    exact hsteps
end Payer
section Calls
variable {p : Program} {l : Launch} {e : Env} {R : Room} {s : State} {m : MethodId} {args : Array Value} {below : List Frame} {meth : Method} {c : Code} {T : State} {locs : List Loc} {cells slots : Nat}
theorem vx_callV (X : Stand p l e R s m args below meth c T locs cells slots) (hexec : p.tables.exec = Jvm.exec) {own C : String} {index : Nat} {y : MethodName} {bytes : ByteArray} {maxL : Nat} {ret : Option FieldType}
    (hown : s.vm.findClass own = some m.cls) (hlink : (Cond.methodLink own index y).before args s = true) (hinst : (Cond.instanceMethod y).before args s = true) (hsel : (Cond.selects C y y).before args s = true)
    (hcode : (Cond.code y bytes maxL ret).before args s = true) (hy : y.cls ≠ "java/lang/invoke/MethodHandle" ∧ y.cls ≠ "java/lang/invoke/VarHandle")
    {W9 : Nat} {Pre : Pt → Array Value → Prop} {Post : Pt → Array Value → Option Value → Pt → Prop} {PostX : Pt → Array Value → Addr → Pt → Prop} (hK : vx_Back l R p e below s args y 3 W9 Pre Post PostX)
    {b : Addr} {cellB : Cell} (hcell : T.heap[b]? = some cellB) (hobj : cellB.vm.isStatics = false) (hcls : s.vm.findClass C = some cellB.cls)
    {g : JFrame} (hg : g.method = m) (hsize : g.locals.size = c.maxLocals) {argsL rest : List Value} (hlen : ∀ sig, parseMethodDescriptor y.desc = some sig → argsL.length = sig.parameters.length)
    (hstack : g.stack = argsL.reverse ++ .ref b :: rest) (hW : 2 * g.monitorRoom + (rest.map fun v => v.category).sum ≤ W9) (hdg : decode c.code g.pc = .ok (.invokevirtual index, 3))
    (hpre : ∀ vm₁, s.WarmedH vm₁ → Pre ⟨T.setVm vm₁, locs, cells, slots⟩ (Value.ref b :: argsL).toArray) :
    (∃ (v : Option Value) (vm₁ : Vm) (B : Pt), s.WarmedH vm₁ ∧ Stand p l e R s m args below meth c B.U B.locs B.cells B.slots ∧ Post ⟨T.setVm vm₁, locs, cells, slots⟩ (Value.ref b :: argsL).toArray v B ∧
      ∀ target, Steps p.tables e below (B.U.setTop { g with pc := g.pc + 3, stack := v.toList ++ rest }) target → Steps p.tables e below (T.setTop g) target) ∨
    (∃ (q : Addr) (vm₁ : Vm) (B : Pt), s.WarmedH vm₁ ∧ Stand p l e R s m args below meth c B.U B.locs B.cells B.slots ∧ PostX ⟨T.setVm vm₁, locs, cells, slots⟩ (Value.ref b :: argsL).toArray q B ∧
      Steps p.tables e below (T.setTop g) ((B.U.setTop { g with stack := rest }).pushFrame (.throwing q))) := by
  obtain ⟨mk, methM, hnamed, hmethM, hstM, habM⟩ := Cond.instanceMethod_spec hinst
  obtain ⟨methM', cM, hmethM', -, -, -, -, -, -, hsigM⟩ := Cond.code_spec hnamed hcode
  cases hmethM.symm.trans hmethM'
  obtain ⟨c2, r2, m2, q1, q2, q3, q4, kP, hkP, hkPi⟩ := Cond.selects_spec hsel
  cases hcls.symm.trans q1
  cases (State.methodFound?_of_named hnamed hy).symm.trans q2
  cases hnamed.symm.trans q3
  have hselP : selectMethod e.platform s.vm cellB.cls mk = .method mk := by rw [Launch.admits_selectMethod X.admits]; exact q4
  obtain ⟨vm₁, X₁, hstep₁⟩ := X.invokevirtual hexec hown hlink hnamed hmethM hstM hkP hkPi hy (a := b) (cell := cellB) hcell
    (fun z h => by rw [h] at hobj; cases hobj) hselP hmethM habM hkP hkPi (g := g) hg (argsL := argsL) (rest := rest) (hlen _ hsigM) hstack hdg
  rcases hK m meth c ⟨T.setVm vm₁, locs, cells, slots⟩ { g with stack := rest } (.invokevirtual index) mk (Value.ref b :: argsL).toArray X₁ hg hsize hdg hW (X₁.named hnamed) (hpre vm₁ X₁.warmed) with ⟨v, B, X', hpost, hsteps⟩ | ⟨q, B, X', hpost, hsteps⟩
  · exact Or.inl ⟨v, vm₁, B, X₁.warmed, X', hpost, fun target h => hstep₁ _ fun acts => by rw [doInvoke_state]; exact hsteps.trans h⟩
  · exact Or.inr ⟨q, vm₁, B, X₁.warmed, X', hpost, hstep₁ _ fun acts => by rw [doInvoke_state]; exact hsteps⟩
theorem vx_callS (X : Stand p l e R s m args below meth c T locs cells slots) (hexec : p.tables.exec = Jvm.exec) {own : String} {index : Nat} {y : MethodName} {bytes : ByteArray} {maxL : Nat} {ret : Option FieldType}
    (hown : s.vm.findClass own = some m.cls) (hlink : (Cond.methodLink own index y).before args s = true) (hstat : (Cond.static y).before args s = true) (hinit : (Cond.initialized y.cls).before args s = true)
    (hcode : (Cond.code y bytes maxL ret).before args s = true) (hy : y.cls ≠ "java/lang/invoke/MethodHandle" ∧ y.cls ≠ "java/lang/invoke/VarHandle")
    {W9 : Nat} {Pre : Pt → Array Value → Prop} {Post : Pt → Array Value → Option Value → Pt → Prop} {PostX : Pt → Array Value → Addr → Pt → Prop} (hK : vx_Back l R p e below s args y 3 W9 Pre Post PostX)
    {g : JFrame} (hg : g.method = m) (hsize : g.locals.size = c.maxLocals) {argsL rest : List Value} (hlen : ∀ sig, parseMethodDescriptor y.desc = some sig → argsL.length = sig.parameters.length)
    (hstack : g.stack = argsL.reverse ++ rest) (hW : 2 * g.monitorRoom + (rest.map fun v => v.category).sum ≤ W9) (hdg : decode c.code g.pc = .ok (.invokestatic index, 3))
    (hpre : ∀ vm₁, s.WarmedH vm₁ → Pre ⟨T.setVm vm₁, locs, cells, slots⟩ argsL.toArray) :
    (∃ (v : Option Value) (vm₁ : Vm) (B : Pt), s.WarmedH vm₁ ∧ Stand p l e R s m args below meth c B.U B.locs B.cells B.slots ∧ Post ⟨T.setVm vm₁, locs, cells, slots⟩ argsL.toArray v B ∧
      ∀ target, Steps p.tables e below (B.U.setTop { g with pc := g.pc + 3, stack := v.toList ++ rest }) target → Steps p.tables e below (T.setTop g) target) ∨
    (∃ (q : Addr) (vm₁ : Vm) (B : Pt), s.WarmedH vm₁ ∧ Stand p l e R s m args below meth c B.U B.locs B.cells B.slots ∧ PostX ⟨T.setVm vm₁, locs, cells, slots⟩ argsL.toArray q B ∧
      Steps p.tables e below (T.setTop g) ((B.U.setTop { g with stack := rest }).pushFrame (.throwing q))) := by
  obtain ⟨mk, hnamed⟩ := Cond.code_named hcode
  obtain ⟨methM, cM, hmethM, -, -, -, -, -, -, hsigM⟩ := Cond.code_spec hnamed hcode
  have hstatic : methM.isStatic = true := Cond.static_spec hnamed hmethM hstat
  obtain ⟨kP, hkP, -⟩ := className_of_methodNamed hnamed
  have hinitP : kP.init = .initialized := Cond.initialized_spec (findClass_of_methodNamed hnamed) hkP hinit
  obtain ⟨vm₁, X₁, hstep₁⟩ := X.invokestatic hexec hown hlink hnamed hmethM hstatic hkP hinitP hy (g := g) hg (argsL := argsL) (rest := rest) (hlen _ hsigM) hstack hdg
  rcases hK m meth c ⟨T.setVm vm₁, locs, cells, slots⟩ { g with stack := rest } (.invokestatic index) mk argsL.toArray X₁ hg hsize hdg hW (X₁.named hnamed) (hpre vm₁ X₁.warmed) with ⟨v, B, X', hpost, hsteps⟩ | ⟨q, B, X', hpost, hsteps⟩
  · exact Or.inl ⟨v, vm₁, B, X₁.warmed, X', hpost, fun target h => hstep₁ _ fun acts => by rw [doInvoke_state]; exact hsteps.trans h⟩
  · exact Or.inr ⟨q, vm₁, B, X₁.warmed, X', hpost, hstep₁ _ fun acts => by rw [doInvoke_state]; exact hsteps⟩
end Calls
theorem vx_cls {s : State} {T : State} {vm₁ : Vm} {E : String} {k : ClassId} (hW : s.WarmedH vm₁) (h : (T.setVm vm₁).vm.findClass E = some k) : s.vm.findClass E = some k := by
  have h1 : vm₁.findClass E = some k := h
  rw [hW.alike.findClass] at h1
  exact h1
/-- the method's frame g, with q thrown over it -/
def vx_W (p : Program) (l : Launch) (e : Env) (R : Room) (s : State) (m : MethodId) (args : Array Value) (below : List Frame) (meth : Method) (c : Code) (H : Heap) (locs : List Loc) (cells slots : Nat) (Q : State → Prop) (g : JFrame) (q : Addr) : Prop :=
  ∀ T : State, T.heap = H → Stand p l e R s m args below meth c T locs cells slots → ∃ t, Steps p.tables e below ((T.setTop g).pushFrame (.throwing q)) t ∧ Q t
def vx_Run (p : Program) (l : Launch) (e : Env) (R : Room) (s : State) (m : MethodId) (args : Array Value) (below : List Frame) (meth : Method) (c : Code) (H : Heap) (locs : List Loc) (cells slots mc ms : Nat) (g : JFrame) (rest : List Value) (Qa : State → Outcome → State → Prop) (XC : String → State → State → Prop) (free : Addr → Prop) : Prop :=
  ∀ T : State, T.heap = H → Stand p l e R s m args below meth c T locs cells slots →
    (∃ (v : Option Value) (st₀ t T' : State) (L : List Loc), st₀.heap = H ∧ Stand p l e R s m args below meth c T' (locs ++ L) (cells + mc) (slots + ms) ∧ (∀ q ∈ L, free q.base) ∧ T'.heap = t.heap ∧ T'.vm = t.vm ∧ Qa st₀ (.returned v) t ∧
      Goes p e below T g T' { g with pc := g.pc + 3, stack := v.toList ++ rest }) ∨
    (∃ (q : Addr) (st₀ t T' : State) (L : List Loc) (E : String) (ce : Cell), st₀.heap = H ∧ Stand p l e R s m args below meth c T' (locs ++ L) (cells + mc) (slots + ms) ∧ (∀ z ∈ L, free z.base) ∧ T'.heap = t.heap ∧ T'.vm = t.vm ∧ XC E st₀ t ∧ t.heap[q]? = some ce ∧ ce.vm = .none ∧ s.vm.findClass E = some ce.cls ∧
      Steps p.tables e below (T.setTop g) ((T'.setTop { g with stack := rest }).pushFrame (.throwing q)))
def vx_X {S : Type} (px : S → Prop) (B : String → S → State → Prop) (A : Nat → Prop) : String → State → State → Prop := fun E st t => ∃ u : S, px u ∧ B E u t ∧ va_F A st t
section Runs
variable {p : Program} {l : Launch} {e : Env} {R : Room} {s : State} {m : MethodId} {args : Array Value} {below : List Frame} {meth : Method} {c : Code} {H : Heap} {locs : List Loc} {cells slots : Nat}
variable {y : MethodName} {bytes cc : ByteArray} {maxL nL mc ms n index : Nat} {ret : Option FieldType} {ws : List Cond} {rm : Room} {Pc : Array Value → State → Prop} {Qc : Array Value → State → Outcome → State → Prop} {XC : String → State → State → Prop} {free : Addr → Prop} {Ts : List Cond} {own C : String} {b : Addr} {As rest : List Value} {g : JFrame}
theorem vx_callBack (cb : CallB R s args own index y bytes maxL ret ws rm mc ms n) (hM : vx_Met l y ws rm Pc Qc XC mc ms free) (hbl : FrameBlind Pc) : vx_Back l R p e below s args y 3 8 (PreOf R mc ms Pc) (PostOf Qc mc ms free) (vx_Post XC mc ms free) := by
  obtain ⟨hrc, hrs, hfr, hlo, hws, hcw, -, hini, -⟩ := cb
  exact vx_back (bytes := bytes) (maxL := maxL) (ret := ret) hM hbl hrc hrs hfr hlo hws hcw (fun a' U hW => word_at hW (Or.inl (by first | rfl | simp [Cond.onTables, Cond.keeps, Cond.steady])) hini)
theorem vx_runV (S : CallFix p m c cc nL s args Ts own) (hM : vx_Met l y ws rm Pc Qc XC mc ms free) (cw : CallW R s args own C index y bytes maxL ret ws rm mc ms n) (hp : PreV s H C b Pc As)
    (hg : g.method = m) (hn : As.length = n) (hsize : g.locals.size = nL) (hstack : g.stack = As.reverse ++ .ref b :: rest) (hW : 2 * g.monitorRoom + (rest.map fun v => v.category).sum ≤ 8) (hdg : decode cc g.pc = .ok (.invokevirtual index, 3)) (hf : cells + mc ≤ R.cells ∧ slots + ms ≤ R.slots) :
    vx_Run p l e R s m args below meth c H locs cells slots mc ms g rest (Qc (Value.ref b :: As).toArray) XC free := by
  have hK : vx_Back l R p e below s args y 3 8 (PreOf R mc ms Pc) (PostOf Qc mc ms free) (vx_Post XC mc ms free) := vx_callBack cw.1 hM hp.1
  obtain ⟨⟨-, -, -, -, -, -, hcode, -, hy, hlen, hl⟩, hin, hse⟩ := cw
  obtain ⟨hx, hb, hml, ho, -⟩ := S
  obtain ⟨-, ⟨cellB, hcB, hoB, hclB⟩, hPc⟩ := hp
  intro T hT X
  rcases vx_callV X hx (C := C) (bytes := bytes) (maxL := maxL) (ret := ret) ho hl hin hse hcode hy hK (by rw [hT]; exact hcB) hoB hclB hg (hsize.trans hml.symm) (argsL := As) (rest := rest) (fun sig h => hn.trans (hlen sig h)) hstack hW (by rw [hb]; exact hdg)
    (fun vm₁ hW₁ => ⟨hf.1, hf.2, hPc (T.setVm vm₁) hT hW₁⟩) with ⟨v, vm₁, ⟨U', l2, c2, s2⟩, hW₁, X', ⟨g', mk, t, L, e1, e2, hq, h1, hL, h2, h3⟩, st⟩ | ⟨q, vm₁, ⟨U', l2, c2, s2⟩, hW₁, X', ⟨g', mk, t, L, E, ce, e1, e2, hq, hce, hcv, hcl, h1, hL, h2, h3⟩, st⟩
  · dsimp only [Pt.U, Pt.locs, Pt.cells, Pt.slots] at X' e1 e2 h1 h2 h3 st
    subst h1; subst h2; subst h3
    exact Or.inl ⟨v, (T.setVm vm₁).calling g' mk (Value.ref b :: As).toArray, t, U', L, hT, X', hL, e1, e2, hq, st⟩
  · dsimp only [Pt.U, Pt.locs, Pt.cells, Pt.slots] at X' e1 e2 h1 h2 h3 st hcl
    subst h1; subst h2; subst h3
    exact Or.inr ⟨q, (T.setVm vm₁).calling g' mk (Value.ref b :: As).toArray, t, U', L, E, ce, hT, X', hL, e1, e2, hq, hce, hcv, vx_cls hW₁ hcl, st⟩
theorem vx_runS (S : CallFix p m c cc nL s args Ts own) (hM : vx_Met l y ws rm Pc Qc XC mc ms free) (cw : CallB R s args own index y bytes maxL ret ws rm mc ms n ∧ (Cond.static y).before args s = true) (hp : PreS s H Pc As)
    (hg : g.method = m) (hn : As.length = n) (hsize : g.locals.size = nL) (hstack : g.stack = As.reverse ++ rest) (hW : 2 * g.monitorRoom + (rest.map fun v => v.category).sum ≤ 8) (hdg : decode cc g.pc = .ok (.invokestatic index, 3)) (hf : cells + mc ≤ R.cells ∧ slots + ms ≤ R.slots) :
    vx_Run p l e R s m args below meth c H locs cells slots mc ms g rest (Qc As.toArray) XC free := by
  have hK : vx_Back l R p e below s args y 3 8 (PreOf R mc ms Pc) (PostOf Qc mc ms free) (vx_Post XC mc ms free) := vx_callBack cw.1 hM hp.1
  obtain ⟨⟨-, -, -, -, -, -, hcode, hini, hy, hlen, hl⟩, hstt⟩ := cw
  obtain ⟨hx, hb, hml, ho, -⟩ := S
  intro T hT X
  rcases vx_callS X hx (bytes := bytes) (maxL := maxL) (ret := ret) ho hl hstt hini hcode hy hK hg (hsize.trans hml.symm) (argsL := As) (rest := rest) (fun sig h => hn.trans (hlen sig h)) hstack hW (by rw [hb]; exact hdg)
    (fun vm₁ hW₁ => ⟨hf.1, hf.2, hp.2 (T.setVm vm₁) hT hW₁⟩) with ⟨v, vm₁, ⟨U', l2, c2, s2⟩, hW₁, X', ⟨g', mk, t, L, e1, e2, hq, h1, hL, h2, h3⟩, st⟩ | ⟨q, vm₁, ⟨U', l2, c2, s2⟩, hW₁, X', ⟨g', mk, t, L, E, ce, e1, e2, hq, hce, hcv, hcl, h1, hL, h2, h3⟩, st⟩
  · dsimp only [Pt.U, Pt.locs, Pt.cells, Pt.slots] at X' e1 e2 h1 h2 h3 st
    subst h1; subst h2; subst h3
    exact Or.inl ⟨v, (T.setVm vm₁).calling g' mk As.toArray, t, U', L, hT, X', hL, e1, e2, hq, st⟩
  · dsimp only [Pt.U, Pt.locs, Pt.cells, Pt.slots] at X' e1 e2 h1 h2 h3 st hcl
    subst h1; subst h2; subst h3
    exact Or.inr ⟨q, (T.setVm vm₁).calling g' mk As.toArray, t, U', L, E, ce, hT, X', hL, e1, e2, hq, hce, hcv, vx_cls hW₁ hcl, st⟩
end Runs
section Rows
variable {p : Program} {l : Launch} {e : Env} {R : Room} {s : State} {m : MethodId} {args : Array Value} {below : List Frame} {meth : Method} {c : Code} {H : Heap} {locs : List Loc} {cells slots : Nat} {Q : State → Prop}
variable {mc ms : Nat} {free : Addr → Prop} {A0 A1 : Nat → Prop} {H0 : Heap} {a : Array Value} {pc : Nat} {ls : Array Slot} {st0 rest : List Value}
theorem vx_keep {st₀ t T' : State} {L : List Loc} (h0 : st₀.heap = H) (e1 : T'.heap = t.heap) (hS : va_S A0 H0 H locs) (hA : ∀ q, q < H.size → A1 q → A0 q) (hf : ∀ q, free q → A0 q) (hL : ∀ q ∈ L, free q.base) (hF : va_F A1 st₀ t) :
    H.size ≤ T'.heap.size ∧ (∀ q : Nat, q < H.size → ¬ A1 q → T'.heap[q]? = H[q]?) ∧ va_S A0 H0 T'.heap (locs ++ L) := by
  obtain ⟨hz, hk⟩ := hF
  rw [h0] at hz hk
  exact ⟨by rw [e1]; exact hz, fun q h1 h2 => by rw [e1]; exact hk q h1 h2,
    ⟨Nat.le_trans hS.1 (by rw [e1]; exact hz), fun q h1 h2 => by rw [e1, hk q (Nat.lt_of_lt_of_le h1 hS.1) (fun z => h2 (hA q (Nat.lt_of_lt_of_le h1 hS.1) z))]; exact hS.2.1 q h1 h2, fun q hq => by
      rcases List.mem_append.mp hq with h | h
      · exact hS.2.2 q h
      · exact hf _ (hL q h)⟩⟩
theorem vx_calli {S SX : Type} {post : Int32 → S → Prop} {px : SX → Prop} {B : S → State → Prop} {BX : String → SX → State → Prop} {AX : Nat → Prop} (hr : vx_Run p l e R s m args below meth c H locs cells slots mc ms (F0 m pc ls st0) rest (va_Qi post B A1 a) (vx_X px BX AX) free) (hS : va_S A0 H0 H locs) (hA : ∀ q, q < H.size → A1 q → A0 q) (hf : ∀ q, free q → A0 q) (hAX : ∀ q, q < H.size → AX q → A0 q)
    (kx : ∀ (E : String) (ce : Cell) (q9 : Addr) (u : SX) (t : State) (H1 : Heap) (locs1 : List Loc), t.heap = H1 → s.vm.Alike t.vm → px u → BX E u t → H.size ≤ H1.size → (∀ q : Nat, q < H.size → ¬ AX q → H1[q]? = H[q]?) → va_S A0 H0 H1 locs1 → H1[q9]? = some ce → ce.vm = .none → s.vm.findClass E = some ce.cls → vx_W p l e R s m args below meth c H1 locs1 (cells + mc) (slots + ms) Q (F0 m pc ls rest) q9)
    (kk : ∀ (r : Int32) (u : S) (t : State) (H1 : Heap) (locs1 : List Loc), t.heap = H1 → s.vm.Alike t.vm → post r u → B u t → H.size ≤ H1.size → (∀ q : Nat, q < H.size → ¬ A1 q → H1[q]? = H[q]?) → va_S A0 H0 H1 locs1 → W p l e R s m args below meth c H1 locs1 (cells + mc) (slots + ms) Q (F0 m (pc + 3) ls (.int r :: rest))) : W p l e R s m args below meth c H locs cells slots Q (F0 m pc ls st0) := by
  intro T hT X
  rcases hr T hT X with ⟨v, st₀, t, T', L, h0, X', hL, e1, e2, ⟨⟨r, u, hv, hp, hb⟩, hF⟩, st⟩ | ⟨q, st₀, t, T', L, E, ce, h0, X', hL, e1, e2, ⟨u, hp, hb, hF⟩, hce, hcv, hcl, st⟩
  · cases hv
    obtain ⟨k1, k2, k3⟩ := vx_keep h0 e1 hS hA hf hL hF
    obtain ⟨t2, a1, b1⟩ := kk r u t T'.heap (locs ++ L) e1.symm (by rw [← e2]; exact X'.warmed.alike) hp hb k1 k2 k3 T' rfl X'
    exact ⟨t2, st t2 a1, b1⟩
  · obtain ⟨k1, k2, k3⟩ := vx_keep h0 e1 hS hAX hf hL hF
    obtain ⟨t2, a1, b1⟩ := kx E ce q u t T'.heap (locs ++ L) e1.symm (by rw [← e2]; exact X'.warmed.alike) hp hb k1 k2 k3 (by rw [e1]; exact hce) hcv hcl T' rfl X'
    exact ⟨t2, st.trans a1, b1⟩
theorem vx_calll {S SX : Type} {post : Int64 → S → Prop} {px : SX → Prop} {B : S → State → Prop} {BX : String → SX → State → Prop} {AX : Nat → Prop} (hr : vx_Run p l e R s m args below meth c H locs cells slots mc ms (F0 m pc ls st0) rest (va_Ql post B A1 a) (vx_X px BX AX) free) (hS : va_S A0 H0 H locs) (hA : ∀ q, q < H.size → A1 q → A0 q) (hf : ∀ q, free q → A0 q) (hAX : ∀ q, q < H.size → AX q → A0 q)
    (kx : ∀ (E : String) (ce : Cell) (q9 : Addr) (u : SX) (t : State) (H1 : Heap) (locs1 : List Loc), t.heap = H1 → s.vm.Alike t.vm → px u → BX E u t → H.size ≤ H1.size → (∀ q : Nat, q < H.size → ¬ AX q → H1[q]? = H[q]?) → va_S A0 H0 H1 locs1 → H1[q9]? = some ce → ce.vm = .none → s.vm.findClass E = some ce.cls → vx_W p l e R s m args below meth c H1 locs1 (cells + mc) (slots + ms) Q (F0 m pc ls rest) q9)
    (kk : ∀ (r : Int64) (u : S) (t : State) (H1 : Heap) (locs1 : List Loc), t.heap = H1 → s.vm.Alike t.vm → post r u → B u t → H.size ≤ H1.size → (∀ q : Nat, q < H.size → ¬ A1 q → H1[q]? = H[q]?) → va_S A0 H0 H1 locs1 → W p l e R s m args below meth c H1 locs1 (cells + mc) (slots + ms) Q (F0 m (pc + 3) ls (.long r :: rest))) : W p l e R s m args below meth c H locs cells slots Q (F0 m pc ls st0) := by
  intro T hT X
  rcases hr T hT X with ⟨v, st₀, t, T', L, h0, X', hL, e1, e2, ⟨⟨r, u, hv, hp, hb⟩, hF⟩, st⟩ | ⟨q, st₀, t, T', L, E, ce, h0, X', hL, e1, e2, ⟨u, hp, hb, hF⟩, hce, hcv, hcl, st⟩
  · cases hv
    obtain ⟨k1, k2, k3⟩ := vx_keep h0 e1 hS hA hf hL hF
    obtain ⟨t2, a1, b1⟩ := kk r u t T'.heap (locs ++ L) e1.symm (by rw [← e2]; exact X'.warmed.alike) hp hb k1 k2 k3 T' rfl X'
    exact ⟨t2, st t2 a1, b1⟩
  · obtain ⟨k1, k2, k3⟩ := vx_keep h0 e1 hS hAX hf hL hF
    obtain ⟨t2, a1, b1⟩ := kx E ce q u t T'.heap (locs ++ L) e1.symm (by rw [← e2]; exact X'.warmed.alike) hp hb k1 k2 k3 (by rw [e1]; exact hce) hcv hcl T' rfl X'
    exact ⟨t2, st.trans a1, b1⟩
theorem vx_callf {S SX : Type} {post : UInt32 → S → Prop} {px : SX → Prop} {B : S → State → Prop} {BX : String → SX → State → Prop} {AX : Nat → Prop} (hr : vx_Run p l e R s m args below meth c H locs cells slots mc ms (F0 m pc ls st0) rest (va_Qf post B A1 a) (vx_X px BX AX) free) (hS : va_S A0 H0 H locs) (hA : ∀ q, q < H.size → A1 q → A0 q) (hf : ∀ q, free q → A0 q) (hAX : ∀ q, q < H.size → AX q → A0 q)
    (kx : ∀ (E : String) (ce : Cell) (q9 : Addr) (u : SX) (t : State) (H1 : Heap) (locs1 : List Loc), t.heap = H1 → s.vm.Alike t.vm → px u → BX E u t → H.size ≤ H1.size → (∀ q : Nat, q < H.size → ¬ AX q → H1[q]? = H[q]?) → va_S A0 H0 H1 locs1 → H1[q9]? = some ce → ce.vm = .none → s.vm.findClass E = some ce.cls → vx_W p l e R s m args below meth c H1 locs1 (cells + mc) (slots + ms) Q (F0 m pc ls rest) q9)
    (kk : ∀ (r : UInt32) (u : S) (t : State) (H1 : Heap) (locs1 : List Loc), t.heap = H1 → s.vm.Alike t.vm → post r u → B u t → H.size ≤ H1.size → (∀ q : Nat, q < H.size → ¬ A1 q → H1[q]? = H[q]?) → va_S A0 H0 H1 locs1 → W p l e R s m args below meth c H1 locs1 (cells + mc) (slots + ms) Q (F0 m (pc + 3) ls (.float r :: rest))) : W p l e R s m args below meth c H locs cells slots Q (F0 m pc ls st0) := by
  intro T hT X
  rcases hr T hT X with ⟨v, st₀, t, T', L, h0, X', hL, e1, e2, ⟨⟨r, u, hv, hp, hb⟩, hF⟩, st⟩ | ⟨q, st₀, t, T', L, E, ce, h0, X', hL, e1, e2, ⟨u, hp, hb, hF⟩, hce, hcv, hcl, st⟩
  · cases hv
    obtain ⟨k1, k2, k3⟩ := vx_keep h0 e1 hS hA hf hL hF
    obtain ⟨t2, a1, b1⟩ := kk r u t T'.heap (locs ++ L) e1.symm (by rw [← e2]; exact X'.warmed.alike) hp hb k1 k2 k3 T' rfl X'
    exact ⟨t2, st t2 a1, b1⟩
  · obtain ⟨k1, k2, k3⟩ := vx_keep h0 e1 hS hAX hf hL hF
    obtain ⟨t2, a1, b1⟩ := kx E ce q u t T'.heap (locs ++ L) e1.symm (by rw [← e2]; exact X'.warmed.alike) hp hb k1 k2 k3 (by rw [e1]; exact hce) hcv hcl T' rfl X'
    exact ⟨t2, st.trans a1, b1⟩
theorem vx_calld {S SX : Type} {post : UInt64 → S → Prop} {px : SX → Prop} {B : S → State → Prop} {BX : String → SX → State → Prop} {AX : Nat → Prop} (hr : vx_Run p l e R s m args below meth c H locs cells slots mc ms (F0 m pc ls st0) rest (va_Qd post B A1 a) (vx_X px BX AX) free) (hS : va_S A0 H0 H locs) (hA : ∀ q, q < H.size → A1 q → A0 q) (hf : ∀ q, free q → A0 q) (hAX : ∀ q, q < H.size → AX q → A0 q)
    (kx : ∀ (E : String) (ce : Cell) (q9 : Addr) (u : SX) (t : State) (H1 : Heap) (locs1 : List Loc), t.heap = H1 → s.vm.Alike t.vm → px u → BX E u t → H.size ≤ H1.size → (∀ q : Nat, q < H.size → ¬ AX q → H1[q]? = H[q]?) → va_S A0 H0 H1 locs1 → H1[q9]? = some ce → ce.vm = .none → s.vm.findClass E = some ce.cls → vx_W p l e R s m args below meth c H1 locs1 (cells + mc) (slots + ms) Q (F0 m pc ls rest) q9)
    (kk : ∀ (r : UInt64) (u : S) (t : State) (H1 : Heap) (locs1 : List Loc), t.heap = H1 → s.vm.Alike t.vm → post r u → B u t → H.size ≤ H1.size → (∀ q : Nat, q < H.size → ¬ A1 q → H1[q]? = H[q]?) → va_S A0 H0 H1 locs1 → W p l e R s m args below meth c H1 locs1 (cells + mc) (slots + ms) Q (F0 m (pc + 3) ls (.double r :: rest))) : W p l e R s m args below meth c H locs cells slots Q (F0 m pc ls st0) := by
  intro T hT X
  rcases hr T hT X with ⟨v, st₀, t, T', L, h0, X', hL, e1, e2, ⟨⟨r, u, hv, hp, hb⟩, hF⟩, st⟩ | ⟨q, st₀, t, T', L, E, ce, h0, X', hL, e1, e2, ⟨u, hp, hb, hF⟩, hce, hcv, hcl, st⟩
  · cases hv
    obtain ⟨k1, k2, k3⟩ := vx_keep h0 e1 hS hA hf hL hF
    obtain ⟨t2, a1, b1⟩ := kk r u t T'.heap (locs ++ L) e1.symm (by rw [← e2]; exact X'.warmed.alike) hp hb k1 k2 k3 T' rfl X'
    exact ⟨t2, st t2 a1, b1⟩
  · obtain ⟨k1, k2, k3⟩ := vx_keep h0 e1 hS hAX hf hL hF
    obtain ⟨t2, a1, b1⟩ := kx E ce q u t T'.heap (locs ++ L) e1.symm (by rw [← e2]; exact X'.warmed.alike) hp hb k1 k2 k3 (by rw [e1]; exact hce) hcv hcl T' rfl X'
    exact ⟨t2, st.trans a1, b1⟩
theorem vx_callv {S SX : Type} {post : S → Prop} {px : SX → Prop} {B : S → State → Prop} {BX : String → SX → State → Prop} {AX : Nat → Prop} (hr : vx_Run p l e R s m args below meth c H locs cells slots mc ms (F0 m pc ls st0) rest (va_Qv post B A1 a) (vx_X px BX AX) free) (hS : va_S A0 H0 H locs) (hA : ∀ q, q < H.size → A1 q → A0 q) (hf : ∀ q, free q → A0 q) (hAX : ∀ q, q < H.size → AX q → A0 q)
    (kx : ∀ (E : String) (ce : Cell) (q9 : Addr) (u : SX) (t : State) (H1 : Heap) (locs1 : List Loc), t.heap = H1 → s.vm.Alike t.vm → px u → BX E u t → H.size ≤ H1.size → (∀ q : Nat, q < H.size → ¬ AX q → H1[q]? = H[q]?) → va_S A0 H0 H1 locs1 → H1[q9]? = some ce → ce.vm = .none → s.vm.findClass E = some ce.cls → vx_W p l e R s m args below meth c H1 locs1 (cells + mc) (slots + ms) Q (F0 m pc ls rest) q9)
    (kk : ∀ (u : S) (t : State) (H1 : Heap) (locs1 : List Loc), t.heap = H1 → s.vm.Alike t.vm → post u → B u t → H.size ≤ H1.size → (∀ q : Nat, q < H.size → ¬ A1 q → H1[q]? = H[q]?) → va_S A0 H0 H1 locs1 → W p l e R s m args below meth c H1 locs1 (cells + mc) (slots + ms) Q (F0 m (pc + 3) ls (rest))) : W p l e R s m args below meth c H locs cells slots Q (F0 m pc ls st0) := by
  intro T hT X
  rcases hr T hT X with ⟨v, st₀, t, T', L, h0, X', hL, e1, e2, ⟨⟨u, hv, hp, hb⟩, hF⟩, st⟩ | ⟨q, st₀, t, T', L, E, ce, h0, X', hL, e1, e2, ⟨u, hp, hb, hF⟩, hce, hcv, hcl, st⟩
  · cases hv
    obtain ⟨k1, k2, k3⟩ := vx_keep h0 e1 hS hA hf hL hF
    obtain ⟨t2, a1, b1⟩ := kk u t T'.heap (locs ++ L) e1.symm (by rw [← e2]; exact X'.warmed.alike) hp hb k1 k2 k3 T' rfl X'
    exact ⟨t2, st t2 a1, b1⟩
  · obtain ⟨k1, k2, k3⟩ := vx_keep h0 e1 hS hAX hf hL hF
    obtain ⟨t2, a1, b1⟩ := kx E ce q u t T'.heap (locs ++ L) e1.symm (by rw [← e2]; exact X'.warmed.alike) hp hb k1 k2 k3 (by rw [e1]; exact hce) hcv hcl T' rfl X'
    exact ⟨t2, st.trans a1, b1⟩
/-- caught by the row x of this method's table; the rows ahead don't take it -/
theorem vx_catch {own name : String} {E : String} {ce : Cell} {q : Addr} (hown : s.vm.findClass own = some m.cls) (pre : List ExceptionTableEntry) (x : ExceptionTableEntry) (suf : List ExceptionTableEntry) (hsplit : c.exceptionTable.toList = pre ++ x :: suf)
    (hpass : ∀ z ∈ pre, covers z pc = false ∨ (z.catchType ≠ 0 ∧ ∃ nm : String, (Cond.classLink own z.catchType nm).before args s = true ∧ va_Nc E nm s)) (hx : covers x pc = true) (h0 : x.catchType ≠ 0)
    (hlink : (Cond.classLink own x.catchType name).before args s = true) (hcast : (Cond.castable E name).before args s = true) (hcell : H[q]? = some ce) (hv : ce.vm = .none) (hcl : s.vm.findClass E = some ce.cls)
    (kk : W p l e R s m args below meth c H locs cells slots Q (F0 m x.handlerPc ls [.ref q])) : vx_W p l e R s m args below meth c H locs cells slots Q (F0 m pc ls rest) q := by
  intro T hT X
  have hpl : e.platform.magicAccessors = ({} : Platform).magicAccessors := by rw [X.admits.platform]
  obtain ⟨c3, c4, hc3, hc4, hasg⟩ := Cond.castable_spec hcast
  cases Option.some.inj (hc3.symm.trans hcl)
  obtain ⟨c5, hc5, hcl5⟩ := Cond.classLink_spec hown hlink e.platform hpl
  cases Option.some.inj (hc4.symm.trans hc5)
  obtain ⟨vm', X', st⟩ := X.thenCaughtThrough q (g := F0 m pc ls rest) rfl (Steps.refl _) (by rw [hT]; exact hcell) (by rw [hv]; rfl) (by obtain ⟨k9, h9, -⟩ := Vm.findClass_spec hcl; exact ⟨k9, h9⟩) pre x suf hsplit
    (fun z hz => by
      rcases hpass z hz with h | ⟨hz0, nm, hl1, hn1⟩
      · exact Or.inl h
      · obtain ⟨c6, hc6, hcl6⟩ := Cond.classLink_spec hown hl1 e.platform hpl
        obtain ⟨a8, b8, h1, h2, h3⟩ := hn1
        cases Option.some.inj (h1.symm.trans hcl)
        cases Option.some.inj (h2.symm.trans hc6)
        exact Or.inr ⟨hz0, _, hcl6, h3⟩) hx (Or.inr ⟨h0, c4, hcl5, hasg⟩)
  obtain ⟨t, a1, b1⟩ := kk (T.setVm vm') hT X'
  exact ⟨t, st.trans a1, b1⟩
end Rows
section Ends
variable {p : Program} {l : Launch} {e : Env} {R : Room} {s : State} {m : MethodId} {args : Array Value} {below : List Frame} {meth : Method} {c : Code} {H : Heap} {locs : List Loc} {cells slots : Nat} {Q : State → Prop}
variable {mc ms : Nat} {free : Addr → Prop} {A0 A1 : Nat → Prop} {H0 : Heap} {a : Array Value} {ls : Array Slot} {st0 rest : List Value}
variable {Qc : Array Value → State → Outcome → State → Prop} {XC : String → State → State → Prop}
/-- what a body that may throw owes at its end -/
def vx_MQ (below : List Frame) (Qc : Array Value → State → Outcome → State → Prop) (XC : String → State → State → Prop) (a : Array Value) (s : State) (mc ms : Nat) (free : Addr → Prop) : State → Prop := fun t =>
  ∃ o, t.status = .running ∧ Ended t below o ∧ vx_Q Qc XC mc ms free a s o t
theorem vx_ret {g : JFrame} {mc ms : Nat} (k : W p l e R s m args below meth c H locs cells slots (MQ below Qc args s mc ms free) g) : W p l e R s m args below meth c H locs cells slots (vx_MQ below Qc XC args s mc ms free) g := by
  intro T hT X
  obtain ⟨t, a1, o, b1, b2, b3, b4⟩ := k T hT X
  exact ⟨t, a1, o, b1, b2, Or.inl ⟨b3, b4⟩⟩
/-- not caught here: it goes on to the caller -/
theorem vx_widen {g : JFrame} {q : Addr} {k n : Nat} (h1 : cells ≤ k) (h2 : slots ≤ n) (kk : vx_W p l e R s m args below meth c H locs k n Q g q) : vx_W p l e R s m args below meth c H locs cells slots Q g q := fun T hT X => kk T hT (stand_widen X h1 h2)
theorem vx_out {pc : Nat} {E : String} {ce : Cell} {q : Addr} {mc ms : Nat} (hout : ∀ x ∈ c.exceptionTable.toList, covers x pc = false) (hlocks : meth.locks = false) (hcell : H[q]? = some ce) (hv : ce.vm = .none) (hcl : s.vm.findClass E = some ce.cls)
    (hx : ∀ t : State, t.heap = H → s.vm.Alike t.vm → XC E s t) (hf : ∀ z ∈ locs, free z.base) (hc : cells ≤ mc) (hs : slots ≤ ms) :
    vx_W p l e R s m args below meth c H locs cells slots (vx_MQ below Qc XC args s mc ms free) (F0 m pc ls rest) q := by
  intro T hT X
  obtain ⟨st1, hrun, hend, hW, hsm⟩ := X.leaveThrown q (g := F0 m pc ls rest) rfl rfl rfl hout hlocks
  have hcell9 : (T.setFrames (.throwing q :: below)).heap[q]? = some ce := by
    show T.heap[q]? = some ce
    rw [hT]; exact hcell
  exact ⟨_, st1, .threw q, hrun, hend, Or.inr ⟨q, rfl, E, ce, locs, hx _ hT hW.alike, hcell9, hv, hcl, hW, hsm.mono hc hs, hf⟩⟩
theorem vx_frame {U : State} {k n : Nat} (h : s.sameButNew ({ U with vm := s.vm } : State) locs k n) : s.heap.size ≤ U.heap.size ∧ ∀ q : Nat, q < s.heap.size → (∀ z ∈ locs, z.base ≠ q) → U.heap[q]? = s.heap[q]? := by
  obtain ⟨-, h2, -, -, -, h6⟩ := h
  refine ⟨h2, fun q hq hz => ?_⟩
  obtain ⟨c9, e1, e2, e3, e4⟩ := h6 q _ (Array.getElem?_eq_getElem hq)
  have hs : c9.slots = (s.heap[q]).slots := Array.ext_getElem? fun i => e4 i fun hm => hz _ hm rfl
  have h9 : c9 = s.heap[q] := by
    rw [hs] at e2
    exact e2
  have e5 : U.heap[q]? = some c9 := e1
  rw [e5, h9, Array.getElem?_eq_getElem hq]
/-- the words of a throw but the four that speak of the heap -/
def vx_no (w : Cond) : Bool := decide (w ≠ .isRef (.static Bundle.tN "UNASSIGNED_STACK" Bundle.steD)) && decide (w ≠ .isRef (.static Bundle.tN "SUPPRESSED_SENTINEL" Bundle.listD)) && decide (w ≠ .laysStatic Bundle.tN "UNASSIGNED_STACK" Bundle.steD) && decide (w ≠ .laysStatic Bundle.tN "SUPPRESSED_SENTINEL" Bundle.listD)
def vx_at0 (own : String) (ic : Nat) (X : String) (names : List String) : List Cond := (Bundle.ownAtoms0 own ic X names).filter vx_no
def vx_atS (own : String) (ic : Nat) (X : String) (names : List String) : List Cond := (Bundle.ownAtoms own ic X names).filter vx_no
/-- a word that the tables alone decide, or a good one -/
def vx_ot (w : Cond) : Bool := w.onTables || goodWord w
theorem vx_ot_at {args a' : Array Value} {s U : State} {w : Cond} (hW : s.WarmedH U.vm) (hvm : s.vm = U.vm) (hg : vx_ot w = true) (h : w.before args s = true) : w.before a' U = true := by
  simp only [vx_ot, Bool.or_eq_true] at hg
  rcases hg with hg | hg
  · exact va_tabs hg hvm h
  · exact word_at hW (good_of_word hg) h
/-- a list's words: the good ones out of the method's own list, the others by premises of their own -/
theorem vx_hat {args : Array Value} {s : State} {L B : List Cond} (h1 : ∀ w ∈ L.filter goodWord, w.before args s = true) (h2 : ∀ w ∈ L.filter (fun w => !goodWord w), w ∈ B) (h3 : ∀ w ∈ B, w.before args s = true) : ∀ w ∈ L, w.before args s = true := by
  intro w hw
  by_cases g : goodWord w = true
  · exact h1 w (List.mem_filter.mpr ⟨hw, g⟩)
  · refine h3 w (h2 w (List.mem_filter.mpr ⟨hw, ?_⟩))
    show (!goodWord w) = true
    cases hgw : goodWord w
    · rfl
    · exact absurd hgw g
theorem vx_c {args : Array Value} {s : State} {w : Cond} {B : List Cond} (h : w.before args s = true) (t : ∀ w ∈ B, w.before args s = true) : ∀ w' ∈ w :: B, w'.before args s = true := fun w' h' => (List.mem_cons.mp h').elim (fun e => by rw [e]; exact h) (t w')
theorem vx_n {args : Array Value} {s : State} : ∀ w ∈ ([] : List Cond), w.before args s = true := fun _ h => nomatch h
theorem vx_own {args : Array Value} {s : State} {L : List Cond} (h1 : ∀ w ∈ L.filter vx_no, w.before args s = true)
    (hU : (Cond.isRef (.static Bundle.tN "UNASSIGNED_STACK" Bundle.steD)).before args s = true) (hN : (Cond.isRef (.static Bundle.tN "SUPPRESSED_SENTINEL" Bundle.listD)).before args s = true)
    (lU : (Cond.laysStatic Bundle.tN "UNASSIGNED_STACK" Bundle.steD).before args s = true) (lN : (Cond.laysStatic Bundle.tN "SUPPRESSED_SENTINEL" Bundle.listD).before args s = true) : ∀ w ∈ L, w.before args s = true := by
  intro w hw
  by_cases e1 : w = .isRef (.static Bundle.tN "UNASSIGNED_STACK" Bundle.steD)
  · rw [e1]; exact hU
  · by_cases e2 : w = .isRef (.static Bundle.tN "SUPPRESSED_SENTINEL" Bundle.listD)
    · rw [e2]; exact hN
    · by_cases e3 : w = .laysStatic Bundle.tN "UNASSIGNED_STACK" Bundle.steD
      · rw [e3]; exact lU
      · by_cases e4 : w = .laysStatic Bundle.tN "SUPPRESSED_SENTINEL" Bundle.listD
        · rw [e4]; exact lN
        · exact h1 w (List.mem_filter.mpr ⟨hw, by unfold vx_no; rw [decide_eq_true e1, decide_eq_true e2, decide_eq_true e3, decide_eq_true e4]; rfl⟩)
/-- where a static field lies, its class's statics cell in H -/
def vx_L (C n d : String) (A : Nat → Prop) (U : State) (H : Heap) : Prop := ∃ (c : ClassId) (k : Class) (i : Nat) (f : Field) (a : Nat) (cell : Cell), U.vm.findClass C = some c ∧ U.fieldFound? C n d = some (c, k, i, f) ∧ f.isStatic = true ∧ k.statics = some a ∧ H[a]? = some cell ∧ cell.vm.isStatics = true ∧ cell.cls = c ∧ f.slot < cell.slots.size ∧ k.staticTypes[f.slot]? = some f.type ∧ ¬ A a
theorem vx_L.moved {C n d : String} {A : Nat → Prop} {u U : State} {H : Heap} (hvm : u.vm.Alike U.vm) (h : vx_L C n d A u H) : vx_L C n d A U H := by
  obtain ⟨c, k, i, f, a, cell, h1, h2, h3, h4, h5, h6, h7, h8, h9, h10⟩ := h
  obtain ⟨k', hi', he⟩ := State.fieldFound?_setVm hvm h2
  exact ⟨c, k', i, f, a, cell, by rw [hvm.findClass]; exact h1, hi', h3, by rw [he]; exact h4, h5, h6, h7, h8, by rw [he]; exact h9, h10⟩
theorem vx_L.kept {C n d : String} {A : Nat → Prop} {U : State} {H H1 : Heap} (h : vx_L C n d A U H) (hq : ∀ a : Nat, a < H.size → ¬ A a → H1[a]? = H[a]?) : vx_L C n d A U H1 := by
  obtain ⟨c, k, i, f, a, cell, h1, h2, h3, h4, h5, h6, h7, h8, h9, h10⟩ := h
  exact ⟨c, k, i, f, a, cell, h1, h2, h3, h4, by rw [hq a (Array.getElem?_eq_some_iff.mp h5).1 h10]; exact h5, h6, h7, h8, h9, h10⟩
theorem vx_L.narrow {C n d : String} {A B : Nat → Prop} {U : State} {H : Heap} (h : vx_L C n d A U H) (hAB : ∀ q, B q → A q) : vx_L C n d B U H := by
  obtain ⟨c, k, i, f, a, cell, h1, h2, h3, h4, h5, h6, h7, h8, h9, h10⟩ := h
  exact ⟨c, k, i, f, a, cell, h1, h2, h3, h4, h5, h6, h7, h8, h9, fun z => h10 (hAB _ z)⟩
theorem vx_L.word {C n d : String} {A : Nat → Prop} {s : State} {args : Array Value} (h : vx_L C n d A s s.heap) : (Cond.laysStatic C n d).before args s = true := by
  obtain ⟨c, k, i, f, a, cell, h1, h2, h3, h4, h5, h6, h7, h8, h9, -⟩ := h
  show (Cond.laysStatic C n d).holds args s none s [] = true
  exact Cond.laysStatic_of h1 h2 h3 h4 h5 h6 h7 h8 h9
/-- .. and what it holds: null or some reference -/
def vx_Zq (C n d : String) (A : Nat → Prop) (U : State) (H : Heap) : Prop := va_Zq C n d A U H ∧ vx_L C n d A U H
theorem vx_Zq.moved {C n d : String} {A : Nat → Prop} {u U : State} {H : Heap} (hvm : u.vm.Alike U.vm) (h : vx_Zq C n d A u H) : vx_Zq C n d A U H := ⟨va_Zq.moved hvm h.1, vx_L.moved hvm h.2⟩
theorem vx_Zq.kept {C n d : String} {A : Nat → Prop} {U : State} {H H1 : Heap} (h : vx_Zq C n d A U H) (hq : ∀ a : Nat, a < H.size → ¬ A a → H1[a]? = H[a]?) : vx_Zq C n d A U H1 := ⟨va_Zq.kept h.1 hq, vx_L.kept h.2 hq⟩
theorem vx_Zq.narrow {C n d : String} {A B : Nat → Prop} {U : State} {H : Heap} (h : vx_Zq C n d A U H) (hAB : ∀ q, B q → A q) : vx_Zq C n d B U H := ⟨va_Zq.narrow h.1 hAB, vx_L.narrow h.2 hAB⟩
theorem vx_Zqof {args : Array Value} {s : State} {C n d : String} {A : Nat → Prop} (hl : (Cond.laysStatic C n d).before args s = true) (hini : (Cond.initialized C).before args s = true) (h : (Cond.isRef (.static C n d)).before args s = true) (hA : ∀ a : Nat, a < s.heap.size → ¬ A a) : vx_Zq C n d A s s.heap := by
  refine ⟨va_Zqof hl hini h hA, ?_⟩
  obtain ⟨c, k, i, f, a, cell, h1, h2, h3, h4, h5, h6, h7, h8, h9⟩ := Cond.laysStatic_spec hl
  exact ⟨c, k, i, f, a, cell, h1, h2, h3, h4, h5, h6, h7, h8, h9, hA a (Array.getElem?_eq_some_iff.mp h5).1⟩
theorem vx_isRef {C n d : String} {v : Value} {A : Nat → Prop} {s : State} {args : Array Value} (h : va_Z C n d v A s s.heap) (hv : v.isRef = true) : (Cond.isRef (.static C n d)).before args s = true := by
  obtain ⟨cf, kf, fi, f, a, cell, h1, h2, h3, h4, h5, h6, h7, -⟩ := h
  have he : (Term.static C n d).eval args s none [] s = some v := by
    simp [Term.eval, State.fieldNamed?, h1, h2, h4, h5, h6, h7]
  simp only [Cond.before, Cond.holds, Cond.value, he]
  cases v <;> simp_all [Value.isRef]
theorem vx_isRefq {C n d : String} {A : Nat → Prop} {s : State} {args : Array Value} (h : va_Zq C n d A s s.heap) : (Cond.isRef (.static C n d)).before args s = true := by
  rcases h with h | ⟨t, h⟩
  · exact vx_isRef h rfl
  · exact vx_isRef h rfl
/-- the same frame, seen from here: as if the method were called anew in this heap -/
theorem vx_rebase {T : State} (X : Stand p l e R s m args below meth c T locs cells slots) {R' : Room} (hf : R'.frames ≤ R.frames) (hl : R'.locals ≤ R.locals) (hc : cells + R'.cells ≤ R.cells) (hs : slots + R'.slots ≤ R.slots) :
    Stand p l e R' ((T.setVm s.vm).setFrames (.invoking m args :: below)) m args below meth c T [] 0 0 := by
  have htop : (T.setVm s.vm).topJava?.isSome := X.here.top
  have hF : ((T.setVm s.vm).setFrames (.invoking m args :: below)).frames = .invoking m args :: below := State.frames_setFrames _ (State.cur_lt_of_top htop)
  obtain ⟨g₀, hg0⟩ := Option.isSome_iff_exists.mp htop
  obtain ⟨r, hr⟩ := State.topJava?_eq_some.mp hg0
  have hl9 : e.platform.stackLimits (T.setVm s.vm).me = e.platform.stackLimits s.me := X.limits
  have hb9 : (T.setVm s.vm).me.stackBytes = s.me.stackBytes := X.bytes
  refine ⟨X.admits, X.cas, X.clock, hF, ?_, X.hears, X.method, X.code, X.here, X.tail, X.warmed, ?_, ?_, ?_⟩
  · have h := X.room
    have hU : ((T.setVm s.vm).setFrames (.invoking m args :: below)).localsInUse = s.localsInUse := by
      rw [State.localsInUse_invoking hF (meth := meth) (c := c) X.method X.code, State.localsInUse_invoking X.frames X.method X.code]
    simp only [State.hasRoom, Bool.and_eq_true, decide_eq_true_eq] at h ⊢
    obtain ⟨⟨⟨⟨h1, h2, h3, h4, h5, h6⟩, h7⟩, h8⟩, h9⟩ := h
    rw [X.frames, List.length_cons] at h2 h3
    have q1 := X.heapSize
    have q2 := X.used
    simp only [hF, hU, List.length_cons, State.stackLimits_setFrames, State.stackBytes_setFrames, hl9, hb9]
    refine ⟨⟨⟨⟨by omega, by omega, by omega, by omega, by omega, h6⟩, ?_⟩, ?_⟩, X.book⟩
    · show T.heap.size + R'.cells ≤ e.platform.maxCells
      omega
    · show T.slotsUsed + R'.slots ≤ e.platform.maxSlots
      omega
  · rw [State.stackLimits_setFrames]; rfl
  · rw [State.stackBytes_setFrames]; rfl
  · refine ⟨?_, Nat.le_refl _, Nat.le_refl _, ?_, ?_, fun a c9 h9 => ⟨c9, h9, rfl, rfl, fun _ _ => rfl⟩⟩
    · obtain ⟨t, ht, -⟩ := State.frames_cons hr
      show T.setVm s.vm = { ((T.setVm s.vm).setFrames (.invoking m args :: below)).setFrames (T.setVm s.vm).frames with heap := T.heap, slotsUsed := T.slotsUsed }
      rw [State.setFrames_setFrames, State.setFrames_self ht]
      rfl
    · show T.slotsUsed = T.slotsUsed + ((T.heap.toList.drop T.heap.size).map (·.slots.size)).sum
      rw [List.drop_eq_nil_of_le (Nat.le_of_eq Array.length_toList)]
      rfl
    · show ((T.heap.toList.drop T.heap.size).map (·.slots.size)).sum ≤ 0
      rw [List.drop_eq_nil_of_le (Nat.le_of_eq Array.length_toList)]
      exact Nat.le_refl _
/-- 'throw new E()': new; dup; invokespecial; athrow -/
theorem vx_throw0 {cc : ByteArray} {pc : Nat} (hexec : p.tables.exec = Jvm.exec) (hb : c.code = cc) (hl : l.stackTraces = false) {own cls : String} {names : List String} {ik ic mc ms : Nat} {A : Nat → Prop}
    (hown : s.vm.findClass own = some m.cls) (hcls : Bundle.fit cls = true) (hnames : ∀ n ∈ names, Bundle.fit n = true)
    (hk : (Cond.classLink own ik cls).before args s = true) (hini : (Cond.initialized cls).before args s = true) (hat : ∀ w ∈ vx_at0 own ic cls names, w.before args s = true)
    (hgood : ∀ w ∈ Cond.classLink own ik cls :: Cond.initialized cls :: vx_at0 own ic cls names, vx_ot w = true)
    (hU : vx_Zq Bundle.tN "UNASSIGNED_STACK" Bundle.steD A s s.heap) (hN : vx_Zq Bundle.tN "SUPPRESSED_SENTINEL" Bundle.listD A s s.heap) (hS : va_S A s.heap H locs) (hsize : ls.size = c.maxLocals)
    (d0 : decode cc pc = .ok (.new ik, 3)) (d3 : decode cc (pc + 3) = .ok (.dup, 1)) (d4 : decode cc (pc + 4) = .ok (.invokespecial ic, 3)) (d7 : decode cc (pc + 7) = .ok (.athrow, 1))
    (hout : ∀ x ∈ c.exceptionTable.toList, covers x (pc + 7) = false)
    (hRframes : names.length + 3 < R.frames) (hRlocals : (rest.map fun v => v.category).sum + (13 * (names.length + 1) + 42) ≤ R.locals) (hRcells : cells + 1 ≤ R.cells) (hRslots : slots + 6 ≤ R.slots) (hlocks : meth.locks = false)
    (hx : ∀ t : State, s.vm.Alike t.vm → H.size ≤ t.heap.size → (∀ q : Nat, q < H.size → t.heap[q]? = H[q]?) → XC cls s t)
    (hf : ∀ z ∈ locs, free z.base) (hc : cells + 1 ≤ mc) (hs : slots + 6 ≤ ms) :
    W p l e R s m args below meth c H locs cells slots (vx_MQ below Qc XC args s mc ms free) (F0 m pc ls rest) := by
  intro T hT X
  have htr : e.platform.stackTraces = false := (show e.platform.stackTraces = l.stackTraces by rw [X.admits.platform]).trans hl
  have Y := vx_rebase X (R' := { frames := R.frames, locals := R.locals, cells := 1, slots := 6 }) (Nat.le_refl _) (Nat.le_refl _) hRcells hRslots
  obtain ⟨s', hA⟩ : ∃ z, z = (T.setVm s.vm).setFrames (.invoking m args :: below) := ⟨_, rfl⟩
  rw [← hA] at Y
  have hvm : s'.vm = s.vm := by rw [hA]; rfl
  have hhp : s'.heap = H := by rw [hA]; exact hT
  have hW0 : s.WarmedH s'.vm := by rw [hvm]; exact State.WarmedH.refl s
  have hat' : ∀ w ∈ vx_at0 own ic cls names, w.before args s' = true := fun w hw => vx_ot_at hW0 hvm.symm (hgood w (List.mem_cons_of_mem _ (List.mem_cons_of_mem _ hw))) (hat w hw)
  have hk' : (Cond.classLink own ik cls).before args s' = true := vx_ot_at hW0 hvm.symm (hgood _ List.mem_cons_self) hk
  have hini' : (Cond.initialized cls).before args s' = true := vx_ot_at hW0 hvm.symm (hgood _ (List.mem_cons_of_mem _ List.mem_cons_self)) hini
  have hU' : vx_Zq Bundle.tN "UNASSIGNED_STACK" Bundle.steD A s' s'.heap := by rw [hhp]; exact vx_Zq.moved hW0.alike (hU.kept hS.2.1)
  have hN' : vx_Zq Bundle.tN "SUPPRESSED_SENTINEL" Bundle.listD A s' s'.heap := by rw [hhp]; exact vx_Zq.moved hW0.alike (hN.kept hS.2.1)
  have h : ∀ w ∈ Bundle.ownAtoms0 own ic cls names, w.before args s' = true := vx_own hat' (vx_isRefq hU'.1) (vx_isRefq hN'.1) hU'.2.word hN'.2.word
  have hown' : s'.vm.findClass own = some m.cls := by rw [hvm]; exact hown
  have hins : (Cond.instantiable cls 6).before args s' = true := h _ (by simp [Bundle.ownAtoms0])
  obtain ⟨vm₁, cX, kX, hfX, hkX, -, -, X₁, st1⟩ := Y.newCold hexec (own := own) (C := cls) (index := ik) (n := 6) hown' hk' hins hini'
    (g := F0 m pc ls rest) rfl (by rw [hb]; exact d0) (Nat.le_refl _) (Nat.le_refl _)
  generalize hT1 : (T.setVm vm₁).pushCell { cls := cX, slots := kX.instanceTypes.map defaultValue, vm := .none } = T1 at X₁ st1
  have hcat : (Value.ref T.heap.size).category = 1 := rfl
  have hcellA : T1.heap[T.heap.size]? = some (freshCell cX kX) := by rw [← hT1]; exact State.heap_pushCell_size _ _
  have d3' : decode c.code (pc + 3) = .ok (.dup, 1) := by rw [hb]; exact d3
  obtain ⟨U, hsteps, hrun, hend, hW, hsame, ce, hce, hO⟩ := X₁.ctorThrow0 hexec htr (own := own) (cls := cls) (names := names) (ic := ic) hown' hcls hnames h (fun x hx => nomatch hx) hfX hkX hcellA (by rw [hhp, hT]; exact Nat.le_refl _)
    (g := { method := m, pc := pc + 4, locals := ls, stack := .ref T.heap.size :: .ref T.heap.size :: rest, locked := none }) rfl hsize rfl rfl (rest := rest) rfl
    (by rw [hb]; exact d4) (by rw [hb]; exact d7) hout hRframes (by simp only [List.map_cons, List.sum_cons, hcat]; omega) hlocks
  obtain ⟨f1, f2⟩ := vx_frame hsame
  rw [hhp] at f1 f2
  have hWs : s.WarmedH U.vm := State.WarmedH.trans hW0 hW
  have hcl : s.vm.findClass cls = some ce.cls := by
    have h9 := hO.cls
    rw [hvm] at h9
    exact h9
  have hall : s.sameButNew ({ U with vm := s.vm } : State) locs mc ms := by
    subst hA
    obtain ⟨e1, e2⟩ := hsame
    rw [State.setFrames_setFrames] at e1
    have h2 : (T.setVm s.vm).sameButNew ({ U with vm := s.vm } : State) [] (0 + 1) (0 + 6) := ⟨e1, e2⟩
    have h3 := X.same.trans h2
    rw [List.append_nil] at h3
    exact h3.mono hc hs
  refine ⟨U, ?_, .threw T.heap.size, hrun, hend, Or.inr ⟨T.heap.size, rfl, cls, ce, locs, hx U hWs.alike f1 (fun q hq => f2 q hq (fun z hz => nomatch hz)), hce, hO.vm, hcl, hWs, hall, hf⟩⟩
  refine st1 _ ?_
  show Steps p.tables e below (T1.setTop { method := m, pc := pc + 3, locals := ls, stack := .ref T.heap.size :: rest, locked := none }) _
  jvm_step X₁.here [X₁.here.top, hexec, d3', Value.category]
  exact hsteps
/-- 'throw new E("text")': new; dup; ldc; invokespecial; athrow -/
theorem vx_throwS {cc : ByteArray} {pc : Nat} (hexec : p.tables.exec = Jvm.exec) (hb : c.code = cc) (hl : l.stackTraces = false) {own cls text : String} {names : List String} {ik is ic mc ms sa : Nat} {A : Nat → Prop}
    (hown : s.vm.findClass own = some m.cls) (hcls : Bundle.fit cls = true) (hnames : ∀ n ∈ names, Bundle.fit n = true)
    (hk : (Cond.classLink own ik cls).before args s = true) (hini : (Cond.initialized cls).before args s = true) (hstr : vk_R own is text sa s) (hat : ∀ w ∈ vx_atS own ic cls names, w.before args s = true)
    (hgood : ∀ w ∈ Cond.classLink own ik cls :: Cond.initialized cls :: vx_atS own ic cls names, vx_ot w = true)
    (hU : vx_Zq Bundle.tN "UNASSIGNED_STACK" Bundle.steD A s s.heap) (hN : vx_Zq Bundle.tN "SUPPRESSED_SENTINEL" Bundle.listD A s s.heap) (hS : va_S A s.heap H locs) (hsize : ls.size = c.maxLocals)
    (d0 : decode cc pc = .ok (.new ik, 3)) (d3 : decode cc (pc + 3) = .ok (.dup, 1)) (d4 : decode cc (pc + 4) = .ok (.ldc is, 2)) (d6 : decode cc (pc + 6) = .ok (.invokespecial ic, 3)) (d9 : decode cc (pc + 9) = .ok (.athrow, 1))
    (hout : ∀ x ∈ c.exceptionTable.toList, covers x (pc + 9) = false)
    (hRframes : names.length + 3 < R.frames) (hRlocals : (rest.map fun v => v.category).sum + (13 * (names.length + 1) + 43) ≤ R.locals) (hRcells : cells + 1 ≤ R.cells) (hRslots : slots + 6 ≤ R.slots) (hlocks : meth.locks = false)
    (hx : ∀ t : State, s.vm.Alike t.vm → H.size ≤ t.heap.size → (∀ q : Nat, q < H.size → t.heap[q]? = H[q]?) → XC cls s t)
    (hf : ∀ z ∈ locs, free z.base) (hc : cells + 1 ≤ mc) (hs : slots + 6 ≤ ms) :
    W p l e R s m args below meth c H locs cells slots (vx_MQ below Qc XC args s mc ms free) (F0 m pc ls rest) := by
  intro T hT X
  have htr : e.platform.stackTraces = false := (show e.platform.stackTraces = l.stackTraces by rw [X.admits.platform]).trans hl
  have Y := vx_rebase X (R' := { frames := R.frames, locals := R.locals, cells := 1, slots := 6 }) (Nat.le_refl _) (Nat.le_refl _) hRcells hRslots
  obtain ⟨s', hA⟩ : ∃ z, z = (T.setVm s.vm).setFrames (.invoking m args :: below) := ⟨_, rfl⟩
  rw [← hA] at Y
  have hvm : s'.vm = s.vm := by rw [hA]; rfl
  have hhp : s'.heap = H := by rw [hA]; exact hT
  have hW0 : s.WarmedH s'.vm := by rw [hvm]; exact State.WarmedH.refl s
  have hat' : ∀ w ∈ vx_atS own ic cls names, w.before args s' = true := fun w hw => vx_ot_at hW0 hvm.symm (hgood w (List.mem_cons_of_mem _ (List.mem_cons_of_mem _ hw))) (hat w hw)
  have hk' : (Cond.classLink own ik cls).before args s' = true := vx_ot_at hW0 hvm.symm (hgood _ List.mem_cons_self) hk
  have hini' : (Cond.initialized cls).before args s' = true := vx_ot_at hW0 hvm.symm (hgood _ (List.mem_cons_of_mem _ List.mem_cons_self)) hini
  have hU' : vx_Zq Bundle.tN "UNASSIGNED_STACK" Bundle.steD A s' s'.heap := by rw [hhp]; exact vx_Zq.moved hW0.alike (hU.kept hS.2.1)
  have hN' : vx_Zq Bundle.tN "SUPPRESSED_SENTINEL" Bundle.listD A s' s'.heap := by rw [hhp]; exact vx_Zq.moved hW0.alike (hN.kept hS.2.1)
  have h : ∀ w ∈ Bundle.ownAtoms own ic cls names, w.before args s' = true := vx_own hat' (vx_isRefq hU'.1) (vx_isRefq hN'.1) hU'.2.word hN'.2.word
  have hown' : s'.vm.findClass own = some m.cls := by rw [hvm]; exact hown
  have hins : (Cond.instantiable cls 6).before args s' = true := h _ (by simp [Bundle.ownAtoms])
  obtain ⟨vm₁, cX, kX, hfX, hkX, -, -, X₁, st1⟩ := Y.newCold hexec (own := own) (C := cls) (index := ik) (n := 6) hown' hk' hins hini'
    (g := F0 m pc ls rest) rfl (by rw [hb]; exact d0) (Nat.le_refl _) (Nat.le_refl _)
  generalize hT1 : (T.setVm vm₁).pushCell { cls := cX, slots := kX.instanceTypes.map defaultValue, vm := .none } = T1 at X₁ st1
  have hcat : (Value.ref T.heap.size).category = 1 := rfl
  have hcellA : T1.heap[T.heap.size]? = some (freshCell cX kX) := by rw [← hT1]; exact State.heap_pushCell_size _ _
  have d3' : decode c.code (pc + 3) = .ok (.dup, 1) := by rw [hb]; exact d3
  have d4' : decode c.code (pc + 4) = .ok (.ldc is, 2) := by rw [hb]; exact d4
  have hstr' : vk_R own is text sa s' := vk_R.warm hW0 hstr
  obtain ⟨U, hsteps, hrun, hend, hW, hsame, ce, hce, hO⟩ := X₁.ctorThrowS hexec htr (own := own) (cls := cls) (names := names) (ic := ic) hown' hcls hnames h (fun x hx => nomatch hx) hfX hkX hcellA (by rw [hhp, hT]; exact Nat.le_refl _) (msg := .ref sa) rfl
    (g := { method := m, pc := pc + 6, locals := ls, stack := .ref sa :: .ref T.heap.size :: .ref T.heap.size :: rest, locked := none }) rfl hsize rfl rfl (rest := rest) rfl
    (by rw [hb]; exact d6) (by rw [hb]; exact d9) hout hRframes (by simp only [List.map_cons, List.sum_cons, hcat]; omega) hlocks
  obtain ⟨f1, f2⟩ := vx_frame hsame
  rw [hhp] at f1 f2
  have hWs : s.WarmedH U.vm := State.WarmedH.trans hW0 hW
  have hcl : s.vm.findClass cls = some ce.cls := by
    have h9 := hO.cls
    rw [hvm] at h9
    exact h9
  have hall : s.sameButNew ({ U with vm := s.vm } : State) locs mc ms := by
    subst hA
    obtain ⟨e1, e2⟩ := hsame
    rw [State.setFrames_setFrames] at e1
    have h2 : (T.setVm s.vm).sameButNew ({ U with vm := s.vm } : State) [] (0 + 1) (0 + 6) := ⟨e1, e2⟩
    have h3 := X.same.trans h2
    rw [List.append_nil] at h3
    exact h3.mono hc hs
  refine ⟨U, ?_, .threw T.heap.size, hrun, hend, Or.inr ⟨T.heap.size, rfl, cls, ce, locs, hx U hWs.alike f1 (fun q hq => f2 q hq (fun z hz => nomatch hz)), hce, hO.vm, hcl, hWs, hall, hf⟩⟩
  refine st1 _ ?_
  show Steps p.tables e below (T1.setTop { method := m, pc := pc + 3, locals := ls, stack := .ref T.heap.size :: rest, locked := none }) _
  jvm_step X₁.here [X₁.here.top, hexec, d3', Value.category]
  exact X₁.ldcString hexec (own := own) (text := text) (index := is) (a := sa) hown' hstr'.1 hstr'.2
    (g := { method := m, pc := pc + 4, locals := ls, stack := .ref T.heap.size :: .ref T.heap.size :: rest, locked := none }) rfl d4' _ hsteps
/-- 'throw new E("text")', the text by a wide index -/
theorem vx_throwSW {cc : ByteArray} {pc : Nat} (hexec : p.tables.exec = Jvm.exec) (hb : c.code = cc) (hl : l.stackTraces = false) {own cls text : String} {names : List String} {ik is ic mc ms sa : Nat} {A : Nat → Prop}
    (hown : s.vm.findClass own = some m.cls) (hcls : Bundle.fit cls = true) (hnames : ∀ n ∈ names, Bundle.fit n = true)
    (hk : (Cond.classLink own ik cls).before args s = true) (hini : (Cond.initialized cls).before args s = true) (hstr : vk_R own is text sa s) (hat : ∀ w ∈ vx_atS own ic cls names, w.before args s = true)
    (hgood : ∀ w ∈ Cond.classLink own ik cls :: Cond.initialized cls :: vx_atS own ic cls names, vx_ot w = true)
    (hU : vx_Zq Bundle.tN "UNASSIGNED_STACK" Bundle.steD A s s.heap) (hN : vx_Zq Bundle.tN "SUPPRESSED_SENTINEL" Bundle.listD A s s.heap) (hS : va_S A s.heap H locs) (hsize : ls.size = c.maxLocals)
    (d0 : decode cc pc = .ok (.new ik, 3)) (d3 : decode cc (pc + 3) = .ok (.dup, 1)) (d4 : decode cc (pc + 4) = .ok (.ldc_w is, 3)) (d7 : decode cc (pc + 7) = .ok (.invokespecial ic, 3)) (d10 : decode cc (pc + 10) = .ok (.athrow, 1))
    (hout : ∀ x ∈ c.exceptionTable.toList, covers x (pc + 10) = false)
    (hRframes : names.length + 3 < R.frames) (hRlocals : (rest.map fun v => v.category).sum + (13 * (names.length + 1) + 43) ≤ R.locals) (hRcells : cells + 1 ≤ R.cells) (hRslots : slots + 6 ≤ R.slots) (hlocks : meth.locks = false)
    (hx : ∀ t : State, s.vm.Alike t.vm → H.size ≤ t.heap.size → (∀ q : Nat, q < H.size → t.heap[q]? = H[q]?) → XC cls s t)
    (hf : ∀ z ∈ locs, free z.base) (hc : cells + 1 ≤ mc) (hs : slots + 6 ≤ ms) :
    W p l e R s m args below meth c H locs cells slots (vx_MQ below Qc XC args s mc ms free) (F0 m pc ls rest) := by
  intro T hT X
  have htr : e.platform.stackTraces = false := (show e.platform.stackTraces = l.stackTraces by rw [X.admits.platform]).trans hl
  have Y := vx_rebase X (R' := { frames := R.frames, locals := R.locals, cells := 1, slots := 6 }) (Nat.le_refl _) (Nat.le_refl _) hRcells hRslots
  obtain ⟨s', hA⟩ : ∃ z, z = (T.setVm s.vm).setFrames (.invoking m args :: below) := ⟨_, rfl⟩
  rw [← hA] at Y
  have hvm : s'.vm = s.vm := by rw [hA]; rfl
  have hhp : s'.heap = H := by rw [hA]; exact hT
  have hW0 : s.WarmedH s'.vm := by rw [hvm]; exact State.WarmedH.refl s
  have hat' : ∀ w ∈ vx_atS own ic cls names, w.before args s' = true := fun w hw => vx_ot_at hW0 hvm.symm (hgood w (List.mem_cons_of_mem _ (List.mem_cons_of_mem _ hw))) (hat w hw)
  have hk' : (Cond.classLink own ik cls).before args s' = true := vx_ot_at hW0 hvm.symm (hgood _ List.mem_cons_self) hk
  have hini' : (Cond.initialized cls).before args s' = true := vx_ot_at hW0 hvm.symm (hgood _ (List.mem_cons_of_mem _ List.mem_cons_self)) hini
  have hU' : vx_Zq Bundle.tN "UNASSIGNED_STACK" Bundle.steD A s' s'.heap := by rw [hhp]; exact vx_Zq.moved hW0.alike (hU.kept hS.2.1)
  have hN' : vx_Zq Bundle.tN "SUPPRESSED_SENTINEL" Bundle.listD A s' s'.heap := by rw [hhp]; exact vx_Zq.moved hW0.alike (hN.kept hS.2.1)
  have h : ∀ w ∈ Bundle.ownAtoms own ic cls names, w.before args s' = true := vx_own hat' (vx_isRefq hU'.1) (vx_isRefq hN'.1) hU'.2.word hN'.2.word
  have hown' : s'.vm.findClass own = some m.cls := by rw [hvm]; exact hown
  have hins : (Cond.instantiable cls 6).before args s' = true := h _ (by simp [Bundle.ownAtoms])
  obtain ⟨vm₁, cX, kX, hfX, hkX, -, -, X₁, st1⟩ := Y.newCold hexec (own := own) (C := cls) (index := ik) (n := 6) hown' hk' hins hini'
    (g := F0 m pc ls rest) rfl (by rw [hb]; exact d0) (Nat.le_refl _) (Nat.le_refl _)
  generalize hT1 : (T.setVm vm₁).pushCell { cls := cX, slots := kX.instanceTypes.map defaultValue, vm := .none } = T1 at X₁ st1
  have hcat : (Value.ref T.heap.size).category = 1 := rfl
  have hcellA : T1.heap[T.heap.size]? = some (freshCell cX kX) := by rw [← hT1]; exact State.heap_pushCell_size _ _
  have d3' : decode c.code (pc + 3) = .ok (.dup, 1) := by rw [hb]; exact d3
  have d4' : decode c.code (pc + 4) = .ok (.ldc_w is, 3) := by rw [hb]; exact d4
  have hstr' : vk_R own is text sa s' := vk_R.warm hW0 hstr
  obtain ⟨U, hsteps, hrun, hend, hW, hsame, ce, hce, hO⟩ := X₁.ctorThrowS hexec htr (own := own) (cls := cls) (names := names) (ic := ic) hown' hcls hnames h (fun x hx => nomatch hx) hfX hkX hcellA (by rw [hhp, hT]; exact Nat.le_refl _) (msg := .ref sa) rfl
    (g := { method := m, pc := pc + 7, locals := ls, stack := .ref sa :: .ref T.heap.size :: .ref T.heap.size :: rest, locked := none }) rfl hsize rfl rfl (rest := rest) rfl
    (by rw [hb]; exact d7) (by rw [hb]; exact d10) hout hRframes (by simp only [List.map_cons, List.sum_cons, hcat]; omega) hlocks
  obtain ⟨f1, f2⟩ := vx_frame hsame
  rw [hhp] at f1 f2
  have hWs : s.WarmedH U.vm := State.WarmedH.trans hW0 hW
  have hcl : s.vm.findClass cls = some ce.cls := by
    have h9 := hO.cls
    rw [hvm] at h9
    exact h9
  have hall : s.sameButNew ({ U with vm := s.vm } : State) locs mc ms := by
    subst hA
    obtain ⟨e1, e2⟩ := hsame
    rw [State.setFrames_setFrames] at e1
    have h2 : (T.setVm s.vm).sameButNew ({ U with vm := s.vm } : State) [] (0 + 1) (0 + 6) := ⟨e1, e2⟩
    have h3 := X.same.trans h2
    rw [List.append_nil] at h3
    exact h3.mono hc hs
  refine ⟨U, ?_, .threw T.heap.size, hrun, hend, Or.inr ⟨T.heap.size, rfl, cls, ce, locs, hx U hWs.alike f1 (fun q hq => f2 q hq (fun z hz => nomatch hz)), hce, hO.vm, hcl, hWs, hall, hf⟩⟩
  refine st1 _ ?_
  show Steps p.tables e below (T1.setTop { method := m, pc := pc + 3, locals := ls, stack := .ref T.heap.size :: rest, locked := none }) _
  jvm_step X₁.here [X₁.here.top, hexec, d3', Value.category]
  exact X₁.ldcStringW hexec (own := own) (text := text) (index := is) (a := sa) hown' hstr'.1 hstr'.2
    (g := { method := m, pc := pc + 4, locals := ls, stack := .ref T.heap.size :: .ref T.heap.size :: rest, locked := none }) rfl d4' _ hsteps
end Ends
section Bodies
variable {l : Launch}
theorem vx_ofW {y : MethodName} {ws ws' : List Cond} {rm : Room} {Pc : Array Value → State → Prop} {Qc : Array Value → State → Outcome → State → Prop} {XC : String → State → State → Prop} {mc ms : Nat} {free : Addr → Prop} {cc : ByteArray} {maxL : Nat} {ret : Option FieldType}
    (hy : plainName y.cls = true) (hw : ws = Cond.code y cc maxL ret :: ws')
    (body : ∀ p e s m args below meth c s₁, BodyLoose p l y (headSpec ws rm) cc maxL ret e s m args below meth c s₁ → c.maxLocals = maxL → (∀ x ∈ c.exceptionTable.toList, False) → Pc args s →
      W p l e (headSpec ws rm).room s m args below meth c s.heap [] 0 0 (vx_MQ below Qc XC args s mc ms free) (entryFrame m args maxL)) : vx_Met l y ws rm Pc Qc XC mc ms free := by
  refine MetFree.of_bodyS (code := cc) (maxLocals := maxL) (ret := ret) hy ?_ ?_
  · intro args s m h hn
    obtain ⟨meth, c, h1, h2, h3, h4, h5, h6, -, -⟩ := Cond.code_spec hn (atoms_spec (ws := ws) h _ (by rw [hw]; exact List.mem_cons_self))
    exact ⟨meth, c, h1, h2, h3, h4, h5, h6⟩
  · intro p e s m args below meth c s₁ B hml hP _
    have hh0 : s₁.heap = s.heap := by rw [B.state]; rfl
    have ht : ∀ x ∈ c.exceptionTable.toList, False := by
      obtain ⟨meth9, c9, h1, h2, -, -, -, -, h7, -⟩ := Cond.code_spec B.named (atoms_spec (ws := ws) B.pre _ (by rw [hw]; exact List.mem_cons_self))
      cases Option.some.inj (h1.symm.trans B.method)
      cases Option.some.inj (h2.symm.trans (Stand.of_body B).code)
      intro x hx
      rw [Array.isEmpty_iff.mp h7] at hx
      cases hx
    obtain ⟨t, a1, o, b1, b2, b3⟩ := body p e s m args below meth c s₁ B hml ht hP s₁ hh0 (Stand.of_body B)
    exact ⟨t, o, a1, b1, b2, b3⟩
/-- the table of a body with handlers -/
theorem vx_table {p : Program} {x y : MethodName} {S : Spec} {cc bytes : ByteArray} {maxL maxL' : Nat} {ret ret' : Option FieldType} {e : Env} {s s₁ : State} {m : MethodId} {args : Array Value} {below : List Frame} {meth : Method} {c : Code} {hh : List (Nat × Nat × Nat × Nat)}
    (B : BodyLoose p l y S cc maxL ret e s m args below meth c s₁) (h : (Cond.codeWith y bytes maxL' ret' hh).before args s = true) : c.exceptionTable.toList = tableOf hh := by
  obtain ⟨m9, meth9, c9, hn9, h1, h2, -, -, h6, -⟩ := Cond.codeWith_spec h
  cases Option.some.inj (hn9.symm.trans B.named)
  cases Option.some.inj (h1.symm.trans B.method)
  cases Option.some.inj (h2.symm.trans (Stand.of_body B).code)
  rw [← h6, table_eq]
end Bodies
end VXA
/-! ===== END ===== -/
/-! ===== BEGIN a static call of a method with an exception table ===== -/
section VXS
variable {p : Program} {l : Launch} {e : Env} {R : Room} {s : State} {m : MethodId} {args : Array Value} {below : List Frame} {meth : Method} {c : Code} {T : State} {H : Heap} {locs : List Loc} {cells slots : Nat}
abbrev vx_CSW (R : Room) (s : State) (args : Array Value) (own : String) (index : Nat) (y : MethodName) (bytes : ByteArray) (maxL : Nat) (ret : Option FieldType) (hh : List (Nat × Nat × Nat × Nat)) (ws : List Cond) (rm : Room) (mc ms n : Nat) : Prop :=
  (rm.cells = mc ∧ rm.slots = ms ∧ rm.frames + 1 ≤ R.frames ∧ 8 + (maxL + 11) + rm.locals ≤ R.locals ∧ (∀ w ∈ ws, ∀ (a' : Array Value) (U : State), s.WarmedH U.vm → w.before a' U = true) ∧ Cond.codeWith y bytes maxL ret hh ∈ ws) ∧
  (Cond.codeWith y bytes maxL ret hh).before args s = true ∧ (Cond.initialized y.cls).before args s = true ∧ (y.cls ≠ "java/lang/invoke/MethodHandle" ∧ y.cls ≠ "java/lang/invoke/VarHandle") ∧
  (∀ sig, parseMethodDescriptor y.desc = some sig → n = sig.parameters.length) ∧ (Cond.methodLink own index y).before args s = true ∧ (Cond.static y).before args s = true
theorem vx_cwSW {own : String} {index maxL mc ms : Nat} {y : MethodName} {bytes : ByteArray} {ret : Option FieldType} {hh : List (Nat × Nat × Nat × Nat)} {Ts ws ws' : List Cond} {rm : Room} (n : Nat) (ht : ∀ w ∈ Ts, w.before args s = true) (hT : GoodIn Ts (va_wsS own index y ws)) (hw : ws = Cond.codeWith y bytes maxL ret hh :: ws') (hrc : rm.cells = mc) (hrs : rm.slots = ms)
    (hd : y.cls ≠ "java/lang/invoke/MethodHandle" ∧ y.cls ≠ "java/lang/invoke/VarHandle" ∧ (parseMethodDescriptor y.desc).map (fun d => d.parameters.length) = some n) (hR : rm.frames + 1 ≤ R.frames ∧ 8 + (maxL + 11) + rm.locals ≤ R.locals) :
    vx_CSW R s args own index y bytes maxL ret hh ws rm mc ms n := by
  have ok : ∀ w ∈ va_wsS own index y ws, w.before args s = true := fun w h => ht w (hT w h).1
  have hG : GoodIn Ts ws := fun w h => hT w (by unfold va_wsS; exact List.mem_append_right _ h)
  have hc : Cond.codeWith y bytes maxL ret hh ∈ ws := by rw [hw]; exact List.mem_cons_self
  refine ⟨⟨hrc, hrs, hR.1, hR.2, pay_in ht hG, hc⟩, ht _ (hG _ hc).1, ok _ (by simp [va_wsS]), ⟨hd.1, hd.2.1⟩, fun sig h => ?_, ok _ (by simp [va_wsS]), ok _ (by simp [va_wsS])⟩
  have h2 := hd.2.2
  rw [h] at h2
  exact (Option.some.inj h2).symm
theorem vx_callSW (X : Stand p l e R s m args below meth c T locs cells slots) (hexec : p.tables.exec = Jvm.exec) {own : String} {index : Nat} {y : MethodName} {bytes : ByteArray} {maxL : Nat} {ret : Option FieldType} {hh : List (Nat × Nat × Nat × Nat)}
    (hown : s.vm.findClass own = some m.cls) (hlink : (Cond.methodLink own index y).before args s = true) (hstat : (Cond.static y).before args s = true) (hinit : (Cond.initialized y.cls).before args s = true)
    (hcode : (Cond.codeWith y bytes maxL ret hh).before args s = true) (hy : y.cls ≠ "java/lang/invoke/MethodHandle" ∧ y.cls ≠ "java/lang/invoke/VarHandle")
    {W9 : Nat} {Pre : Pt → Array Value → Prop} {Post : Pt → Array Value → Option Value → Pt → Prop} (hK : Back l R p e below s args y 3 W9 Pre Post)
    {g : JFrame} (hg : g.method = m) (hsize : g.locals.size = c.maxLocals) {argsL rest : List Value} (hlen : ∀ sig, parseMethodDescriptor y.desc = some sig → argsL.length = sig.parameters.length)
    (hstack : g.stack = argsL.reverse ++ rest) (hW : 2 * g.monitorRoom + (rest.map fun v => v.category).sum ≤ W9) (hdg : decode c.code g.pc = .ok (.invokestatic index, 3))
    (hpre : ∀ vm₁, s.WarmedH vm₁ → Pre ⟨T.setVm vm₁, locs, cells, slots⟩ argsL.toArray) :
    ∃ (v : Option Value) (vm₁ : Vm) (B : Pt), s.WarmedH vm₁ ∧ Stand p l e R s m args below meth c B.U B.locs B.cells B.slots ∧ Post ⟨T.setVm vm₁, locs, cells, slots⟩ argsL.toArray v B ∧
      ∀ target, Steps p.tables e below (B.U.setTop { g with pc := g.pc + 3, stack := v.toList ++ rest }) target → Steps p.tables e below (T.setTop g) target := by
  obtain ⟨mk, methM, cM, hnamed, hmethM, -, -, -, -, -, -, hsigM⟩ := Cond.codeWith_spec hcode
  have hstatic : methM.isStatic = true := Cond.static_spec hnamed hmethM hstat
  obtain ⟨kP, hkP, -⟩ := className_of_methodNamed hnamed
  have hinitP : kP.init = .initialized := Cond.initialized_spec (findClass_of_methodNamed hnamed) hkP hinit
  obtain ⟨vm₁, X₁, hstep₁⟩ := X.invokestatic hexec hown hlink hnamed hmethM hstatic hkP hinitP hy (g := g) hg (argsL := argsL) (rest := rest) (hlen _ hsigM) hstack hdg
  obtain ⟨v, B, X', hpost, hsteps⟩ := hK m meth c ⟨T.setVm vm₁, locs, cells, slots⟩ { g with stack := rest } (.invokestatic index) mk argsL.toArray X₁ hg hsize hdg hW (X₁.named hnamed) (hpre vm₁ X₁.warmed)
  exact ⟨v, vm₁, B, X₁.warmed, X', hpost, fun target h => hstep₁ _ fun acts => by rw [doInvoke_state]; exact hsteps.trans h⟩
theorem vx_runSW {y : MethodName} {bytes cc : ByteArray} {maxL nL mc ms n index : Nat} {ret : Option FieldType} {hh : List (Nat × Nat × Nat × Nat)} {ws : List Cond} {rm : Room} {Pc : Array Value → State → Prop} {Qc : Array Value → State → Outcome → State → Prop} {free : Addr → Prop} {Ts : List Cond} {own : String} {As rest : List Value} {g : JFrame}
    (S : CallFix p m c cc nL s args Ts own) (hM : Met l y ws rm Pc Qc mc ms free) (cw : vx_CSW R s args own index y bytes maxL ret hh ws rm mc ms n) (hp : PreS s H Pc As)
    (hg : g.method = m) (hn : As.length = n) (hsize : g.locals.size = nL) (hstack : g.stack = As.reverse ++ rest) (hW : 2 * g.monitorRoom + (rest.map fun v => v.category).sum ≤ 8) (hdg : decode cc g.pc = .ok (.invokestatic index, 3)) (hf : cells + mc ≤ R.cells ∧ slots + ms ≤ R.slots) :
    va_Run p l e R s m args below meth c H locs cells slots mc ms g rest (Qc As.toArray) (free) := by
  obtain ⟨⟨hrc, hrs, hfr, hlo, hws, hcw⟩, hcode, hini, hy, hlen, hl, hstt⟩ := cw
  have hK : Back l R p e below s args y 3 8 (PreOf R mc ms Pc) (PostOf Qc mc ms free) := va_backW (hh := hh) (bytes := bytes) (maxL := maxL) (ret := ret) hM hp.1 hrc hrs hfr hlo hws hcw (fun a' U hW => word_at hW (Or.inl (by first | rfl | simp [Cond.onTables, Cond.keeps, Cond.steady])) hini)
  obtain ⟨hx, hb, hml, ho, -⟩ := S
  intro T hT X
  obtain ⟨v, vm₁, ⟨U', l2, c2, s2⟩, hW₁, X', ⟨g', mk, t, L, e1, e2, hq, h1, hL, h2, h3⟩, st⟩ := vx_callSW X hx (hh := hh) (bytes := bytes) (maxL := maxL) (ret := ret) ho hl hstt hini hcode hy hK hg (hsize.trans hml.symm) (argsL := As) (rest := rest) (fun sig h => hn.trans (hlen sig h)) hstack hW (by rw [hb]; exact hdg)
    (fun vm₁ hW₁ => ⟨hf.1, hf.2, hp.2 (T.setVm vm₁) hT hW₁⟩)
  dsimp only [Pt.U, Pt.locs, Pt.cells, Pt.slots] at X' e1 e2 h1 h2 h3 st
  subst h1; subst h2; subst h3
  exact ⟨v, (T.setVm vm₁).calling g' mk As.toArray, t, U', L, hT, X', hL, e1, e2, hq, st⟩
/-- not caught here, past rows that name other classes: it goes on to the caller -/
theorem vx_outP {p : Program} {l : Launch} {e : Env} {R : Room} {s : State} {m : MethodId} {args : Array Value} {below : List Frame} {meth : Method} {c : Code} {H : Heap} {locs : List Loc} {cells slots : Nat} {free : Addr → Prop} {ls : Array Slot} {rest : List Value} {Qc : Array Value → State → Outcome → State → Prop} {XC : String → State → State → Prop}
    {pc : Nat} {own E : String} {ce : Cell} {q : Addr} {mc ms : Nat} (hown : s.vm.findClass own = some m.cls) (hlocks : meth.locks = false)
    (hpass : ∀ z ∈ c.exceptionTable.toList, covers z pc = false ∨ (z.catchType ≠ 0 ∧ ∃ nm : String, (Cond.classLink own z.catchType nm).before args s = true ∧ va_Nc E nm s)) (hcell : H[q]? = some ce) (hv : ce.vm = .none) (hcl : s.vm.findClass E = some ce.cls)
    (hx : ∀ t : State, t.heap = H → s.vm.Alike t.vm → XC E s t) (hf : ∀ z ∈ locs, free z.base) (hc : cells ≤ mc) (hs : slots ≤ ms) :
    vx_W p l e R s m args below meth c H locs cells slots (vx_MQ below Qc XC args s mc ms free) (F0 m pc ls rest) q := by
  intro T hT X
  have hpl : e.platform.magicAccessors = ({} : Platform).magicAccessors := by rw [X.admits.platform]
  obtain ⟨vm', hW', X', st⟩ := X.outThrough hlocks q (g := F0 m pc ls rest) rfl rfl rfl (cell := ce) (by rw [hT]; exact hcell) (by rw [hv]; rfl)
    (by obtain ⟨k9, h9, -⟩ := Vm.findClass_spec hcl; exact ⟨k9, h9⟩) (fun z hz => by
      rcases hpass z hz with h | ⟨hz0, nm, hl1, hn1⟩
      · exact Or.inl h
      · obtain ⟨c6, hc6, hcl6⟩ := Cond.classLink_spec hown hl1 e.platform hpl
        obtain ⟨a8, b8, h1, h2, h3⟩ := hn1
        cases Option.some.inj (h1.symm.trans hcl)
        cases Option.some.inj (h2.symm.trans hc6)
        exact Or.inr ⟨hz0, _, hcl6, h3⟩)
  obtain ⟨g₀, hfr⟩ := X'.frames_eq
  have hcell9 : ((T.setVm vm').setFrames (.throwing q :: below)).heap[q]? = some ce := by
    show T.heap[q]? = some ce
    rw [hT]; exact hcell
  have hend : Ended ((T.setVm vm').setFrames (.throwing q :: below)) below (.threw q) := State.frames_setFrames _ (State.cur_lt_of_frames hfr)
  refine ⟨(T.setVm vm').setFrames (.throwing q :: below), ?_, .threw q, X'.here.running, hend, Or.inr ⟨q, rfl, E, ce, locs, hx _ hT (X'.ends _).1.alike, hcell9, hv, hcl, (X'.ends _).1, (X'.ends _).2.mono hc hs, hf⟩⟩
  rw [X.pushThrowing_eq]
  exact st
/-- a thing of a world lies in the heap -/
theorem vx_lt {D : va_G} {cl : List vw_C} {ws : va_W} {H1 : Heap} (h : va_P D cl ws H1) {k : Nat} {q : Nat × va_E} (hk : ws[k]? = some q) : q.1 < H1.size := (h k q hk).lt
end VXS
/-! ===== END ===== -/
/-! ===== BEGIN methods with a table of their own: called by a name, returning or throwing ===== -/
section VXH
/-! vx_backW, vx_callVX, vx_callSX, vx_callVW, vx_runVW, vx_runVX, vx_runSX, vx_ofWH follow the same proofs as their sisters above (Free/Laws.lean, Shelf42/LK1.lean); vx_outP calls Shelf42/NT130.lean (outThrough). -/
section
variable {l : Launch} {R : Room} {p : Program} {e : Env} {below : List Frame} {s : State} {sargs : Array Value} {y : MethodName} {len W9 : Nat}
theorem vx_backW {ws : List Cond} {rm : Room} {Pc : Array Value → State → Prop} {Qc : Array Value → State → Outcome → State → Prop} {XC : String → State → State → Prop} {mc ms : Nat} {free : Addr → Prop} {bytes : ByteArray} {maxL : Nat} {ret : Option FieldType} {hh : List (Nat × Nat × Nat × Nat)}
    (hM : vx_Met l y ws rm Pc Qc XC mc ms free) (hblind : FrameBlind Pc) (hrc : rm.cells = mc) (hrs : rm.slots = ms)
    (hframes : rm.frames + 1 ≤ R.frames) (hlocals : W9 + (maxL + 11) + rm.locals ≤ R.locals)
    (hws : ∀ w ∈ ws, ∀ a' U, s.WarmedH U.vm → w.before a' U = true) (hcode : Cond.codeWith y bytes maxL ret hh ∈ ws) (hinit : ∀ a' U, s.WarmedH U.vm → (Cond.initialized y.cls).before a' U = true) :
    vx_Back l R p e below s sargs y len W9 (PreOf R mc ms Pc) (PostOf Qc mc ms free) (vx_Post XC mc ms free) := by
  intro m meth c A g ig mk a X hg hsize hdg hW hn hp
  have h1 : (headSpec ws rm).pre.before a A.U = true := atoms_intro fun w hw => hws w hw _ _ X.warmed
  have h2 : (Cond.codeWith y bytes maxL ret hh).before a A.U = true := hws _ hcode _ _ X.warmed
  have h3 : (Cond.initialized y.cls).before a A.U = true := hinit _ _ X.warmed
  have h4 : A.cells + (headSpec ws rm).room.cells ≤ R.cells := by rw [show (headSpec ws rm).room.cells = mc from hrc]; exact hp.1
  have h5 : A.slots + (headSpec ws rm).room.slots ≤ R.slots := by rw [show (headSpec ws rm).room.slots = ms from hrs]; exact hp.2.1
  have hPc : Pc a (A.U.calling g mk a) := hblind _ _ _ _ hp.2.2
  obtain ⟨U, Ls, c0, s0⟩ := A
  dsimp only [Pt.U, Pt.locs, Pt.cells, Pt.slots] at h1 h2 h3 h4 h5 X hn hPc ⊢
  obtain ⟨m9, methY, cY, hn9, hmY, hcY, -, hlY, -⟩ := Cond.codeWith_spec h2
  cases Option.some.inj (hn9.symm.trans hn)
  obtain ⟨kY, hkY, -⟩ := className_of_methodNamed hn
  have hinitY : kY.init = .initialized := Cond.initialized_spec (findClass_of_methodNamed hn) hkY h3
  have h : At U g.method c below := by rw [hg]; exact X.here
  have hlocals9 : W9 + (maxL + 11) + (headSpec ws rm).room.locals ≤ R.locals := hlocals
  have happ : (headSpec ws rm).appliesLoose y e.platform (U.calling g mk a) = true :=
    Spec.appliesLoose_calling (g := g) h hdg hn hkY hinitY
      (X.room_calling (g := g) (R' := (headSpec ws rm).room) hsize hmY hcY hframes (by rw [hlY]; omega) h4 h5) h1
  obtain ⟨mid, hmid⟩ := h.above
  have hfr : (U.setTop g).frames = (.java g :: mid) ++ below := by rw [State.frames_setTop' g h.top, hmid]; rfl
  obtain ⟨o, s₂, hsteps, -, hend, hq⟩ := Steps.callFree hM p X.admits X.cas X.clock (acts := []) hfr happ hPc trivial
  have hq' : vx_Q Qc XC mc ms free a (U.calling g mk a) o s₂ := hq
  rw [State.frames_setTop' g h.top] at hend
  obtain ⟨g₀, hg0⟩ := Option.isSome_iff_exists.mp h.top
  obtain ⟨r, hr⟩ := State.topJava?_eq_some.mp hg0
  have hr' : (({ U with heap := s₂.heap, slotsUsed := s₂.slotsUsed } : State).setVm s₂.vm).frames = .java g₀ :: r := hr
  rcases hq' with ⟨hqc, L, hfe, hL⟩ | ⟨q, rfl, E, ce, L, hx, hce, hcv, hcl, hW₂, hsm, hL⟩
  · obtain ⟨⟨v, rfl⟩, hW₂, e2, q2, q3, q4, q5, q6⟩ := id hfe
    have e3 : s₂ = ({ (U.calling g mk a).setFrames s₂.frames with heap := s₂.heap, slotsUsed := s₂.slotsUsed } : State).setVm s₂.vm := by
      have : s₂ = ({ s₂ with vm := (U.calling g mk a).vm } : State).setVm s₂.vm := rfl
      rw [e2] at this
      exact this
    obtain ⟨c₂, i₂, len₂, hc₂, hd₂, hf₂⟩ := hend
    have hW' : U.WarmedH s₂.vm := hW₂
    have hcc : c₂ = c := by
      have h1 : s₂.code? g.method = U.code? g.method := by
        rw [State.code?_eq, State.code?_eq, hW'.alike.method?]
      exact Option.some.inj (hc₂.symm.trans (h1.trans h.code))
    subst hcc
    have hlen : len₂ = len := by rw [hdg] at hd₂; cases hd₂; rfl
    subst hlen
    have hs₂ : s₂ = (({ U with heap := s₂.heap, slotsUsed := s₂.slotsUsed } : State).setVm s₂.vm).setTop { g with pc := g.pc + len₂, stack := v.toList ++ g.stack } := by
      refine e3.trans ?_
      rw [hf₂, State.calling_eq h.top, State.setFrames_setFrames, State.setTop_of_frames _ hr', hr]
      rfl
    have hsame : U.sameButNew ({ U with heap := s₂.heap, slotsUsed := s₂.slotsUsed } : State) L mc ms := by
      refine ⟨?_, q2, q3, q4, q5, q6⟩
      obtain ⟨t, ht, -⟩ := State.frames_cons hr
      show ({ U with heap := s₂.heap, slotsUsed := s₂.slotsUsed } : State) = { U.setFrames U.frames with heap := s₂.heap, slotsUsed := s₂.slotsUsed }
      rw [State.setFrames_self ht]
    subst hg
    refine Or.inl ⟨v, ⟨(({ U with heap := s₂.heap, slotsUsed := s₂.slotsUsed } : State).setVm s₂.vm), Ls ++ L, c0 + mc, s0 + ms⟩,
      ⟨X.admits, X.cas, X.clock, X.frames, X.room, X.hears, X.method, X.code, (X.here.setHeapUsed s₂.heap s₂.slotsUsed).setVm hW'.alike, X.tail, State.WarmedH.trans X.warmed hW', X.limits, X.bytes, X.same.trans (hsame.setVm s.vm)⟩,
      ⟨g, mk, s₂, L, rfl, rfl, hqc, rfl, hL, rfl, rfl⟩, ?_⟩
    show Steps p.tables e below _ ((({ U with heap := s₂.heap, slotsUsed := s₂.slotsUsed } : State).setVm s₂.vm).setTop { g with pc := g.pc + len₂, stack := v.toList ++ g.stack })
    rw [← hs₂]
    exact hsteps
  · obtain ⟨e2, q2, q3, q4, q5, q6⟩ := id hsm
    have e3 : s₂ = ({ (U.calling g mk a).setFrames s₂.frames with heap := s₂.heap, slotsUsed := s₂.slotsUsed } : State).setVm s₂.vm := by
      have : s₂ = ({ s₂ with vm := (U.calling g mk a).vm } : State).setVm s₂.vm := rfl
      rw [e2] at this
      exact this
    have hf₂ : s₂.frames = .throwing q :: .java g :: U.frames.tail := hend
    have hW' : U.WarmedH s₂.vm := hW₂
    have hs₂ : s₂ = ((({ U with heap := s₂.heap, slotsUsed := s₂.slotsUsed } : State).setVm s₂.vm).setTop g).pushFrame (.throwing q) := by
      refine e3.trans ?_
      rw [hf₂, State.calling_eq h.top, State.setFrames_setFrames, State.pushFrame, State.frames_setTop _ hr', State.setTop_of_frames _ hr', State.setFrames_setFrames, hr]
      rfl
    have hsame : U.sameButNew ({ U with heap := s₂.heap, slotsUsed := s₂.slotsUsed } : State) L mc ms := by
      refine ⟨?_, q2, q3, q4, q5, q6⟩
      obtain ⟨t, ht, -⟩ := State.frames_cons hr
      show ({ U with heap := s₂.heap, slotsUsed := s₂.slotsUsed } : State) = { U.setFrames U.frames with heap := s₂.heap, slotsUsed := s₂.slotsUsed }
      rw [State.setFrames_self ht]
    subst hg
    refine Or.inr ⟨q, ⟨(({ U with heap := s₂.heap, slotsUsed := s₂.slotsUsed } : State).setVm s₂.vm), Ls ++ L, c0 + mc, s0 + ms⟩,
      ⟨X.admits, X.cas, X.clock, X.frames, X.room, X.hears, X.method, X.code, (X.here.setHeapUsed s₂.heap s₂.slotsUsed).setVm hW'.alike, X.tail, State.WarmedH.trans X.warmed hW', X.limits, X.bytes, X.same.trans (hsame.setVm s.vm)⟩,
      ⟨g, mk, s₂, L, E, ce, rfl, rfl, hx, hce, hcv, hcl, rfl, hL, rfl, rfl⟩, ?_⟩
    show Steps p.tables e below _ (((({ U with heap := s₂.heap, slotsUsed := s₂.slotsUsed } : State).setVm s₂.vm).setTop g).pushFrame (.throwing q))
    rw [← hs₂]
    exact hsteps
end
variable {p : Program} {l : Launch} {e : Env} {R : Room} {s : State} {m : MethodId} {args : Array Value} {below : List Frame} {meth : Method} {c : Code} {T : State} {H : Heap} {locs : List Loc} {cells slots : Nat}
theorem vx_callVX (X : Stand p l e R s m args below meth c T locs cells slots) (hexec : p.tables.exec = Jvm.exec) {own C : String} {index : Nat} {y : MethodName} {bytes : ByteArray} {maxL : Nat} {ret : Option FieldType} {hh : List (Nat × Nat × Nat × Nat)}
    (hown : s.vm.findClass own = some m.cls) (hlink : (Cond.methodLink own index y).before args s = true) (hinst : (Cond.instanceMethod y).before args s = true) (hsel : (Cond.selects C y y).before args s = true)
    (hcode : (Cond.codeWith y bytes maxL ret hh).before args s = true) (hy : y.cls ≠ "java/lang/invoke/MethodHandle" ∧ y.cls ≠ "java/lang/invoke/VarHandle")
    {W9 : Nat} {Pre : Pt → Array Value → Prop} {Post : Pt → Array Value → Option Value → Pt → Prop} {PostX : Pt → Array Value → Addr → Pt → Prop} (hK : vx_Back l R p e below s args y 3 W9 Pre Post PostX)
    {b : Addr} {cellB : Cell} (hcell : T.heap[b]? = some cellB) (hobj : cellB.vm.isStatics = false) (hcls : s.vm.findClass C = some cellB.cls)
    {g : JFrame} (hg : g.method = m) (hsize : g.locals.size = c.maxLocals) {argsL rest : List Value} (hlen : ∀ sig, parseMethodDescriptor y.desc = some sig → argsL.length = sig.parameters.length)
    (hstack : g.stack = argsL.reverse ++ .ref b :: rest) (hW : 2 * g.monitorRoom + (rest.map fun v => v.category).sum ≤ W9) (hdg : decode c.code g.pc = .ok (.invokevirtual index, 3))
    (hpre : ∀ vm₁, s.WarmedH vm₁ → Pre ⟨T.setVm vm₁, locs, cells, slots⟩ (Value.ref b :: argsL).toArray) :
    (∃ (v : Option Value) (vm₁ : Vm) (B : Pt), s.WarmedH vm₁ ∧ Stand p l e R s m args below meth c B.U B.locs B.cells B.slots ∧ Post ⟨T.setVm vm₁, locs, cells, slots⟩ (Value.ref b :: argsL).toArray v B ∧
      ∀ target, Steps p.tables e below (B.U.setTop { g with pc := g.pc + 3, stack := v.toList ++ rest }) target → Steps p.tables e below (T.setTop g) target) ∨
    (∃ (q : Addr) (vm₁ : Vm) (B : Pt), s.WarmedH vm₁ ∧ Stand p l e R s m args below meth c B.U B.locs B.cells B.slots ∧ PostX ⟨T.setVm vm₁, locs, cells, slots⟩ (Value.ref b :: argsL).toArray q B ∧
      Steps p.tables e below (T.setTop g) ((B.U.setTop { g with stack := rest }).pushFrame (.throwing q))) := by
  obtain ⟨mk, methM, hnamed, hmethM, hstM, habM⟩ := Cond.instanceMethod_spec hinst
  obtain ⟨m8, methM', cM, hn8, hmethM', -, -, -, -, -, -, hsigM⟩ := Cond.codeWith_spec hcode
  cases Option.some.inj (hn8.symm.trans hnamed)
  cases hmethM.symm.trans hmethM'
  obtain ⟨c2, r2, m2, q1, q2, q3, q4, kP, hkP, hkPi⟩ := Cond.selects_spec hsel
  cases hcls.symm.trans q1
  cases (State.methodFound?_of_named hnamed hy).symm.trans q2
  cases hnamed.symm.trans q3
  have hselP : selectMethod e.platform s.vm cellB.cls mk = .method mk := by rw [Launch.admits_selectMethod X.admits]; exact q4
  obtain ⟨vm₁, X₁, hstep₁⟩ := X.invokevirtual hexec hown hlink hnamed hmethM hstM hkP hkPi hy (a := b) (cell := cellB) hcell
    (fun z h => by rw [h] at hobj; cases hobj) hselP hmethM habM hkP hkPi (g := g) hg (argsL := argsL) (rest := rest) (hlen _ hsigM) hstack hdg
  rcases hK m meth c ⟨T.setVm vm₁, locs, cells, slots⟩ { g with stack := rest } (.invokevirtual index) mk (Value.ref b :: argsL).toArray X₁ hg hsize hdg hW (X₁.named hnamed) (hpre vm₁ X₁.warmed) with ⟨v, B, X', hpost, hsteps⟩ | ⟨q, B, X', hpost, hsteps⟩
  · exact Or.inl ⟨v, vm₁, B, X₁.warmed, X', hpost, fun target h => hstep₁ _ fun acts => by rw [doInvoke_state]; exact hsteps.trans h⟩
  · exact Or.inr ⟨q, vm₁, B, X₁.warmed, X', hpost, hstep₁ _ fun acts => by rw [doInvoke_state]; exact hsteps⟩
theorem vx_callSX (X : Stand p l e R s m args below meth c T locs cells slots) (hexec : p.tables.exec = Jvm.exec) {own : String} {index : Nat} {y : MethodName} {bytes : ByteArray} {maxL : Nat} {ret : Option FieldType} {hh : List (Nat × Nat × Nat × Nat)}
    (hown : s.vm.findClass own = some m.cls) (hlink : (Cond.methodLink own index y).before args s = true) (hstat : (Cond.static y).before args s = true) (hinit : (Cond.initialized y.cls).before args s = true)
    (hcode : (Cond.codeWith y bytes maxL ret hh).before args s = true) (hy : y.cls ≠ "java/lang/invoke/MethodHandle" ∧ y.cls ≠ "java/lang/invoke/VarHandle")
    {W9 : Nat} {Pre : Pt → Array Value → Prop} {Post : Pt → Array Value → Option Value → Pt → Prop} {PostX : Pt → Array Value → Addr → Pt → Prop} (hK : vx_Back l R p e below s args y 3 W9 Pre Post PostX)
    {g : JFrame} (hg : g.method = m) (hsize : g.locals.size = c.maxLocals) {argsL rest : List Value} (hlen : ∀ sig, parseMethodDescriptor y.desc = some sig → argsL.length = sig.parameters.length)
    (hstack : g.stack = argsL.reverse ++ rest) (hW : 2 * g.monitorRoom + (rest.map fun v => v.category).sum ≤ W9) (hdg : decode c.code g.pc = .ok (.invokestatic index, 3))
    (hpre : ∀ vm₁, s.WarmedH vm₁ → Pre ⟨T.setVm vm₁, locs, cells, slots⟩ argsL.toArray) :
    (∃ (v : Option Value) (vm₁ : Vm) (B : Pt), s.WarmedH vm₁ ∧ Stand p l e R s m args below meth c B.U B.locs B.cells B.slots ∧ Post ⟨T.setVm vm₁, locs, cells, slots⟩ argsL.toArray v B ∧
      ∀ target, Steps p.tables e below (B.U.setTop { g with pc := g.pc + 3, stack := v.toList ++ rest }) target → Steps p.tables e below (T.setTop g) target) ∨
    (∃ (q : Addr) (vm₁ : Vm) (B : Pt), s.WarmedH vm₁ ∧ Stand p l e R s m args below meth c B.U B.locs B.cells B.slots ∧ PostX ⟨T.setVm vm₁, locs, cells, slots⟩ argsL.toArray q B ∧
      Steps p.tables e below (T.setTop g) ((B.U.setTop { g with stack := rest }).pushFrame (.throwing q))) := by
  obtain ⟨mk, methM, cM, hnamed, hmethM, -, -, -, -, -, -, hsigM⟩ := Cond.codeWith_spec hcode
  have hstatic : methM.isStatic = true := Cond.static_spec hnamed hmethM hstat
  obtain ⟨kP, hkP, -⟩ := className_of_methodNamed hnamed
  have hinitP : kP.init = .initialized := Cond.initialized_spec (findClass_of_methodNamed hnamed) hkP hinit
  obtain ⟨vm₁, X₁, hstep₁⟩ := X.invokestatic hexec hown hlink hnamed hmethM hstatic hkP hinitP hy (g := g) hg (argsL := argsL) (rest := rest) (hlen _ hsigM) hstack hdg
  rcases hK m meth c ⟨T.setVm vm₁, locs, cells, slots⟩ { g with stack := rest } (.invokestatic index) mk argsL.toArray X₁ hg hsize hdg hW (X₁.named hnamed) (hpre vm₁ X₁.warmed) with ⟨v, B, X', hpost, hsteps⟩ | ⟨q, B, X', hpost, hsteps⟩
  · exact Or.inl ⟨v, vm₁, B, X₁.warmed, X', hpost, fun target h => hstep₁ _ fun acts => by rw [doInvoke_state]; exact hsteps.trans h⟩
  · exact Or.inr ⟨q, vm₁, B, X₁.warmed, X', hpost, hstep₁ _ fun acts => by rw [doInvoke_state]; exact hsteps⟩
theorem vx_callVW (X : Stand p l e R s m args below meth c T locs cells slots) (hexec : p.tables.exec = Jvm.exec) {own C : String} {index : Nat} {y : MethodName} {bytes : ByteArray} {maxL : Nat} {ret : Option FieldType} {hh : List (Nat × Nat × Nat × Nat)}
    (hown : s.vm.findClass own = some m.cls) (hlink : (Cond.methodLink own index y).before args s = true) (hinst : (Cond.instanceMethod y).before args s = true) (hsel : (Cond.selects C y y).before args s = true)
    (hcode : (Cond.codeWith y bytes maxL ret hh).before args s = true) (hy : y.cls ≠ "java/lang/invoke/MethodHandle" ∧ y.cls ≠ "java/lang/invoke/VarHandle")
    {W9 : Nat} {Pre : Pt → Array Value → Prop} {Post : Pt → Array Value → Option Value → Pt → Prop} (hK : Back l R p e below s args y 3 W9 Pre Post)
    {b : Addr} {cellB : Cell} (hcell : T.heap[b]? = some cellB) (hobj : cellB.vm.isStatics = false) (hcls : s.vm.findClass C = some cellB.cls)
    {g : JFrame} (hg : g.method = m) (hsize : g.locals.size = c.maxLocals) {argsL rest : List Value} (hlen : ∀ sig, parseMethodDescriptor y.desc = some sig → argsL.length = sig.parameters.length)
    (hstack : g.stack = argsL.reverse ++ .ref b :: rest) (hW : 2 * g.monitorRoom + (rest.map fun v => v.category).sum ≤ W9) (hdg : decode c.code g.pc = .ok (.invokevirtual index, 3))
    (hpre : ∀ vm₁, s.WarmedH vm₁ → Pre ⟨T.setVm vm₁, locs, cells, slots⟩ (Value.ref b :: argsL).toArray) :
    ∃ (v : Option Value) (vm₁ : Vm) (B : Pt), s.WarmedH vm₁ ∧ Stand p l e R s m args below meth c B.U B.locs B.cells B.slots ∧ Post ⟨T.setVm vm₁, locs, cells, slots⟩ (Value.ref b :: argsL).toArray v B ∧
      ∀ target, Steps p.tables e below (B.U.setTop { g with pc := g.pc + 3, stack := v.toList ++ rest }) target → Steps p.tables e below (T.setTop g) target := by
  obtain ⟨mk, methM, hnamed, hmethM, hstM, habM⟩ := Cond.instanceMethod_spec hinst
  obtain ⟨m8, methM', cM, hn8, hmethM', -, -, -, -, -, -, hsigM⟩ := Cond.codeWith_spec hcode
  cases Option.some.inj (hn8.symm.trans hnamed)
  cases hmethM.symm.trans hmethM'
  obtain ⟨c2, r2, m2, q1, q2, q3, q4, kP, hkP, hkPi⟩ := Cond.selects_spec hsel
  cases hcls.symm.trans q1
  cases (State.methodFound?_of_named hnamed hy).symm.trans q2
  cases hnamed.symm.trans q3
  have hselP : selectMethod e.platform s.vm cellB.cls mk = .method mk := by rw [Launch.admits_selectMethod X.admits]; exact q4
  obtain ⟨vm₁, X₁, hstep₁⟩ := X.invokevirtual hexec hown hlink hnamed hmethM hstM hkP hkPi hy (a := b) (cell := cellB) hcell
    (fun z h => by rw [h] at hobj; cases hobj) hselP hmethM habM hkP hkPi (g := g) hg (argsL := argsL) (rest := rest) (hlen _ hsigM) hstack hdg
  obtain ⟨v, B, X', hpost, hsteps⟩ := hK m meth c ⟨T.setVm vm₁, locs, cells, slots⟩ { g with stack := rest } (.invokevirtual index) mk (Value.ref b :: argsL).toArray X₁ hg hsize hdg hW (X₁.named hnamed) (hpre vm₁ X₁.warmed)
  exact ⟨v, vm₁, B, X₁.warmed, X', hpost, fun target h => hstep₁ _ fun acts => by rw [doInvoke_state]; exact hsteps.trans h⟩
abbrev vx_CVW (R : Room) (s : State) (args : Array Value) (own C : String) (index : Nat) (y : MethodName) (bytes : ByteArray) (maxL : Nat) (ret : Option FieldType) (hh : List (Nat × Nat × Nat × Nat)) (ws : List Cond) (rm : Room) (mc ms n : Nat) : Prop :=
  (rm.cells = mc ∧ rm.slots = ms ∧ rm.frames + 1 ≤ R.frames ∧ 8 + (maxL + 11) + rm.locals ≤ R.locals ∧ (∀ w ∈ ws, ∀ (a' : Array Value) (U : State), s.WarmedH U.vm → w.before a' U = true) ∧ Cond.codeWith y bytes maxL ret hh ∈ ws) ∧
  (Cond.codeWith y bytes maxL ret hh).before args s = true ∧ (Cond.initialized y.cls).before args s = true ∧ (y.cls ≠ "java/lang/invoke/MethodHandle" ∧ y.cls ≠ "java/lang/invoke/VarHandle") ∧
  (∀ sig, parseMethodDescriptor y.desc = some sig → n = sig.parameters.length) ∧ (Cond.methodLink own index y).before args s = true ∧ (Cond.instanceMethod y).before args s = true ∧ (Cond.selects C y y).before args s = true
theorem vx_cwVW {own C : String} {index maxL mc ms : Nat} {y : MethodName} {bytes : ByteArray} {ret : Option FieldType} {hh : List (Nat × Nat × Nat × Nat)} {Ts ws ws' : List Cond} {rm : Room} (n : Nat) (ht : ∀ w ∈ Ts, w.before args s = true) (hT : GoodIn Ts (wsV own index C y ws)) (hw : ws = Cond.codeWith y bytes maxL ret hh :: ws') (hrc : rm.cells = mc) (hrs : rm.slots = ms)
    (hd : y.cls = C ∧ y.cls ≠ "java/lang/invoke/MethodHandle" ∧ y.cls ≠ "java/lang/invoke/VarHandle" ∧ (parseMethodDescriptor y.desc).map (fun d => d.parameters.length) = some n) (hR : rm.frames + 1 ≤ R.frames ∧ 8 + (maxL + 11) + rm.locals ≤ R.locals) :
    vx_CVW R s args own C index y bytes maxL ret hh ws rm mc ms n := by
  obtain ⟨hC, hd⟩ := hd
  subst hC
  have ok : ∀ w ∈ wsV own index y.cls y ws, w.before args s = true := fun w h => ht w (hT w h).1
  have hG : GoodIn Ts ws := fun w h => hT w (by unfold wsV; exact List.mem_append_right _ h)
  have hc : Cond.codeWith y bytes maxL ret hh ∈ ws := by rw [hw]; exact List.mem_cons_self
  refine ⟨⟨hrc, hrs, hR.1, hR.2, pay_in ht hG, hc⟩, ht _ (hG _ hc).1, ok _ (by simp [wsV]), ⟨hd.1, hd.2.1⟩, fun sig h => ?_, ok _ (by simp [wsV]), ok _ (by simp [wsV]), ok _ (by simp [wsV])⟩
  have h2 := hd.2.2
  rw [h] at h2
  exact (Option.some.inj h2).symm
theorem vx_runVW {y : MethodName} {bytes cc : ByteArray} {maxL nL mc ms n index : Nat} {ret : Option FieldType} {hh : List (Nat × Nat × Nat × Nat)} {ws : List Cond} {rm : Room} {Pc : Array Value → State → Prop} {Qc : Array Value → State → Outcome → State → Prop} {free : Addr → Prop} {Ts : List Cond} {own C : String} {b : Addr} {As rest : List Value} {g : JFrame}
    (S : CallFix p m c cc nL s args Ts own) (hM : Met l y ws rm Pc Qc mc ms free) (cw : vx_CVW R s args own C index y bytes maxL ret hh ws rm mc ms n) (hp : PreV s H C b Pc As)
    (hg : g.method = m) (hn : As.length = n) (hsize : g.locals.size = nL) (hstack : g.stack = As.reverse ++ .ref b :: rest) (hW : 2 * g.monitorRoom + (rest.map fun v => v.category).sum ≤ 8) (hdg : decode cc g.pc = .ok (.invokevirtual index, 3)) (hf : cells + mc ≤ R.cells ∧ slots + ms ≤ R.slots) :
    va_Run p l e R s m args below meth c H locs cells slots mc ms g rest (Qc (Value.ref b :: As).toArray) free := by
  obtain ⟨⟨hrc, hrs, hfr, hlo, hws, hcw⟩, hcode, hini, hy, hlen, hl, hin, hse⟩ := cw
  have hK : Back l R p e below s args y 3 8 (PreOf R mc ms Pc) (PostOf Qc mc ms free) := va_backW (hh := hh) (bytes := bytes) (maxL := maxL) (ret := ret) hM hp.1 hrc hrs hfr hlo hws hcw (fun a' U hW => word_at hW (Or.inl (by first | rfl | simp [Cond.onTables, Cond.keeps, Cond.steady])) hini)
  obtain ⟨hx, hb, hml, ho, -⟩ := S
  obtain ⟨-, ⟨cellB, hcB, hoB, hclB⟩, hPc⟩ := hp
  intro T hT X
  obtain ⟨v, vm₁, ⟨U', l2, c2, s2⟩, hW₁, X', ⟨g', mk, t, L, e1, e2, hq, h1, hL, h2, h3⟩, st⟩ := vx_callVW X hx (C := C) (hh := hh) (bytes := bytes) (maxL := maxL) (ret := ret) ho hl hin hse hcode hy hK (by rw [hT]; exact hcB) hoB hclB hg (hsize.trans hml.symm) (argsL := As) (rest := rest) (fun sig h => hn.trans (hlen sig h)) hstack hW (by rw [hb]; exact hdg)
    (fun vm₁ hW₁ => ⟨hf.1, hf.2, hPc (T.setVm vm₁) hT hW₁⟩)
  dsimp only [Pt.U, Pt.locs, Pt.cells, Pt.slots] at X' e1 e2 h1 h2 h3 st
  subst h1; subst h2; subst h3
  exact ⟨v, (T.setVm vm₁).calling g' mk (Value.ref b :: As).toArray, t, U', L, hT, X', hL, e1, e2, hq, st⟩
section
variable {y : MethodName} {bytes cc : ByteArray} {maxL nL mc ms n index : Nat} {ret : Option FieldType} {ws : List Cond} {rm : Room} {Pc : Array Value → State → Prop} {Qc : Array Value → State → Outcome → State → Prop} {XC : String → State → State → Prop} {free : Addr → Prop} {Ts : List Cond} {own C : String} {b : Addr} {As rest : List Value} {g : JFrame}
theorem vx_runVX {hh : List (Nat × Nat × Nat × Nat)} (S : CallFix p m c cc nL s args Ts own) (hM : vx_Met l y ws rm Pc Qc XC mc ms free) (cw : vx_CVW R s args own C index y bytes maxL ret hh ws rm mc ms n) (hp : PreV s H C b Pc As)
    (hg : g.method = m) (hn : As.length = n) (hsize : g.locals.size = nL) (hstack : g.stack = As.reverse ++ .ref b :: rest) (hW : 2 * g.monitorRoom + (rest.map fun v => v.category).sum ≤ 8) (hdg : decode cc g.pc = .ok (.invokevirtual index, 3)) (hf : cells + mc ≤ R.cells ∧ slots + ms ≤ R.slots) :
    vx_Run p l e R s m args below meth c H locs cells slots mc ms g rest (Qc (Value.ref b :: As).toArray) XC free := by
  obtain ⟨⟨hrc, hrs, hfr, hlo, hws, hcw⟩, hcode, hini, hy, hlen, hl, hin, hse⟩ := cw
  have hK : vx_Back l R p e below s args y 3 8 (PreOf R mc ms Pc) (PostOf Qc mc ms free) (vx_Post XC mc ms free) := vx_backW (hh := hh) (bytes := bytes) (maxL := maxL) (ret := ret) hM hp.1 hrc hrs hfr hlo hws hcw (fun a' U hW => word_at hW (Or.inl (by first | rfl | simp [Cond.onTables, Cond.keeps, Cond.steady])) hini)
  obtain ⟨hx, hb, hml, ho, -⟩ := S
  obtain ⟨-, ⟨cellB, hcB, hoB, hclB⟩, hPc⟩ := hp
  intro T hT X
  rcases vx_callVX X hx (C := C) (hh := hh) (bytes := bytes) (maxL := maxL) (ret := ret) ho hl hin hse hcode hy hK (by rw [hT]; exact hcB) hoB hclB hg (hsize.trans hml.symm) (argsL := As) (rest := rest) (fun sig h => hn.trans (hlen sig h)) hstack hW (by rw [hb]; exact hdg)
    (fun vm₁ hW₁ => ⟨hf.1, hf.2, hPc (T.setVm vm₁) hT hW₁⟩) with ⟨v, vm₁, ⟨U', l2, c2, s2⟩, hW₁, X', ⟨g', mk, t, L, e1, e2, hq, h1, hL, h2, h3⟩, st⟩ | ⟨q, vm₁, ⟨U', l2, c2, s2⟩, hW₁, X', ⟨g', mk, t, L, E, ce, e1, e2, hq, hce, hcv, hcl, h1, hL, h2, h3⟩, st⟩
  · dsimp only [Pt.U, Pt.locs, Pt.cells, Pt.slots] at X' e1 e2 h1 h2 h3 st
    subst h1; subst h2; subst h3
    exact Or.inl ⟨v, (T.setVm vm₁).calling g' mk (Value.ref b :: As).toArray, t, U', L, hT, X', hL, e1, e2, hq, st⟩
  · dsimp only [Pt.U, Pt.locs, Pt.cells, Pt.slots] at X' e1 e2 h1 h2 h3 st hcl
    subst h1; subst h2; subst h3
    exact Or.inr ⟨q, (T.setVm vm₁).calling g' mk (Value.ref b :: As).toArray, t, U', L, E, ce, hT, X', hL, e1, e2, hq, hce, hcv, vx_cls hW₁ hcl, st⟩
theorem vx_runSX {hh : List (Nat × Nat × Nat × Nat)} (S : CallFix p m c cc nL s args Ts own) (hM : vx_Met l y ws rm Pc Qc XC mc ms free) (cw : vx_CSW R s args own index y bytes maxL ret hh ws rm mc ms n) (hp : PreS s H Pc As)
    (hg : g.method = m) (hn : As.length = n) (hsize : g.locals.size = nL) (hstack : g.stack = As.reverse ++ rest) (hW : 2 * g.monitorRoom + (rest.map fun v => v.category).sum ≤ 8) (hdg : decode cc g.pc = .ok (.invokestatic index, 3)) (hf : cells + mc ≤ R.cells ∧ slots + ms ≤ R.slots) :
    vx_Run p l e R s m args below meth c H locs cells slots mc ms g rest (Qc As.toArray) XC free := by
  obtain ⟨⟨hrc, hrs, hfr, hlo, hws, hcw⟩, hcode, hini, hy, hlen, hl, hstt⟩ := cw
  have hK : vx_Back l R p e below s args y 3 8 (PreOf R mc ms Pc) (PostOf Qc mc ms free) (vx_Post XC mc ms free) := vx_backW (hh := hh) (bytes := bytes) (maxL := maxL) (ret := ret) hM hp.1 hrc hrs hfr hlo hws hcw (fun a' U hW => word_at hW (Or.inl (by first | rfl | simp [Cond.onTables, Cond.keeps, Cond.steady])) hini)
  obtain ⟨hx, hb, hml, ho, -⟩ := S
  intro T hT X
  rcases vx_callSX X hx (hh := hh) (bytes := bytes) (maxL := maxL) (ret := ret) ho hl hstt hini hcode hy hK hg (hsize.trans hml.symm) (argsL := As) (rest := rest) (fun sig h => hn.trans (hlen sig h)) hstack hW (by rw [hb]; exact hdg)
    (fun vm₁ hW₁ => ⟨hf.1, hf.2, hp.2 (T.setVm vm₁) hT hW₁⟩) with ⟨v, vm₁, ⟨U', l2, c2, s2⟩, hW₁, X', ⟨g', mk, t, L, e1, e2, hq, h1, hL, h2, h3⟩, st⟩ | ⟨q, vm₁, ⟨U', l2, c2, s2⟩, hW₁, X', ⟨g', mk, t, L, E, ce, e1, e2, hq, hce, hcv, hcl, h1, hL, h2, h3⟩, st⟩
  · dsimp only [Pt.U, Pt.locs, Pt.cells, Pt.slots] at X' e1 e2 h1 h2 h3 st
    subst h1; subst h2; subst h3
    exact Or.inl ⟨v, (T.setVm vm₁).calling g' mk As.toArray, t, U', L, hT, X', hL, e1, e2, hq, st⟩
  · dsimp only [Pt.U, Pt.locs, Pt.cells, Pt.slots] at X' e1 e2 h1 h2 h3 st hcl
    subst h1; subst h2; subst h3
    exact Or.inr ⟨q, (T.setVm vm₁).calling g' mk As.toArray, t, U', L, E, ce, hT, X', hL, e1, e2, hq, hce, hcv, vx_cls hW₁ hcl, st⟩
end
end VXH
theorem vx_ofWH {l : Launch} {y : MethodName} {ws ws' : List Cond} {rm : Room} {Pc : Array Value → State → Prop} {Qc : Array Value → State → Outcome → State → Prop} {XC : String → State → State → Prop} {mc ms : Nat} {free : Addr → Prop} {cc : ByteArray} {maxL : Nat} {ret : Option FieldType} {hh : List (Nat × Nat × Nat × Nat)}
    (hy : plainName y.cls = true) (hw : ws = Cond.codeWith y cc maxL ret hh :: ws')
    (body : ∀ p e s m args below meth c s₁, BodyLoose p l y (headSpec ws rm) cc maxL ret e s m args below meth c s₁ → c.maxLocals = maxL → Pc args s →
      W p l e (headSpec ws rm).room s m args below meth c s.heap [] 0 0 (vx_MQ below Qc XC args s mc ms free) (entryFrame m args maxL)) : vx_Met l y ws rm Pc Qc XC mc ms free := by
  refine MetFree.of_bodyS (code := cc) (maxLocals := maxL) (ret := ret) hy ?_ ?_
  · intro args s m h hn
    obtain ⟨m9, meth, c, hn9, h1, h2, h3, h4, -, h5, h6, -⟩ := Cond.codeWith_spec (atoms_spec (ws := ws) h _ (by rw [hw]; exact List.mem_cons_self))
    cases hn.symm.trans hn9
    exact ⟨meth, c, h1, h2, h3, h4, h5, h6⟩
  · intro p e s m args below meth c s₁ B hml hP _
    have hh0 : s₁.heap = s.heap := by rw [B.state]; rfl
    obtain ⟨t, a1, o, b1, b2, b3⟩ := body p e s m args below meth c s₁ B hml hP s₁ hh0 (Stand.of_body B)
    exact ⟨t, o, a1, b1, b2, b3⟩
/-! ===== END ===== -/
end
section
/-! ===== BEGIN printed: names, fields, word lists, decode rows ===== -/
def RX0 : String := "AbjadPoems"
def TX0 : u_T := fun k => match k with
  | 0 => ("AbjadPoems", "order", "I", false)
  | 1 => ("AbjadPoems", "lines", "I", false)
  | 2 => ("AbjadPoems", "sizes", "[I", true)
  | 3 => ("AbjadPoems", "words", "[[I", true)
  | 4 => ("AbjadPoems", "marks", "[[I", true)
  | 5 => ("AbjadPoems", "worths", "[I", true)
  | 6 => ("AbjadPoems", "fewest", "[[I", true)
  | _ => ("AbjadPoems", "filled", "[Z", true)
def tyX0 : Nat → FieldType := fun k => match k with
  | 0 => .int
  | 1 => .int
  | 2 => .array .int
  | 3 => .array (.array .int)
  | 4 => .array (.array .int)
  | 5 => .array .int
  | 6 => .array (.array .int)
  | _ => .array .boolean
abbrev wsX00 : List Cond := u_ws RX0 TX0 8
theorem nmX0 : ∀ a, a < 8 → ∀ b, b < 8 → a ≠ b → (TX0 a).2.1 ≠ (TX0 b).2.1 := by decide +kernel
theorem tyX0_ok : ∀ k, k < 8 → parseFieldDescriptor (TX0 k).2.2.1 = some (tyX0 k) := by decide +kernel
abbrev cX0_init : ByteArray := prog_1_method_1_code
def yX0_init : MethodName := ⟨RX0, "<init>", "()V"⟩
abbrev cX0_count : ByteArray := prog_1_method_2_code
def yX0_count : MethodName := ⟨RX0, "count", "(I)I"⟩
abbrev cX0_letter : ByteArray := prog_1_method_3_code
def yX0_letter : MethodName := ⟨RX0, "letter", "(I)I"⟩
abbrev cX0_value : ByteArray := prog_1_method_4_code
def yX0_value : MethodName := ⟨RX0, "value", "(I)I"⟩
abbrev cX0_alike : ByteArray := prog_1_method_5_code
def yX0_alike : MethodName := ⟨RX0, "alike", "(II)Z"⟩
abbrev cX0_write : ByteArray := prog_1_method_6_code
def yX0_write : MethodName := ⟨RX0, "write", "()I"⟩
abbrev cX0_add : ByteArray := prog_1_method_7_code
def yX0_add : MethodName := ⟨RX0, "add", "(II)I"⟩
abbrev cX0_cut : ByteArray := prog_1_method_8_code
def yX0_cut : MethodName := ⟨RX0, "cut", "(I)I"⟩
abbrev cX0_mark : ByteArray := prog_1_method_9_code
def yX0_mark : MethodName := ⟨RX0, "mark", "(III)Z"⟩
abbrev cX0_word : ByteArray := prog_1_method_10_code
def yX0_word : MethodName := ⟨RX0, "word", "(III)I"⟩
abbrev cX0_line : ByteArray := prog_1_method_11_code
def yX0_line : MethodName := ⟨RX0, "line", "(II)I"⟩
abbrev cX0_told : ByteArray := prog_1_method_12_code
def yX0_told : MethodName := ⟨RX0, "told", "(I)I"⟩
abbrev cX0_hidden : ByteArray := prog_1_method_13_code
def yX0_hidden : MethodName := ⟨RX0, "hidden", "(II)I"⟩
abbrev cX0_hides : ByteArray := prog_1_method_14_code
def yX0_hides : MethodName := ⟨RX0, "hides", "(I)I"⟩
abbrev cX0_lacks : ByteArray := prog_1_method_15_code
def yX0_lacks : MethodName := ⟨RX0, "lacks", "(II)I"⟩
abbrev cX0_nearest : ByteArray := prog_1_method_16_code
def yX0_nearest : MethodName := ⟨RX0, "nearest", "(I)I"⟩
abbrev cX0_letters : ByteArray := prog_1_method_17_code
def yX0_letters : MethodName := ⟨RX0, "letters", "(I)I"⟩
abbrev cX0_spell : ByteArray := prog_1_method_18_code
def yX0_spell : MethodName := ⟨RX0, "spell", "(II)I"⟩
abbrev cX0_mean : ByteArray := prog_1_method_19_code
def yX0_mean : MethodName := ⟨RX0, "mean", "()D"⟩
abbrev cX0_digest : ByteArray := prog_1_method_20_code
def yX0_digest : MethodName := ⟨RX0, "digest", "()J"⟩
abbrev cX0_checkLine : ByteArray := prog_1_method_21_code
def yX0_checkLine : MethodName := ⟨RX0, "checkLine", "(I)V"⟩
abbrev cX0_checkWordOfLine : ByteArray := prog_1_method_22_code
def yX0_checkWordOfLine : MethodName := ⟨RX0, "checkWordOfLine", "(II)V"⟩
abbrev cX0_checkWhat : ByteArray := prog_1_method_23_code
def yX0_checkWhat : MethodName := ⟨RX0, "checkWhat", "(II)V"⟩
abbrev cX0_checkWord : ByteArray := prog_1_method_24_code
def yX0_checkWord : MethodName := ⟨RX0, "checkWord", "(I)V"⟩
abbrev cX0_checkYear : ByteArray := prog_1_method_25_code
def yX0_checkYear : MethodName := ⟨RX0, "checkYear", "(I)V"⟩
abbrev cX0_worthOfLetter : ByteArray := prog_1_method_26_code
def yX0_worthOfLetter : MethodName := ⟨RX0, "worthOfLetter", "(I)I"⟩
abbrev cX0_isWord : ByteArray := prog_1_method_27_code
def yX0_isWord : MethodName := ⟨RX0, "isWord", "(I)Z"⟩
abbrev cX0_lengthOf : ByteArray := prog_1_method_28_code
def yX0_lengthOf : MethodName := ⟨RX0, "lengthOf", "(I)I"⟩
abbrev cX0_timesIn : ByteArray := prog_1_method_29_code
def yX0_timesIn : MethodName := ⟨RX0, "timesIn", "(II)I"⟩
abbrev cX0_isMarked : ByteArray := prog_1_method_30_code
def yX0_isMarked : MethodName := ⟨RX0, "isMarked", "(II)Z"⟩
abbrev cX0_worthOfPlaces : ByteArray := prog_1_method_31_code
def yX0_worthOfPlaces : MethodName := ⟨RX0, "worthOfPlaces", "(II)I"⟩
abbrev cX0_figureOfWord : ByteArray := prog_1_method_32_code
def yX0_figureOfWord : MethodName := ⟨RX0, "figureOfWord", "(III)I"⟩
abbrev cX0_figureOfLine : ByteArray := prog_1_method_33_code
def yX0_figureOfLine : MethodName := ⟨RX0, "figureOfLine", "(II)I"⟩
abbrev cX0_sumOverLines : ByteArray := prog_1_method_34_code
def yX0_sumOverLines : MethodName := ⟨RX0, "sumOverLines", "(I)I"⟩
abbrev cX0_pairsOfSameWorth : ByteArray := prog_1_method_35_code
def yX0_pairsOfSameWorth : MethodName := ⟨RX0, "pairsOfSameWorth", "()I"⟩
abbrev cX0_timesAmongWorths : ByteArray := prog_1_method_36_code
def yX0_timesAmongWorths : MethodName := ⟨RX0, "timesAmongWorths", "(II)I"⟩
abbrev cX0_digestOfLine : ByteArray := prog_1_method_37_code
def yX0_digestOfLine : MethodName := ⟨RX0, "digestOfLine", "(JI)J"⟩
abbrev cX0_lastOfRun : ByteArray := prog_1_method_38_code
def yX0_lastOfRun : MethodName := ⟨RX0, "lastOfRun", "(III)I"⟩
abbrev cX0_fillFewest : ByteArray := prog_1_method_39_code
def yX0_fillFewest : MethodName := ⟨RX0, "fillFewest", "()V"⟩
abbrev cX0_fewestBySmaller : ByteArray := prog_1_method_40_code
def yX0_fewestBySmaller : MethodName := ⟨RX0, "fewestBySmaller", "(I)I"⟩
abbrev cX0_greatestFirst : ByteArray := prog_1_method_41_code
def yX0_greatestFirst : MethodName := ⟨RX0, "greatestFirst", "(I)I"⟩
def RX1 : String := "AbjadPoemsModel"
def TX1 : u_T := fun k => match k with
  | 0 => ("AbjadPoemsModel", "thrown", "I", false)
  | 1 => ("AbjadPoemsModel", "order", "I", false)
  | 2 => ("AbjadPoemsModel", "lines", "I", false)
  | 3 => ("AbjadPoemsModel", "longs", "[I", true)
  | 4 => ("AbjadPoemsModel", "words", "[I", true)
  | _ => ("AbjadPoemsModel", "marks", "[Z", true)
def tyX1 : Nat → FieldType := fun k => match k with
  | 0 => .int
  | 1 => .int
  | 2 => .int
  | 3 => .array .int
  | 4 => .array .int
  | _ => .array .boolean
abbrev wsX10 : List Cond := u_ws RX1 TX1 6
theorem nmX1 : ∀ a, a < 6 → ∀ b, b < 6 → a ≠ b → (TX1 a).2.1 ≠ (TX1 b).2.1 := by decide +kernel
theorem tyX1_ok : ∀ k, k < 6 → parseFieldDescriptor (TX1 k).2.2.1 = some (tyX1 k) := by decide +kernel
abbrev cX1_init : ByteArray := prog_3_method_1_code
def yX1_init : MethodName := ⟨RX1, "<init>", "()V"⟩
abbrev cX1_thrown : ByteArray := prog_3_method_2_code
def yX1_thrown : MethodName := ⟨RX1, "thrown", "()I"⟩
abbrev cX1_fail : ByteArray := prog_3_method_3_code
def yX1_fail : MethodName := ⟨RX1, "fail", "(I)I"⟩
abbrev cX1_isIn : ByteArray := prog_3_method_4_code
def yX1_isIn : MethodName := ⟨RX1, "isIn", "(III)Z"⟩
abbrev cX1_isLine : ByteArray := prog_3_method_5_code
def yX1_isLine : MethodName := ⟨RX1, "isLine", "(I)Z"⟩
abbrev cX1_count : ByteArray := prog_3_method_6_code
def yX1_count : MethodName := ⟨RX1, "count", "(I)I"⟩
abbrev cX1_valueOf : ByteArray := prog_3_method_7_code
def yX1_valueOf : MethodName := ⟨RX1, "valueOf", "(I)I"⟩
abbrev cX1_letter : ByteArray := prog_3_method_8_code
def yX1_letter : MethodName := ⟨RX1, "letter", "(I)I"⟩
abbrev cX1_size : ByteArray := prog_3_method_9_code
def yX1_size : MethodName := ⟨RX1, "size", "(I)I"⟩
abbrev cX1_isWord : ByteArray := prog_3_method_10_code
def yX1_isWord : MethodName := ⟨RX1, "isWord", "(I)Z"⟩
abbrev cX1_at : ByteArray := prog_3_method_11_code
def yX1_at : MethodName := ⟨RX1, "at", "(II)I"⟩
abbrev cX1_sum : ByteArray := prog_3_method_12_code
def yX1_sum : MethodName := ⟨RX1, "sum", "(I)I"⟩
abbrev cX1_value : ByteArray := prog_3_method_13_code
def yX1_value : MethodName := ⟨RX1, "value", "(I)I"⟩
abbrev cX1_often : ByteArray := prog_3_method_14_code
def yX1_often : MethodName := ⟨RX1, "often", "(II)I"⟩
abbrev cX1_alike : ByteArray := prog_3_method_15_code
def yX1_alike : MethodName := ⟨RX1, "alike", "(II)Z"⟩
abbrev cX1_write : ByteArray := prog_3_method_16_code
def yX1_write : MethodName := ⟨RX1, "write", "()I"⟩
abbrev cX1_wo : ByteArray := prog_3_method_17_code
def yX1_wo : MethodName := ⟨RX1, "wo", "(II)I"⟩
abbrev cX1_base : ByteArray := prog_3_method_18_code
def yX1_base : MethodName := ⟨RX1, "base", "(II)I"⟩
abbrev cX1_add : ByteArray := prog_3_method_19_code
def yX1_add : MethodName := ⟨RX1, "add", "(II)I"⟩
abbrev cX1_cut : ByteArray := prog_3_method_20_code
def yX1_cut : MethodName := ⟨RX1, "cut", "(I)I"⟩
abbrev cX1_isOne : ByteArray := prog_3_method_21_code
def yX1_isOne : MethodName := ⟨RX1, "isOne", "(II)Z"⟩
abbrev cX1_mark : ByteArray := prog_3_method_22_code
def yX1_mark : MethodName := ⟨RX1, "mark", "(III)Z"⟩
abbrev cX1_wordTold : ByteArray := prog_3_method_23_code
def yX1_wordTold : MethodName := ⟨RX1, "wordTold", "(III)I"⟩
abbrev cX1_word : ByteArray := prog_3_method_24_code
def yX1_word : MethodName := ⟨RX1, "word", "(III)I"⟩
abbrev cX1_lineTold : ByteArray := prog_3_method_25_code
def yX1_lineTold : MethodName := ⟨RX1, "lineTold", "(II)I"⟩
abbrev cX1_line : ByteArray := prog_3_method_26_code
def yX1_line : MethodName := ⟨RX1, "line", "(II)I"⟩
abbrev cX1_all : ByteArray := prog_3_method_27_code
def yX1_all : MethodName := ⟨RX1, "all", "(I)I"⟩
abbrev cX1_pairs : ByteArray := prog_3_method_28_code
def yX1_pairs : MethodName := ⟨RX1, "pairs", "()I"⟩
abbrev cX1_toldOf : ByteArray := prog_3_method_29_code
def yX1_toldOf : MethodName := ⟨RX1, "toldOf", "(I)I"⟩
abbrev cX1_told : ByteArray := prog_3_method_30_code
def yX1_told : MethodName := ⟨RX1, "told", "(I)I"⟩
abbrev cX1_runTo : ByteArray := prog_3_method_31_code
def yX1_runTo : MethodName := ⟨RX1, "runTo", "(III)I"⟩
abbrev cX1_hidden : ByteArray := prog_3_method_32_code
def yX1_hidden : MethodName := ⟨RX1, "hidden", "(II)I"⟩
abbrev cX1_hides : ByteArray := prog_3_method_33_code
def yX1_hides : MethodName := ⟨RX1, "hides", "(I)I"⟩
abbrev cX1_lacks : ByteArray := prog_3_method_34_code
def yX1_lacks : MethodName := ⟨RX1, "lacks", "(II)I"⟩
abbrev cX1_nearest : ByteArray := prog_3_method_35_code
def yX1_nearest : MethodName := ⟨RX1, "nearest", "(I)I"⟩
abbrev cX1_fewest : ByteArray := prog_3_method_36_code
def yX1_fewest : MethodName := ⟨RX1, "fewest", "(I)[I"⟩
abbrev cX1_letters : ByteArray := prog_3_method_37_code
def yX1_letters : MethodName := ⟨RX1, "letters", "(I)I"⟩
abbrev cX1_spell : ByteArray := prog_3_method_38_code
def yX1_spell : MethodName := ⟨RX1, "spell", "(II)I"⟩
abbrev cX1_mean : ByteArray := prog_3_method_39_code
def yX1_mean : MethodName := ⟨RX1, "mean", "()D"⟩
abbrev cX1_digest : ByteArray := prog_3_method_40_code
def yX1_digest : MethodName := ⟨RX1, "digest", "()J"⟩
def RJ6 : String := "java/lang/Integer"
def TJ6 : u_T := fun k => match k with
  | _ => ("", "", "", false)
def tyJ6 : Nat → FieldType := fun k => match k with
  | _ => .int
abbrev wsJ60 : List Cond := u_ws RJ6 TJ6 0
theorem nmJ6 : ∀ a, a < 0 → ∀ b, b < 0 → a ≠ b → (TJ6 a).2.1 ≠ (TJ6 b).2.1 := by decide +kernel
theorem tyJ6_ok : ∀ k, k < 0 → parseFieldDescriptor (TJ6 k).2.2.1 = some (tyJ6 k) := by decide +kernel
abbrev cJ6_bitCount_0f7a4 : ByteArray := prog_8_method_49_code
def yJ6_bitCount_0f7a4 : MethodName := ⟨RJ6, "bitCount", "(I)I"⟩
def RJ9 : String := "java/lang/Math"
def TJ9 : u_T := fun k => match k with
  | _ => ("", "", "", false)
def tyJ9 : Nat → FieldType := fun k => match k with
  | _ => .int
abbrev wsJ90 : List Cond := u_ws RJ9 TJ9 0
theorem nmJ9 : ∀ a, a < 0 → ∀ b, b < 0 → a ≠ b → (TJ9 a).2.1 ≠ (TJ9 b).2.1 := by decide +kernel
theorem tyJ9_ok : ∀ k, k < 0 → parseFieldDescriptor (TJ9 k).2.2.1 = some (tyJ9 k) := by decide +kernel
abbrev cJ9_abs_067f4 : ByteArray := prog_9_method_61_code
def yJ9_abs_067f4 : MethodName := ⟨RJ9, "abs", "(J)J"⟩
abbrev cJ9_min_7cf53 : ByteArray := prog_9_method_69_code
def yJ9_min_7cf53 : MethodName := ⟨RJ9, "min", "(II)I"⟩
def RJ0 : String := "java/lang/String"
def TJ0 : u_T := fun k => match k with
  | _ => ("", "", "", false)
def tyJ0 : Nat → FieldType := fun k => match k with
  | _ => .int
abbrev wsJ00 : List Cond := u_ws RJ0 TJ0 0
theorem nmJ0 : ∀ a, a < 0 → ∀ b, b < 0 → a ≠ b → (TJ0 a).2.1 ≠ (TJ0 b).2.1 := by decide +kernel
theorem tyJ0_ok : ∀ k, k < 0 → parseFieldDescriptor (TJ0 k).2.2.1 = some (tyJ0 k) := by decide +kernel
def RL : String := "AbjadPoemsLaw"
abbrev cL_count : ByteArray := method_3_code
def yL_count : MethodName := ⟨RL, "count", "(LAbjadPoems;I[J)I"⟩
abbrev cL_letter : ByteArray := method_4_code
def yL_letter : MethodName := ⟨RL, "letter", "(LAbjadPoems;I[J)I"⟩
abbrev cL_value : ByteArray := method_5_code
def yL_value : MethodName := ⟨RL, "value", "(LAbjadPoems;I[J)I"⟩
abbrev cL_alike : ByteArray := method_6_code
def yL_alike : MethodName := ⟨RL, "alike", "(LAbjadPoems;II[J)I"⟩
abbrev cL_write : ByteArray := method_7_code
def yL_write : MethodName := ⟨RL, "write", "(LAbjadPoems;[J)I"⟩
abbrev cL_add : ByteArray := method_8_code
def yL_add : MethodName := ⟨RL, "add", "(LAbjadPoems;II[J)I"⟩
abbrev cL_cut : ByteArray := method_9_code
def yL_cut : MethodName := ⟨RL, "cut", "(LAbjadPoems;I[J)I"⟩
abbrev cL_mark : ByteArray := method_10_code
def yL_mark : MethodName := ⟨RL, "mark", "(LAbjadPoems;III[J)I"⟩
abbrev cL_word : ByteArray := method_11_code
def yL_word : MethodName := ⟨RL, "word", "(LAbjadPoems;III[J)I"⟩
abbrev cL_line : ByteArray := method_12_code
def yL_line : MethodName := ⟨RL, "line", "(LAbjadPoems;II[J)I"⟩
abbrev cL_told : ByteArray := method_13_code
def yL_told : MethodName := ⟨RL, "told", "(LAbjadPoems;I[J)I"⟩
abbrev cL_hidden : ByteArray := method_14_code
def yL_hidden : MethodName := ⟨RL, "hidden", "(LAbjadPoems;II[J)I"⟩
abbrev cL_lacks : ByteArray := method_15_code
def yL_lacks : MethodName := ⟨RL, "lacks", "(LAbjadPoems;II[J)I"⟩
abbrev cL_letters : ByteArray := method_16_code
def yL_letters : MethodName := ⟨RL, "letters", "(LAbjadPoems;I[J)I"⟩
abbrev cL_spell : ByteArray := method_17_code
def yL_spell : MethodName := ⟨RL, "spell", "(LAbjadPoems;II[J)I"⟩
abbrev cL_law : ByteArray := code
def yL_law : MethodName := ⟨RL, "law", "([I)Z"⟩
def wsX0_init : List Cond := .code yX0_init cX0_init 1 none :: ([.methodLink RX0 1 objectInit, .instanceMethod objectInit, .code objectInit ⟨#[0xb1]⟩ 1 none, .fieldLink RX0 9 "AbjadPoems" "order" "I", .fieldLink RX0 13 "AbjadPoems" "lines" "I", .arrayClass .int, .fieldLink RX0 16 "AbjadPoems" "sizes" "[I", .classLink RX0 20 "[[I", .fieldLink RX0 22 "AbjadPoems" "words" "[[I", .fieldLink RX0 25 "AbjadPoems" "marks" "[[I", .fieldLink RX0 28 "AbjadPoems" "worths" "[I", .fieldLink RX0 31 "AbjadPoems" "fewest" "[[I", .arrayClass .boolean, .fieldLink RX0 34 "AbjadPoems" "filled" "[Z"] ++ wsX00)
def wsX0_count : List Cond := .code yX0_count cX0_count 3 (some .int) :: ([.classLink RX0 38 "java/lang/IndexOutOfBoundsException", .initialized "java/lang/IndexOutOfBoundsException", .fieldLink RX0 9 "AbjadPoems" "order" "I"] ++ wsX00 ++ (vx_atS RX0 42 "java/lang/IndexOutOfBoundsException" ["java/lang/RuntimeException", "java/lang/Exception"]).filter goodWord)
def wsX0_worthOfLetter : List Cond := .code yX0_worthOfLetter cX0_worthOfLetter 2 (some .int) :: ([.fieldLink RX0 9 "AbjadPoems" "order" "I"] ++ wsX00)
def wsX0_letter : List Cond := .code yX0_letter cX0_letter 2 (some .int) :: ([.classLink RX0 38 "java/lang/IndexOutOfBoundsException", .initialized "java/lang/IndexOutOfBoundsException", .methodLink RX0 47 yX0_worthOfLetter, .instanceMethod yX0_worthOfLetter, .selects RX0 yX0_worthOfLetter yX0_worthOfLetter, .initialized RX0, .code yX0_worthOfLetter cX0_worthOfLetter 2 (some .int), .fieldLink RX0 9 "AbjadPoems" "order" "I"] ++ wsX00 ++ (vx_atS RX0 42 "java/lang/IndexOutOfBoundsException" ["java/lang/RuntimeException", "java/lang/Exception"]).filter goodWord)
def wsX0_isWord : List Cond := .code yX0_isWord cX0_isWord 3 (some .boolean) :: ([.constant RX0 150 (387420489)])
def wsX0_checkWord : List Cond := .code yX0_checkWord cX0_checkWord 1 none :: ([.classLink RX0 143 "java/lang/IllegalArgumentException", .initialized "java/lang/IllegalArgumentException", .methodLink RX0 139 yX0_isWord, .static yX0_isWord, .initialized RX0, .code yX0_isWord cX0_isWord 3 (some .boolean), .constant RX0 150 (387420489)] ++ (vx_atS RX0 147 "java/lang/IllegalArgumentException" ["java/lang/RuntimeException", "java/lang/Exception"]).filter goodWord)
def wsX0_lengthOf : List Cond := .code yX0_lengthOf cX0_lengthOf 3 (some .int) :: ([])
def wsX0_isMarked : List Cond := .code yX0_isMarked cX0_isMarked 2 (some .boolean) :: ([])
def wsX0_worthOfPlaces : List Cond := .code yX0_worthOfPlaces cX0_worthOfPlaces 6 (some .int) :: ([.methodLink RX0 78 yX0_lengthOf, .static yX0_lengthOf, .initialized RX0, .code yX0_lengthOf cX0_lengthOf 3 (some .int), .methodLink RX0 83 yX0_isMarked, .static yX0_isMarked, .code yX0_isMarked cX0_isMarked 2 (some .boolean), .methodLink RX0 47 yX0_worthOfLetter, .instanceMethod yX0_worthOfLetter, .selects RX0 yX0_worthOfLetter yX0_worthOfLetter, .code yX0_worthOfLetter cX0_worthOfLetter 2 (some .int), .fieldLink RX0 9 "AbjadPoems" "order" "I"] ++ wsX00)
def wsX0_value_r1 : List Cond := [Cond.methodLink RX0 51 yX0_checkWord, Cond.static yX0_checkWord, Cond.initialized RX0, Cond.code yX0_checkWord cX0_checkWord 1 none, Cond.classLink RX0 143 "java/lang/IllegalArgumentException", Cond.initialized "java/lang/IllegalArgumentException", Cond.methodLink RX0 139 yX0_isWord, Cond.static yX0_isWord, Cond.code yX0_isWord cX0_isWord 3 (some .boolean), Cond.constant RX0 150 (387420489), Cond.methodLink RX0 55 yX0_worthOfPlaces, Cond.instanceMethod yX0_worthOfPlaces, Cond.selects RX0 yX0_worthOfPlaces yX0_worthOfPlaces, Cond.code yX0_worthOfPlaces cX0_worthOfPlaces 6 (some .int), Cond.methodLink RX0 78 yX0_lengthOf, Cond.static yX0_lengthOf, Cond.code yX0_lengthOf cX0_lengthOf 3 (some .int), Cond.methodLink RX0 83 yX0_isMarked, Cond.static yX0_isMarked, Cond.code yX0_isMarked cX0_isMarked 2 (some .boolean), Cond.methodLink RX0 47 yX0_worthOfLetter, Cond.instanceMethod yX0_worthOfLetter, Cond.selects RX0 yX0_worthOfLetter yX0_worthOfLetter, Cond.code yX0_worthOfLetter cX0_worthOfLetter 2 (some .int)]
def wsX0_value_r2 : List Cond := [Cond.fieldLink RX0 9 "AbjadPoems" "order" "I"]
def wsX0_value : List Cond := .code yX0_value cX0_value 2 (some .int) :: ((wsX0_value_r1 ++ wsX0_value_r2) ++ wsX00 ++ (vx_atS RX0 147 "java/lang/IllegalArgumentException" ["java/lang/RuntimeException", "java/lang/Exception"]).filter goodWord)
def wsX0_timesIn : List Cond := .code yX0_timesIn cX0_timesIn 5 (some .int) :: ([])
def wsX0_alike : List Cond := .code yX0_alike cX0_alike 4 (some .boolean) :: ([.methodLink RX0 51 yX0_checkWord, .static yX0_checkWord, .initialized RX0, .code yX0_checkWord cX0_checkWord 1 none, .classLink RX0 143 "java/lang/IllegalArgumentException", .initialized "java/lang/IllegalArgumentException", .methodLink RX0 139 yX0_isWord, .static yX0_isWord, .code yX0_isWord cX0_isWord 3 (some .boolean), .constant RX0 150 (387420489), .methodLink RX0 59 yX0_timesIn, .static yX0_timesIn, .code yX0_timesIn cX0_timesIn 5 (some .int)] ++ (vx_atS RX0 147 "java/lang/IllegalArgumentException" ["java/lang/RuntimeException", "java/lang/Exception"]).filter goodWord)
def wsX0_write : List Cond := .code yX0_write cX0_write 1 (some .int) :: ([.classLink RX0 62 "java/lang/IllegalStateException", .initialized "java/lang/IllegalStateException", .fieldLink RX0 13 "AbjadPoems" "lines" "I"] ++ wsX00 ++ (vx_atS RX0 66 "java/lang/IllegalStateException" ["java/lang/RuntimeException", "java/lang/Exception"]).filter goodWord)
def wsX0_checkLine : List Cond := .code yX0_checkLine cX0_checkLine 2 none :: ([.classLink RX0 38 "java/lang/IndexOutOfBoundsException", .initialized "java/lang/IndexOutOfBoundsException", .fieldLink RX0 13 "AbjadPoems" "lines" "I"] ++ wsX00 ++ (vx_atS RX0 42 "java/lang/IndexOutOfBoundsException" ["java/lang/RuntimeException", "java/lang/Exception"]).filter goodWord)
def wsX0_add : List Cond := .code yX0_add cX0_add 4 (some .int) :: ([.classLink RX0 62 "java/lang/IllegalStateException", .initialized "java/lang/IllegalStateException", .fieldLink RX0 16 "AbjadPoems" "sizes" "[I", .fieldLink RX0 22 "AbjadPoems" "words" "[[I", .fieldLink RX0 25 "AbjadPoems" "marks" "[[I", .methodLink RX0 67 yX0_checkLine, .instanceMethod yX0_checkLine, .selects RX0 yX0_checkLine yX0_checkLine, .initialized RX0, .code yX0_checkLine cX0_checkLine 2 none, .classLink RX0 38 "java/lang/IndexOutOfBoundsException", .initialized "java/lang/IndexOutOfBoundsException", .fieldLink RX0 13 "AbjadPoems" "lines" "I", .methodLink RX0 51 yX0_checkWord, .static yX0_checkWord, .code yX0_checkWord cX0_checkWord 1 none, .classLink RX0 143 "java/lang/IllegalArgumentException", .initialized "java/lang/IllegalArgumentException", .methodLink RX0 139 yX0_isWord, .static yX0_isWord, .code yX0_isWord cX0_isWord 3 (some .boolean), .constant RX0 150 (387420489)] ++ wsX00 ++ (vx_atS RX0 66 "java/lang/IllegalStateException" ["java/lang/RuntimeException", "java/lang/Exception"]).filter goodWord ++ (vx_atS RX0 42 "java/lang/IndexOutOfBoundsException" ["java/lang/RuntimeException", "java/lang/Exception"]).filter goodWord ++ (vx_atS RX0 147 "java/lang/IllegalArgumentException" ["java/lang/RuntimeException", "java/lang/Exception"]).filter goodWord)
def wsX0_cut : List Cond := .code yX0_cut cX0_cut 3 (some .int) :: ([.classLink RX0 62 "java/lang/IllegalStateException", .initialized "java/lang/IllegalStateException", .fieldLink RX0 16 "AbjadPoems" "sizes" "[I", .fieldLink RX0 22 "AbjadPoems" "words" "[[I", .methodLink RX0 67 yX0_checkLine, .instanceMethod yX0_checkLine, .selects RX0 yX0_checkLine yX0_checkLine, .initialized RX0, .code yX0_checkLine cX0_checkLine 2 none, .classLink RX0 38 "java/lang/IndexOutOfBoundsException", .initialized "java/lang/IndexOutOfBoundsException", .fieldLink RX0 13 "AbjadPoems" "lines" "I"] ++ wsX00 ++ (vx_atS RX0 66 "java/lang/IllegalStateException" ["java/lang/RuntimeException", "java/lang/Exception"]).filter goodWord ++ (vx_atS RX0 42 "java/lang/IndexOutOfBoundsException" ["java/lang/RuntimeException", "java/lang/Exception"]).filter goodWord)
def wsX0_checkWordOfLine : List Cond := .code yX0_checkWordOfLine cX0_checkWordOfLine 3 none :: ([.classLink RX0 38 "java/lang/IndexOutOfBoundsException", .initialized "java/lang/IndexOutOfBoundsException", .fieldLink RX0 16 "AbjadPoems" "sizes" "[I", .methodLink RX0 67 yX0_checkLine, .instanceMethod yX0_checkLine, .selects RX0 yX0_checkLine yX0_checkLine, .initialized RX0, .code yX0_checkLine cX0_checkLine 2 none, .fieldLink RX0 13 "AbjadPoems" "lines" "I"] ++ wsX00 ++ (vx_atS RX0 42 "java/lang/IndexOutOfBoundsException" ["java/lang/RuntimeException", "java/lang/Exception"]).filter goodWord)
def wsX0_mark : List Cond := .code yX0_mark cX0_mark 4 (some .boolean) :: ([.classLink RX0 38 "java/lang/IndexOutOfBoundsException", .initialized "java/lang/IndexOutOfBoundsException", .fieldLink RX0 22 "AbjadPoems" "words" "[[I", .fieldLink RX0 25 "AbjadPoems" "marks" "[[I", .methodLink RX0 74 yX0_checkWordOfLine, .instanceMethod yX0_checkWordOfLine, .selects RX0 yX0_checkWordOfLine yX0_checkWordOfLine, .initialized RX0, .code yX0_checkWordOfLine cX0_checkWordOfLine 3 none, .fieldLink RX0 16 "AbjadPoems" "sizes" "[I", .methodLink RX0 67 yX0_checkLine, .instanceMethod yX0_checkLine, .selects RX0 yX0_checkLine yX0_checkLine, .code yX0_checkLine cX0_checkLine 2 none, .fieldLink RX0 13 "AbjadPoems" "lines" "I", .methodLink RX0 78 yX0_lengthOf, .static yX0_lengthOf, .code yX0_lengthOf cX0_lengthOf 3 (some .int), .methodLink RX0 83 yX0_isMarked, .static yX0_isMarked, .code yX0_isMarked cX0_isMarked 2 (some .boolean)] ++ wsX00 ++ (vx_atS RX0 42 "java/lang/IndexOutOfBoundsException" ["java/lang/RuntimeException", "java/lang/Exception"]).filter goodWord)
def wsX0_checkWhat : List Cond := .code yX0_checkWhat cX0_checkWhat 2 none :: ([.classLink RX0 38 "java/lang/IndexOutOfBoundsException", .initialized "java/lang/IndexOutOfBoundsException"] ++ (vx_atS RX0 42 "java/lang/IndexOutOfBoundsException" ["java/lang/RuntimeException", "java/lang/Exception"]).filter goodWord)
def wsJ6_bitCount_0f7a4 : List Cond := .code yJ6_bitCount_0f7a4 cJ6_bitCount_0f7a4 1 (some .int) :: ([.constant RJ6 265 (1431655765), .constant RJ6 266 (858993459), .constant RJ6 267 (252645135)])
def wsX0_figureOfWord_r1 : List Cond := [Cond.fieldLink RX0 22 "AbjadPoems" "words" "[[I", Cond.fieldLink RX0 25 "AbjadPoems" "marks" "[[I", Cond.methodLink RX0 78 yX0_lengthOf, Cond.static yX0_lengthOf, Cond.initialized RX0, Cond.code yX0_lengthOf cX0_lengthOf 3 (some .int), Cond.methodLink RX0 55 yX0_worthOfPlaces, Cond.instanceMethod yX0_worthOfPlaces, Cond.selects RX0 yX0_worthOfPlaces yX0_worthOfPlaces, Cond.code yX0_worthOfPlaces cX0_worthOfPlaces 6 (some .int), Cond.methodLink RX0 83 yX0_isMarked, Cond.static yX0_isMarked, Cond.code yX0_isMarked cX0_isMarked 2 (some .boolean), Cond.methodLink RX0 47 yX0_worthOfLetter, Cond.instanceMethod yX0_worthOfLetter, Cond.selects RX0 yX0_worthOfLetter yX0_worthOfLetter, Cond.code yX0_worthOfLetter cX0_worthOfLetter 2 (some .int), Cond.fieldLink RX0 9 "AbjadPoems" "order" "I", Cond.methodLink RX0 151 yJ6_bitCount_0f7a4, Cond.static yJ6_bitCount_0f7a4, Cond.initialized RJ6, Cond.code yJ6_bitCount_0f7a4 cJ6_bitCount_0f7a4 1 (some .int), Cond.constant RJ6 265 (1431655765), Cond.constant RJ6 266 (858993459)]
def wsX0_figureOfWord_r2 : List Cond := [Cond.constant RJ6 267 (252645135)]
def wsX0_figureOfWord : List Cond := .code yX0_figureOfWord cX0_figureOfWord 4 (some .int) :: ((wsX0_figureOfWord_r1 ++ wsX0_figureOfWord_r2) ++ wsX00)
def wsX0_word_r1 : List Cond := [Cond.methodLink RX0 74 yX0_checkWordOfLine, Cond.instanceMethod yX0_checkWordOfLine, Cond.selects RX0 yX0_checkWordOfLine yX0_checkWordOfLine, Cond.initialized RX0, Cond.code yX0_checkWordOfLine cX0_checkWordOfLine 3 none, Cond.classLink RX0 38 "java/lang/IndexOutOfBoundsException", Cond.initialized "java/lang/IndexOutOfBoundsException", Cond.fieldLink RX0 16 "AbjadPoems" "sizes" "[I", Cond.methodLink RX0 67 yX0_checkLine, Cond.instanceMethod yX0_checkLine, Cond.selects RX0 yX0_checkLine yX0_checkLine, Cond.code yX0_checkLine cX0_checkLine 2 none, Cond.fieldLink RX0 13 "AbjadPoems" "lines" "I", Cond.methodLink RX0 87 yX0_checkWhat, Cond.static yX0_checkWhat, Cond.code yX0_checkWhat cX0_checkWhat 2 none, Cond.methodLink RX0 90 yX0_figureOfWord, Cond.instanceMethod yX0_figureOfWord, Cond.selects RX0 yX0_figureOfWord yX0_figureOfWord, Cond.code yX0_figureOfWord cX0_figureOfWord 4 (some .int), Cond.fieldLink RX0 22 "AbjadPoems" "words" "[[I", Cond.fieldLink RX0 25 "AbjadPoems" "marks" "[[I", Cond.methodLink RX0 78 yX0_lengthOf, Cond.static yX0_lengthOf]
def wsX0_word_r2 : List Cond := [Cond.code yX0_lengthOf cX0_lengthOf 3 (some .int), Cond.methodLink RX0 55 yX0_worthOfPlaces, Cond.instanceMethod yX0_worthOfPlaces, Cond.selects RX0 yX0_worthOfPlaces yX0_worthOfPlaces, Cond.code yX0_worthOfPlaces cX0_worthOfPlaces 6 (some .int), Cond.methodLink RX0 83 yX0_isMarked, Cond.static yX0_isMarked, Cond.code yX0_isMarked cX0_isMarked 2 (some .boolean), Cond.methodLink RX0 47 yX0_worthOfLetter, Cond.instanceMethod yX0_worthOfLetter, Cond.selects RX0 yX0_worthOfLetter yX0_worthOfLetter, Cond.code yX0_worthOfLetter cX0_worthOfLetter 2 (some .int), Cond.fieldLink RX0 9 "AbjadPoems" "order" "I", Cond.methodLink RX0 151 yJ6_bitCount_0f7a4, Cond.static yJ6_bitCount_0f7a4, Cond.initialized RJ6, Cond.code yJ6_bitCount_0f7a4 cJ6_bitCount_0f7a4 1 (some .int), Cond.constant RJ6 265 (1431655765), Cond.constant RJ6 266 (858993459), Cond.constant RJ6 267 (252645135)]
def wsX0_word : List Cond := .code yX0_word cX0_word 4 (some .int) :: ((wsX0_word_r1 ++ wsX0_word_r2) ++ wsX00 ++ (vx_atS RX0 42 "java/lang/IndexOutOfBoundsException" ["java/lang/RuntimeException", "java/lang/Exception"]).filter goodWord)
def wsX0_figureOfLine_r1 : List Cond := [Cond.fieldLink RX0 16 "AbjadPoems" "sizes" "[I", Cond.methodLink RX0 90 yX0_figureOfWord, Cond.instanceMethod yX0_figureOfWord, Cond.selects RX0 yX0_figureOfWord yX0_figureOfWord, Cond.initialized RX0, Cond.code yX0_figureOfWord cX0_figureOfWord 4 (some .int), Cond.fieldLink RX0 22 "AbjadPoems" "words" "[[I", Cond.fieldLink RX0 25 "AbjadPoems" "marks" "[[I", Cond.methodLink RX0 78 yX0_lengthOf, Cond.static yX0_lengthOf, Cond.code yX0_lengthOf cX0_lengthOf 3 (some .int), Cond.methodLink RX0 55 yX0_worthOfPlaces, Cond.instanceMethod yX0_worthOfPlaces, Cond.selects RX0 yX0_worthOfPlaces yX0_worthOfPlaces, Cond.code yX0_worthOfPlaces cX0_worthOfPlaces 6 (some .int), Cond.methodLink RX0 83 yX0_isMarked, Cond.static yX0_isMarked, Cond.code yX0_isMarked cX0_isMarked 2 (some .boolean), Cond.methodLink RX0 47 yX0_worthOfLetter, Cond.instanceMethod yX0_worthOfLetter, Cond.selects RX0 yX0_worthOfLetter yX0_worthOfLetter, Cond.code yX0_worthOfLetter cX0_worthOfLetter 2 (some .int), Cond.fieldLink RX0 9 "AbjadPoems" "order" "I", Cond.methodLink RX0 151 yJ6_bitCount_0f7a4]
def wsX0_figureOfLine_r2 : List Cond := [Cond.static yJ6_bitCount_0f7a4, Cond.initialized RJ6, Cond.code yJ6_bitCount_0f7a4 cJ6_bitCount_0f7a4 1 (some .int), Cond.constant RJ6 265 (1431655765), Cond.constant RJ6 266 (858993459), Cond.constant RJ6 267 (252645135)]
def wsX0_figureOfLine : List Cond := .code yX0_figureOfLine cX0_figureOfLine 5 (some .int) :: ((wsX0_figureOfLine_r1 ++ wsX0_figureOfLine_r2) ++ wsX00)
def wsX0_line_r1 : List Cond := [Cond.methodLink RX0 67 yX0_checkLine, Cond.instanceMethod yX0_checkLine, Cond.selects RX0 yX0_checkLine yX0_checkLine, Cond.initialized RX0, Cond.code yX0_checkLine cX0_checkLine 2 none, Cond.classLink RX0 38 "java/lang/IndexOutOfBoundsException", Cond.initialized "java/lang/IndexOutOfBoundsException", Cond.fieldLink RX0 13 "AbjadPoems" "lines" "I", Cond.methodLink RX0 87 yX0_checkWhat, Cond.static yX0_checkWhat, Cond.code yX0_checkWhat cX0_checkWhat 2 none, Cond.methodLink RX0 94 yX0_figureOfLine, Cond.instanceMethod yX0_figureOfLine, Cond.selects RX0 yX0_figureOfLine yX0_figureOfLine, Cond.code yX0_figureOfLine cX0_figureOfLine 5 (some .int), Cond.fieldLink RX0 16 "AbjadPoems" "sizes" "[I", Cond.methodLink RX0 90 yX0_figureOfWord, Cond.instanceMethod yX0_figureOfWord, Cond.selects RX0 yX0_figureOfWord yX0_figureOfWord, Cond.code yX0_figureOfWord cX0_figureOfWord 4 (some .int), Cond.fieldLink RX0 22 "AbjadPoems" "words" "[[I", Cond.fieldLink RX0 25 "AbjadPoems" "marks" "[[I", Cond.methodLink RX0 78 yX0_lengthOf, Cond.static yX0_lengthOf]
def wsX0_line_r2 : List Cond := [Cond.code yX0_lengthOf cX0_lengthOf 3 (some .int), Cond.methodLink RX0 55 yX0_worthOfPlaces, Cond.instanceMethod yX0_worthOfPlaces, Cond.selects RX0 yX0_worthOfPlaces yX0_worthOfPlaces, Cond.code yX0_worthOfPlaces cX0_worthOfPlaces 6 (some .int), Cond.methodLink RX0 83 yX0_isMarked, Cond.static yX0_isMarked, Cond.code yX0_isMarked cX0_isMarked 2 (some .boolean), Cond.methodLink RX0 47 yX0_worthOfLetter, Cond.instanceMethod yX0_worthOfLetter, Cond.selects RX0 yX0_worthOfLetter yX0_worthOfLetter, Cond.code yX0_worthOfLetter cX0_worthOfLetter 2 (some .int), Cond.fieldLink RX0 9 "AbjadPoems" "order" "I", Cond.methodLink RX0 151 yJ6_bitCount_0f7a4, Cond.static yJ6_bitCount_0f7a4, Cond.initialized RJ6, Cond.code yJ6_bitCount_0f7a4 cJ6_bitCount_0f7a4 1 (some .int), Cond.constant RJ6 265 (1431655765), Cond.constant RJ6 266 (858993459), Cond.constant RJ6 267 (252645135)]
def wsX0_line : List Cond := .code yX0_line cX0_line 3 (some .int) :: ((wsX0_line_r1 ++ wsX0_line_r2) ++ wsX00 ++ (vx_atS RX0 42 "java/lang/IndexOutOfBoundsException" ["java/lang/RuntimeException", "java/lang/Exception"]).filter goodWord)
def wsX0_timesAmongWorths : List Cond := .code yX0_timesAmongWorths cX0_timesAmongWorths 5 (some .int) :: ([.fieldLink RX0 28 "AbjadPoems" "worths" "[I"] ++ wsX00)
def wsX0_pairsOfSameWorth : List Cond := .code yX0_pairsOfSameWorth cX0_pairsOfSameWorth 6 (some .int) :: ([.fieldLink RX0 13 "AbjadPoems" "lines" "I", .fieldLink RX0 16 "AbjadPoems" "sizes" "[I", .fieldLink RX0 22 "AbjadPoems" "words" "[[I", .fieldLink RX0 28 "AbjadPoems" "worths" "[I", .methodLink RX0 55 yX0_worthOfPlaces, .instanceMethod yX0_worthOfPlaces, .selects RX0 yX0_worthOfPlaces yX0_worthOfPlaces, .initialized RX0, .code yX0_worthOfPlaces cX0_worthOfPlaces 6 (some .int), .methodLink RX0 78 yX0_lengthOf, .static yX0_lengthOf, .code yX0_lengthOf cX0_lengthOf 3 (some .int), .methodLink RX0 83 yX0_isMarked, .static yX0_isMarked, .code yX0_isMarked cX0_isMarked 2 (some .boolean), .methodLink RX0 47 yX0_worthOfLetter, .instanceMethod yX0_worthOfLetter, .selects RX0 yX0_worthOfLetter yX0_worthOfLetter, .code yX0_worthOfLetter cX0_worthOfLetter 2 (some .int), .fieldLink RX0 9 "AbjadPoems" "order" "I", .methodLink RX0 156 yX0_timesAmongWorths, .instanceMethod yX0_timesAmongWorths, .selects RX0 yX0_timesAmongWorths yX0_timesAmongWorths, .code yX0_timesAmongWorths cX0_timesAmongWorths 5 (some .int)] ++ wsX00)
def wsX0_sumOverLines_r1 : List Cond := [Cond.fieldLink RX0 13 "AbjadPoems" "lines" "I", Cond.methodLink RX0 94 yX0_figureOfLine, Cond.instanceMethod yX0_figureOfLine, Cond.selects RX0 yX0_figureOfLine yX0_figureOfLine, Cond.initialized RX0, Cond.code yX0_figureOfLine cX0_figureOfLine 5 (some .int), Cond.fieldLink RX0 16 "AbjadPoems" "sizes" "[I", Cond.methodLink RX0 90 yX0_figureOfWord, Cond.instanceMethod yX0_figureOfWord, Cond.selects RX0 yX0_figureOfWord yX0_figureOfWord, Cond.code yX0_figureOfWord cX0_figureOfWord 4 (some .int), Cond.fieldLink RX0 22 "AbjadPoems" "words" "[[I", Cond.fieldLink RX0 25 "AbjadPoems" "marks" "[[I", Cond.methodLink RX0 78 yX0_lengthOf, Cond.static yX0_lengthOf, Cond.code yX0_lengthOf cX0_lengthOf 3 (some .int), Cond.methodLink RX0 55 yX0_worthOfPlaces, Cond.instanceMethod yX0_worthOfPlaces, Cond.selects RX0 yX0_worthOfPlaces yX0_worthOfPlaces, Cond.code yX0_worthOfPlaces cX0_worthOfPlaces 6 (some .int), Cond.methodLink RX0 83 yX0_isMarked, Cond.static yX0_isMarked, Cond.code yX0_isMarked cX0_isMarked 2 (some .boolean), Cond.methodLink RX0 47 yX0_worthOfLetter]
def wsX0_sumOverLines_r2 : List Cond := [Cond.instanceMethod yX0_worthOfLetter, Cond.selects RX0 yX0_worthOfLetter yX0_worthOfLetter, Cond.code yX0_worthOfLetter cX0_worthOfLetter 2 (some .int), Cond.fieldLink RX0 9 "AbjadPoems" "order" "I", Cond.methodLink RX0 151 yJ6_bitCount_0f7a4, Cond.static yJ6_bitCount_0f7a4, Cond.initialized RJ6, Cond.code yJ6_bitCount_0f7a4 cJ6_bitCount_0f7a4 1 (some .int), Cond.constant RJ6 265 (1431655765), Cond.constant RJ6 266 (858993459), Cond.constant RJ6 267 (252645135)]
def wsX0_sumOverLines : List Cond := .code yX0_sumOverLines cX0_sumOverLines 4 (some .int) :: ((wsX0_sumOverLines_r1 ++ wsX0_sumOverLines_r2) ++ wsX00)
def wsX0_told_r1 : List Cond := [Cond.fieldLink RX0 13 "AbjadPoems" "lines" "I", Cond.methodLink RX0 87 yX0_checkWhat, Cond.static yX0_checkWhat, Cond.initialized RX0, Cond.code yX0_checkWhat cX0_checkWhat 2 none, Cond.classLink RX0 38 "java/lang/IndexOutOfBoundsException", Cond.initialized "java/lang/IndexOutOfBoundsException", Cond.methodLink RX0 97 yX0_pairsOfSameWorth, Cond.instanceMethod yX0_pairsOfSameWorth, Cond.selects RX0 yX0_pairsOfSameWorth yX0_pairsOfSameWorth, Cond.code yX0_pairsOfSameWorth cX0_pairsOfSameWorth 6 (some .int), Cond.fieldLink RX0 16 "AbjadPoems" "sizes" "[I", Cond.fieldLink RX0 22 "AbjadPoems" "words" "[[I", Cond.fieldLink RX0 28 "AbjadPoems" "worths" "[I", Cond.methodLink RX0 55 yX0_worthOfPlaces, Cond.instanceMethod yX0_worthOfPlaces, Cond.selects RX0 yX0_worthOfPlaces yX0_worthOfPlaces, Cond.code yX0_worthOfPlaces cX0_worthOfPlaces 6 (some .int), Cond.methodLink RX0 78 yX0_lengthOf, Cond.static yX0_lengthOf, Cond.code yX0_lengthOf cX0_lengthOf 3 (some .int), Cond.methodLink RX0 83 yX0_isMarked, Cond.static yX0_isMarked, Cond.code yX0_isMarked cX0_isMarked 2 (some .boolean)]
def wsX0_told_r2 : List Cond := [Cond.methodLink RX0 47 yX0_worthOfLetter, Cond.instanceMethod yX0_worthOfLetter, Cond.selects RX0 yX0_worthOfLetter yX0_worthOfLetter, Cond.code yX0_worthOfLetter cX0_worthOfLetter 2 (some .int), Cond.fieldLink RX0 9 "AbjadPoems" "order" "I", Cond.methodLink RX0 156 yX0_timesAmongWorths, Cond.instanceMethod yX0_timesAmongWorths, Cond.selects RX0 yX0_timesAmongWorths yX0_timesAmongWorths, Cond.code yX0_timesAmongWorths cX0_timesAmongWorths 5 (some .int), Cond.methodLink RX0 101 yX0_sumOverLines, Cond.instanceMethod yX0_sumOverLines, Cond.selects RX0 yX0_sumOverLines yX0_sumOverLines, Cond.code yX0_sumOverLines cX0_sumOverLines 4 (some .int), Cond.methodLink RX0 94 yX0_figureOfLine, Cond.instanceMethod yX0_figureOfLine, Cond.selects RX0 yX0_figureOfLine yX0_figureOfLine, Cond.code yX0_figureOfLine cX0_figureOfLine 5 (some .int), Cond.methodLink RX0 90 yX0_figureOfWord, Cond.instanceMethod yX0_figureOfWord, Cond.selects RX0 yX0_figureOfWord yX0_figureOfWord, Cond.code yX0_figureOfWord cX0_figureOfWord 4 (some .int), Cond.fieldLink RX0 25 "AbjadPoems" "marks" "[[I", Cond.methodLink RX0 151 yJ6_bitCount_0f7a4, Cond.static yJ6_bitCount_0f7a4]
def wsX0_told_r3 : List Cond := [Cond.initialized RJ6, Cond.code yJ6_bitCount_0f7a4 cJ6_bitCount_0f7a4 1 (some .int), Cond.constant RJ6 265 (1431655765), Cond.constant RJ6 266 (858993459), Cond.constant RJ6 267 (252645135)]
def wsX0_told : List Cond := .code yX0_told cX0_told 2 (some .int) :: ((wsX0_told_r1 ++ (wsX0_told_r2 ++ wsX0_told_r3)) ++ wsX00 ++ (vx_atS RX0 42 "java/lang/IndexOutOfBoundsException" ["java/lang/RuntimeException", "java/lang/Exception"]).filter goodWord)
def wsX0_lastOfRun : List Cond := .code yX0_lastOfRun cX0_lastOfRun 6 (some .int) :: ([.fieldLink RX0 16 "AbjadPoems" "sizes" "[I", .fieldLink RX0 22 "AbjadPoems" "words" "[[I", .methodLink RX0 55 yX0_worthOfPlaces, .instanceMethod yX0_worthOfPlaces, .selects RX0 yX0_worthOfPlaces yX0_worthOfPlaces, .initialized RX0, .code yX0_worthOfPlaces cX0_worthOfPlaces 6 (some .int), .methodLink RX0 78 yX0_lengthOf, .static yX0_lengthOf, .code yX0_lengthOf cX0_lengthOf 3 (some .int), .methodLink RX0 83 yX0_isMarked, .static yX0_isMarked, .code yX0_isMarked cX0_isMarked 2 (some .boolean), .methodLink RX0 47 yX0_worthOfLetter, .instanceMethod yX0_worthOfLetter, .selects RX0 yX0_worthOfLetter yX0_worthOfLetter, .code yX0_worthOfLetter cX0_worthOfLetter 2 (some .int), .fieldLink RX0 9 "AbjadPoems" "order" "I"] ++ wsX00)
def wsX0_hidden_r1 : List Cond := [Cond.fieldLink RX0 16 "AbjadPoems" "sizes" "[I", Cond.methodLink RX0 67 yX0_checkLine, Cond.instanceMethod yX0_checkLine, Cond.selects RX0 yX0_checkLine yX0_checkLine, Cond.initialized RX0, Cond.code yX0_checkLine cX0_checkLine 2 none, Cond.classLink RX0 38 "java/lang/IndexOutOfBoundsException", Cond.initialized "java/lang/IndexOutOfBoundsException", Cond.fieldLink RX0 13 "AbjadPoems" "lines" "I", Cond.methodLink RX0 104 yX0_lastOfRun, Cond.instanceMethod yX0_lastOfRun, Cond.selects RX0 yX0_lastOfRun yX0_lastOfRun, Cond.code yX0_lastOfRun cX0_lastOfRun 6 (some .int), Cond.fieldLink RX0 22 "AbjadPoems" "words" "[[I", Cond.methodLink RX0 55 yX0_worthOfPlaces, Cond.instanceMethod yX0_worthOfPlaces, Cond.selects RX0 yX0_worthOfPlaces yX0_worthOfPlaces, Cond.code yX0_worthOfPlaces cX0_worthOfPlaces 6 (some .int), Cond.methodLink RX0 78 yX0_lengthOf, Cond.static yX0_lengthOf, Cond.code yX0_lengthOf cX0_lengthOf 3 (some .int), Cond.methodLink RX0 83 yX0_isMarked, Cond.static yX0_isMarked, Cond.code yX0_isMarked cX0_isMarked 2 (some .boolean)]
def wsX0_hidden_r2 : List Cond := [Cond.methodLink RX0 47 yX0_worthOfLetter, Cond.instanceMethod yX0_worthOfLetter, Cond.selects RX0 yX0_worthOfLetter yX0_worthOfLetter, Cond.code yX0_worthOfLetter cX0_worthOfLetter 2 (some .int), Cond.fieldLink RX0 9 "AbjadPoems" "order" "I"]
def wsX0_hidden : List Cond := .code yX0_hidden cX0_hidden 5 (some .int) :: ((wsX0_hidden_r1 ++ wsX0_hidden_r2) ++ wsX00 ++ (vx_atS RX0 42 "java/lang/IndexOutOfBoundsException" ["java/lang/RuntimeException", "java/lang/Exception"]).filter goodWord)
def wsX0_hides : List Cond := .code yX0_hides cX0_hides 5 (some .int) :: ([.fieldLink RX0 13 "AbjadPoems" "lines" "I", .fieldLink RX0 16 "AbjadPoems" "sizes" "[I", .methodLink RX0 104 yX0_lastOfRun, .instanceMethod yX0_lastOfRun, .selects RX0 yX0_lastOfRun yX0_lastOfRun, .initialized RX0, .code yX0_lastOfRun cX0_lastOfRun 6 (some .int), .fieldLink RX0 22 "AbjadPoems" "words" "[[I", .methodLink RX0 55 yX0_worthOfPlaces, .instanceMethod yX0_worthOfPlaces, .selects RX0 yX0_worthOfPlaces yX0_worthOfPlaces, .code yX0_worthOfPlaces cX0_worthOfPlaces 6 (some .int), .methodLink RX0 78 yX0_lengthOf, .static yX0_lengthOf, .code yX0_lengthOf cX0_lengthOf 3 (some .int), .methodLink RX0 83 yX0_isMarked, .static yX0_isMarked, .code yX0_isMarked cX0_isMarked 2 (some .boolean), .methodLink RX0 47 yX0_worthOfLetter, .instanceMethod yX0_worthOfLetter, .selects RX0 yX0_worthOfLetter yX0_worthOfLetter, .code yX0_worthOfLetter cX0_worthOfLetter 2 (some .int), .fieldLink RX0 9 "AbjadPoems" "order" "I"] ++ wsX00)
def wsX0_lacks_r1 : List Cond := [Cond.methodLink RX0 67 yX0_checkLine, Cond.instanceMethod yX0_checkLine, Cond.selects RX0 yX0_checkLine yX0_checkLine, Cond.initialized RX0, Cond.code yX0_checkLine cX0_checkLine 2 none, Cond.classLink RX0 38 "java/lang/IndexOutOfBoundsException", Cond.initialized "java/lang/IndexOutOfBoundsException", Cond.fieldLink RX0 13 "AbjadPoems" "lines" "I", Cond.methodLink RX0 94 yX0_figureOfLine, Cond.instanceMethod yX0_figureOfLine, Cond.selects RX0 yX0_figureOfLine yX0_figureOfLine, Cond.code yX0_figureOfLine cX0_figureOfLine 5 (some .int), Cond.fieldLink RX0 16 "AbjadPoems" "sizes" "[I", Cond.methodLink RX0 90 yX0_figureOfWord, Cond.instanceMethod yX0_figureOfWord, Cond.selects RX0 yX0_figureOfWord yX0_figureOfWord, Cond.code yX0_figureOfWord cX0_figureOfWord 4 (some .int), Cond.fieldLink RX0 22 "AbjadPoems" "words" "[[I", Cond.fieldLink RX0 25 "AbjadPoems" "marks" "[[I", Cond.methodLink RX0 78 yX0_lengthOf, Cond.static yX0_lengthOf, Cond.code yX0_lengthOf cX0_lengthOf 3 (some .int), Cond.methodLink RX0 55 yX0_worthOfPlaces, Cond.instanceMethod yX0_worthOfPlaces]
def wsX0_lacks_r2 : List Cond := [Cond.selects RX0 yX0_worthOfPlaces yX0_worthOfPlaces, Cond.code yX0_worthOfPlaces cX0_worthOfPlaces 6 (some .int), Cond.methodLink RX0 83 yX0_isMarked, Cond.static yX0_isMarked, Cond.code yX0_isMarked cX0_isMarked 2 (some .boolean), Cond.methodLink RX0 47 yX0_worthOfLetter, Cond.instanceMethod yX0_worthOfLetter, Cond.selects RX0 yX0_worthOfLetter yX0_worthOfLetter, Cond.code yX0_worthOfLetter cX0_worthOfLetter 2 (some .int), Cond.fieldLink RX0 9 "AbjadPoems" "order" "I", Cond.methodLink RX0 151 yJ6_bitCount_0f7a4, Cond.static yJ6_bitCount_0f7a4, Cond.initialized RJ6, Cond.code yJ6_bitCount_0f7a4 cJ6_bitCount_0f7a4 1 (some .int), Cond.constant RJ6 265 (1431655765), Cond.constant RJ6 266 (858993459), Cond.constant RJ6 267 (252645135)]
def wsX0_lacks : List Cond := .code yX0_lacks cX0_lacks 5 (some .int) :: ((wsX0_lacks_r1 ++ wsX0_lacks_r2) ++ wsX00 ++ (vx_atS RX0 42 "java/lang/IndexOutOfBoundsException" ["java/lang/RuntimeException", "java/lang/Exception"]).filter goodWord)
def wsX0_nearest_r1 : List Cond := [Cond.fieldLink RX0 13 "AbjadPoems" "lines" "I", Cond.methodLink RX0 107 Lib.MathLoose.abs_long.x, Cond.static Lib.MathLoose.abs_long.x, Cond.initialized "java/lang/Math", Cond.code Lib.MathLoose.abs_long.x Lib.MathLoose.abs_long.code 2 (some .long), Cond.methodLink RX0 94 yX0_figureOfLine, Cond.instanceMethod yX0_figureOfLine, Cond.selects RX0 yX0_figureOfLine yX0_figureOfLine, Cond.initialized RX0, Cond.code yX0_figureOfLine cX0_figureOfLine 5 (some .int), Cond.fieldLink RX0 16 "AbjadPoems" "sizes" "[I", Cond.methodLink RX0 90 yX0_figureOfWord, Cond.instanceMethod yX0_figureOfWord, Cond.selects RX0 yX0_figureOfWord yX0_figureOfWord, Cond.code yX0_figureOfWord cX0_figureOfWord 4 (some .int), Cond.fieldLink RX0 22 "AbjadPoems" "words" "[[I", Cond.fieldLink RX0 25 "AbjadPoems" "marks" "[[I", Cond.methodLink RX0 78 yX0_lengthOf, Cond.static yX0_lengthOf, Cond.code yX0_lengthOf cX0_lengthOf 3 (some .int), Cond.methodLink RX0 55 yX0_worthOfPlaces, Cond.instanceMethod yX0_worthOfPlaces, Cond.selects RX0 yX0_worthOfPlaces yX0_worthOfPlaces, Cond.code yX0_worthOfPlaces cX0_worthOfPlaces 6 (some .int)]
def wsX0_nearest_r2 : List Cond := [Cond.methodLink RX0 83 yX0_isMarked, Cond.static yX0_isMarked, Cond.code yX0_isMarked cX0_isMarked 2 (some .boolean), Cond.methodLink RX0 47 yX0_worthOfLetter, Cond.instanceMethod yX0_worthOfLetter, Cond.selects RX0 yX0_worthOfLetter yX0_worthOfLetter, Cond.code yX0_worthOfLetter cX0_worthOfLetter 2 (some .int), Cond.fieldLink RX0 9 "AbjadPoems" "order" "I", Cond.methodLink RX0 151 yJ6_bitCount_0f7a4, Cond.static yJ6_bitCount_0f7a4, Cond.initialized RJ6, Cond.code yJ6_bitCount_0f7a4 cJ6_bitCount_0f7a4 1 (some .int), Cond.constant RJ6 265 (1431655765), Cond.constant RJ6 266 (858993459), Cond.constant RJ6 267 (252645135)]
def wsX0_nearest : List Cond := .code yX0_nearest cX0_nearest 8 (some .int) :: ((wsX0_nearest_r1 ++ wsX0_nearest_r2) ++ wsX00)
def wsX0_checkYear : List Cond := .code yX0_checkYear cX0_checkYear 1 none :: ([.classLink RX0 143 "java/lang/IllegalArgumentException", .initialized "java/lang/IllegalArgumentException"] ++ (vx_atS RX0 147 "java/lang/IllegalArgumentException" ["java/lang/RuntimeException", "java/lang/Exception"]).filter goodWord)
def wsX0_fewestBySmaller : List Cond := .code yX0_fewestBySmaller cX0_fewestBySmaller 5 (some .int) :: ([.fieldLink RX0 31 "AbjadPoems" "fewest" "[[I", .fieldLink RX0 9 "AbjadPoems" "order" "I", .methodLink RX0 47 yX0_worthOfLetter, .instanceMethod yX0_worthOfLetter, .selects RX0 yX0_worthOfLetter yX0_worthOfLetter, .initialized RX0, .code yX0_worthOfLetter cX0_worthOfLetter 2 (some .int)] ++ wsX00)
def wsX0_fillFewest : List Cond := .code yX0_fillFewest cX0_fillFewest 2 none :: ([.fieldLink RX0 34 "AbjadPoems" "filled" "[Z", .fieldLink RX0 9 "AbjadPoems" "order" "I", .fieldLink RX0 31 "AbjadPoems" "fewest" "[[I", .methodLink RX0 159 yX0_fewestBySmaller, .instanceMethod yX0_fewestBySmaller, .selects RX0 yX0_fewestBySmaller yX0_fewestBySmaller, .initialized RX0, .code yX0_fewestBySmaller cX0_fewestBySmaller 5 (some .int), .methodLink RX0 47 yX0_worthOfLetter, .instanceMethod yX0_worthOfLetter, .selects RX0 yX0_worthOfLetter yX0_worthOfLetter, .code yX0_worthOfLetter cX0_worthOfLetter 2 (some .int)] ++ wsX00)
def wsX0_letters : List Cond := .code yX0_letters cX0_letters 2 (some .int) :: ([.fieldLink RX0 31 "AbjadPoems" "fewest" "[[I", .fieldLink RX0 9 "AbjadPoems" "order" "I", .methodLink RX0 113 yX0_checkYear, .static yX0_checkYear, .initialized RX0, .code yX0_checkYear cX0_checkYear 1 none, .classLink RX0 143 "java/lang/IllegalArgumentException", .initialized "java/lang/IllegalArgumentException", .methodLink RX0 116 yX0_fillFewest, .instanceMethod yX0_fillFewest, .selects RX0 yX0_fillFewest yX0_fillFewest, .code yX0_fillFewest cX0_fillFewest 2 none, .fieldLink RX0 34 "AbjadPoems" "filled" "[Z", .methodLink RX0 159 yX0_fewestBySmaller, .instanceMethod yX0_fewestBySmaller, .selects RX0 yX0_fewestBySmaller yX0_fewestBySmaller, .code yX0_fewestBySmaller cX0_fewestBySmaller 5 (some .int), .methodLink RX0 47 yX0_worthOfLetter, .instanceMethod yX0_worthOfLetter, .selects RX0 yX0_worthOfLetter yX0_worthOfLetter, .code yX0_worthOfLetter cX0_worthOfLetter 2 (some .int)] ++ wsX00 ++ (vx_atS RX0 147 "java/lang/IllegalArgumentException" ["java/lang/RuntimeException", "java/lang/Exception"]).filter goodWord)
def wsX0_greatestFirst : List Cond := .code yX0_greatestFirst cX0_greatestFirst 4 (some .int) :: ([.fieldLink RX0 31 "AbjadPoems" "fewest" "[[I", .fieldLink RX0 9 "AbjadPoems" "order" "I", .methodLink RX0 47 yX0_worthOfLetter, .instanceMethod yX0_worthOfLetter, .selects RX0 yX0_worthOfLetter yX0_worthOfLetter, .initialized RX0, .code yX0_worthOfLetter cX0_worthOfLetter 2 (some .int)] ++ wsX00)
def wsX0_spell_r1 : List Cond := [Cond.classLink RX0 38 "java/lang/IndexOutOfBoundsException", Cond.initialized "java/lang/IndexOutOfBoundsException", Cond.fieldLink RX0 31 "AbjadPoems" "fewest" "[[I", Cond.fieldLink RX0 9 "AbjadPoems" "order" "I", Cond.methodLink RX0 113 yX0_checkYear, Cond.static yX0_checkYear, Cond.initialized RX0, Cond.code yX0_checkYear cX0_checkYear 1 none, Cond.classLink RX0 143 "java/lang/IllegalArgumentException", Cond.initialized "java/lang/IllegalArgumentException", Cond.methodLink RX0 116 yX0_fillFewest, Cond.instanceMethod yX0_fillFewest, Cond.selects RX0 yX0_fillFewest yX0_fillFewest, Cond.code yX0_fillFewest cX0_fillFewest 2 none, Cond.fieldLink RX0 34 "AbjadPoems" "filled" "[Z", Cond.methodLink RX0 159 yX0_fewestBySmaller, Cond.instanceMethod yX0_fewestBySmaller, Cond.selects RX0 yX0_fewestBySmaller yX0_fewestBySmaller, Cond.code yX0_fewestBySmaller cX0_fewestBySmaller 5 (some .int), Cond.methodLink RX0 47 yX0_worthOfLetter, Cond.instanceMethod yX0_worthOfLetter, Cond.selects RX0 yX0_worthOfLetter yX0_worthOfLetter, Cond.code yX0_worthOfLetter cX0_worthOfLetter 2 (some .int), Cond.methodLink RX0 119 yX0_greatestFirst]
def wsX0_spell_r2 : List Cond := [Cond.instanceMethod yX0_greatestFirst, Cond.selects RX0 yX0_greatestFirst yX0_greatestFirst, Cond.code yX0_greatestFirst cX0_greatestFirst 4 (some .int)]
def wsX0_spell : List Cond := .code yX0_spell cX0_spell 5 (some .int) :: ((wsX0_spell_r1 ++ wsX0_spell_r2) ++ wsX00 ++ (vx_atS RX0 42 "java/lang/IndexOutOfBoundsException" ["java/lang/RuntimeException", "java/lang/Exception"]).filter goodWord ++ (vx_atS RX0 147 "java/lang/IllegalArgumentException" ["java/lang/RuntimeException", "java/lang/Exception"]).filter goodWord)
def wsX0_mean_r1 : List Cond := [Cond.methodLink RX0 101 yX0_sumOverLines, Cond.instanceMethod yX0_sumOverLines, Cond.selects RX0 yX0_sumOverLines yX0_sumOverLines, Cond.initialized RX0, Cond.code yX0_sumOverLines cX0_sumOverLines 4 (some .int), Cond.fieldLink RX0 13 "AbjadPoems" "lines" "I", Cond.methodLink RX0 94 yX0_figureOfLine, Cond.instanceMethod yX0_figureOfLine, Cond.selects RX0 yX0_figureOfLine yX0_figureOfLine, Cond.code yX0_figureOfLine cX0_figureOfLine 5 (some .int), Cond.fieldLink RX0 16 "AbjadPoems" "sizes" "[I", Cond.methodLink RX0 90 yX0_figureOfWord, Cond.instanceMethod yX0_figureOfWord, Cond.selects RX0 yX0_figureOfWord yX0_figureOfWord, Cond.code yX0_figureOfWord cX0_figureOfWord 4 (some .int), Cond.fieldLink RX0 22 "AbjadPoems" "words" "[[I", Cond.fieldLink RX0 25 "AbjadPoems" "marks" "[[I", Cond.methodLink RX0 78 yX0_lengthOf, Cond.static yX0_lengthOf, Cond.code yX0_lengthOf cX0_lengthOf 3 (some .int), Cond.methodLink RX0 55 yX0_worthOfPlaces, Cond.instanceMethod yX0_worthOfPlaces, Cond.selects RX0 yX0_worthOfPlaces yX0_worthOfPlaces, Cond.code yX0_worthOfPlaces cX0_worthOfPlaces 6 (some .int)]
def wsX0_mean_r2 : List Cond := [Cond.methodLink RX0 83 yX0_isMarked, Cond.static yX0_isMarked, Cond.code yX0_isMarked cX0_isMarked 2 (some .boolean), Cond.methodLink RX0 47 yX0_worthOfLetter, Cond.instanceMethod yX0_worthOfLetter, Cond.selects RX0 yX0_worthOfLetter yX0_worthOfLetter, Cond.code yX0_worthOfLetter cX0_worthOfLetter 2 (some .int), Cond.fieldLink RX0 9 "AbjadPoems" "order" "I", Cond.methodLink RX0 151 yJ6_bitCount_0f7a4, Cond.static yJ6_bitCount_0f7a4, Cond.initialized RJ6, Cond.code yJ6_bitCount_0f7a4 cJ6_bitCount_0f7a4 1 (some .int), Cond.constant RJ6 265 (1431655765), Cond.constant RJ6 266 (858993459), Cond.constant RJ6 267 (252645135)]
def wsX0_mean : List Cond := .code yX0_mean cX0_mean 2 (some .double) :: ((wsX0_mean_r1 ++ wsX0_mean_r2) ++ wsX00)
def wsX0_digestOfLine_r1 : List Cond := [Cond.constantLong RX0 124 (31), Cond.fieldLink RX0 16 "AbjadPoems" "sizes" "[I", Cond.methodLink RX0 94 yX0_figureOfLine, Cond.instanceMethod yX0_figureOfLine, Cond.selects RX0 yX0_figureOfLine yX0_figureOfLine, Cond.initialized RX0, Cond.code yX0_figureOfLine cX0_figureOfLine 5 (some .int), Cond.methodLink RX0 90 yX0_figureOfWord, Cond.instanceMethod yX0_figureOfWord, Cond.selects RX0 yX0_figureOfWord yX0_figureOfWord, Cond.code yX0_figureOfWord cX0_figureOfWord 4 (some .int), Cond.fieldLink RX0 22 "AbjadPoems" "words" "[[I", Cond.fieldLink RX0 25 "AbjadPoems" "marks" "[[I", Cond.methodLink RX0 78 yX0_lengthOf, Cond.static yX0_lengthOf, Cond.code yX0_lengthOf cX0_lengthOf 3 (some .int), Cond.methodLink RX0 55 yX0_worthOfPlaces, Cond.instanceMethod yX0_worthOfPlaces, Cond.selects RX0 yX0_worthOfPlaces yX0_worthOfPlaces, Cond.code yX0_worthOfPlaces cX0_worthOfPlaces 6 (some .int), Cond.methodLink RX0 83 yX0_isMarked, Cond.static yX0_isMarked, Cond.code yX0_isMarked cX0_isMarked 2 (some .boolean), Cond.methodLink RX0 47 yX0_worthOfLetter]
def wsX0_digestOfLine_r2 : List Cond := [Cond.instanceMethod yX0_worthOfLetter, Cond.selects RX0 yX0_worthOfLetter yX0_worthOfLetter, Cond.code yX0_worthOfLetter cX0_worthOfLetter 2 (some .int), Cond.fieldLink RX0 9 "AbjadPoems" "order" "I", Cond.methodLink RX0 151 yJ6_bitCount_0f7a4, Cond.static yJ6_bitCount_0f7a4, Cond.initialized RJ6, Cond.code yJ6_bitCount_0f7a4 cJ6_bitCount_0f7a4 1 (some .int), Cond.constant RJ6 265 (1431655765), Cond.constant RJ6 266 (858993459), Cond.constant RJ6 267 (252645135)]
def wsX0_digestOfLine : List Cond := .code yX0_digestOfLine cX0_digestOfLine 8 (some .long) :: ((wsX0_digestOfLine_r1 ++ wsX0_digestOfLine_r2) ++ wsX00)
def wsX0_digest_r1 : List Cond := [Cond.constantLong RX0 122 (1297), Cond.constantLong RX0 124 (31), Cond.fieldLink RX0 9 "AbjadPoems" "order" "I", Cond.fieldLink RX0 13 "AbjadPoems" "lines" "I", Cond.methodLink RX0 126 yX0_told, Cond.instanceMethod yX0_told, Cond.selects RX0 yX0_told yX0_told, Cond.initialized RX0, Cond.code yX0_told cX0_told 2 (some .int), Cond.methodLink RX0 87 yX0_checkWhat, Cond.static yX0_checkWhat, Cond.code yX0_checkWhat cX0_checkWhat 2 none, Cond.classLink RX0 38 "java/lang/IndexOutOfBoundsException", Cond.initialized "java/lang/IndexOutOfBoundsException", Cond.methodLink RX0 97 yX0_pairsOfSameWorth, Cond.instanceMethod yX0_pairsOfSameWorth, Cond.selects RX0 yX0_pairsOfSameWorth yX0_pairsOfSameWorth, Cond.code yX0_pairsOfSameWorth cX0_pairsOfSameWorth 6 (some .int), Cond.fieldLink RX0 16 "AbjadPoems" "sizes" "[I", Cond.fieldLink RX0 22 "AbjadPoems" "words" "[[I", Cond.fieldLink RX0 28 "AbjadPoems" "worths" "[I", Cond.methodLink RX0 55 yX0_worthOfPlaces, Cond.instanceMethod yX0_worthOfPlaces, Cond.selects RX0 yX0_worthOfPlaces yX0_worthOfPlaces]
def wsX0_digest_r2 : List Cond := [Cond.code yX0_worthOfPlaces cX0_worthOfPlaces 6 (some .int), Cond.methodLink RX0 78 yX0_lengthOf, Cond.static yX0_lengthOf, Cond.code yX0_lengthOf cX0_lengthOf 3 (some .int), Cond.methodLink RX0 83 yX0_isMarked, Cond.static yX0_isMarked, Cond.code yX0_isMarked cX0_isMarked 2 (some .boolean), Cond.methodLink RX0 47 yX0_worthOfLetter, Cond.instanceMethod yX0_worthOfLetter, Cond.selects RX0 yX0_worthOfLetter yX0_worthOfLetter, Cond.code yX0_worthOfLetter cX0_worthOfLetter 2 (some .int), Cond.methodLink RX0 156 yX0_timesAmongWorths, Cond.instanceMethod yX0_timesAmongWorths, Cond.selects RX0 yX0_timesAmongWorths yX0_timesAmongWorths, Cond.code yX0_timesAmongWorths cX0_timesAmongWorths 5 (some .int), Cond.methodLink RX0 101 yX0_sumOverLines, Cond.instanceMethod yX0_sumOverLines, Cond.selects RX0 yX0_sumOverLines yX0_sumOverLines, Cond.code yX0_sumOverLines cX0_sumOverLines 4 (some .int), Cond.methodLink RX0 94 yX0_figureOfLine, Cond.instanceMethod yX0_figureOfLine, Cond.selects RX0 yX0_figureOfLine yX0_figureOfLine, Cond.code yX0_figureOfLine cX0_figureOfLine 5 (some .int), Cond.methodLink RX0 90 yX0_figureOfWord]
def wsX0_digest_r3 : List Cond := [Cond.instanceMethod yX0_figureOfWord, Cond.selects RX0 yX0_figureOfWord yX0_figureOfWord, Cond.code yX0_figureOfWord cX0_figureOfWord 4 (some .int), Cond.fieldLink RX0 25 "AbjadPoems" "marks" "[[I", Cond.methodLink RX0 151 yJ6_bitCount_0f7a4, Cond.static yJ6_bitCount_0f7a4, Cond.initialized RJ6, Cond.code yJ6_bitCount_0f7a4 cJ6_bitCount_0f7a4 1 (some .int), Cond.constant RJ6 265 (1431655765), Cond.constant RJ6 266 (858993459), Cond.constant RJ6 267 (252645135), Cond.methodLink RX0 129 yX0_digestOfLine, Cond.instanceMethod yX0_digestOfLine, Cond.selects RX0 yX0_digestOfLine yX0_digestOfLine, Cond.code yX0_digestOfLine cX0_digestOfLine 8 (some .long)]
def wsX0_digest : List Cond := .code yX0_digest cX0_digest 4 (some .long) :: ((wsX0_digest_r1 ++ (wsX0_digest_r2 ++ wsX0_digest_r3)) ++ wsX00 ++ (vx_atS RX0 42 "java/lang/IndexOutOfBoundsException" ["java/lang/RuntimeException", "java/lang/Exception"]).filter goodWord)
def wsX1_init : List Cond := .code yX1_init cX1_init 1 none :: ([.methodLink RX1 1 objectInit, .instanceMethod objectInit, .code objectInit ⟨#[0xb1]⟩ 1 none, .arrayClass .int, .fieldLink RX1 9 "AbjadPoemsModel" "longs" "[I", .fieldLink RX1 13 "AbjadPoemsModel" "words" "[I", .arrayClass .boolean, .fieldLink RX1 16 "AbjadPoemsModel" "marks" "[Z"] ++ wsX10)
def wsX1_thrown : List Cond := .code yX1_thrown cX1_thrown 1 (some .int) :: ([.fieldLink RX1 20 "AbjadPoemsModel" "thrown" "I"] ++ wsX10)
def wsX1_fail : List Cond := .code yX1_fail cX1_fail 2 (some .int) :: ([.fieldLink RX1 20 "AbjadPoemsModel" "thrown" "I"] ++ wsX10)
def wsX1_isIn : List Cond := .code yX1_isIn cX1_isIn 3 (some .boolean) :: ([])
def wsX1_isLine : List Cond := .code yX1_isLine cX1_isLine 2 (some .boolean) :: ([.fieldLink RX1 24 "AbjadPoemsModel" "lines" "I", .methodLink RX1 27 yX1_isIn, .static yX1_isIn, .initialized RX1, .code yX1_isIn cX1_isIn 3 (some .boolean)] ++ wsX10)
def wsX1_count : List Cond := .code yX1_count cX1_count 3 (some .int) :: ([.fieldLink RX1 20 "AbjadPoemsModel" "thrown" "I", .fieldLink RX1 35 "AbjadPoemsModel" "order" "I", .methodLink RX1 27 yX1_isIn, .static yX1_isIn, .initialized RX1, .code yX1_isIn cX1_isIn 3 (some .boolean), .methodLink RX1 31 yX1_fail, .instanceMethod yX1_fail, .selects RX1 yX1_fail yX1_fail, .code yX1_fail cX1_fail 2 (some .int)] ++ wsX10)
def wsX1_valueOf : List Cond := .code yX1_valueOf cX1_valueOf 2 (some .int) :: ([.fieldLink RX1 35 "AbjadPoemsModel" "order" "I"] ++ wsX10)
def wsX1_letter : List Cond := .code yX1_letter cX1_letter 2 (some .int) :: ([.fieldLink RX1 20 "AbjadPoemsModel" "thrown" "I", .methodLink RX1 27 yX1_isIn, .static yX1_isIn, .initialized RX1, .code yX1_isIn cX1_isIn 3 (some .boolean), .methodLink RX1 38 yX1_valueOf, .instanceMethod yX1_valueOf, .selects RX1 yX1_valueOf yX1_valueOf, .code yX1_valueOf cX1_valueOf 2 (some .int), .fieldLink RX1 35 "AbjadPoemsModel" "order" "I", .methodLink RX1 31 yX1_fail, .instanceMethod yX1_fail, .selects RX1 yX1_fail yX1_fail, .code yX1_fail cX1_fail 2 (some .int)] ++ wsX10)
def wsX1_size : List Cond := .code yX1_size cX1_size 3 (some .int) :: ([])
def wsX1_isWord : List Cond := .code yX1_isWord cX1_isWord 2 (some .boolean) :: ([.methodLink RX1 41 yX1_size, .static yX1_size, .initialized RX1, .code yX1_size cX1_size 3 (some .int)])
def wsX1_at : List Cond := .code yX1_at cX1_at 4 (some .int) :: ([.methodLink RX1 41 yX1_size, .static yX1_size, .initialized RX1, .code yX1_size cX1_size 3 (some .int)])
def wsX1_sum : List Cond := .code yX1_sum cX1_sum 4 (some .int) :: ([.methodLink RX1 41 yX1_size, .static yX1_size, .initialized RX1, .code yX1_size cX1_size 3 (some .int), .methodLink RX1 44 yX1_at, .static yX1_at, .code yX1_at cX1_at 4 (some .int), .methodLink RX1 38 yX1_valueOf, .instanceMethod yX1_valueOf, .selects RX1 yX1_valueOf yX1_valueOf, .code yX1_valueOf cX1_valueOf 2 (some .int), .fieldLink RX1 35 "AbjadPoemsModel" "order" "I"] ++ wsX10)
def wsX1_value : List Cond := .code yX1_value cX1_value 2 (some .int) :: ([.fieldLink RX1 20 "AbjadPoemsModel" "thrown" "I", .methodLink RX1 48 yX1_isWord, .static yX1_isWord, .initialized RX1, .code yX1_isWord cX1_isWord 2 (some .boolean), .methodLink RX1 41 yX1_size, .static yX1_size, .code yX1_size cX1_size 3 (some .int), .methodLink RX1 52 yX1_sum, .instanceMethod yX1_sum, .selects RX1 yX1_sum yX1_sum, .code yX1_sum cX1_sum 4 (some .int), .methodLink RX1 44 yX1_at, .static yX1_at, .code yX1_at cX1_at 4 (some .int), .methodLink RX1 38 yX1_valueOf, .instanceMethod yX1_valueOf, .selects RX1 yX1_valueOf yX1_valueOf, .code yX1_valueOf cX1_valueOf 2 (some .int), .fieldLink RX1 35 "AbjadPoemsModel" "order" "I", .methodLink RX1 31 yX1_fail, .instanceMethod yX1_fail, .selects RX1 yX1_fail yX1_fail, .code yX1_fail cX1_fail 2 (some .int)] ++ wsX10)
def wsX1_often : List Cond := .code yX1_often cX1_often 4 (some .int) :: ([.methodLink RX1 41 yX1_size, .static yX1_size, .initialized RX1, .code yX1_size cX1_size 3 (some .int), .methodLink RX1 44 yX1_at, .static yX1_at, .code yX1_at cX1_at 4 (some .int)])
def wsX1_alike : List Cond := .code yX1_alike cX1_alike 5 (some .boolean) :: ([.fieldLink RX1 20 "AbjadPoemsModel" "thrown" "I", .methodLink RX1 48 yX1_isWord, .static yX1_isWord, .initialized RX1, .code yX1_isWord cX1_isWord 2 (some .boolean), .methodLink RX1 41 yX1_size, .static yX1_size, .code yX1_size cX1_size 3 (some .int), .methodLink RX1 55 yX1_often, .static yX1_often, .code yX1_often cX1_often 4 (some .int), .methodLink RX1 44 yX1_at, .static yX1_at, .code yX1_at cX1_at 4 (some .int)] ++ wsX10)
def wsX1_write : List Cond := .code yX1_write cX1_write 1 (some .int) :: ([.fieldLink RX1 20 "AbjadPoemsModel" "thrown" "I", .fieldLink RX1 24 "AbjadPoemsModel" "lines" "I", .methodLink RX1 31 yX1_fail, .instanceMethod yX1_fail, .selects RX1 yX1_fail yX1_fail, .initialized RX1, .code yX1_fail cX1_fail 2 (some .int)] ++ wsX10)
def wsX1_wo : List Cond := .code yX1_wo cX1_wo 3 (some .int) :: ([.fieldLink RX1 13 "AbjadPoemsModel" "words" "[I"] ++ wsX10)
def wsX1_base : List Cond := .code yX1_base cX1_base 3 (some .int) :: ([])
def wsX1_add_r1 : List Cond := [Cond.fieldLink RX1 20 "AbjadPoemsModel" "thrown" "I", Cond.fieldLink RX1 9 "AbjadPoemsModel" "longs" "[I", Cond.fieldLink RX1 13 "AbjadPoemsModel" "words" "[I", Cond.fieldLink RX1 16 "AbjadPoemsModel" "marks" "[Z", Cond.methodLink RX1 58 yX1_isLine, Cond.instanceMethod yX1_isLine, Cond.selects RX1 yX1_isLine yX1_isLine, Cond.initialized RX1, Cond.code yX1_isLine cX1_isLine 2 (some .boolean), Cond.fieldLink RX1 24 "AbjadPoemsModel" "lines" "I", Cond.methodLink RX1 27 yX1_isIn, Cond.static yX1_isIn, Cond.code yX1_isIn cX1_isIn 3 (some .boolean), Cond.methodLink RX1 31 yX1_fail, Cond.instanceMethod yX1_fail, Cond.selects RX1 yX1_fail yX1_fail, Cond.code yX1_fail cX1_fail 2 (some .int), Cond.methodLink RX1 48 yX1_isWord, Cond.static yX1_isWord, Cond.code yX1_isWord cX1_isWord 2 (some .boolean), Cond.methodLink RX1 41 yX1_size, Cond.static yX1_size, Cond.code yX1_size cX1_size 3 (some .int), Cond.methodLink RX1 61 yX1_base]
def wsX1_add_r2 : List Cond := [Cond.instanceMethod yX1_base, Cond.selects RX1 yX1_base yX1_base, Cond.code yX1_base cX1_base 3 (some .int)]
def wsX1_add : List Cond := .code yX1_add cX1_add 4 (some .int) :: ((wsX1_add_r1 ++ wsX1_add_r2) ++ wsX10)
def wsX1_cut : List Cond := .code yX1_cut cX1_cut 2 (some .int) :: ([.fieldLink RX1 20 "AbjadPoemsModel" "thrown" "I", .fieldLink RX1 9 "AbjadPoemsModel" "longs" "[I", .methodLink RX1 58 yX1_isLine, .instanceMethod yX1_isLine, .selects RX1 yX1_isLine yX1_isLine, .initialized RX1, .code yX1_isLine cX1_isLine 2 (some .boolean), .fieldLink RX1 24 "AbjadPoemsModel" "lines" "I", .methodLink RX1 27 yX1_isIn, .static yX1_isIn, .code yX1_isIn cX1_isIn 3 (some .boolean), .methodLink RX1 31 yX1_fail, .instanceMethod yX1_fail, .selects RX1 yX1_fail yX1_fail, .code yX1_fail cX1_fail 2 (some .int), .methodLink RX1 64 yX1_wo, .instanceMethod yX1_wo, .selects RX1 yX1_wo yX1_wo, .code yX1_wo cX1_wo 3 (some .int), .fieldLink RX1 13 "AbjadPoemsModel" "words" "[I"] ++ wsX10)
def wsX1_isOne : List Cond := .code yX1_isOne cX1_isOne 3 (some .boolean) :: ([.fieldLink RX1 9 "AbjadPoemsModel" "longs" "[I", .methodLink RX1 58 yX1_isLine, .instanceMethod yX1_isLine, .selects RX1 yX1_isLine yX1_isLine, .initialized RX1, .code yX1_isLine cX1_isLine 2 (some .boolean), .fieldLink RX1 24 "AbjadPoemsModel" "lines" "I", .methodLink RX1 27 yX1_isIn, .static yX1_isIn, .code yX1_isIn cX1_isIn 3 (some .boolean)] ++ wsX10)
def wsX1_mark_r1 : List Cond := [Cond.fieldLink RX1 20 "AbjadPoemsModel" "thrown" "I", Cond.fieldLink RX1 16 "AbjadPoemsModel" "marks" "[Z", Cond.methodLink RX1 67 yX1_isOne, Cond.instanceMethod yX1_isOne, Cond.selects RX1 yX1_isOne yX1_isOne, Cond.initialized RX1, Cond.code yX1_isOne cX1_isOne 3 (some .boolean), Cond.fieldLink RX1 9 "AbjadPoemsModel" "longs" "[I", Cond.methodLink RX1 58 yX1_isLine, Cond.instanceMethod yX1_isLine, Cond.selects RX1 yX1_isLine yX1_isLine, Cond.code yX1_isLine cX1_isLine 2 (some .boolean), Cond.fieldLink RX1 24 "AbjadPoemsModel" "lines" "I", Cond.methodLink RX1 27 yX1_isIn, Cond.static yX1_isIn, Cond.code yX1_isIn cX1_isIn 3 (some .boolean), Cond.methodLink RX1 64 yX1_wo, Cond.instanceMethod yX1_wo, Cond.selects RX1 yX1_wo yX1_wo, Cond.code yX1_wo cX1_wo 3 (some .int), Cond.fieldLink RX1 13 "AbjadPoemsModel" "words" "[I", Cond.methodLink RX1 41 yX1_size, Cond.static yX1_size, Cond.code yX1_size cX1_size 3 (some .int)]
def wsX1_mark_r2 : List Cond := [Cond.methodLink RX1 61 yX1_base, Cond.instanceMethod yX1_base, Cond.selects RX1 yX1_base yX1_base, Cond.code yX1_base cX1_base 3 (some .int)]
def wsX1_mark : List Cond := .code yX1_mark cX1_mark 5 (some .boolean) :: ((wsX1_mark_r1 ++ wsX1_mark_r2) ++ wsX10)
def wsX1_wordTold_r1 : List Cond := [Cond.fieldLink RX1 16 "AbjadPoemsModel" "marks" "[Z", Cond.methodLink RX1 64 yX1_wo, Cond.instanceMethod yX1_wo, Cond.selects RX1 yX1_wo yX1_wo, Cond.initialized RX1, Cond.code yX1_wo cX1_wo 3 (some .int), Cond.fieldLink RX1 13 "AbjadPoemsModel" "words" "[I", Cond.methodLink RX1 41 yX1_size, Cond.static yX1_size, Cond.code yX1_size cX1_size 3 (some .int), Cond.methodLink RX1 52 yX1_sum, Cond.instanceMethod yX1_sum, Cond.selects RX1 yX1_sum yX1_sum, Cond.code yX1_sum cX1_sum 4 (some .int), Cond.methodLink RX1 44 yX1_at, Cond.static yX1_at, Cond.code yX1_at cX1_at 4 (some .int), Cond.methodLink RX1 38 yX1_valueOf, Cond.instanceMethod yX1_valueOf, Cond.selects RX1 yX1_valueOf yX1_valueOf, Cond.code yX1_valueOf cX1_valueOf 2 (some .int), Cond.fieldLink RX1 35 "AbjadPoemsModel" "order" "I", Cond.methodLink RX1 61 yX1_base, Cond.instanceMethod yX1_base]
def wsX1_wordTold_r2 : List Cond := [Cond.selects RX1 yX1_base yX1_base, Cond.code yX1_base cX1_base 3 (some .int)]
def wsX1_wordTold : List Cond := .code yX1_wordTold cX1_wordTold 7 (some .int) :: ((wsX1_wordTold_r1 ++ wsX1_wordTold_r2) ++ wsX10)
def wsX1_word_r1 : List Cond := [Cond.fieldLink RX1 20 "AbjadPoemsModel" "thrown" "I", Cond.methodLink RX1 67 yX1_isOne, Cond.instanceMethod yX1_isOne, Cond.selects RX1 yX1_isOne yX1_isOne, Cond.initialized RX1, Cond.code yX1_isOne cX1_isOne 3 (some .boolean), Cond.fieldLink RX1 9 "AbjadPoemsModel" "longs" "[I", Cond.methodLink RX1 58 yX1_isLine, Cond.instanceMethod yX1_isLine, Cond.selects RX1 yX1_isLine yX1_isLine, Cond.code yX1_isLine cX1_isLine 2 (some .boolean), Cond.fieldLink RX1 24 "AbjadPoemsModel" "lines" "I", Cond.methodLink RX1 27 yX1_isIn, Cond.static yX1_isIn, Cond.code yX1_isIn cX1_isIn 3 (some .boolean), Cond.methodLink RX1 71 yX1_wordTold, Cond.instanceMethod yX1_wordTold, Cond.selects RX1 yX1_wordTold yX1_wordTold, Cond.code yX1_wordTold cX1_wordTold 7 (some .int), Cond.fieldLink RX1 16 "AbjadPoemsModel" "marks" "[Z", Cond.methodLink RX1 64 yX1_wo, Cond.instanceMethod yX1_wo, Cond.selects RX1 yX1_wo yX1_wo, Cond.code yX1_wo cX1_wo 3 (some .int)]
def wsX1_word_r2 : List Cond := [Cond.fieldLink RX1 13 "AbjadPoemsModel" "words" "[I", Cond.methodLink RX1 41 yX1_size, Cond.static yX1_size, Cond.code yX1_size cX1_size 3 (some .int), Cond.methodLink RX1 52 yX1_sum, Cond.instanceMethod yX1_sum, Cond.selects RX1 yX1_sum yX1_sum, Cond.code yX1_sum cX1_sum 4 (some .int), Cond.methodLink RX1 44 yX1_at, Cond.static yX1_at, Cond.code yX1_at cX1_at 4 (some .int), Cond.methodLink RX1 38 yX1_valueOf, Cond.instanceMethod yX1_valueOf, Cond.selects RX1 yX1_valueOf yX1_valueOf, Cond.code yX1_valueOf cX1_valueOf 2 (some .int), Cond.fieldLink RX1 35 "AbjadPoemsModel" "order" "I", Cond.methodLink RX1 61 yX1_base, Cond.instanceMethod yX1_base, Cond.selects RX1 yX1_base yX1_base, Cond.code yX1_base cX1_base 3 (some .int), Cond.methodLink RX1 31 yX1_fail, Cond.instanceMethod yX1_fail, Cond.selects RX1 yX1_fail yX1_fail, Cond.code yX1_fail cX1_fail 2 (some .int)]
def wsX1_word : List Cond := .code yX1_word cX1_word 4 (some .int) :: ((wsX1_word_r1 ++ wsX1_word_r2) ++ wsX10)
def wsX1_lineTold_r1 : List Cond := [Cond.fieldLink RX1 9 "AbjadPoemsModel" "longs" "[I", Cond.methodLink RX1 71 yX1_wordTold, Cond.instanceMethod yX1_wordTold, Cond.selects RX1 yX1_wordTold yX1_wordTold, Cond.initialized RX1, Cond.code yX1_wordTold cX1_wordTold 7 (some .int), Cond.fieldLink RX1 16 "AbjadPoemsModel" "marks" "[Z", Cond.methodLink RX1 64 yX1_wo, Cond.instanceMethod yX1_wo, Cond.selects RX1 yX1_wo yX1_wo, Cond.code yX1_wo cX1_wo 3 (some .int), Cond.fieldLink RX1 13 "AbjadPoemsModel" "words" "[I", Cond.methodLink RX1 41 yX1_size, Cond.static yX1_size, Cond.code yX1_size cX1_size 3 (some .int), Cond.methodLink RX1 52 yX1_sum, Cond.instanceMethod yX1_sum, Cond.selects RX1 yX1_sum yX1_sum, Cond.code yX1_sum cX1_sum 4 (some .int), Cond.methodLink RX1 44 yX1_at, Cond.static yX1_at, Cond.code yX1_at cX1_at 4 (some .int), Cond.methodLink RX1 38 yX1_valueOf, Cond.instanceMethod yX1_valueOf]
def wsX1_lineTold_r2 : List Cond := [Cond.selects RX1 yX1_valueOf yX1_valueOf, Cond.code yX1_valueOf cX1_valueOf 2 (some .int), Cond.fieldLink RX1 35 "AbjadPoemsModel" "order" "I", Cond.methodLink RX1 61 yX1_base, Cond.instanceMethod yX1_base, Cond.selects RX1 yX1_base yX1_base, Cond.code yX1_base cX1_base 3 (some .int)]
def wsX1_lineTold : List Cond := .code yX1_lineTold cX1_lineTold 5 (some .int) :: ((wsX1_lineTold_r1 ++ wsX1_lineTold_r2) ++ wsX10)
def wsX1_line_r1 : List Cond := [Cond.fieldLink RX1 20 "AbjadPoemsModel" "thrown" "I", Cond.methodLink RX1 58 yX1_isLine, Cond.instanceMethod yX1_isLine, Cond.selects RX1 yX1_isLine yX1_isLine, Cond.initialized RX1, Cond.code yX1_isLine cX1_isLine 2 (some .boolean), Cond.fieldLink RX1 24 "AbjadPoemsModel" "lines" "I", Cond.methodLink RX1 27 yX1_isIn, Cond.static yX1_isIn, Cond.code yX1_isIn cX1_isIn 3 (some .boolean), Cond.methodLink RX1 75 yX1_lineTold, Cond.instanceMethod yX1_lineTold, Cond.selects RX1 yX1_lineTold yX1_lineTold, Cond.code yX1_lineTold cX1_lineTold 5 (some .int), Cond.fieldLink RX1 9 "AbjadPoemsModel" "longs" "[I", Cond.methodLink RX1 71 yX1_wordTold, Cond.instanceMethod yX1_wordTold, Cond.selects RX1 yX1_wordTold yX1_wordTold, Cond.code yX1_wordTold cX1_wordTold 7 (some .int), Cond.fieldLink RX1 16 "AbjadPoemsModel" "marks" "[Z", Cond.methodLink RX1 64 yX1_wo, Cond.instanceMethod yX1_wo, Cond.selects RX1 yX1_wo yX1_wo, Cond.code yX1_wo cX1_wo 3 (some .int)]
def wsX1_line_r2 : List Cond := [Cond.fieldLink RX1 13 "AbjadPoemsModel" "words" "[I", Cond.methodLink RX1 41 yX1_size, Cond.static yX1_size, Cond.code yX1_size cX1_size 3 (some .int), Cond.methodLink RX1 52 yX1_sum, Cond.instanceMethod yX1_sum, Cond.selects RX1 yX1_sum yX1_sum, Cond.code yX1_sum cX1_sum 4 (some .int), Cond.methodLink RX1 44 yX1_at, Cond.static yX1_at, Cond.code yX1_at cX1_at 4 (some .int), Cond.methodLink RX1 38 yX1_valueOf, Cond.instanceMethod yX1_valueOf, Cond.selects RX1 yX1_valueOf yX1_valueOf, Cond.code yX1_valueOf cX1_valueOf 2 (some .int), Cond.fieldLink RX1 35 "AbjadPoemsModel" "order" "I", Cond.methodLink RX1 61 yX1_base, Cond.instanceMethod yX1_base, Cond.selects RX1 yX1_base yX1_base, Cond.code yX1_base cX1_base 3 (some .int), Cond.methodLink RX1 31 yX1_fail, Cond.instanceMethod yX1_fail, Cond.selects RX1 yX1_fail yX1_fail, Cond.code yX1_fail cX1_fail 2 (some .int)]
def wsX1_line : List Cond := .code yX1_line cX1_line 3 (some .int) :: ((wsX1_line_r1 ++ wsX1_line_r2) ++ wsX10)
def wsX1_all_r1 : List Cond := [Cond.fieldLink RX1 24 "AbjadPoemsModel" "lines" "I", Cond.methodLink RX1 75 yX1_lineTold, Cond.instanceMethod yX1_lineTold, Cond.selects RX1 yX1_lineTold yX1_lineTold, Cond.initialized RX1, Cond.code yX1_lineTold cX1_lineTold 5 (some .int), Cond.fieldLink RX1 9 "AbjadPoemsModel" "longs" "[I", Cond.methodLink RX1 71 yX1_wordTold, Cond.instanceMethod yX1_wordTold, Cond.selects RX1 yX1_wordTold yX1_wordTold, Cond.code yX1_wordTold cX1_wordTold 7 (some .int), Cond.fieldLink RX1 16 "AbjadPoemsModel" "marks" "[Z", Cond.methodLink RX1 64 yX1_wo, Cond.instanceMethod yX1_wo, Cond.selects RX1 yX1_wo yX1_wo, Cond.code yX1_wo cX1_wo 3 (some .int), Cond.fieldLink RX1 13 "AbjadPoemsModel" "words" "[I", Cond.methodLink RX1 41 yX1_size, Cond.static yX1_size, Cond.code yX1_size cX1_size 3 (some .int), Cond.methodLink RX1 52 yX1_sum, Cond.instanceMethod yX1_sum, Cond.selects RX1 yX1_sum yX1_sum, Cond.code yX1_sum cX1_sum 4 (some .int)]
def wsX1_all_r2 : List Cond := [Cond.methodLink RX1 44 yX1_at, Cond.static yX1_at, Cond.code yX1_at cX1_at 4 (some .int), Cond.methodLink RX1 38 yX1_valueOf, Cond.instanceMethod yX1_valueOf, Cond.selects RX1 yX1_valueOf yX1_valueOf, Cond.code yX1_valueOf cX1_valueOf 2 (some .int), Cond.fieldLink RX1 35 "AbjadPoemsModel" "order" "I", Cond.methodLink RX1 61 yX1_base, Cond.instanceMethod yX1_base, Cond.selects RX1 yX1_base yX1_base, Cond.code yX1_base cX1_base 3 (some .int)]
def wsX1_all : List Cond := .code yX1_all cX1_all 4 (some .int) :: ((wsX1_all_r1 ++ wsX1_all_r2) ++ wsX10)
def wsX1_pairs_r1 : List Cond := [Cond.fieldLink RX1 24 "AbjadPoemsModel" "lines" "I", Cond.fieldLink RX1 13 "AbjadPoemsModel" "words" "[I", Cond.methodLink RX1 67 yX1_isOne, Cond.instanceMethod yX1_isOne, Cond.selects RX1 yX1_isOne yX1_isOne, Cond.initialized RX1, Cond.code yX1_isOne cX1_isOne 3 (some .boolean), Cond.fieldLink RX1 9 "AbjadPoemsModel" "longs" "[I", Cond.methodLink RX1 58 yX1_isLine, Cond.instanceMethod yX1_isLine, Cond.selects RX1 yX1_isLine yX1_isLine, Cond.code yX1_isLine cX1_isLine 2 (some .boolean), Cond.methodLink RX1 27 yX1_isIn, Cond.static yX1_isIn, Cond.code yX1_isIn cX1_isIn 3 (some .boolean), Cond.methodLink RX1 52 yX1_sum, Cond.instanceMethod yX1_sum, Cond.selects RX1 yX1_sum yX1_sum, Cond.code yX1_sum cX1_sum 4 (some .int), Cond.methodLink RX1 41 yX1_size, Cond.static yX1_size, Cond.code yX1_size cX1_size 3 (some .int), Cond.methodLink RX1 44 yX1_at, Cond.static yX1_at]
def wsX1_pairs_r2 : List Cond := [Cond.code yX1_at cX1_at 4 (some .int), Cond.methodLink RX1 38 yX1_valueOf, Cond.instanceMethod yX1_valueOf, Cond.selects RX1 yX1_valueOf yX1_valueOf, Cond.code yX1_valueOf cX1_valueOf 2 (some .int), Cond.fieldLink RX1 35 "AbjadPoemsModel" "order" "I"]
def wsX1_pairs : List Cond := .code yX1_pairs cX1_pairs 4 (some .int) :: ((wsX1_pairs_r1 ++ wsX1_pairs_r2) ++ wsX10)
def wsX1_toldOf_r1 : List Cond := [Cond.fieldLink RX1 24 "AbjadPoemsModel" "lines" "I", Cond.methodLink RX1 78 yX1_pairs, Cond.instanceMethod yX1_pairs, Cond.selects RX1 yX1_pairs yX1_pairs, Cond.initialized RX1, Cond.code yX1_pairs cX1_pairs 4 (some .int), Cond.fieldLink RX1 13 "AbjadPoemsModel" "words" "[I", Cond.methodLink RX1 67 yX1_isOne, Cond.instanceMethod yX1_isOne, Cond.selects RX1 yX1_isOne yX1_isOne, Cond.code yX1_isOne cX1_isOne 3 (some .boolean), Cond.fieldLink RX1 9 "AbjadPoemsModel" "longs" "[I", Cond.methodLink RX1 58 yX1_isLine, Cond.instanceMethod yX1_isLine, Cond.selects RX1 yX1_isLine yX1_isLine, Cond.code yX1_isLine cX1_isLine 2 (some .boolean), Cond.methodLink RX1 27 yX1_isIn, Cond.static yX1_isIn, Cond.code yX1_isIn cX1_isIn 3 (some .boolean), Cond.methodLink RX1 52 yX1_sum, Cond.instanceMethod yX1_sum, Cond.selects RX1 yX1_sum yX1_sum, Cond.code yX1_sum cX1_sum 4 (some .int), Cond.methodLink RX1 41 yX1_size]
def wsX1_toldOf_r2 : List Cond := [Cond.static yX1_size, Cond.code yX1_size cX1_size 3 (some .int), Cond.methodLink RX1 44 yX1_at, Cond.static yX1_at, Cond.code yX1_at cX1_at 4 (some .int), Cond.methodLink RX1 38 yX1_valueOf, Cond.instanceMethod yX1_valueOf, Cond.selects RX1 yX1_valueOf yX1_valueOf, Cond.code yX1_valueOf cX1_valueOf 2 (some .int), Cond.fieldLink RX1 35 "AbjadPoemsModel" "order" "I", Cond.methodLink RX1 82 yX1_all, Cond.instanceMethod yX1_all, Cond.selects RX1 yX1_all yX1_all, Cond.code yX1_all cX1_all 4 (some .int), Cond.methodLink RX1 75 yX1_lineTold, Cond.instanceMethod yX1_lineTold, Cond.selects RX1 yX1_lineTold yX1_lineTold, Cond.code yX1_lineTold cX1_lineTold 5 (some .int), Cond.methodLink RX1 71 yX1_wordTold, Cond.instanceMethod yX1_wordTold, Cond.selects RX1 yX1_wordTold yX1_wordTold, Cond.code yX1_wordTold cX1_wordTold 7 (some .int), Cond.fieldLink RX1 16 "AbjadPoemsModel" "marks" "[Z", Cond.methodLink RX1 64 yX1_wo]
def wsX1_toldOf_r3 : List Cond := [Cond.instanceMethod yX1_wo, Cond.selects RX1 yX1_wo yX1_wo, Cond.code yX1_wo cX1_wo 3 (some .int), Cond.methodLink RX1 61 yX1_base, Cond.instanceMethod yX1_base, Cond.selects RX1 yX1_base yX1_base, Cond.code yX1_base cX1_base 3 (some .int)]
def wsX1_toldOf : List Cond := .code yX1_toldOf cX1_toldOf 2 (some .int) :: ((wsX1_toldOf_r1 ++ (wsX1_toldOf_r2 ++ wsX1_toldOf_r3)) ++ wsX10)
def wsX1_told_r1 : List Cond := [Cond.fieldLink RX1 20 "AbjadPoemsModel" "thrown" "I", Cond.methodLink RX1 27 yX1_isIn, Cond.static yX1_isIn, Cond.initialized RX1, Cond.code yX1_isIn cX1_isIn 3 (some .boolean), Cond.methodLink RX1 85 yX1_toldOf, Cond.instanceMethod yX1_toldOf, Cond.selects RX1 yX1_toldOf yX1_toldOf, Cond.code yX1_toldOf cX1_toldOf 2 (some .int), Cond.fieldLink RX1 24 "AbjadPoemsModel" "lines" "I", Cond.methodLink RX1 78 yX1_pairs, Cond.instanceMethod yX1_pairs, Cond.selects RX1 yX1_pairs yX1_pairs, Cond.code yX1_pairs cX1_pairs 4 (some .int), Cond.fieldLink RX1 13 "AbjadPoemsModel" "words" "[I", Cond.methodLink RX1 67 yX1_isOne, Cond.instanceMethod yX1_isOne, Cond.selects RX1 yX1_isOne yX1_isOne, Cond.code yX1_isOne cX1_isOne 3 (some .boolean), Cond.fieldLink RX1 9 "AbjadPoemsModel" "longs" "[I", Cond.methodLink RX1 58 yX1_isLine, Cond.instanceMethod yX1_isLine, Cond.selects RX1 yX1_isLine yX1_isLine, Cond.code yX1_isLine cX1_isLine 2 (some .boolean)]
def wsX1_told_r2 : List Cond := [Cond.methodLink RX1 52 yX1_sum, Cond.instanceMethod yX1_sum, Cond.selects RX1 yX1_sum yX1_sum, Cond.code yX1_sum cX1_sum 4 (some .int), Cond.methodLink RX1 41 yX1_size, Cond.static yX1_size, Cond.code yX1_size cX1_size 3 (some .int), Cond.methodLink RX1 44 yX1_at, Cond.static yX1_at, Cond.code yX1_at cX1_at 4 (some .int), Cond.methodLink RX1 38 yX1_valueOf, Cond.instanceMethod yX1_valueOf, Cond.selects RX1 yX1_valueOf yX1_valueOf, Cond.code yX1_valueOf cX1_valueOf 2 (some .int), Cond.fieldLink RX1 35 "AbjadPoemsModel" "order" "I", Cond.methodLink RX1 82 yX1_all, Cond.instanceMethod yX1_all, Cond.selects RX1 yX1_all yX1_all, Cond.code yX1_all cX1_all 4 (some .int), Cond.methodLink RX1 75 yX1_lineTold, Cond.instanceMethod yX1_lineTold, Cond.selects RX1 yX1_lineTold yX1_lineTold, Cond.code yX1_lineTold cX1_lineTold 5 (some .int), Cond.methodLink RX1 71 yX1_wordTold]
def wsX1_told_r3 : List Cond := [Cond.instanceMethod yX1_wordTold, Cond.selects RX1 yX1_wordTold yX1_wordTold, Cond.code yX1_wordTold cX1_wordTold 7 (some .int), Cond.fieldLink RX1 16 "AbjadPoemsModel" "marks" "[Z", Cond.methodLink RX1 64 yX1_wo, Cond.instanceMethod yX1_wo, Cond.selects RX1 yX1_wo yX1_wo, Cond.code yX1_wo cX1_wo 3 (some .int), Cond.methodLink RX1 61 yX1_base, Cond.instanceMethod yX1_base, Cond.selects RX1 yX1_base yX1_base, Cond.code yX1_base cX1_base 3 (some .int), Cond.methodLink RX1 31 yX1_fail, Cond.instanceMethod yX1_fail, Cond.selects RX1 yX1_fail yX1_fail, Cond.code yX1_fail cX1_fail 2 (some .int)]
def wsX1_told : List Cond := .code yX1_told cX1_told 2 (some .int) :: ((wsX1_told_r1 ++ (wsX1_told_r2 ++ wsX1_told_r3)) ++ wsX10)
def wsX1_runTo : List Cond := .code yX1_runTo cX1_runTo 6 (some .int) :: ([.fieldLink RX1 9 "AbjadPoemsModel" "longs" "[I", .methodLink RX1 64 yX1_wo, .instanceMethod yX1_wo, .selects RX1 yX1_wo yX1_wo, .initialized RX1, .code yX1_wo cX1_wo 3 (some .int), .fieldLink RX1 13 "AbjadPoemsModel" "words" "[I", .methodLink RX1 52 yX1_sum, .instanceMethod yX1_sum, .selects RX1 yX1_sum yX1_sum, .code yX1_sum cX1_sum 4 (some .int), .methodLink RX1 41 yX1_size, .static yX1_size, .code yX1_size cX1_size 3 (some .int), .methodLink RX1 44 yX1_at, .static yX1_at, .code yX1_at cX1_at 4 (some .int), .methodLink RX1 38 yX1_valueOf, .instanceMethod yX1_valueOf, .selects RX1 yX1_valueOf yX1_valueOf, .code yX1_valueOf cX1_valueOf 2 (some .int), .fieldLink RX1 35 "AbjadPoemsModel" "order" "I"] ++ wsX10)
def wsX1_hidden_r1 : List Cond := [Cond.fieldLink RX1 20 "AbjadPoemsModel" "thrown" "I", Cond.fieldLink RX1 9 "AbjadPoemsModel" "longs" "[I", Cond.methodLink RX1 58 yX1_isLine, Cond.instanceMethod yX1_isLine, Cond.selects RX1 yX1_isLine yX1_isLine, Cond.initialized RX1, Cond.code yX1_isLine cX1_isLine 2 (some .boolean), Cond.fieldLink RX1 24 "AbjadPoemsModel" "lines" "I", Cond.methodLink RX1 27 yX1_isIn, Cond.static yX1_isIn, Cond.code yX1_isIn cX1_isIn 3 (some .boolean), Cond.methodLink RX1 31 yX1_fail, Cond.instanceMethod yX1_fail, Cond.selects RX1 yX1_fail yX1_fail, Cond.code yX1_fail cX1_fail 2 (some .int), Cond.methodLink RX1 88 yX1_runTo, Cond.instanceMethod yX1_runTo, Cond.selects RX1 yX1_runTo yX1_runTo, Cond.code yX1_runTo cX1_runTo 6 (some .int), Cond.methodLink RX1 64 yX1_wo, Cond.instanceMethod yX1_wo, Cond.selects RX1 yX1_wo yX1_wo, Cond.code yX1_wo cX1_wo 3 (some .int), Cond.fieldLink RX1 13 "AbjadPoemsModel" "words" "[I"]
def wsX1_hidden_r2 : List Cond := [Cond.methodLink RX1 52 yX1_sum, Cond.instanceMethod yX1_sum, Cond.selects RX1 yX1_sum yX1_sum, Cond.code yX1_sum cX1_sum 4 (some .int), Cond.methodLink RX1 41 yX1_size, Cond.static yX1_size, Cond.code yX1_size cX1_size 3 (some .int), Cond.methodLink RX1 44 yX1_at, Cond.static yX1_at, Cond.code yX1_at cX1_at 4 (some .int), Cond.methodLink RX1 38 yX1_valueOf, Cond.instanceMethod yX1_valueOf, Cond.selects RX1 yX1_valueOf yX1_valueOf, Cond.code yX1_valueOf cX1_valueOf 2 (some .int), Cond.fieldLink RX1 35 "AbjadPoemsModel" "order" "I"]
def wsX1_hidden : List Cond := .code yX1_hidden cX1_hidden 4 (some .int) :: ((wsX1_hidden_r1 ++ wsX1_hidden_r2) ++ wsX10)
def wsX1_hides_r1 : List Cond := [Cond.fieldLink RX1 20 "AbjadPoemsModel" "thrown" "I", Cond.fieldLink RX1 24 "AbjadPoemsModel" "lines" "I", Cond.fieldLink RX1 9 "AbjadPoemsModel" "longs" "[I", Cond.methodLink RX1 88 yX1_runTo, Cond.instanceMethod yX1_runTo, Cond.selects RX1 yX1_runTo yX1_runTo, Cond.initialized RX1, Cond.code yX1_runTo cX1_runTo 6 (some .int), Cond.methodLink RX1 64 yX1_wo, Cond.instanceMethod yX1_wo, Cond.selects RX1 yX1_wo yX1_wo, Cond.code yX1_wo cX1_wo 3 (some .int), Cond.fieldLink RX1 13 "AbjadPoemsModel" "words" "[I", Cond.methodLink RX1 52 yX1_sum, Cond.instanceMethod yX1_sum, Cond.selects RX1 yX1_sum yX1_sum, Cond.code yX1_sum cX1_sum 4 (some .int), Cond.methodLink RX1 41 yX1_size, Cond.static yX1_size, Cond.code yX1_size cX1_size 3 (some .int), Cond.methodLink RX1 44 yX1_at, Cond.static yX1_at, Cond.code yX1_at cX1_at 4 (some .int), Cond.methodLink RX1 38 yX1_valueOf]
def wsX1_hides_r2 : List Cond := [Cond.instanceMethod yX1_valueOf, Cond.selects RX1 yX1_valueOf yX1_valueOf, Cond.code yX1_valueOf cX1_valueOf 2 (some .int), Cond.fieldLink RX1 35 "AbjadPoemsModel" "order" "I"]
def wsX1_hides : List Cond := .code yX1_hides cX1_hides 5 (some .int) :: ((wsX1_hides_r1 ++ wsX1_hides_r2) ++ wsX10)
def wsX1_lacks_r1 : List Cond := [Cond.fieldLink RX1 20 "AbjadPoemsModel" "thrown" "I", Cond.methodLink RX1 58 yX1_isLine, Cond.instanceMethod yX1_isLine, Cond.selects RX1 yX1_isLine yX1_isLine, Cond.initialized RX1, Cond.code yX1_isLine cX1_isLine 2 (some .boolean), Cond.fieldLink RX1 24 "AbjadPoemsModel" "lines" "I", Cond.methodLink RX1 27 yX1_isIn, Cond.static yX1_isIn, Cond.code yX1_isIn cX1_isIn 3 (some .boolean), Cond.methodLink RX1 31 yX1_fail, Cond.instanceMethod yX1_fail, Cond.selects RX1 yX1_fail yX1_fail, Cond.code yX1_fail cX1_fail 2 (some .int), Cond.methodLink RX1 75 yX1_lineTold, Cond.instanceMethod yX1_lineTold, Cond.selects RX1 yX1_lineTold yX1_lineTold, Cond.code yX1_lineTold cX1_lineTold 5 (some .int), Cond.fieldLink RX1 9 "AbjadPoemsModel" "longs" "[I", Cond.methodLink RX1 71 yX1_wordTold, Cond.instanceMethod yX1_wordTold, Cond.selects RX1 yX1_wordTold yX1_wordTold, Cond.code yX1_wordTold cX1_wordTold 7 (some .int), Cond.fieldLink RX1 16 "AbjadPoemsModel" "marks" "[Z"]
def wsX1_lacks_r2 : List Cond := [Cond.methodLink RX1 64 yX1_wo, Cond.instanceMethod yX1_wo, Cond.selects RX1 yX1_wo yX1_wo, Cond.code yX1_wo cX1_wo 3 (some .int), Cond.fieldLink RX1 13 "AbjadPoemsModel" "words" "[I", Cond.methodLink RX1 41 yX1_size, Cond.static yX1_size, Cond.code yX1_size cX1_size 3 (some .int), Cond.methodLink RX1 52 yX1_sum, Cond.instanceMethod yX1_sum, Cond.selects RX1 yX1_sum yX1_sum, Cond.code yX1_sum cX1_sum 4 (some .int), Cond.methodLink RX1 44 yX1_at, Cond.static yX1_at, Cond.code yX1_at cX1_at 4 (some .int), Cond.methodLink RX1 38 yX1_valueOf, Cond.instanceMethod yX1_valueOf, Cond.selects RX1 yX1_valueOf yX1_valueOf, Cond.code yX1_valueOf cX1_valueOf 2 (some .int), Cond.fieldLink RX1 35 "AbjadPoemsModel" "order" "I", Cond.methodLink RX1 61 yX1_base, Cond.instanceMethod yX1_base, Cond.selects RX1 yX1_base yX1_base, Cond.code yX1_base cX1_base 3 (some .int)]
def wsX1_lacks : List Cond := .code yX1_lacks cX1_lacks 4 (some .int) :: ((wsX1_lacks_r1 ++ wsX1_lacks_r2) ++ wsX10)
def wsX1_nearest_r1 : List Cond := [Cond.fieldLink RX1 20 "AbjadPoemsModel" "thrown" "I", Cond.fieldLink RX1 24 "AbjadPoemsModel" "lines" "I", Cond.methodLink RX1 91 Lib.MathLoose.abs_long.x, Cond.static Lib.MathLoose.abs_long.x, Cond.initialized "java/lang/Math", Cond.code Lib.MathLoose.abs_long.x Lib.MathLoose.abs_long.code 2 (some .long), Cond.methodLink RX1 75 yX1_lineTold, Cond.instanceMethod yX1_lineTold, Cond.selects RX1 yX1_lineTold yX1_lineTold, Cond.initialized RX1, Cond.code yX1_lineTold cX1_lineTold 5 (some .int), Cond.fieldLink RX1 9 "AbjadPoemsModel" "longs" "[I", Cond.methodLink RX1 71 yX1_wordTold, Cond.instanceMethod yX1_wordTold, Cond.selects RX1 yX1_wordTold yX1_wordTold, Cond.code yX1_wordTold cX1_wordTold 7 (some .int), Cond.fieldLink RX1 16 "AbjadPoemsModel" "marks" "[Z", Cond.methodLink RX1 64 yX1_wo, Cond.instanceMethod yX1_wo, Cond.selects RX1 yX1_wo yX1_wo, Cond.code yX1_wo cX1_wo 3 (some .int), Cond.fieldLink RX1 13 "AbjadPoemsModel" "words" "[I", Cond.methodLink RX1 41 yX1_size, Cond.static yX1_size]
def wsX1_nearest_r2 : List Cond := [Cond.code yX1_size cX1_size 3 (some .int), Cond.methodLink RX1 52 yX1_sum, Cond.instanceMethod yX1_sum, Cond.selects RX1 yX1_sum yX1_sum, Cond.code yX1_sum cX1_sum 4 (some .int), Cond.methodLink RX1 44 yX1_at, Cond.static yX1_at, Cond.code yX1_at cX1_at 4 (some .int), Cond.methodLink RX1 38 yX1_valueOf, Cond.instanceMethod yX1_valueOf, Cond.selects RX1 yX1_valueOf yX1_valueOf, Cond.code yX1_valueOf cX1_valueOf 2 (some .int), Cond.fieldLink RX1 35 "AbjadPoemsModel" "order" "I", Cond.methodLink RX1 61 yX1_base, Cond.instanceMethod yX1_base, Cond.selects RX1 yX1_base yX1_base, Cond.code yX1_base cX1_base 3 (some .int)]
def wsX1_nearest : List Cond := .code yX1_nearest cX1_nearest 4 (some .int) :: ((wsX1_nearest_r1 ++ wsX1_nearest_r2) ++ wsX10)
def wsX1_fewest : List Cond := .code yX1_fewest cX1_fewest 5 (some (.array .int)) :: ([.arrayClass .int, .methodLink RX1 97 Lib.Math.min.name, .static Lib.Math.min.name, .initialized "java/lang/Math", .code Lib.Math.min.name Lib.Math.min.code 2 (some .int), .methodLink RX1 38 yX1_valueOf, .instanceMethod yX1_valueOf, .selects RX1 yX1_valueOf yX1_valueOf, .initialized RX1, .code yX1_valueOf cX1_valueOf 2 (some .int), .fieldLink RX1 35 "AbjadPoemsModel" "order" "I"] ++ wsX10)
def wsX1_letters : List Cond := .code yX1_letters cX1_letters 3 (some .int) :: ([.fieldLink RX1 20 "AbjadPoemsModel" "thrown" "I", .methodLink RX1 27 yX1_isIn, .static yX1_isIn, .initialized RX1, .code yX1_isIn cX1_isIn 3 (some .boolean), .methodLink RX1 31 yX1_fail, .instanceMethod yX1_fail, .selects RX1 yX1_fail yX1_fail, .code yX1_fail cX1_fail 2 (some .int), .methodLink RX1 100 yX1_fewest, .instanceMethod yX1_fewest, .selects RX1 yX1_fewest yX1_fewest, .code yX1_fewest cX1_fewest 5 (some (.array .int)), .arrayClass .int, .methodLink RX1 97 Lib.Math.min.name, .static Lib.Math.min.name, .initialized "java/lang/Math", .code Lib.Math.min.name Lib.Math.min.code 2 (some .int), .methodLink RX1 38 yX1_valueOf, .instanceMethod yX1_valueOf, .selects RX1 yX1_valueOf yX1_valueOf, .code yX1_valueOf cX1_valueOf 2 (some .int), .fieldLink RX1 35 "AbjadPoemsModel" "order" "I"] ++ wsX10)
def wsX1_spell : List Cond := .code yX1_spell cX1_spell 7 (some .int) :: ([.fieldLink RX1 20 "AbjadPoemsModel" "thrown" "I", .methodLink RX1 27 yX1_isIn, .static yX1_isIn, .initialized RX1, .code yX1_isIn cX1_isIn 3 (some .boolean), .methodLink RX1 31 yX1_fail, .instanceMethod yX1_fail, .selects RX1 yX1_fail yX1_fail, .code yX1_fail cX1_fail 2 (some .int), .methodLink RX1 100 yX1_fewest, .instanceMethod yX1_fewest, .selects RX1 yX1_fewest yX1_fewest, .code yX1_fewest cX1_fewest 5 (some (.array .int)), .arrayClass .int, .methodLink RX1 97 Lib.Math.min.name, .static Lib.Math.min.name, .initialized "java/lang/Math", .code Lib.Math.min.name Lib.Math.min.code 2 (some .int), .methodLink RX1 38 yX1_valueOf, .instanceMethod yX1_valueOf, .selects RX1 yX1_valueOf yX1_valueOf, .code yX1_valueOf cX1_valueOf 2 (some .int), .fieldLink RX1 35 "AbjadPoemsModel" "order" "I"] ++ wsX10)
def wsX1_mean_r1 : List Cond := [Cond.fieldLink RX1 20 "AbjadPoemsModel" "thrown" "I", Cond.methodLink RX1 82 yX1_all, Cond.instanceMethod yX1_all, Cond.selects RX1 yX1_all yX1_all, Cond.initialized RX1, Cond.code yX1_all cX1_all 4 (some .int), Cond.fieldLink RX1 24 "AbjadPoemsModel" "lines" "I", Cond.methodLink RX1 75 yX1_lineTold, Cond.instanceMethod yX1_lineTold, Cond.selects RX1 yX1_lineTold yX1_lineTold, Cond.code yX1_lineTold cX1_lineTold 5 (some .int), Cond.fieldLink RX1 9 "AbjadPoemsModel" "longs" "[I", Cond.methodLink RX1 71 yX1_wordTold, Cond.instanceMethod yX1_wordTold, Cond.selects RX1 yX1_wordTold yX1_wordTold, Cond.code yX1_wordTold cX1_wordTold 7 (some .int), Cond.fieldLink RX1 16 "AbjadPoemsModel" "marks" "[Z", Cond.methodLink RX1 64 yX1_wo, Cond.instanceMethod yX1_wo, Cond.selects RX1 yX1_wo yX1_wo, Cond.code yX1_wo cX1_wo 3 (some .int), Cond.fieldLink RX1 13 "AbjadPoemsModel" "words" "[I", Cond.methodLink RX1 41 yX1_size, Cond.static yX1_size]
def wsX1_mean_r2 : List Cond := [Cond.code yX1_size cX1_size 3 (some .int), Cond.methodLink RX1 52 yX1_sum, Cond.instanceMethod yX1_sum, Cond.selects RX1 yX1_sum yX1_sum, Cond.code yX1_sum cX1_sum 4 (some .int), Cond.methodLink RX1 44 yX1_at, Cond.static yX1_at, Cond.code yX1_at cX1_at 4 (some .int), Cond.methodLink RX1 38 yX1_valueOf, Cond.instanceMethod yX1_valueOf, Cond.selects RX1 yX1_valueOf yX1_valueOf, Cond.code yX1_valueOf cX1_valueOf 2 (some .int), Cond.fieldLink RX1 35 "AbjadPoemsModel" "order" "I", Cond.methodLink RX1 61 yX1_base, Cond.instanceMethod yX1_base, Cond.selects RX1 yX1_base yX1_base, Cond.code yX1_base cX1_base 3 (some .int)]
def wsX1_mean : List Cond := .code yX1_mean cX1_mean 1 (some .double) :: ((wsX1_mean_r1 ++ wsX1_mean_r2) ++ wsX10)
def wsX1_digest_r1 : List Cond := [Cond.fieldLink RX1 20 "AbjadPoemsModel" "thrown" "I", Cond.constantLong RX1 104 (40207), Cond.fieldLink RX1 35 "AbjadPoemsModel" "order" "I", Cond.constantLong RX1 106 (31), Cond.fieldLink RX1 24 "AbjadPoemsModel" "lines" "I", Cond.fieldLink RX1 9 "AbjadPoemsModel" "longs" "[I", Cond.methodLink RX1 85 yX1_toldOf, Cond.instanceMethod yX1_toldOf, Cond.selects RX1 yX1_toldOf yX1_toldOf, Cond.initialized RX1, Cond.code yX1_toldOf cX1_toldOf 2 (some .int), Cond.methodLink RX1 78 yX1_pairs, Cond.instanceMethod yX1_pairs, Cond.selects RX1 yX1_pairs yX1_pairs, Cond.code yX1_pairs cX1_pairs 4 (some .int), Cond.fieldLink RX1 13 "AbjadPoemsModel" "words" "[I", Cond.methodLink RX1 67 yX1_isOne, Cond.instanceMethod yX1_isOne, Cond.selects RX1 yX1_isOne yX1_isOne, Cond.code yX1_isOne cX1_isOne 3 (some .boolean), Cond.methodLink RX1 58 yX1_isLine, Cond.instanceMethod yX1_isLine, Cond.selects RX1 yX1_isLine yX1_isLine, Cond.code yX1_isLine cX1_isLine 2 (some .boolean)]
def wsX1_digest_r2 : List Cond := [Cond.methodLink RX1 27 yX1_isIn, Cond.static yX1_isIn, Cond.code yX1_isIn cX1_isIn 3 (some .boolean), Cond.methodLink RX1 52 yX1_sum, Cond.instanceMethod yX1_sum, Cond.selects RX1 yX1_sum yX1_sum, Cond.code yX1_sum cX1_sum 4 (some .int), Cond.methodLink RX1 41 yX1_size, Cond.static yX1_size, Cond.code yX1_size cX1_size 3 (some .int), Cond.methodLink RX1 44 yX1_at, Cond.static yX1_at, Cond.code yX1_at cX1_at 4 (some .int), Cond.methodLink RX1 38 yX1_valueOf, Cond.instanceMethod yX1_valueOf, Cond.selects RX1 yX1_valueOf yX1_valueOf, Cond.code yX1_valueOf cX1_valueOf 2 (some .int), Cond.methodLink RX1 82 yX1_all, Cond.instanceMethod yX1_all, Cond.selects RX1 yX1_all yX1_all, Cond.code yX1_all cX1_all 4 (some .int), Cond.methodLink RX1 75 yX1_lineTold, Cond.instanceMethod yX1_lineTold, Cond.selects RX1 yX1_lineTold yX1_lineTold]
def wsX1_digest_r3 : List Cond := [Cond.code yX1_lineTold cX1_lineTold 5 (some .int), Cond.methodLink RX1 71 yX1_wordTold, Cond.instanceMethod yX1_wordTold, Cond.selects RX1 yX1_wordTold yX1_wordTold, Cond.code yX1_wordTold cX1_wordTold 7 (some .int), Cond.fieldLink RX1 16 "AbjadPoemsModel" "marks" "[Z", Cond.methodLink RX1 64 yX1_wo, Cond.instanceMethod yX1_wo, Cond.selects RX1 yX1_wo yX1_wo, Cond.code yX1_wo cX1_wo 3 (some .int), Cond.methodLink RX1 61 yX1_base, Cond.instanceMethod yX1_base, Cond.selects RX1 yX1_base yX1_base, Cond.code yX1_base cX1_base 3 (some .int)]
def wsX1_digest : List Cond := .code yX1_digest cX1_digest 6 (some .long) :: ((wsX1_digest_r1 ++ (wsX1_digest_r2 ++ wsX1_digest_r3)) ++ wsX10)
def wsJ9_abs_067f4 : List Cond := .code yJ9_abs_067f4 cJ9_abs_067f4 2 (some .long) :: ([])
def wsJ9_min_7cf53 : List Cond := .code yJ9_min_7cf53 cJ9_min_7cf53 2 (some .int) :: ([])
def wsL_count : List Cond := .codeWith yL_count cL_count 4 (some .int) [(0, 9, 12, 13)] :: ([.classLink RL 13 "java/lang/IndexOutOfBoundsException", .methodLink RL 7 yX0_count, .instanceMethod yX0_count, .selects RX0 yX0_count yX0_count, .initialized RX0, .code yX0_count cX0_count 3 (some .int), .classLink RX0 38 "java/lang/IndexOutOfBoundsException", .initialized "java/lang/IndexOutOfBoundsException", .fieldLink RX0 9 "AbjadPoems" "order" "I"] ++ wsX00 ++ (vx_atS RX0 42 "java/lang/IndexOutOfBoundsException" ["java/lang/RuntimeException", "java/lang/Exception"]).filter goodWord)
def wsL_letter : List Cond := .codeWith yL_letter cL_letter 4 (some .int) [(0, 9, 12, 13)] :: ([.classLink RL 13 "java/lang/IndexOutOfBoundsException", .methodLink RL 15 yX0_letter, .instanceMethod yX0_letter, .selects RX0 yX0_letter yX0_letter, .initialized RX0, .code yX0_letter cX0_letter 2 (some .int), .classLink RX0 38 "java/lang/IndexOutOfBoundsException", .initialized "java/lang/IndexOutOfBoundsException", .methodLink RX0 47 yX0_worthOfLetter, .instanceMethod yX0_worthOfLetter, .selects RX0 yX0_worthOfLetter yX0_worthOfLetter, .code yX0_worthOfLetter cX0_worthOfLetter 2 (some .int), .fieldLink RX0 9 "AbjadPoems" "order" "I"] ++ wsX00 ++ (vx_atS RX0 42 "java/lang/IndexOutOfBoundsException" ["java/lang/RuntimeException", "java/lang/Exception"]).filter goodWord)
def wsL_value_r1 : List Cond := [Cond.classLink RL 21 "java/lang/IllegalArgumentException", Cond.methodLink RL 18 yX0_value, Cond.instanceMethod yX0_value, Cond.selects RX0 yX0_value yX0_value, Cond.initialized RX0, Cond.code yX0_value cX0_value 2 (some .int), Cond.methodLink RX0 51 yX0_checkWord, Cond.static yX0_checkWord, Cond.code yX0_checkWord cX0_checkWord 1 none, Cond.classLink RX0 143 "java/lang/IllegalArgumentException", Cond.initialized "java/lang/IllegalArgumentException", Cond.methodLink RX0 139 yX0_isWord, Cond.static yX0_isWord, Cond.code yX0_isWord cX0_isWord 3 (some .boolean), Cond.constant RX0 150 (387420489), Cond.methodLink RX0 55 yX0_worthOfPlaces, Cond.instanceMethod yX0_worthOfPlaces, Cond.selects RX0 yX0_worthOfPlaces yX0_worthOfPlaces, Cond.code yX0_worthOfPlaces cX0_worthOfPlaces 6 (some .int), Cond.methodLink RX0 78 yX0_lengthOf, Cond.static yX0_lengthOf, Cond.code yX0_lengthOf cX0_lengthOf 3 (some .int), Cond.methodLink RX0 83 yX0_isMarked, Cond.static yX0_isMarked]
def wsL_value_r2 : List Cond := [Cond.code yX0_isMarked cX0_isMarked 2 (some .boolean), Cond.methodLink RX0 47 yX0_worthOfLetter, Cond.instanceMethod yX0_worthOfLetter, Cond.selects RX0 yX0_worthOfLetter yX0_worthOfLetter, Cond.code yX0_worthOfLetter cX0_worthOfLetter 2 (some .int), Cond.fieldLink RX0 9 "AbjadPoems" "order" "I"]
def wsL_value : List Cond := .codeWith yL_value cL_value 4 (some .int) [(0, 9, 12, 21)] :: ((wsL_value_r1 ++ wsL_value_r2) ++ wsX00 ++ (vx_atS RX0 147 "java/lang/IllegalArgumentException" ["java/lang/RuntimeException", "java/lang/Exception"]).filter goodWord)
def wsL_alike : List Cond := .codeWith yL_alike cL_alike 5 (some .int) [(0, 17, 20, 21)] :: ([.classLink RL 21 "java/lang/IllegalArgumentException", .methodLink RL 23 yX0_alike, .instanceMethod yX0_alike, .selects RX0 yX0_alike yX0_alike, .initialized RX0, .code yX0_alike cX0_alike 4 (some .boolean), .methodLink RX0 51 yX0_checkWord, .static yX0_checkWord, .code yX0_checkWord cX0_checkWord 1 none, .classLink RX0 143 "java/lang/IllegalArgumentException", .initialized "java/lang/IllegalArgumentException", .methodLink RX0 139 yX0_isWord, .static yX0_isWord, .code yX0_isWord cX0_isWord 3 (some .boolean), .constant RX0 150 (387420489), .methodLink RX0 59 yX0_timesIn, .static yX0_timesIn, .code yX0_timesIn cX0_timesIn 5 (some .int)] ++ (vx_atS RX0 147 "java/lang/IllegalArgumentException" ["java/lang/RuntimeException", "java/lang/Exception"]).filter goodWord)
def wsL_write : List Cond := .codeWith yL_write cL_write 3 (some .int) [(0, 8, 11, 31)] :: ([.classLink RL 31 "java/lang/IllegalStateException", .methodLink RL 27 yX0_write, .instanceMethod yX0_write, .selects RX0 yX0_write yX0_write, .initialized RX0, .code yX0_write cX0_write 1 (some .int), .classLink RX0 62 "java/lang/IllegalStateException", .initialized "java/lang/IllegalStateException", .fieldLink RX0 13 "AbjadPoems" "lines" "I"] ++ wsX00 ++ (vx_atS RX0 66 "java/lang/IllegalStateException" ["java/lang/RuntimeException", "java/lang/Exception"]).filter goodWord)
def wsL_add_r1 : List Cond := [Cond.classLink RL 13 "java/lang/IndexOutOfBoundsException", Cond.classLink RL 21 "java/lang/IllegalArgumentException", Cond.classLink RL 31 "java/lang/IllegalStateException", Cond.methodLink RL 33 yX0_add, Cond.instanceMethod yX0_add, Cond.selects RX0 yX0_add yX0_add, Cond.initialized RX0, Cond.code yX0_add cX0_add 4 (some .int), Cond.classLink RX0 62 "java/lang/IllegalStateException", Cond.initialized "java/lang/IllegalStateException", Cond.fieldLink RX0 16 "AbjadPoems" "sizes" "[I", Cond.fieldLink RX0 22 "AbjadPoems" "words" "[[I", Cond.fieldLink RX0 25 "AbjadPoems" "marks" "[[I", Cond.methodLink RX0 67 yX0_checkLine, Cond.instanceMethod yX0_checkLine, Cond.selects RX0 yX0_checkLine yX0_checkLine, Cond.code yX0_checkLine cX0_checkLine 2 none, Cond.classLink RX0 38 "java/lang/IndexOutOfBoundsException", Cond.initialized "java/lang/IndexOutOfBoundsException", Cond.fieldLink RX0 13 "AbjadPoems" "lines" "I", Cond.methodLink RX0 51 yX0_checkWord, Cond.static yX0_checkWord, Cond.code yX0_checkWord cX0_checkWord 1 none, Cond.classLink RX0 143 "java/lang/IllegalArgumentException"]
def wsL_add_r2 : List Cond := [Cond.initialized "java/lang/IllegalArgumentException", Cond.methodLink RX0 139 yX0_isWord, Cond.static yX0_isWord, Cond.code yX0_isWord cX0_isWord 3 (some .boolean), Cond.constant RX0 150 (387420489)]
def wsL_add : List Cond := .codeWith yL_add cL_add 5 (some .int) [(0, 10, 13, 13), (0, 10, 17, 21), (0, 10, 21, 31)] :: ((wsL_add_r1 ++ wsL_add_r2) ++ wsX00 ++ (vx_atS RX0 66 "java/lang/IllegalStateException" ["java/lang/RuntimeException", "java/lang/Exception"]).filter goodWord ++ (vx_atS RX0 42 "java/lang/IndexOutOfBoundsException" ["java/lang/RuntimeException", "java/lang/Exception"]).filter goodWord ++ (vx_atS RX0 147 "java/lang/IllegalArgumentException" ["java/lang/RuntimeException", "java/lang/Exception"]).filter goodWord)
def wsL_cut : List Cond := .codeWith yL_cut cL_cut 4 (some .int) [(0, 9, 12, 13), (0, 9, 15, 31)] :: ([.classLink RL 13 "java/lang/IndexOutOfBoundsException", .classLink RL 31 "java/lang/IllegalStateException", .methodLink RL 37 yX0_cut, .instanceMethod yX0_cut, .selects RX0 yX0_cut yX0_cut, .initialized RX0, .code yX0_cut cX0_cut 3 (some .int), .classLink RX0 62 "java/lang/IllegalStateException", .initialized "java/lang/IllegalStateException", .fieldLink RX0 16 "AbjadPoems" "sizes" "[I", .fieldLink RX0 22 "AbjadPoems" "words" "[[I", .methodLink RX0 67 yX0_checkLine, .instanceMethod yX0_checkLine, .selects RX0 yX0_checkLine yX0_checkLine, .code yX0_checkLine cX0_checkLine 2 none, .classLink RX0 38 "java/lang/IndexOutOfBoundsException", .initialized "java/lang/IndexOutOfBoundsException", .fieldLink RX0 13 "AbjadPoems" "lines" "I"] ++ wsX00 ++ (vx_atS RX0 66 "java/lang/IllegalStateException" ["java/lang/RuntimeException", "java/lang/Exception"]).filter goodWord ++ (vx_atS RX0 42 "java/lang/IndexOutOfBoundsException" ["java/lang/RuntimeException", "java/lang/Exception"]).filter goodWord)
def wsL_mark_r1 : List Cond := [Cond.classLink RL 13 "java/lang/IndexOutOfBoundsException", Cond.methodLink RL 40 yX0_mark, Cond.instanceMethod yX0_mark, Cond.selects RX0 yX0_mark yX0_mark, Cond.initialized RX0, Cond.code yX0_mark cX0_mark 4 (some .boolean), Cond.classLink RX0 38 "java/lang/IndexOutOfBoundsException", Cond.initialized "java/lang/IndexOutOfBoundsException", Cond.fieldLink RX0 22 "AbjadPoems" "words" "[[I", Cond.fieldLink RX0 25 "AbjadPoems" "marks" "[[I", Cond.methodLink RX0 74 yX0_checkWordOfLine, Cond.instanceMethod yX0_checkWordOfLine, Cond.selects RX0 yX0_checkWordOfLine yX0_checkWordOfLine, Cond.code yX0_checkWordOfLine cX0_checkWordOfLine 3 none, Cond.fieldLink RX0 16 "AbjadPoems" "sizes" "[I", Cond.methodLink RX0 67 yX0_checkLine, Cond.instanceMethod yX0_checkLine, Cond.selects RX0 yX0_checkLine yX0_checkLine, Cond.code yX0_checkLine cX0_checkLine 2 none, Cond.fieldLink RX0 13 "AbjadPoems" "lines" "I", Cond.methodLink RX0 78 yX0_lengthOf, Cond.static yX0_lengthOf, Cond.code yX0_lengthOf cX0_lengthOf 3 (some .int), Cond.methodLink RX0 83 yX0_isMarked]
def wsL_mark_r2 : List Cond := [Cond.static yX0_isMarked, Cond.code yX0_isMarked cX0_isMarked 2 (some .boolean)]
def wsL_mark : List Cond := .codeWith yL_mark cL_mark 6 (some .int) [(0, 19, 22, 13)] :: ((wsL_mark_r1 ++ wsL_mark_r2) ++ wsX00 ++ (vx_atS RX0 42 "java/lang/IndexOutOfBoundsException" ["java/lang/RuntimeException", "java/lang/Exception"]).filter goodWord)
def wsL_word_r1 : List Cond := [Cond.classLink RL 13 "java/lang/IndexOutOfBoundsException", Cond.methodLink RL 44 yX0_word, Cond.instanceMethod yX0_word, Cond.selects RX0 yX0_word yX0_word, Cond.initialized RX0, Cond.code yX0_word cX0_word 4 (some .int), Cond.methodLink RX0 74 yX0_checkWordOfLine, Cond.instanceMethod yX0_checkWordOfLine, Cond.selects RX0 yX0_checkWordOfLine yX0_checkWordOfLine, Cond.code yX0_checkWordOfLine cX0_checkWordOfLine 3 none, Cond.classLink RX0 38 "java/lang/IndexOutOfBoundsException", Cond.initialized "java/lang/IndexOutOfBoundsException", Cond.fieldLink RX0 16 "AbjadPoems" "sizes" "[I", Cond.methodLink RX0 67 yX0_checkLine, Cond.instanceMethod yX0_checkLine, Cond.selects RX0 yX0_checkLine yX0_checkLine, Cond.code yX0_checkLine cX0_checkLine 2 none, Cond.fieldLink RX0 13 "AbjadPoems" "lines" "I", Cond.methodLink RX0 87 yX0_checkWhat, Cond.static yX0_checkWhat, Cond.code yX0_checkWhat cX0_checkWhat 2 none, Cond.methodLink RX0 90 yX0_figureOfWord, Cond.instanceMethod yX0_figureOfWord, Cond.selects RX0 yX0_figureOfWord yX0_figureOfWord]
def wsL_word_r2 : List Cond := [Cond.code yX0_figureOfWord cX0_figureOfWord 4 (some .int), Cond.fieldLink RX0 22 "AbjadPoems" "words" "[[I", Cond.fieldLink RX0 25 "AbjadPoems" "marks" "[[I", Cond.methodLink RX0 78 yX0_lengthOf, Cond.static yX0_lengthOf, Cond.code yX0_lengthOf cX0_lengthOf 3 (some .int), Cond.methodLink RX0 55 yX0_worthOfPlaces, Cond.instanceMethod yX0_worthOfPlaces, Cond.selects RX0 yX0_worthOfPlaces yX0_worthOfPlaces, Cond.code yX0_worthOfPlaces cX0_worthOfPlaces 6 (some .int), Cond.methodLink RX0 83 yX0_isMarked, Cond.static yX0_isMarked, Cond.code yX0_isMarked cX0_isMarked 2 (some .boolean), Cond.methodLink RX0 47 yX0_worthOfLetter, Cond.instanceMethod yX0_worthOfLetter, Cond.selects RX0 yX0_worthOfLetter yX0_worthOfLetter, Cond.code yX0_worthOfLetter cX0_worthOfLetter 2 (some .int), Cond.fieldLink RX0 9 "AbjadPoems" "order" "I", Cond.methodLink RX0 151 yJ6_bitCount_0f7a4, Cond.static yJ6_bitCount_0f7a4, Cond.initialized RJ6, Cond.code yJ6_bitCount_0f7a4 cJ6_bitCount_0f7a4 1 (some .int), Cond.constant RJ6 265 (1431655765), Cond.constant RJ6 266 (858993459)]
def wsL_word_r3 : List Cond := [Cond.constant RJ6 267 (252645135)]
def wsL_word : List Cond := .codeWith yL_word cL_word 6 (some .int) [(0, 12, 15, 13)] :: ((wsL_word_r1 ++ (wsL_word_r2 ++ wsL_word_r3)) ++ wsX00 ++ (vx_atS RX0 42 "java/lang/IndexOutOfBoundsException" ["java/lang/RuntimeException", "java/lang/Exception"]).filter goodWord)
def wsL_line_r1 : List Cond := [Cond.classLink RL 13 "java/lang/IndexOutOfBoundsException", Cond.methodLink RL 48 yX0_line, Cond.instanceMethod yX0_line, Cond.selects RX0 yX0_line yX0_line, Cond.initialized RX0, Cond.code yX0_line cX0_line 3 (some .int), Cond.methodLink RX0 67 yX0_checkLine, Cond.instanceMethod yX0_checkLine, Cond.selects RX0 yX0_checkLine yX0_checkLine, Cond.code yX0_checkLine cX0_checkLine 2 none, Cond.classLink RX0 38 "java/lang/IndexOutOfBoundsException", Cond.initialized "java/lang/IndexOutOfBoundsException", Cond.fieldLink RX0 13 "AbjadPoems" "lines" "I", Cond.methodLink RX0 87 yX0_checkWhat, Cond.static yX0_checkWhat, Cond.code yX0_checkWhat cX0_checkWhat 2 none, Cond.methodLink RX0 94 yX0_figureOfLine, Cond.instanceMethod yX0_figureOfLine, Cond.selects RX0 yX0_figureOfLine yX0_figureOfLine, Cond.code yX0_figureOfLine cX0_figureOfLine 5 (some .int), Cond.fieldLink RX0 16 "AbjadPoems" "sizes" "[I", Cond.methodLink RX0 90 yX0_figureOfWord, Cond.instanceMethod yX0_figureOfWord, Cond.selects RX0 yX0_figureOfWord yX0_figureOfWord]
def wsL_line_r2 : List Cond := [Cond.code yX0_figureOfWord cX0_figureOfWord 4 (some .int), Cond.fieldLink RX0 22 "AbjadPoems" "words" "[[I", Cond.fieldLink RX0 25 "AbjadPoems" "marks" "[[I", Cond.methodLink RX0 78 yX0_lengthOf, Cond.static yX0_lengthOf, Cond.code yX0_lengthOf cX0_lengthOf 3 (some .int), Cond.methodLink RX0 55 yX0_worthOfPlaces, Cond.instanceMethod yX0_worthOfPlaces, Cond.selects RX0 yX0_worthOfPlaces yX0_worthOfPlaces, Cond.code yX0_worthOfPlaces cX0_worthOfPlaces 6 (some .int), Cond.methodLink RX0 83 yX0_isMarked, Cond.static yX0_isMarked, Cond.code yX0_isMarked cX0_isMarked 2 (some .boolean), Cond.methodLink RX0 47 yX0_worthOfLetter, Cond.instanceMethod yX0_worthOfLetter, Cond.selects RX0 yX0_worthOfLetter yX0_worthOfLetter, Cond.code yX0_worthOfLetter cX0_worthOfLetter 2 (some .int), Cond.fieldLink RX0 9 "AbjadPoems" "order" "I", Cond.methodLink RX0 151 yJ6_bitCount_0f7a4, Cond.static yJ6_bitCount_0f7a4, Cond.initialized RJ6, Cond.code yJ6_bitCount_0f7a4 cJ6_bitCount_0f7a4 1 (some .int), Cond.constant RJ6 265 (1431655765), Cond.constant RJ6 266 (858993459)]
def wsL_line_r3 : List Cond := [Cond.constant RJ6 267 (252645135)]
def wsL_line : List Cond := .codeWith yL_line cL_line 5 (some .int) [(0, 10, 13, 13)] :: ((wsL_line_r1 ++ (wsL_line_r2 ++ wsL_line_r3)) ++ wsX00 ++ (vx_atS RX0 42 "java/lang/IndexOutOfBoundsException" ["java/lang/RuntimeException", "java/lang/Exception"]).filter goodWord)
def wsL_told_r1 : List Cond := [Cond.classLink RL 13 "java/lang/IndexOutOfBoundsException", Cond.methodLink RL 51 yX0_told, Cond.instanceMethod yX0_told, Cond.selects RX0 yX0_told yX0_told, Cond.initialized RX0, Cond.code yX0_told cX0_told 2 (some .int), Cond.fieldLink RX0 13 "AbjadPoems" "lines" "I", Cond.methodLink RX0 87 yX0_checkWhat, Cond.static yX0_checkWhat, Cond.code yX0_checkWhat cX0_checkWhat 2 none, Cond.classLink RX0 38 "java/lang/IndexOutOfBoundsException", Cond.initialized "java/lang/IndexOutOfBoundsException", Cond.methodLink RX0 97 yX0_pairsOfSameWorth, Cond.instanceMethod yX0_pairsOfSameWorth, Cond.selects RX0 yX0_pairsOfSameWorth yX0_pairsOfSameWorth, Cond.code yX0_pairsOfSameWorth cX0_pairsOfSameWorth 6 (some .int), Cond.fieldLink RX0 16 "AbjadPoems" "sizes" "[I", Cond.fieldLink RX0 22 "AbjadPoems" "words" "[[I", Cond.fieldLink RX0 28 "AbjadPoems" "worths" "[I", Cond.methodLink RX0 55 yX0_worthOfPlaces, Cond.instanceMethod yX0_worthOfPlaces, Cond.selects RX0 yX0_worthOfPlaces yX0_worthOfPlaces, Cond.code yX0_worthOfPlaces cX0_worthOfPlaces 6 (some .int), Cond.methodLink RX0 78 yX0_lengthOf]
def wsL_told_r2 : List Cond := [Cond.static yX0_lengthOf, Cond.code yX0_lengthOf cX0_lengthOf 3 (some .int), Cond.methodLink RX0 83 yX0_isMarked, Cond.static yX0_isMarked, Cond.code yX0_isMarked cX0_isMarked 2 (some .boolean), Cond.methodLink RX0 47 yX0_worthOfLetter, Cond.instanceMethod yX0_worthOfLetter, Cond.selects RX0 yX0_worthOfLetter yX0_worthOfLetter, Cond.code yX0_worthOfLetter cX0_worthOfLetter 2 (some .int), Cond.fieldLink RX0 9 "AbjadPoems" "order" "I", Cond.methodLink RX0 156 yX0_timesAmongWorths, Cond.instanceMethod yX0_timesAmongWorths, Cond.selects RX0 yX0_timesAmongWorths yX0_timesAmongWorths, Cond.code yX0_timesAmongWorths cX0_timesAmongWorths 5 (some .int), Cond.methodLink RX0 101 yX0_sumOverLines, Cond.instanceMethod yX0_sumOverLines, Cond.selects RX0 yX0_sumOverLines yX0_sumOverLines, Cond.code yX0_sumOverLines cX0_sumOverLines 4 (some .int), Cond.methodLink RX0 94 yX0_figureOfLine, Cond.instanceMethod yX0_figureOfLine, Cond.selects RX0 yX0_figureOfLine yX0_figureOfLine, Cond.code yX0_figureOfLine cX0_figureOfLine 5 (some .int), Cond.methodLink RX0 90 yX0_figureOfWord, Cond.instanceMethod yX0_figureOfWord]
def wsL_told_r3 : List Cond := [Cond.selects RX0 yX0_figureOfWord yX0_figureOfWord, Cond.code yX0_figureOfWord cX0_figureOfWord 4 (some .int), Cond.fieldLink RX0 25 "AbjadPoems" "marks" "[[I", Cond.methodLink RX0 151 yJ6_bitCount_0f7a4, Cond.static yJ6_bitCount_0f7a4, Cond.initialized RJ6, Cond.code yJ6_bitCount_0f7a4 cJ6_bitCount_0f7a4 1 (some .int), Cond.constant RJ6 265 (1431655765), Cond.constant RJ6 266 (858993459), Cond.constant RJ6 267 (252645135)]
def wsL_told : List Cond := .codeWith yL_told cL_told 4 (some .int) [(0, 9, 12, 13)] :: ((wsL_told_r1 ++ (wsL_told_r2 ++ wsL_told_r3)) ++ wsX00 ++ (vx_atS RX0 42 "java/lang/IndexOutOfBoundsException" ["java/lang/RuntimeException", "java/lang/Exception"]).filter goodWord)
def wsL_hidden_r1 : List Cond := [Cond.classLink RL 13 "java/lang/IndexOutOfBoundsException", Cond.methodLink RL 54 yX0_hidden, Cond.instanceMethod yX0_hidden, Cond.selects RX0 yX0_hidden yX0_hidden, Cond.initialized RX0, Cond.code yX0_hidden cX0_hidden 5 (some .int), Cond.fieldLink RX0 16 "AbjadPoems" "sizes" "[I", Cond.methodLink RX0 67 yX0_checkLine, Cond.instanceMethod yX0_checkLine, Cond.selects RX0 yX0_checkLine yX0_checkLine, Cond.code yX0_checkLine cX0_checkLine 2 none, Cond.classLink RX0 38 "java/lang/IndexOutOfBoundsException", Cond.initialized "java/lang/IndexOutOfBoundsException", Cond.fieldLink RX0 13 "AbjadPoems" "lines" "I", Cond.methodLink RX0 104 yX0_lastOfRun, Cond.instanceMethod yX0_lastOfRun, Cond.selects RX0 yX0_lastOfRun yX0_lastOfRun, Cond.code yX0_lastOfRun cX0_lastOfRun 6 (some .int), Cond.fieldLink RX0 22 "AbjadPoems" "words" "[[I", Cond.methodLink RX0 55 yX0_worthOfPlaces, Cond.instanceMethod yX0_worthOfPlaces, Cond.selects RX0 yX0_worthOfPlaces yX0_worthOfPlaces, Cond.code yX0_worthOfPlaces cX0_worthOfPlaces 6 (some .int), Cond.methodLink RX0 78 yX0_lengthOf]
def wsL_hidden_r2 : List Cond := [Cond.static yX0_lengthOf, Cond.code yX0_lengthOf cX0_lengthOf 3 (some .int), Cond.methodLink RX0 83 yX0_isMarked, Cond.static yX0_isMarked, Cond.code yX0_isMarked cX0_isMarked 2 (some .boolean), Cond.methodLink RX0 47 yX0_worthOfLetter, Cond.instanceMethod yX0_worthOfLetter, Cond.selects RX0 yX0_worthOfLetter yX0_worthOfLetter, Cond.code yX0_worthOfLetter cX0_worthOfLetter 2 (some .int), Cond.fieldLink RX0 9 "AbjadPoems" "order" "I"]
def wsL_hidden : List Cond := .codeWith yL_hidden cL_hidden 5 (some .int) [(0, 10, 13, 13)] :: ((wsL_hidden_r1 ++ wsL_hidden_r2) ++ wsX00 ++ (vx_atS RX0 42 "java/lang/IndexOutOfBoundsException" ["java/lang/RuntimeException", "java/lang/Exception"]).filter goodWord)
def wsL_lacks_r1 : List Cond := [Cond.classLink RL 13 "java/lang/IndexOutOfBoundsException", Cond.methodLink RL 57 yX0_lacks, Cond.instanceMethod yX0_lacks, Cond.selects RX0 yX0_lacks yX0_lacks, Cond.initialized RX0, Cond.code yX0_lacks cX0_lacks 5 (some .int), Cond.methodLink RX0 67 yX0_checkLine, Cond.instanceMethod yX0_checkLine, Cond.selects RX0 yX0_checkLine yX0_checkLine, Cond.code yX0_checkLine cX0_checkLine 2 none, Cond.classLink RX0 38 "java/lang/IndexOutOfBoundsException", Cond.initialized "java/lang/IndexOutOfBoundsException", Cond.fieldLink RX0 13 "AbjadPoems" "lines" "I", Cond.methodLink RX0 94 yX0_figureOfLine, Cond.instanceMethod yX0_figureOfLine, Cond.selects RX0 yX0_figureOfLine yX0_figureOfLine, Cond.code yX0_figureOfLine cX0_figureOfLine 5 (some .int), Cond.fieldLink RX0 16 "AbjadPoems" "sizes" "[I", Cond.methodLink RX0 90 yX0_figureOfWord, Cond.instanceMethod yX0_figureOfWord, Cond.selects RX0 yX0_figureOfWord yX0_figureOfWord, Cond.code yX0_figureOfWord cX0_figureOfWord 4 (some .int), Cond.fieldLink RX0 22 "AbjadPoems" "words" "[[I", Cond.fieldLink RX0 25 "AbjadPoems" "marks" "[[I"]
def wsL_lacks_r2 : List Cond := [Cond.methodLink RX0 78 yX0_lengthOf, Cond.static yX0_lengthOf, Cond.code yX0_lengthOf cX0_lengthOf 3 (some .int), Cond.methodLink RX0 55 yX0_worthOfPlaces, Cond.instanceMethod yX0_worthOfPlaces, Cond.selects RX0 yX0_worthOfPlaces yX0_worthOfPlaces, Cond.code yX0_worthOfPlaces cX0_worthOfPlaces 6 (some .int), Cond.methodLink RX0 83 yX0_isMarked, Cond.static yX0_isMarked, Cond.code yX0_isMarked cX0_isMarked 2 (some .boolean), Cond.methodLink RX0 47 yX0_worthOfLetter, Cond.instanceMethod yX0_worthOfLetter, Cond.selects RX0 yX0_worthOfLetter yX0_worthOfLetter, Cond.code yX0_worthOfLetter cX0_worthOfLetter 2 (some .int), Cond.fieldLink RX0 9 "AbjadPoems" "order" "I", Cond.methodLink RX0 151 yJ6_bitCount_0f7a4, Cond.static yJ6_bitCount_0f7a4, Cond.initialized RJ6, Cond.code yJ6_bitCount_0f7a4 cJ6_bitCount_0f7a4 1 (some .int), Cond.constant RJ6 265 (1431655765), Cond.constant RJ6 266 (858993459), Cond.constant RJ6 267 (252645135)]
def wsL_lacks : List Cond := .codeWith yL_lacks cL_lacks 5 (some .int) [(0, 10, 13, 13)] :: ((wsL_lacks_r1 ++ wsL_lacks_r2) ++ wsX00 ++ (vx_atS RX0 42 "java/lang/IndexOutOfBoundsException" ["java/lang/RuntimeException", "java/lang/Exception"]).filter goodWord)
def wsL_letters_r1 : List Cond := [Cond.classLink RL 21 "java/lang/IllegalArgumentException", Cond.methodLink RL 60 yX0_letters, Cond.instanceMethod yX0_letters, Cond.selects RX0 yX0_letters yX0_letters, Cond.initialized RX0, Cond.code yX0_letters cX0_letters 2 (some .int), Cond.fieldLink RX0 31 "AbjadPoems" "fewest" "[[I", Cond.fieldLink RX0 9 "AbjadPoems" "order" "I", Cond.methodLink RX0 113 yX0_checkYear, Cond.static yX0_checkYear, Cond.code yX0_checkYear cX0_checkYear 1 none, Cond.classLink RX0 143 "java/lang/IllegalArgumentException", Cond.initialized "java/lang/IllegalArgumentException", Cond.methodLink RX0 116 yX0_fillFewest, Cond.instanceMethod yX0_fillFewest, Cond.selects RX0 yX0_fillFewest yX0_fillFewest, Cond.code yX0_fillFewest cX0_fillFewest 2 none, Cond.fieldLink RX0 34 "AbjadPoems" "filled" "[Z", Cond.methodLink RX0 159 yX0_fewestBySmaller, Cond.instanceMethod yX0_fewestBySmaller, Cond.selects RX0 yX0_fewestBySmaller yX0_fewestBySmaller, Cond.code yX0_fewestBySmaller cX0_fewestBySmaller 5 (some .int), Cond.methodLink RX0 47 yX0_worthOfLetter, Cond.instanceMethod yX0_worthOfLetter]
def wsL_letters_r2 : List Cond := [Cond.selects RX0 yX0_worthOfLetter yX0_worthOfLetter, Cond.code yX0_worthOfLetter cX0_worthOfLetter 2 (some .int)]
def wsL_letters : List Cond := .codeWith yL_letters cL_letters 4 (some .int) [(0, 9, 12, 21)] :: ((wsL_letters_r1 ++ wsL_letters_r2) ++ wsX00 ++ (vx_atS RX0 147 "java/lang/IllegalArgumentException" ["java/lang/RuntimeException", "java/lang/Exception"]).filter goodWord)
def wsL_spell_r1 : List Cond := [Cond.classLink RL 21 "java/lang/IllegalArgumentException", Cond.classLink RL 13 "java/lang/IndexOutOfBoundsException", Cond.methodLink RL 63 yX0_spell, Cond.instanceMethod yX0_spell, Cond.selects RX0 yX0_spell yX0_spell, Cond.initialized RX0, Cond.code yX0_spell cX0_spell 5 (some .int), Cond.classLink RX0 38 "java/lang/IndexOutOfBoundsException", Cond.initialized "java/lang/IndexOutOfBoundsException", Cond.fieldLink RX0 31 "AbjadPoems" "fewest" "[[I", Cond.fieldLink RX0 9 "AbjadPoems" "order" "I", Cond.methodLink RX0 113 yX0_checkYear, Cond.static yX0_checkYear, Cond.code yX0_checkYear cX0_checkYear 1 none, Cond.classLink RX0 143 "java/lang/IllegalArgumentException", Cond.initialized "java/lang/IllegalArgumentException", Cond.methodLink RX0 116 yX0_fillFewest, Cond.instanceMethod yX0_fillFewest, Cond.selects RX0 yX0_fillFewest yX0_fillFewest, Cond.code yX0_fillFewest cX0_fillFewest 2 none, Cond.fieldLink RX0 34 "AbjadPoems" "filled" "[Z", Cond.methodLink RX0 159 yX0_fewestBySmaller, Cond.instanceMethod yX0_fewestBySmaller, Cond.selects RX0 yX0_fewestBySmaller yX0_fewestBySmaller]
def wsL_spell_r2 : List Cond := [Cond.code yX0_fewestBySmaller cX0_fewestBySmaller 5 (some .int), Cond.methodLink RX0 47 yX0_worthOfLetter, Cond.instanceMethod yX0_worthOfLetter, Cond.selects RX0 yX0_worthOfLetter yX0_worthOfLetter, Cond.code yX0_worthOfLetter cX0_worthOfLetter 2 (some .int), Cond.methodLink RX0 119 yX0_greatestFirst, Cond.instanceMethod yX0_greatestFirst, Cond.selects RX0 yX0_greatestFirst yX0_greatestFirst, Cond.code yX0_greatestFirst cX0_greatestFirst 4 (some .int)]
def wsL_spell : List Cond := .codeWith yL_spell cL_spell 5 (some .int) [(0, 10, 13, 21), (0, 10, 17, 13)] :: ((wsL_spell_r1 ++ wsL_spell_r2) ++ wsX00 ++ (vx_atS RX0 42 "java/lang/IndexOutOfBoundsException" ["java/lang/RuntimeException", "java/lang/Exception"]).filter goodWord ++ (vx_atS RX0 147 "java/lang/IllegalArgumentException" ["java/lang/RuntimeException", "java/lang/Exception"]).filter goodWord)
def wsL_law0_r1 : List Cond := [Cond.classLink RL 8 RX0, Cond.instantiable RX0 8, Cond.initialized RX0, Cond.classLink RL 67 RX1, Cond.instantiable RX1 6, Cond.initialized RX1, Cond.arrayClass .long, Cond.methodLink RL 66 yX0_init, Cond.instanceMethod yX0_init, Cond.code yX0_init cX0_init 1 none, Cond.methodLink RX0 1 objectInit, Cond.instanceMethod objectInit, Cond.code objectInit ⟨#[0xb1]⟩ 1 none, Cond.fieldLink RX0 9 "AbjadPoems" "order" "I", Cond.fieldLink RX0 13 "AbjadPoems" "lines" "I", Cond.arrayClass .int, Cond.fieldLink RX0 16 "AbjadPoems" "sizes" "[I", Cond.classLink RX0 20 "[[I", Cond.fieldLink RX0 22 "AbjadPoems" "words" "[[I", Cond.fieldLink RX0 25 "AbjadPoems" "marks" "[[I", Cond.fieldLink RX0 28 "AbjadPoems" "worths" "[I", Cond.fieldLink RX0 31 "AbjadPoems" "fewest" "[[I", Cond.arrayClass .boolean, Cond.fieldLink RX0 34 "AbjadPoems" "filled" "[Z"]
def wsL_law0_r2 : List Cond := [Cond.methodLink RL 69 yX1_init, Cond.instanceMethod yX1_init, Cond.code yX1_init cX1_init 1 none, Cond.methodLink RX1 1 objectInit, Cond.fieldLink RX1 9 "AbjadPoemsModel" "longs" "[I", Cond.fieldLink RX1 13 "AbjadPoemsModel" "words" "[I", Cond.fieldLink RX1 16 "AbjadPoemsModel" "marks" "[Z", Cond.methodLink RL 70 yL_count, Cond.static yL_count, Cond.initialized RL, Cond.codeWith yL_count cL_count 4 (some .int) [(0, 9, 12, 13)], Cond.classLink RL 13 "java/lang/IndexOutOfBoundsException", Cond.methodLink RL 7 yX0_count, Cond.instanceMethod yX0_count, Cond.selects RX0 yX0_count yX0_count, Cond.code yX0_count cX0_count 3 (some .int), Cond.classLink RX0 38 "java/lang/IndexOutOfBoundsException", Cond.initialized "java/lang/IndexOutOfBoundsException", Cond.methodLink RL 75 yX1_count, Cond.instanceMethod yX1_count, Cond.selects RX1 yX1_count yX1_count, Cond.code yX1_count cX1_count 3 (some .int), Cond.fieldLink RX1 20 "AbjadPoemsModel" "thrown" "I", Cond.fieldLink RX1 35 "AbjadPoemsModel" "order" "I"]
def wsL_law0_r3 : List Cond := [Cond.methodLink RX1 27 yX1_isIn, Cond.static yX1_isIn, Cond.code yX1_isIn cX1_isIn 3 (some .boolean), Cond.methodLink RX1 31 yX1_fail, Cond.instanceMethod yX1_fail, Cond.selects RX1 yX1_fail yX1_fail, Cond.code yX1_fail cX1_fail 2 (some .int), Cond.methodLink RL 76 yX1_thrown, Cond.instanceMethod yX1_thrown, Cond.selects RX1 yX1_thrown yX1_thrown, Cond.code yX1_thrown cX1_thrown 1 (some .int), Cond.methodLink RL 79 yL_letter, Cond.static yL_letter, Cond.codeWith yL_letter cL_letter 4 (some .int) [(0, 9, 12, 13)], Cond.methodLink RL 15 yX0_letter, Cond.instanceMethod yX0_letter, Cond.selects RX0 yX0_letter yX0_letter, Cond.code yX0_letter cX0_letter 2 (some .int), Cond.methodLink RX0 47 yX0_worthOfLetter, Cond.instanceMethod yX0_worthOfLetter, Cond.selects RX0 yX0_worthOfLetter yX0_worthOfLetter, Cond.code yX0_worthOfLetter cX0_worthOfLetter 2 (some .int), Cond.methodLink RL 81 yX1_letter, Cond.instanceMethod yX1_letter]
def wsL_law0_r4 : List Cond := [Cond.selects RX1 yX1_letter yX1_letter, Cond.code yX1_letter cX1_letter 2 (some .int), Cond.methodLink RX1 38 yX1_valueOf, Cond.instanceMethod yX1_valueOf, Cond.selects RX1 yX1_valueOf yX1_valueOf, Cond.code yX1_valueOf cX1_valueOf 2 (some .int), Cond.methodLink RL 82 yL_value, Cond.static yL_value, Cond.codeWith yL_value cL_value 4 (some .int) [(0, 9, 12, 21)], Cond.classLink RL 21 "java/lang/IllegalArgumentException", Cond.methodLink RL 18 yX0_value, Cond.instanceMethod yX0_value, Cond.selects RX0 yX0_value yX0_value, Cond.code yX0_value cX0_value 2 (some .int), Cond.methodLink RX0 51 yX0_checkWord, Cond.static yX0_checkWord, Cond.code yX0_checkWord cX0_checkWord 1 none, Cond.classLink RX0 143 "java/lang/IllegalArgumentException", Cond.initialized "java/lang/IllegalArgumentException", Cond.methodLink RX0 139 yX0_isWord, Cond.static yX0_isWord, Cond.code yX0_isWord cX0_isWord 3 (some .boolean), Cond.constant RX0 150 (387420489), Cond.methodLink RX0 55 yX0_worthOfPlaces]
def wsL_law0_r5 : List Cond := [Cond.instanceMethod yX0_worthOfPlaces, Cond.selects RX0 yX0_worthOfPlaces yX0_worthOfPlaces, Cond.code yX0_worthOfPlaces cX0_worthOfPlaces 6 (some .int), Cond.methodLink RX0 78 yX0_lengthOf, Cond.static yX0_lengthOf, Cond.code yX0_lengthOf cX0_lengthOf 3 (some .int), Cond.methodLink RX0 83 yX0_isMarked, Cond.static yX0_isMarked, Cond.code yX0_isMarked cX0_isMarked 2 (some .boolean), Cond.methodLink RL 84 yX1_value, Cond.instanceMethod yX1_value, Cond.selects RX1 yX1_value yX1_value, Cond.code yX1_value cX1_value 2 (some .int), Cond.methodLink RX1 48 yX1_isWord, Cond.static yX1_isWord, Cond.code yX1_isWord cX1_isWord 2 (some .boolean), Cond.methodLink RX1 41 yX1_size, Cond.static yX1_size, Cond.code yX1_size cX1_size 3 (some .int), Cond.methodLink RX1 52 yX1_sum, Cond.instanceMethod yX1_sum, Cond.selects RX1 yX1_sum yX1_sum, Cond.code yX1_sum cX1_sum 4 (some .int), Cond.methodLink RX1 44 yX1_at]
def wsL_law0_r6 : List Cond := [Cond.static yX1_at, Cond.code yX1_at cX1_at 4 (some .int), Cond.methodLink RL 85 yL_alike, Cond.static yL_alike, Cond.codeWith yL_alike cL_alike 5 (some .int) [(0, 17, 20, 21)], Cond.methodLink RL 23 yX0_alike, Cond.instanceMethod yX0_alike, Cond.selects RX0 yX0_alike yX0_alike, Cond.code yX0_alike cX0_alike 4 (some .boolean), Cond.methodLink RX0 59 yX0_timesIn, Cond.static yX0_timesIn, Cond.code yX0_timesIn cX0_timesIn 5 (some .int), Cond.methodLink RL 88 yX1_alike, Cond.instanceMethod yX1_alike, Cond.selects RX1 yX1_alike yX1_alike, Cond.code yX1_alike cX1_alike 5 (some .boolean), Cond.methodLink RX1 55 yX1_often, Cond.static yX1_often, Cond.code yX1_often cX1_often 4 (some .int), Cond.methodLink RL 89 yL_write, Cond.static yL_write, Cond.codeWith yL_write cL_write 3 (some .int) [(0, 8, 11, 31)], Cond.classLink RL 31 "java/lang/IllegalStateException", Cond.methodLink RL 27 yX0_write]
def wsL_law0_r7 : List Cond := [Cond.instanceMethod yX0_write, Cond.selects RX0 yX0_write yX0_write, Cond.code yX0_write cX0_write 1 (some .int), Cond.classLink RX0 62 "java/lang/IllegalStateException", Cond.initialized "java/lang/IllegalStateException", Cond.methodLink RL 92 yX1_write, Cond.instanceMethod yX1_write, Cond.selects RX1 yX1_write yX1_write, Cond.code yX1_write cX1_write 1 (some .int), Cond.fieldLink RX1 24 "AbjadPoemsModel" "lines" "I", Cond.methodLink RL 93 yL_add, Cond.static yL_add, Cond.codeWith yL_add cL_add 5 (some .int) [(0, 10, 13, 13), (0, 10, 17, 21), (0, 10, 21, 31)], Cond.methodLink RL 33 yX0_add, Cond.instanceMethod yX0_add, Cond.selects RX0 yX0_add yX0_add, Cond.code yX0_add cX0_add 4 (some .int), Cond.methodLink RX0 67 yX0_checkLine, Cond.instanceMethod yX0_checkLine, Cond.selects RX0 yX0_checkLine yX0_checkLine, Cond.code yX0_checkLine cX0_checkLine 2 none, Cond.methodLink RL 95 yX1_add, Cond.instanceMethod yX1_add, Cond.selects RX1 yX1_add yX1_add]
def wsL_law0_r8 : List Cond := [Cond.code yX1_add cX1_add 4 (some .int), Cond.methodLink RX1 58 yX1_isLine, Cond.instanceMethod yX1_isLine, Cond.selects RX1 yX1_isLine yX1_isLine, Cond.code yX1_isLine cX1_isLine 2 (some .boolean), Cond.methodLink RX1 61 yX1_base, Cond.instanceMethod yX1_base, Cond.selects RX1 yX1_base yX1_base, Cond.code yX1_base cX1_base 3 (some .int), Cond.methodLink RL 96 yL_cut, Cond.static yL_cut, Cond.codeWith yL_cut cL_cut 4 (some .int) [(0, 9, 12, 13), (0, 9, 15, 31)], Cond.methodLink RL 37 yX0_cut, Cond.instanceMethod yX0_cut, Cond.selects RX0 yX0_cut yX0_cut, Cond.code yX0_cut cX0_cut 3 (some .int), Cond.methodLink RL 98 yX1_cut, Cond.instanceMethod yX1_cut, Cond.selects RX1 yX1_cut yX1_cut, Cond.code yX1_cut cX1_cut 2 (some .int), Cond.methodLink RX1 64 yX1_wo, Cond.instanceMethod yX1_wo, Cond.selects RX1 yX1_wo yX1_wo, Cond.code yX1_wo cX1_wo 3 (some .int)]
def wsL_law0_r9 : List Cond := [Cond.methodLink RL 99 yL_mark, Cond.static yL_mark, Cond.codeWith yL_mark cL_mark 6 (some .int) [(0, 19, 22, 13)], Cond.methodLink RL 40 yX0_mark, Cond.instanceMethod yX0_mark, Cond.selects RX0 yX0_mark yX0_mark, Cond.code yX0_mark cX0_mark 4 (some .boolean), Cond.methodLink RX0 74 yX0_checkWordOfLine, Cond.instanceMethod yX0_checkWordOfLine, Cond.selects RX0 yX0_checkWordOfLine yX0_checkWordOfLine, Cond.code yX0_checkWordOfLine cX0_checkWordOfLine 3 none, Cond.methodLink RL 102 yX1_mark, Cond.instanceMethod yX1_mark, Cond.selects RX1 yX1_mark yX1_mark, Cond.code yX1_mark cX1_mark 5 (some .boolean), Cond.methodLink RX1 67 yX1_isOne, Cond.instanceMethod yX1_isOne, Cond.selects RX1 yX1_isOne yX1_isOne, Cond.code yX1_isOne cX1_isOne 3 (some .boolean), Cond.methodLink RL 103 yL_word, Cond.static yL_word, Cond.codeWith yL_word cL_word 6 (some .int) [(0, 12, 15, 13)], Cond.methodLink RL 44 yX0_word, Cond.instanceMethod yX0_word]
def wsL_law0_r10 : List Cond := [Cond.selects RX0 yX0_word yX0_word, Cond.code yX0_word cX0_word 4 (some .int), Cond.methodLink RX0 87 yX0_checkWhat, Cond.static yX0_checkWhat, Cond.code yX0_checkWhat cX0_checkWhat 2 none, Cond.methodLink RX0 90 yX0_figureOfWord, Cond.instanceMethod yX0_figureOfWord, Cond.selects RX0 yX0_figureOfWord yX0_figureOfWord, Cond.code yX0_figureOfWord cX0_figureOfWord 4 (some .int), Cond.methodLink RX0 151 yJ6_bitCount_0f7a4, Cond.static yJ6_bitCount_0f7a4, Cond.initialized RJ6, Cond.code yJ6_bitCount_0f7a4 cJ6_bitCount_0f7a4 1 (some .int), Cond.constant RJ6 265 (1431655765), Cond.constant RJ6 266 (858993459), Cond.constant RJ6 267 (252645135), Cond.methodLink RL 105 yX1_word, Cond.instanceMethod yX1_word, Cond.selects RX1 yX1_word yX1_word, Cond.code yX1_word cX1_word 4 (some .int), Cond.methodLink RX1 71 yX1_wordTold, Cond.instanceMethod yX1_wordTold, Cond.selects RX1 yX1_wordTold yX1_wordTold, Cond.code yX1_wordTold cX1_wordTold 7 (some .int)]
def wsL_law0_r11 : List Cond := [Cond.methodLink RL 106 yL_line, Cond.static yL_line, Cond.codeWith yL_line cL_line 5 (some .int) [(0, 10, 13, 13)], Cond.methodLink RL 48 yX0_line, Cond.instanceMethod yX0_line, Cond.selects RX0 yX0_line yX0_line, Cond.code yX0_line cX0_line 3 (some .int), Cond.methodLink RX0 94 yX0_figureOfLine, Cond.instanceMethod yX0_figureOfLine, Cond.selects RX0 yX0_figureOfLine yX0_figureOfLine, Cond.code yX0_figureOfLine cX0_figureOfLine 5 (some .int), Cond.methodLink RL 108 yX1_line, Cond.instanceMethod yX1_line, Cond.selects RX1 yX1_line yX1_line, Cond.code yX1_line cX1_line 3 (some .int), Cond.methodLink RX1 75 yX1_lineTold, Cond.instanceMethod yX1_lineTold, Cond.selects RX1 yX1_lineTold yX1_lineTold, Cond.code yX1_lineTold cX1_lineTold 5 (some .int), Cond.methodLink RL 109 yL_told, Cond.static yL_told, Cond.codeWith yL_told cL_told 4 (some .int) [(0, 9, 12, 13)], Cond.methodLink RL 51 yX0_told, Cond.instanceMethod yX0_told]
def wsL_law0_r12 : List Cond := [Cond.selects RX0 yX0_told yX0_told, Cond.code yX0_told cX0_told 2 (some .int), Cond.methodLink RX0 97 yX0_pairsOfSameWorth, Cond.instanceMethod yX0_pairsOfSameWorth, Cond.selects RX0 yX0_pairsOfSameWorth yX0_pairsOfSameWorth, Cond.code yX0_pairsOfSameWorth cX0_pairsOfSameWorth 6 (some .int), Cond.methodLink RX0 156 yX0_timesAmongWorths, Cond.instanceMethod yX0_timesAmongWorths, Cond.selects RX0 yX0_timesAmongWorths yX0_timesAmongWorths, Cond.code yX0_timesAmongWorths cX0_timesAmongWorths 5 (some .int), Cond.methodLink RX0 101 yX0_sumOverLines, Cond.instanceMethod yX0_sumOverLines, Cond.selects RX0 yX0_sumOverLines yX0_sumOverLines, Cond.code yX0_sumOverLines cX0_sumOverLines 4 (some .int), Cond.methodLink RL 111 yX1_told, Cond.instanceMethod yX1_told, Cond.selects RX1 yX1_told yX1_told, Cond.code yX1_told cX1_told 2 (some .int), Cond.methodLink RX1 85 yX1_toldOf, Cond.instanceMethod yX1_toldOf, Cond.selects RX1 yX1_toldOf yX1_toldOf, Cond.code yX1_toldOf cX1_toldOf 2 (some .int), Cond.methodLink RX1 78 yX1_pairs, Cond.instanceMethod yX1_pairs]
def wsL_law0_r13 : List Cond := [Cond.selects RX1 yX1_pairs yX1_pairs, Cond.code yX1_pairs cX1_pairs 4 (some .int), Cond.methodLink RX1 82 yX1_all, Cond.instanceMethod yX1_all, Cond.selects RX1 yX1_all yX1_all, Cond.code yX1_all cX1_all 4 (some .int), Cond.methodLink RL 112 yL_hidden, Cond.static yL_hidden, Cond.codeWith yL_hidden cL_hidden 5 (some .int) [(0, 10, 13, 13)], Cond.methodLink RL 54 yX0_hidden, Cond.instanceMethod yX0_hidden, Cond.selects RX0 yX0_hidden yX0_hidden, Cond.code yX0_hidden cX0_hidden 5 (some .int), Cond.methodLink RX0 104 yX0_lastOfRun, Cond.instanceMethod yX0_lastOfRun, Cond.selects RX0 yX0_lastOfRun yX0_lastOfRun, Cond.code yX0_lastOfRun cX0_lastOfRun 6 (some .int), Cond.methodLink RL 114 yX1_hidden, Cond.instanceMethod yX1_hidden, Cond.selects RX1 yX1_hidden yX1_hidden, Cond.code yX1_hidden cX1_hidden 4 (some .int), Cond.methodLink RX1 88 yX1_runTo, Cond.instanceMethod yX1_runTo, Cond.selects RX1 yX1_runTo yX1_runTo]
def wsL_law0_r14 : List Cond := [Cond.code yX1_runTo cX1_runTo 6 (some .int), Cond.methodLink RL 115 yX0_hides, Cond.instanceMethod yX0_hides, Cond.selects RX0 yX0_hides yX0_hides, Cond.code yX0_hides cX0_hides 5 (some .int), Cond.methodLink RL 118 yX1_hides, Cond.instanceMethod yX1_hides, Cond.selects RX1 yX1_hides yX1_hides, Cond.code yX1_hides cX1_hides 5 (some .int), Cond.methodLink RL 119 yL_lacks, Cond.static yL_lacks, Cond.codeWith yL_lacks cL_lacks 5 (some .int) [(0, 10, 13, 13)], Cond.methodLink RL 57 yX0_lacks, Cond.instanceMethod yX0_lacks, Cond.selects RX0 yX0_lacks yX0_lacks, Cond.code yX0_lacks cX0_lacks 5 (some .int), Cond.methodLink RL 121 yX1_lacks, Cond.instanceMethod yX1_lacks, Cond.selects RX1 yX1_lacks yX1_lacks, Cond.code yX1_lacks cX1_lacks 4 (some .int), Cond.methodLink RL 122 yX0_nearest, Cond.instanceMethod yX0_nearest, Cond.selects RX0 yX0_nearest yX0_nearest, Cond.code yX0_nearest cX0_nearest 8 (some .int)]
def wsL_law0_r15 : List Cond := [Cond.methodLink RX0 107 Lib.MathLoose.abs_long.x, Cond.static Lib.MathLoose.abs_long.x, Cond.initialized "java/lang/Math", Cond.code Lib.MathLoose.abs_long.x Lib.MathLoose.abs_long.code 2 (some .long), Cond.methodLink RL 125 yX1_nearest, Cond.instanceMethod yX1_nearest, Cond.selects RX1 yX1_nearest yX1_nearest, Cond.code yX1_nearest cX1_nearest 4 (some .int), Cond.methodLink RX1 91 Lib.MathLoose.abs_long.x, Cond.methodLink RL 126 yL_letters, Cond.static yL_letters, Cond.codeWith yL_letters cL_letters 4 (some .int) [(0, 9, 12, 21)], Cond.methodLink RL 60 yX0_letters, Cond.instanceMethod yX0_letters, Cond.selects RX0 yX0_letters yX0_letters, Cond.code yX0_letters cX0_letters 2 (some .int), Cond.methodLink RX0 113 yX0_checkYear, Cond.static yX0_checkYear, Cond.code yX0_checkYear cX0_checkYear 1 none, Cond.methodLink RX0 116 yX0_fillFewest, Cond.instanceMethod yX0_fillFewest, Cond.selects RX0 yX0_fillFewest yX0_fillFewest, Cond.code yX0_fillFewest cX0_fillFewest 2 none, Cond.methodLink RX0 159 yX0_fewestBySmaller]
def wsL_law0_r16 : List Cond := [Cond.instanceMethod yX0_fewestBySmaller, Cond.selects RX0 yX0_fewestBySmaller yX0_fewestBySmaller, Cond.code yX0_fewestBySmaller cX0_fewestBySmaller 5 (some .int), Cond.methodLink RL 128 yX1_letters, Cond.instanceMethod yX1_letters, Cond.selects RX1 yX1_letters yX1_letters, Cond.code yX1_letters cX1_letters 3 (some .int), Cond.methodLink RX1 100 yX1_fewest, Cond.instanceMethod yX1_fewest, Cond.selects RX1 yX1_fewest yX1_fewest, Cond.code yX1_fewest cX1_fewest 5 (some (.array .int)), Cond.methodLink RX1 97 Lib.Math.min.name, Cond.static Lib.Math.min.name, Cond.code Lib.Math.min.name Lib.Math.min.code 2 (some .int), Cond.methodLink RL 129 yL_spell, Cond.static yL_spell, Cond.codeWith yL_spell cL_spell 5 (some .int) [(0, 10, 13, 21), (0, 10, 17, 13)], Cond.methodLink RL 63 yX0_spell, Cond.instanceMethod yX0_spell, Cond.selects RX0 yX0_spell yX0_spell, Cond.code yX0_spell cX0_spell 5 (some .int), Cond.methodLink RX0 119 yX0_greatestFirst, Cond.instanceMethod yX0_greatestFirst, Cond.selects RX0 yX0_greatestFirst yX0_greatestFirst]
def wsL_law0_r17 : List Cond := [Cond.code yX0_greatestFirst cX0_greatestFirst 4 (some .int), Cond.methodLink RL 131 yX1_spell, Cond.instanceMethod yX1_spell, Cond.selects RX1 yX1_spell yX1_spell, Cond.code yX1_spell cX1_spell 7 (some .int), Cond.methodLink RL 132 yX0_mean, Cond.instanceMethod yX0_mean, Cond.selects RX0 yX0_mean yX0_mean, Cond.code yX0_mean cX0_mean 2 (some .double), Cond.methodLink RL 136 yX1_mean, Cond.instanceMethod yX1_mean, Cond.selects RX1 yX1_mean yX1_mean, Cond.code yX1_mean cX1_mean 1 (some .double), Cond.methodLink RL 137 yX0_digest, Cond.instanceMethod yX0_digest, Cond.selects RX0 yX0_digest yX0_digest, Cond.code yX0_digest cX0_digest 4 (some .long), Cond.constantLong RX0 122 (1297), Cond.constantLong RX0 124 (31), Cond.methodLink RX0 126 yX0_told, Cond.methodLink RX0 129 yX0_digestOfLine, Cond.instanceMethod yX0_digestOfLine, Cond.selects RX0 yX0_digestOfLine yX0_digestOfLine, Cond.code yX0_digestOfLine cX0_digestOfLine 8 (some .long)]
def wsL_law0_r18 : List Cond := [Cond.methodLink RL 141 yX1_digest, Cond.instanceMethod yX1_digest, Cond.selects RX1 yX1_digest yX1_digest, Cond.code yX1_digest cX1_digest 6 (some .long), Cond.constantLong RX1 104 (40207), Cond.constantLong RX1 106 (31)]
def wsL_law0 : List Cond := (wsL_law0_r1 ++ (wsL_law0_r2 ++ (wsL_law0_r3 ++ (wsL_law0_r4 ++ (wsL_law0_r5 ++ (wsL_law0_r6 ++ (wsL_law0_r7 ++ (wsL_law0_r8 ++ (wsL_law0_r9 ++ (wsL_law0_r10 ++ (wsL_law0_r11 ++ (wsL_law0_r12 ++ (wsL_law0_r13 ++ (wsL_law0_r14 ++ (wsL_law0_r15 ++ (wsL_law0_r16 ++ (wsL_law0_r17 ++ wsL_law0_r18))))))))))))))))) ++ wsX00 ++ wsX10 ++ ([] : List Cond)
def wsL_law : List Cond := wsL_law0 ++ (vx_atS RX0 42 "java/lang/IndexOutOfBoundsException" ["java/lang/RuntimeException", "java/lang/Exception"]).filter goodWord ++ (vx_atS RX0 147 "java/lang/IllegalArgumentException" ["java/lang/RuntimeException", "java/lang/Exception"]).filter goodWord ++ (vx_atS RX0 66 "java/lang/IllegalStateException" ["java/lang/RuntimeException", "java/lang/Exception"]).filter goodWord
end
section
set_option maxRecDepth 20000 in
theorem wsL_law0_r1_in : ∀ w ∈ wsL_law0_r1, w ∈ lw_tbl := fun w h => (goodIn_p wsL_law0_r1 [44, 47] (by decide +kernel) (by decide +kernel) w h).1
set_option maxRecDepth 20000 in
theorem wsL_law0_r2_in : ∀ w ∈ wsL_law0_r2, w ∈ lw_tbl := fun w h => (goodIn_p wsL_law0_r2 [403, 228, 431] (by decide +kernel) (by decide +kernel) w h).1
set_option maxRecDepth 20000 in
theorem wsL_law0_r3_in : ∀ w ∈ wsL_law0_r3, w ∈ lw_tbl := fun w h => (goodIn_p wsL_law0_r3 [434, 438, 427, 236, 98] (by decide +kernel) (by decide +kernel) w h).1
set_option maxRecDepth 20000 in
theorem wsL_law0_r4_in : ∀ w ∈ wsL_law0_r4, w ∈ lw_tbl := fun w h => (goodIn_p wsL_law0_r4 [442, 446, 245, 248, 251] (by decide +kernel) (by decide +kernel) w h).1
set_option maxRecDepth 20000 in
theorem wsL_law0_r5_in : ∀ w ∈ wsL_law0_r5, w ∈ lw_tbl := fun w h => (goodIn_p wsL_law0_r5 [88, 91, 94, 450, 453, 456, 460] (by decide +kernel) (by decide +kernel) w h).1
set_option maxRecDepth 20000 in
theorem wsL_law0_r6_in : ∀ w ∈ wsL_law0_r6, w ∈ lw_tbl := fun w h => (goodIn_p wsL_law0_r6 [463, 275, 278, 467, 470] (by decide +kernel) (by decide +kernel) w h).1
set_option maxRecDepth 20000 in
theorem wsL_law0_r7_in : ∀ w ∈ wsL_law0_r7, w ∈ lw_tbl := fun w h => (goodIn_p wsL_law0_r7 [286, 474, 309, 313] (by decide +kernel) (by decide +kernel) w h).1
set_option maxRecDepth 20000 in
theorem wsL_law0_r8_in : ∀ w ∈ wsL_law0_r8, w ∈ lw_tbl := fun w h => (goodIn_p wsL_law0_r8 [478, 482, 486, 322, 490, 494] (by decide +kernel) (by decide +kernel) w h).1
set_option maxRecDepth 20000 in
theorem wsL_law0_r9_in : ∀ w ∈ wsL_law0_r9, w ∈ lw_tbl := fun w h => (goodIn_p wsL_law0_r9 [330, 334, 498, 502] (by decide +kernel) (by decide +kernel) w h).1
set_option maxRecDepth 20000 in
theorem wsL_law0_r10_in : ∀ w ∈ wsL_law0_r10, w ∈ lw_tbl := fun w h => (goodIn_p wsL_law0_r10 [343, 140, 110, 113, 506, 510] (by decide +kernel) (by decide +kernel) w h).1
set_option maxRecDepth 20000 in
theorem wsL_law0_r11_in : ∀ w ∈ wsL_law0_r11, w ∈ lw_tbl := fun w h => (goodIn_p wsL_law0_r11 [350, 106, 514, 518] (by decide +kernel) (by decide +kernel) w h).1
set_option maxRecDepth 20000 in
theorem wsL_law0_r12_in : ∀ w ∈ wsL_law0_r12, w ∈ lw_tbl := fun w h => (goodIn_p wsL_law0_r12 [137, 212, 216, 127, 522, 526] (by decide +kernel) (by decide +kernel) w h).1
set_option maxRecDepth 20000 in
theorem wsL_law0_r13_in : ∀ w ∈ wsL_law0_r13, w ∈ lw_tbl := fun w h => (goodIn_p wsL_law0_r13 [530, 534, 361, 84, 538] (by decide +kernel) (by decide +kernel) w h).1
set_option maxRecDepth 20000 in
theorem wsL_law0_r14_in : ∀ w ∈ wsL_law0_r14, w ∈ lw_tbl := fun w h => (goodIn_p wsL_law0_r14 [542, 80, 546, 368, 550, 102] (by decide +kernel) (by decide +kernel) w h).1
set_option maxRecDepth 20000 in
theorem wsL_law0_r15_in : ∀ w ∈ wsL_law0_r15, w ∈ lw_tbl := fun w h => (goodIn_p wsL_law0_r15 [119, 554, 375, 378, 383] (by decide +kernel) (by decide +kernel) w h).1
set_option maxRecDepth 20000 in
theorem wsL_law0_r16_in : ∀ w ∈ wsL_law0_r16, w ∈ lw_tbl := fun w h => (goodIn_p wsL_law0_r16 [387, 559, 563, 566, 394] (by decide +kernel) (by decide +kernel) w h).1
set_option maxRecDepth 20000 in
theorem wsL_law0_r17_in : ∀ w ∈ wsL_law0_r17, w ∈ lw_tbl := fun w h => (goodIn_p wsL_law0_r17 [398, 570, 123, 574, 131, 220] (by decide +kernel) (by decide +kernel) w h).1
set_option maxRecDepth 20000 in
theorem wsL_law0_r18_in : ∀ w ∈ wsL_law0_r18, w ∈ lw_tbl := fun w h => (goodIn_p wsL_law0_r18 [578] (by decide +kernel) (by decide +kernel) w h).1
theorem wsX00_tbl : ∀ w ∈ wsX00, w ∈ lw_tbl := by decide +kernel
theorem wsX10_tbl : ∀ w ∈ wsX10, w ∈ lw_tbl := by decide +kernel
theorem wsL_law_in0 : ∀ w ∈ wsL_law0, w ∈ lw_tbl := fun w h => (List.mem_append.mp h).elim (fun h => (List.mem_append.mp h).elim (fun h => (List.mem_append.mp h).elim (fun h => (List.mem_append.mp h).elim (fun h => wsL_law0_r1_in w h) (fun h => (List.mem_append.mp h).elim (fun h => wsL_law0_r2_in w h) (fun h => (List.mem_append.mp h).elim (fun h => wsL_law0_r3_in w h) (fun h => (List.mem_append.mp h).elim (fun h => wsL_law0_r4_in w h) (fun h => (List.mem_append.mp h).elim (fun h => wsL_law0_r5_in w h) (fun h => (List.mem_append.mp h).elim (fun h => wsL_law0_r6_in w h) (fun h => (List.mem_append.mp h).elim (fun h => wsL_law0_r7_in w h) (fun h => (List.mem_append.mp h).elim (fun h => wsL_law0_r8_in w h) (fun h => (List.mem_append.mp h).elim (fun h => wsL_law0_r9_in w h) (fun h => (List.mem_append.mp h).elim (fun h => wsL_law0_r10_in w h) (fun h => (List.mem_append.mp h).elim (fun h => wsL_law0_r11_in w h) (fun h => (List.mem_append.mp h).elim (fun h => wsL_law0_r12_in w h) (fun h => (List.mem_append.mp h).elim (fun h => wsL_law0_r13_in w h) (fun h => (List.mem_append.mp h).elim (fun h => wsL_law0_r14_in w h) (fun h => (List.mem_append.mp h).elim (fun h => wsL_law0_r15_in w h) (fun h => (List.mem_append.mp h).elim (fun h => wsL_law0_r16_in w h) (fun h => (List.mem_append.mp h).elim (fun h => wsL_law0_r17_in w h) (fun h => wsL_law0_r18_in w h)))))))))))))))))) (fun h => wsX00_tbl w h)) (fun h => wsX10_tbl w h)) (fun h => nomatch h)
theorem wsL_law_x0 : ∀ w ∈ (vx_atS RX0 42 "java/lang/IndexOutOfBoundsException" ["java/lang/RuntimeException", "java/lang/Exception"]).filter goodWord, w ∈ lw_tbl := by decide +kernel
theorem wsL_law_x1 : ∀ w ∈ (vx_atS RX0 147 "java/lang/IllegalArgumentException" ["java/lang/RuntimeException", "java/lang/Exception"]).filter goodWord, w ∈ lw_tbl := by decide +kernel
theorem wsL_law_x2 : ∀ w ∈ (vx_atS RX0 66 "java/lang/IllegalStateException" ["java/lang/RuntimeException", "java/lang/Exception"]).filter goodWord, w ∈ lw_tbl := by decide +kernel
theorem wsL_law_in : ∀ w ∈ wsL_law, w ∈ lw_tbl := fun w h => (List.mem_append.mp h).elim (fun h => (List.mem_append.mp h).elim (fun h => (List.mem_append.mp h).elim (fun h => wsL_law_in0 w h) (fun h => wsL_law_x0 w h)) (fun h => wsL_law_x1 w h)) (fun h => wsL_law_x2 w h)
theorem inlX0 : ∀ w ∈ wsX00, w ∈ wsL_law := fun _ h => List.mem_append_left _ (List.mem_append_left _ (List.mem_append_left _ (List.mem_append_left _ (List.mem_append_left _ (List.mem_append_right _ h)))))
theorem inX0 : ∀ w ∈ wsX00, w ∈ lw_tbl := fun w h => wsL_law_in w (inlX0 w h)
theorem inlX1 : ∀ w ∈ wsX10, w ∈ wsL_law := fun _ h => List.mem_append_left _ (List.mem_append_left _ (List.mem_append_left _ (List.mem_append_left _ (List.mem_append_right _ h))))
theorem inX1 : ∀ w ∈ wsX10, w ∈ lw_tbl := fun w h => wsL_law_in w (inlX1 w h)
theorem inJ6 : ∀ w ∈ wsJ60, w ∈ lw_tbl := by decide +kernel
theorem inJ9 : ∀ w ∈ wsJ90, w ∈ lw_tbl := by decide +kernel
theorem inJ0 : ∀ w ∈ wsJ00, w ∈ lw_tbl := by decide +kernel
end
section
theorem dX0_init_0 : decode cX0_init 0 = .ok (.aload_n 0, 1) := by decide +kernel
theorem dX0_init_1 : decode cX0_init 1 = .ok (.invokespecial 1, 3) := by decide +kernel
theorem dX0_init_4 : decode cX0_init 4 = .ok (.aload_n 0, 1) := by decide +kernel
theorem dX0_init_5 : decode cX0_init 5 = .ok (.iconst 0, 1) := by decide +kernel
theorem dX0_init_6 : decode cX0_init 6 = .ok (.putfield 9, 3) := by decide +kernel
theorem dX0_init_9 : decode cX0_init 9 = .ok (.aload_n 0, 1) := by decide +kernel
theorem dX0_init_10 : decode cX0_init 10 = .ok (.iconst 0, 1) := by decide +kernel
theorem dX0_init_11 : decode cX0_init 11 = .ok (.putfield 13, 3) := by decide +kernel
theorem dX0_init_14 : decode cX0_init 14 = .ok (.aload_n 0, 1) := by decide +kernel
theorem dX0_init_15 : decode cX0_init 15 = .ok (.bipush 12, 2) := by decide +kernel
theorem dX0_init_17 : decode cX0_init 17 = .ok (.newarray .int, 2) := by decide +kernel
theorem dX0_init_19 : decode cX0_init 19 = .ok (.putfield 16, 3) := by decide +kernel
theorem dX0_init_22 : decode cX0_init 22 = .ok (.aload_n 0, 1) := by decide +kernel
theorem dX0_init_23 : decode cX0_init 23 = .ok (.bipush 12, 2) := by decide +kernel
theorem dX0_init_25 : decode cX0_init 25 = .ok (.bipush 10, 2) := by decide +kernel
theorem dX0_init_27 : decode cX0_init 27 = .ok (.multianewarray 20 2, 4) := by decide +kernel
theorem dX0_init_31 : decode cX0_init 31 = .ok (.putfield 22, 3) := by decide +kernel
theorem dX0_init_34 : decode cX0_init 34 = .ok (.aload_n 0, 1) := by decide +kernel
theorem dX0_init_35 : decode cX0_init 35 = .ok (.bipush 12, 2) := by decide +kernel
theorem dX0_init_37 : decode cX0_init 37 = .ok (.bipush 10, 2) := by decide +kernel
theorem dX0_init_39 : decode cX0_init 39 = .ok (.multianewarray 20 2, 4) := by decide +kernel
theorem dX0_init_43 : decode cX0_init 43 = .ok (.putfield 25, 3) := by decide +kernel
theorem dX0_init_46 : decode cX0_init 46 = .ok (.aload_n 0, 1) := by decide +kernel
theorem dX0_init_47 : decode cX0_init 47 = .ok (.bipush 120, 2) := by decide +kernel
theorem dX0_init_49 : decode cX0_init 49 = .ok (.newarray .int, 2) := by decide +kernel
theorem dX0_init_51 : decode cX0_init 51 = .ok (.putfield 28, 3) := by decide +kernel
theorem dX0_init_54 : decode cX0_init 54 = .ok (.aload_n 0, 1) := by decide +kernel
theorem dX0_init_55 : decode cX0_init 55 = .ok (.iconst 3, 1) := by decide +kernel
theorem dX0_init_56 : decode cX0_init 56 = .ok (.sipush 3001, 3) := by decide +kernel
theorem dX0_init_59 : decode cX0_init 59 = .ok (.multianewarray 20 2, 4) := by decide +kernel
theorem dX0_init_63 : decode cX0_init 63 = .ok (.putfield 31, 3) := by decide +kernel
theorem dX0_init_66 : decode cX0_init 66 = .ok (.aload_n 0, 1) := by decide +kernel
theorem dX0_init_67 : decode cX0_init 67 = .ok (.iconst 3, 1) := by decide +kernel
theorem dX0_init_68 : decode cX0_init 68 = .ok (.newarray .boolean, 2) := by decide +kernel
theorem dX0_init_70 : decode cX0_init 70 = .ok (.putfield 34, 3) := by decide +kernel
theorem dX0_init_73 : decode cX0_init 73 = .ok (.return_, 1) := by decide +kernel
theorem dX0_count_0 : decode cX0_count 0 = .ok (.iload_n 1, 1) := by decide +kernel
theorem dX0_count_1 : decode cX0_count 1 = .ok (.ifCond .lt 8, 3) := by decide +kernel
theorem dX0_count_4 : decode cX0_count 4 = .ok (.iload_n 1, 1) := by decide +kernel
theorem dX0_count_5 : decode cX0_count 5 = .ok (.iconst 3, 1) := by decide +kernel
theorem dX0_count_6 : decode cX0_count 6 = .ok (.if_icmp .lt 13, 3) := by decide +kernel
theorem dX0_count_9 : decode cX0_count 9 = .ok (.new 38, 3) := by decide +kernel
theorem dX0_count_12 : decode cX0_count 12 = .ok (.dup, 1) := by decide +kernel
theorem dX0_count_13 : decode cX0_count 13 = .ok (.ldc 40, 2) := by decide +kernel
theorem dX0_count_15 : decode cX0_count 15 = .ok (.invokespecial 42, 3) := by decide +kernel
theorem dX0_count_18 : decode cX0_count 18 = .ok (.athrow, 1) := by decide +kernel
theorem dX0_count_19 : decode cX0_count 19 = .ok (.aload_n 0, 1) := by decide +kernel
theorem dX0_count_20 : decode cX0_count 20 = .ok (.getfield 9, 3) := by decide +kernel
theorem dX0_count_23 : decode cX0_count 23 = .ok (.istore_n 2, 1) := by decide +kernel
theorem dX0_count_24 : decode cX0_count 24 = .ok (.aload_n 0, 1) := by decide +kernel
theorem dX0_count_25 : decode cX0_count 25 = .ok (.iload_n 1, 1) := by decide +kernel
theorem dX0_count_26 : decode cX0_count 26 = .ok (.putfield 9, 3) := by decide +kernel
theorem dX0_count_29 : decode cX0_count 29 = .ok (.iload_n 2, 1) := by decide +kernel
theorem dX0_count_30 : decode cX0_count 30 = .ok (.ireturn, 1) := by decide +kernel
set_option maxRecDepth 20000 in
theorem ggX0_letter_X0_worthOfLetter : GoodIn wsX0_letter wsX0_worthOfLetter := goodIn_r _ [7, 8, 9, 10, 11, 12, 13, 14, 15, 16] (by decide +kernel) (by decide +kernel)
set_option maxRecDepth 20000 in
theorem gX0_letter_X0_worthOfLetter : GoodIn wsX0_letter (wsV RX0 47 RX0 yX0_worthOfLetter wsX0_worthOfLetter) := goodIn_app (goodIn_of _ (by decide +kernel)) ggX0_letter_X0_worthOfLetter
theorem dX0_letter_0 : decode cX0_letter 0 = .ok (.iload_n 1, 1) := by decide +kernel
theorem dX0_letter_1 : decode cX0_letter 1 = .ok (.iconst 1, 1) := by decide +kernel
theorem dX0_letter_2 : decode cX0_letter 2 = .ok (.if_icmp .lt 9, 3) := by decide +kernel
theorem dX0_letter_5 : decode cX0_letter 5 = .ok (.iload_n 1, 1) := by decide +kernel
theorem dX0_letter_6 : decode cX0_letter 6 = .ok (.bipush 26, 2) := by decide +kernel
theorem dX0_letter_8 : decode cX0_letter 8 = .ok (.if_icmp .le 13, 3) := by decide +kernel
theorem dX0_letter_11 : decode cX0_letter 11 = .ok (.new 38, 3) := by decide +kernel
theorem dX0_letter_14 : decode cX0_letter 14 = .ok (.dup, 1) := by decide +kernel
theorem dX0_letter_15 : decode cX0_letter 15 = .ok (.ldc 45, 2) := by decide +kernel
theorem dX0_letter_17 : decode cX0_letter 17 = .ok (.invokespecial 42, 3) := by decide +kernel
theorem dX0_letter_20 : decode cX0_letter 20 = .ok (.athrow, 1) := by decide +kernel
theorem dX0_letter_21 : decode cX0_letter 21 = .ok (.aload_n 0, 1) := by decide +kernel
theorem dX0_letter_22 : decode cX0_letter 22 = .ok (.iload_n 1, 1) := by decide +kernel
theorem dX0_letter_23 : decode cX0_letter 23 = .ok (.invokevirtual 47, 3) := by decide +kernel
theorem dX0_letter_26 : decode cX0_letter 26 = .ok (.ireturn, 1) := by decide +kernel
set_option maxRecDepth 20000 in
theorem ggX0_value_X0_checkWord : GoodIn wsX0_value wsX0_checkWord := goodIn_ca (goodIn_r _ [4, 5, 6, 7, 8, 3, 9, 10] (by decide +kernel) (by decide +kernel)) (goodIn_sub (fun _ h => List.mem_cons_of_mem _ (List.mem_append_right _ h)) (by decide +kernel))
set_option maxRecDepth 20000 in
theorem gX0_value_X0_checkWord : GoodIn wsX0_value (va_wsS RX0 51 yX0_checkWord wsX0_checkWord) := goodIn_app (goodIn_of _ (by decide +kernel)) ggX0_value_X0_checkWord
set_option maxRecDepth 20000 in
theorem ggX0_value_X0_worthOfPlaces : GoodIn wsX0_value wsX0_worthOfPlaces := goodIn_r _ [14, 15, 16, 3, 17, 18, 19, 20, 21, 22, 23, 24, 25, 26, 27, 28, 29, 30, 31, 32, 33] (by decide +kernel) (by decide +kernel)
set_option maxRecDepth 20000 in
theorem gX0_value_X0_worthOfPlaces : GoodIn wsX0_value (wsV RX0 55 RX0 yX0_worthOfPlaces wsX0_worthOfPlaces) := goodIn_app (goodIn_of _ (by decide +kernel)) ggX0_value_X0_worthOfPlaces
theorem dX0_value_0 : decode cX0_value 0 = .ok (.iload_n 1, 1) := by decide +kernel
theorem dX0_value_1 : decode cX0_value 1 = .ok (.invokestatic 51, 3) := by decide +kernel
theorem dX0_value_4 : decode cX0_value 4 = .ok (.aload_n 0, 1) := by decide +kernel
theorem dX0_value_5 : decode cX0_value 5 = .ok (.iload_n 1, 1) := by decide +kernel
theorem dX0_value_6 : decode cX0_value 6 = .ok (.bipush 63, 2) := by decide +kernel
theorem dX0_value_8 : decode cX0_value 8 = .ok (.invokevirtual 55, 3) := by decide +kernel
theorem dX0_value_11 : decode cX0_value 11 = .ok (.ireturn, 1) := by decide +kernel
set_option maxRecDepth 20000 in
theorem ggX0_alike_X0_checkWord : GoodIn wsX0_alike wsX0_checkWord := goodIn_ca (goodIn_r _ [4, 5, 6, 7, 8, 3, 9, 10] (by decide +kernel) (by decide +kernel)) (goodIn_sub (fun _ h => List.mem_cons_of_mem _ (List.mem_append_right _ h)) (by decide +kernel))
set_option maxRecDepth 20000 in
theorem gX0_alike_X0_checkWord : GoodIn wsX0_alike (va_wsS RX0 51 yX0_checkWord wsX0_checkWord) := goodIn_app (goodIn_of _ (by decide +kernel)) ggX0_alike_X0_checkWord
set_option maxRecDepth 20000 in
theorem ggX0_alike_X0_timesIn : GoodIn wsX0_alike wsX0_timesIn := goodIn_r _ [13] (by decide +kernel) (by decide +kernel)
set_option maxRecDepth 20000 in
theorem gX0_alike_X0_timesIn : GoodIn wsX0_alike (va_wsS RX0 59 yX0_timesIn wsX0_timesIn) := goodIn_app (goodIn_of _ (by decide +kernel)) ggX0_alike_X0_timesIn
theorem dX0_alike_0 : decode cX0_alike 0 = .ok (.iload_n 1, 1) := by decide +kernel
theorem dX0_alike_1 : decode cX0_alike 1 = .ok (.invokestatic 51, 3) := by decide +kernel
theorem dX0_alike_4 : decode cX0_alike 4 = .ok (.iload_n 2, 1) := by decide +kernel
theorem dX0_alike_5 : decode cX0_alike 5 = .ok (.invokestatic 51, 3) := by decide +kernel
theorem dX0_alike_8 : decode cX0_alike 8 = .ok (.iconst 1, 1) := by decide +kernel
theorem dX0_alike_9 : decode cX0_alike 9 = .ok (.istore_n 3, 1) := by decide +kernel
theorem dX0_alike_10 : decode cX0_alike 10 = .ok (.iload_n 3, 1) := by decide +kernel
theorem dX0_alike_11 : decode cX0_alike 11 = .ok (.bipush 26, 2) := by decide +kernel
theorem dX0_alike_13 : decode cX0_alike 13 = .ok (.if_icmp .gt 24, 3) := by decide +kernel
theorem dX0_alike_16 : decode cX0_alike 16 = .ok (.iload_n 1, 1) := by decide +kernel
theorem dX0_alike_17 : decode cX0_alike 17 = .ok (.iload_n 3, 1) := by decide +kernel
theorem dX0_alike_18 : decode cX0_alike 18 = .ok (.invokestatic 59, 3) := by decide +kernel
theorem dX0_alike_21 : decode cX0_alike 21 = .ok (.iload_n 2, 1) := by decide +kernel
theorem dX0_alike_22 : decode cX0_alike 22 = .ok (.iload_n 3, 1) := by decide +kernel
theorem dX0_alike_23 : decode cX0_alike 23 = .ok (.invokestatic 59, 3) := by decide +kernel
theorem dX0_alike_26 : decode cX0_alike 26 = .ok (.if_icmp .eq 5, 3) := by decide +kernel
theorem dX0_alike_29 : decode cX0_alike 29 = .ok (.iconst 0, 1) := by decide +kernel
theorem dX0_alike_30 : decode cX0_alike 30 = .ok (.ireturn, 1) := by decide +kernel
theorem dX0_alike_31 : decode cX0_alike 31 = .ok (.iinc 3 1, 3) := by decide +kernel
theorem dX0_alike_34 : decode cX0_alike 34 = .ok (.goto (-24), 3) := by decide +kernel
theorem dX0_alike_37 : decode cX0_alike 37 = .ok (.iconst 1, 1) := by decide +kernel
theorem dX0_alike_38 : decode cX0_alike 38 = .ok (.ireturn, 1) := by decide +kernel
theorem dX0_write_0 : decode cX0_write 0 = .ok (.aload_n 0, 1) := by decide +kernel
theorem dX0_write_1 : decode cX0_write 1 = .ok (.getfield 13, 3) := by decide +kernel
theorem dX0_write_4 : decode cX0_write 4 = .ok (.bipush 12, 2) := by decide +kernel
theorem dX0_write_6 : decode cX0_write 6 = .ok (.if_icmp .lt 13, 3) := by decide +kernel
theorem dX0_write_9 : decode cX0_write 9 = .ok (.new 62, 3) := by decide +kernel
theorem dX0_write_12 : decode cX0_write 12 = .ok (.dup, 1) := by decide +kernel
theorem dX0_write_13 : decode cX0_write 13 = .ok (.ldc 64, 2) := by decide +kernel
theorem dX0_write_15 : decode cX0_write 15 = .ok (.invokespecial 66, 3) := by decide +kernel
theorem dX0_write_18 : decode cX0_write 18 = .ok (.athrow, 1) := by decide +kernel
theorem dX0_write_19 : decode cX0_write 19 = .ok (.aload_n 0, 1) := by decide +kernel
theorem dX0_write_20 : decode cX0_write 20 = .ok (.dup, 1) := by decide +kernel
theorem dX0_write_21 : decode cX0_write 21 = .ok (.getfield 13, 3) := by decide +kernel
theorem dX0_write_24 : decode cX0_write 24 = .ok (.iconst 1, 1) := by decide +kernel
theorem dX0_write_25 : decode cX0_write 25 = .ok (.iadd, 1) := by decide +kernel
theorem dX0_write_26 : decode cX0_write 26 = .ok (.putfield 13, 3) := by decide +kernel
theorem dX0_write_29 : decode cX0_write 29 = .ok (.aload_n 0, 1) := by decide +kernel
theorem dX0_write_30 : decode cX0_write 30 = .ok (.getfield 13, 3) := by decide +kernel
theorem dX0_write_33 : decode cX0_write 33 = .ok (.iconst 1, 1) := by decide +kernel
theorem dX0_write_34 : decode cX0_write 34 = .ok (.isub, 1) := by decide +kernel
theorem dX0_write_35 : decode cX0_write 35 = .ok (.ireturn, 1) := by decide +kernel
set_option maxRecDepth 20000 in
theorem ggX0_add_X0_checkLine : GoodIn wsX0_add wsX0_checkLine := goodIn_ca (goodIn_r _ [10, 11, 12, 13, 23, 24, 25, 26, 27, 28, 29, 30] (by decide +kernel) (by decide +kernel)) (goodIn_sub (fun _ h => List.mem_cons_of_mem _ (List.mem_append_left _ (List.mem_append_right _ h))) (by decide +kernel))
set_option maxRecDepth 20000 in
theorem gX0_add_X0_checkLine : GoodIn wsX0_add (wsV RX0 67 RX0 yX0_checkLine wsX0_checkLine) := goodIn_app (goodIn_of _ (by decide +kernel)) ggX0_add_X0_checkLine
set_option maxRecDepth 20000 in
theorem ggX0_add_X0_checkWord : GoodIn wsX0_add wsX0_checkWord := goodIn_ca (goodIn_r _ [16, 17, 18, 19, 20, 9, 21, 22] (by decide +kernel) (by decide +kernel)) (goodIn_sub (fun _ h => List.mem_cons_of_mem _ (List.mem_append_right _ h)) (by decide +kernel))
set_option maxRecDepth 20000 in
theorem gX0_add_X0_checkWord : GoodIn wsX0_add (va_wsS RX0 51 yX0_checkWord wsX0_checkWord) := goodIn_app (goodIn_of _ (by decide +kernel)) ggX0_add_X0_checkWord
theorem dX0_add_0 : decode cX0_add 0 = .ok (.aload_n 0, 1) := by decide +kernel
theorem dX0_add_1 : decode cX0_add 1 = .ok (.iload_n 1, 1) := by decide +kernel
theorem dX0_add_2 : decode cX0_add 2 = .ok (.invokevirtual 67, 3) := by decide +kernel
theorem dX0_add_5 : decode cX0_add 5 = .ok (.iload_n 2, 1) := by decide +kernel
theorem dX0_add_6 : decode cX0_add 6 = .ok (.invokestatic 51, 3) := by decide +kernel
theorem dX0_add_9 : decode cX0_add 9 = .ok (.aload_n 0, 1) := by decide +kernel
theorem dX0_add_10 : decode cX0_add 10 = .ok (.getfield 16, 3) := by decide +kernel
theorem dX0_add_13 : decode cX0_add 13 = .ok (.iload_n 1, 1) := by decide +kernel
theorem dX0_add_14 : decode cX0_add 14 = .ok (.iaload, 1) := by decide +kernel
theorem dX0_add_15 : decode cX0_add 15 = .ok (.istore_n 3, 1) := by decide +kernel
theorem dX0_add_16 : decode cX0_add 16 = .ok (.iload_n 3, 1) := by decide +kernel
theorem dX0_add_17 : decode cX0_add 17 = .ok (.bipush 10, 2) := by decide +kernel
theorem dX0_add_19 : decode cX0_add 19 = .ok (.if_icmp .lt 13, 3) := by decide +kernel
theorem dX0_add_22 : decode cX0_add 22 = .ok (.new 62, 3) := by decide +kernel
theorem dX0_add_25 : decode cX0_add 25 = .ok (.dup, 1) := by decide +kernel
theorem dX0_add_26 : decode cX0_add 26 = .ok (.ldc 70, 2) := by decide +kernel
theorem dX0_add_28 : decode cX0_add 28 = .ok (.invokespecial 66, 3) := by decide +kernel
theorem dX0_add_31 : decode cX0_add 31 = .ok (.athrow, 1) := by decide +kernel
theorem dX0_add_32 : decode cX0_add 32 = .ok (.aload_n 0, 1) := by decide +kernel
theorem dX0_add_33 : decode cX0_add 33 = .ok (.getfield 22, 3) := by decide +kernel
theorem dX0_add_36 : decode cX0_add 36 = .ok (.iload_n 1, 1) := by decide +kernel
theorem dX0_add_37 : decode cX0_add 37 = .ok (.aaload, 1) := by decide +kernel
theorem dX0_add_38 : decode cX0_add 38 = .ok (.iload_n 3, 1) := by decide +kernel
theorem dX0_add_39 : decode cX0_add 39 = .ok (.iload_n 2, 1) := by decide +kernel
theorem dX0_add_40 : decode cX0_add 40 = .ok (.iastore, 1) := by decide +kernel
theorem dX0_add_41 : decode cX0_add 41 = .ok (.aload_n 0, 1) := by decide +kernel
theorem dX0_add_42 : decode cX0_add 42 = .ok (.getfield 25, 3) := by decide +kernel
theorem dX0_add_45 : decode cX0_add 45 = .ok (.iload_n 1, 1) := by decide +kernel
theorem dX0_add_46 : decode cX0_add 46 = .ok (.aaload, 1) := by decide +kernel
theorem dX0_add_47 : decode cX0_add 47 = .ok (.iload_n 3, 1) := by decide +kernel
theorem dX0_add_48 : decode cX0_add 48 = .ok (.iconst 0, 1) := by decide +kernel
theorem dX0_add_49 : decode cX0_add 49 = .ok (.iastore, 1) := by decide +kernel
theorem dX0_add_50 : decode cX0_add 50 = .ok (.aload_n 0, 1) := by decide +kernel
theorem dX0_add_51 : decode cX0_add 51 = .ok (.getfield 16, 3) := by decide +kernel
theorem dX0_add_54 : decode cX0_add 54 = .ok (.iload_n 1, 1) := by decide +kernel
theorem dX0_add_55 : decode cX0_add 55 = .ok (.iload_n 3, 1) := by decide +kernel
theorem dX0_add_56 : decode cX0_add 56 = .ok (.iconst 1, 1) := by decide +kernel
theorem dX0_add_57 : decode cX0_add 57 = .ok (.iadd, 1) := by decide +kernel
theorem dX0_add_58 : decode cX0_add 58 = .ok (.iastore, 1) := by decide +kernel
theorem dX0_add_59 : decode cX0_add 59 = .ok (.iload_n 3, 1) := by decide +kernel
theorem dX0_add_60 : decode cX0_add 60 = .ok (.iconst 1, 1) := by decide +kernel
theorem dX0_add_61 : decode cX0_add 61 = .ok (.iadd, 1) := by decide +kernel
theorem dX0_add_62 : decode cX0_add 62 = .ok (.ireturn, 1) := by decide +kernel
set_option maxRecDepth 20000 in
theorem ggX0_cut_X0_checkLine : GoodIn wsX0_cut wsX0_checkLine := goodIn_ca (goodIn_r _ [9, 10, 11, 12, 13, 14, 15, 16, 17, 18, 19, 20] (by decide +kernel) (by decide +kernel)) (goodIn_sub (fun _ h => List.mem_cons_of_mem _ (List.mem_append_right _ h)) (by decide +kernel))
set_option maxRecDepth 20000 in
theorem gX0_cut_X0_checkLine : GoodIn wsX0_cut (wsV RX0 67 RX0 yX0_checkLine wsX0_checkLine) := goodIn_app (goodIn_of _ (by decide +kernel)) ggX0_cut_X0_checkLine
theorem dX0_cut_0 : decode cX0_cut 0 = .ok (.aload_n 0, 1) := by decide +kernel
theorem dX0_cut_1 : decode cX0_cut 1 = .ok (.iload_n 1, 1) := by decide +kernel
theorem dX0_cut_2 : decode cX0_cut 2 = .ok (.invokevirtual 67, 3) := by decide +kernel
theorem dX0_cut_5 : decode cX0_cut 5 = .ok (.aload_n 0, 1) := by decide +kernel
theorem dX0_cut_6 : decode cX0_cut 6 = .ok (.getfield 16, 3) := by decide +kernel
theorem dX0_cut_9 : decode cX0_cut 9 = .ok (.iload_n 1, 1) := by decide +kernel
theorem dX0_cut_10 : decode cX0_cut 10 = .ok (.iaload, 1) := by decide +kernel
theorem dX0_cut_11 : decode cX0_cut 11 = .ok (.iconst 1, 1) := by decide +kernel
theorem dX0_cut_12 : decode cX0_cut 12 = .ok (.isub, 1) := by decide +kernel
theorem dX0_cut_13 : decode cX0_cut 13 = .ok (.istore_n 2, 1) := by decide +kernel
theorem dX0_cut_14 : decode cX0_cut 14 = .ok (.iload_n 2, 1) := by decide +kernel
theorem dX0_cut_15 : decode cX0_cut 15 = .ok (.ifCond .ge 13, 3) := by decide +kernel
theorem dX0_cut_18 : decode cX0_cut 18 = .ok (.new 62, 3) := by decide +kernel
theorem dX0_cut_21 : decode cX0_cut 21 = .ok (.dup, 1) := by decide +kernel
theorem dX0_cut_22 : decode cX0_cut 22 = .ok (.ldc 72, 2) := by decide +kernel
theorem dX0_cut_24 : decode cX0_cut 24 = .ok (.invokespecial 66, 3) := by decide +kernel
theorem dX0_cut_27 : decode cX0_cut 27 = .ok (.athrow, 1) := by decide +kernel
theorem dX0_cut_28 : decode cX0_cut 28 = .ok (.aload_n 0, 1) := by decide +kernel
theorem dX0_cut_29 : decode cX0_cut 29 = .ok (.getfield 16, 3) := by decide +kernel
theorem dX0_cut_32 : decode cX0_cut 32 = .ok (.iload_n 1, 1) := by decide +kernel
theorem dX0_cut_33 : decode cX0_cut 33 = .ok (.iload_n 2, 1) := by decide +kernel
theorem dX0_cut_34 : decode cX0_cut 34 = .ok (.iastore, 1) := by decide +kernel
theorem dX0_cut_35 : decode cX0_cut 35 = .ok (.aload_n 0, 1) := by decide +kernel
theorem dX0_cut_36 : decode cX0_cut 36 = .ok (.getfield 22, 3) := by decide +kernel
theorem dX0_cut_39 : decode cX0_cut 39 = .ok (.iload_n 1, 1) := by decide +kernel
theorem dX0_cut_40 : decode cX0_cut 40 = .ok (.aaload, 1) := by decide +kernel
theorem dX0_cut_41 : decode cX0_cut 41 = .ok (.iload_n 2, 1) := by decide +kernel
theorem dX0_cut_42 : decode cX0_cut 42 = .ok (.iaload, 1) := by decide +kernel
theorem dX0_cut_43 : decode cX0_cut 43 = .ok (.ireturn, 1) := by decide +kernel
set_option maxRecDepth 20000 in
theorem ggX0_mark_X0_checkWordOfLine : GoodIn wsX0_mark wsX0_checkWordOfLine := goodIn_ca (goodIn_r _ [9, 1, 2, 10, 11, 12, 13, 8, 14, 15, 22, 23, 24, 25, 26, 27, 28, 29] (by decide +kernel) (by decide +kernel)) (goodIn_sub (fun _ h => List.mem_cons_of_mem _ (List.mem_append_right _ h)) (by decide +kernel))
set_option maxRecDepth 20000 in
theorem gX0_mark_X0_checkWordOfLine : GoodIn wsX0_mark (wsV RX0 74 RX0 yX0_checkWordOfLine wsX0_checkWordOfLine) := goodIn_app (goodIn_of _ (by decide +kernel)) ggX0_mark_X0_checkWordOfLine
set_option maxRecDepth 20000 in
theorem ggX0_mark_X0_lengthOf : GoodIn wsX0_mark wsX0_lengthOf := goodIn_r _ [18] (by decide +kernel) (by decide +kernel)
set_option maxRecDepth 20000 in
theorem gX0_mark_X0_lengthOf : GoodIn wsX0_mark (va_wsS RX0 78 yX0_lengthOf wsX0_lengthOf) := goodIn_app (goodIn_of _ (by decide +kernel)) ggX0_mark_X0_lengthOf
set_option maxRecDepth 20000 in
theorem ggX0_mark_X0_isMarked : GoodIn wsX0_mark wsX0_isMarked := goodIn_r _ [21] (by decide +kernel) (by decide +kernel)
set_option maxRecDepth 20000 in
theorem gX0_mark_X0_isMarked : GoodIn wsX0_mark (va_wsS RX0 83 yX0_isMarked wsX0_isMarked) := goodIn_app (goodIn_of _ (by decide +kernel)) ggX0_mark_X0_isMarked
theorem dX0_mark_0 : decode cX0_mark 0 = .ok (.aload_n 0, 1) := by decide +kernel
theorem dX0_mark_1 : decode cX0_mark 1 = .ok (.iload_n 1, 1) := by decide +kernel
theorem dX0_mark_2 : decode cX0_mark 2 = .ok (.iload_n 2, 1) := by decide +kernel
theorem dX0_mark_3 : decode cX0_mark 3 = .ok (.invokevirtual 74, 3) := by decide +kernel
theorem dX0_mark_6 : decode cX0_mark 6 = .ok (.iload_n 3, 1) := by decide +kernel
theorem dX0_mark_7 : decode cX0_mark 7 = .ok (.ifCond .lt 18, 3) := by decide +kernel
theorem dX0_mark_10 : decode cX0_mark 10 = .ok (.iload_n 3, 1) := by decide +kernel
theorem dX0_mark_11 : decode cX0_mark 11 = .ok (.aload_n 0, 1) := by decide +kernel
theorem dX0_mark_12 : decode cX0_mark 12 = .ok (.getfield 22, 3) := by decide +kernel
theorem dX0_mark_15 : decode cX0_mark 15 = .ok (.iload_n 1, 1) := by decide +kernel
theorem dX0_mark_16 : decode cX0_mark 16 = .ok (.aaload, 1) := by decide +kernel
theorem dX0_mark_17 : decode cX0_mark 17 = .ok (.iload_n 2, 1) := by decide +kernel
theorem dX0_mark_18 : decode cX0_mark 18 = .ok (.iaload, 1) := by decide +kernel
theorem dX0_mark_19 : decode cX0_mark 19 = .ok (.invokestatic 78, 3) := by decide +kernel
theorem dX0_mark_22 : decode cX0_mark 22 = .ok (.if_icmp .lt 13, 3) := by decide +kernel
theorem dX0_mark_25 : decode cX0_mark 25 = .ok (.new 38, 3) := by decide +kernel
theorem dX0_mark_28 : decode cX0_mark 28 = .ok (.dup, 1) := by decide +kernel
theorem dX0_mark_29 : decode cX0_mark 29 = .ok (.ldc 81, 2) := by decide +kernel
theorem dX0_mark_31 : decode cX0_mark 31 = .ok (.invokespecial 42, 3) := by decide +kernel
theorem dX0_mark_34 : decode cX0_mark 34 = .ok (.athrow, 1) := by decide +kernel
theorem dX0_mark_35 : decode cX0_mark 35 = .ok (.aload_n 0, 1) := by decide +kernel
theorem dX0_mark_36 : decode cX0_mark 36 = .ok (.getfield 25, 3) := by decide +kernel
theorem dX0_mark_39 : decode cX0_mark 39 = .ok (.iload_n 1, 1) := by decide +kernel
theorem dX0_mark_40 : decode cX0_mark 40 = .ok (.aaload, 1) := by decide +kernel
theorem dX0_mark_41 : decode cX0_mark 41 = .ok (.iload_n 2, 1) := by decide +kernel
theorem dX0_mark_42 : decode cX0_mark 42 = .ok (.dup2, 1) := by decide +kernel
theorem dX0_mark_43 : decode cX0_mark 43 = .ok (.iaload, 1) := by decide +kernel
theorem dX0_mark_44 : decode cX0_mark 44 = .ok (.iconst 1, 1) := by decide +kernel
theorem dX0_mark_45 : decode cX0_mark 45 = .ok (.iload_n 3, 1) := by decide +kernel
theorem dX0_mark_46 : decode cX0_mark 46 = .ok (.ishl, 1) := by decide +kernel
theorem dX0_mark_47 : decode cX0_mark 47 = .ok (.ixor, 1) := by decide +kernel
theorem dX0_mark_48 : decode cX0_mark 48 = .ok (.iastore, 1) := by decide +kernel
theorem dX0_mark_49 : decode cX0_mark 49 = .ok (.aload_n 0, 1) := by decide +kernel
theorem dX0_mark_50 : decode cX0_mark 50 = .ok (.getfield 25, 3) := by decide +kernel
theorem dX0_mark_53 : decode cX0_mark 53 = .ok (.iload_n 1, 1) := by decide +kernel
theorem dX0_mark_54 : decode cX0_mark 54 = .ok (.aaload, 1) := by decide +kernel
theorem dX0_mark_55 : decode cX0_mark 55 = .ok (.iload_n 2, 1) := by decide +kernel
theorem dX0_mark_56 : decode cX0_mark 56 = .ok (.iaload, 1) := by decide +kernel
theorem dX0_mark_57 : decode cX0_mark 57 = .ok (.iload_n 3, 1) := by decide +kernel
theorem dX0_mark_58 : decode cX0_mark 58 = .ok (.invokestatic 83, 3) := by decide +kernel
theorem dX0_mark_61 : decode cX0_mark 61 = .ok (.ireturn, 1) := by decide +kernel
set_option maxRecDepth 20000 in
theorem ggX0_word_X0_checkWordOfLine : GoodIn wsX0_word wsX0_checkWordOfLine := goodIn_ca (goodIn_r _ [5, 6, 7, 8, 9, 10, 11, 4, 12, 13, 45, 46, 47, 48, 49, 50, 51, 52] (by decide +kernel) (by decide +kernel)) (goodIn_sub (fun _ h => List.mem_cons_of_mem _ (List.mem_append_right _ h)) (by decide +kernel))
set_option maxRecDepth 20000 in
theorem gX0_word_X0_checkWordOfLine : GoodIn wsX0_word (wsV RX0 74 RX0 yX0_checkWordOfLine wsX0_checkWordOfLine) := goodIn_app (goodIn_of _ (by decide +kernel)) ggX0_word_X0_checkWordOfLine
set_option maxRecDepth 20000 in
theorem ggX0_word_X0_checkWhat : GoodIn wsX0_word wsX0_checkWhat := goodIn_ca (goodIn_r _ [16, 6, 7] (by decide +kernel) (by decide +kernel)) (goodIn_sub (fun _ h => List.mem_cons_of_mem _ (List.mem_append_right _ h)) (by decide +kernel))
set_option maxRecDepth 20000 in
theorem gX0_word_X0_checkWhat : GoodIn wsX0_word (va_wsS RX0 87 yX0_checkWhat wsX0_checkWhat) := goodIn_app (goodIn_of _ (by decide +kernel)) ggX0_word_X0_checkWhat
set_option maxRecDepth 20000 in
theorem ggX0_word_X0_figureOfWord : GoodIn wsX0_word wsX0_figureOfWord := goodIn_r _ [20, 21, 22, 23, 24, 4, 25, 26, 27, 28, 29, 30, 31, 32, 33, 34, 35, 36, 37, 38, 39, 40, 41, 42, 43, 44, 45, 46, 47, 48, 49, 50, 51, 52] (by decide +kernel) (by decide +kernel)
set_option maxRecDepth 20000 in
theorem gX0_word_X0_figureOfWord : GoodIn wsX0_word (wsV RX0 90 RX0 yX0_figureOfWord wsX0_figureOfWord) := goodIn_app (goodIn_of _ (by decide +kernel)) ggX0_word_X0_figureOfWord
theorem dX0_word_0 : decode cX0_word 0 = .ok (.aload_n 0, 1) := by decide +kernel
theorem dX0_word_1 : decode cX0_word 1 = .ok (.iload_n 1, 1) := by decide +kernel
theorem dX0_word_2 : decode cX0_word 2 = .ok (.iload_n 2, 1) := by decide +kernel
theorem dX0_word_3 : decode cX0_word 3 = .ok (.invokevirtual 74, 3) := by decide +kernel
theorem dX0_word_6 : decode cX0_word 6 = .ok (.iload_n 3, 1) := by decide +kernel
theorem dX0_word_7 : decode cX0_word 7 = .ok (.iconst 5, 1) := by decide +kernel
theorem dX0_word_8 : decode cX0_word 8 = .ok (.invokestatic 87, 3) := by decide +kernel
theorem dX0_word_11 : decode cX0_word 11 = .ok (.aload_n 0, 1) := by decide +kernel
theorem dX0_word_12 : decode cX0_word 12 = .ok (.iload_n 1, 1) := by decide +kernel
theorem dX0_word_13 : decode cX0_word 13 = .ok (.iload_n 2, 1) := by decide +kernel
theorem dX0_word_14 : decode cX0_word 14 = .ok (.iload_n 3, 1) := by decide +kernel
theorem dX0_word_15 : decode cX0_word 15 = .ok (.invokevirtual 90, 3) := by decide +kernel
theorem dX0_word_18 : decode cX0_word 18 = .ok (.ireturn, 1) := by decide +kernel
set_option maxRecDepth 20000 in
theorem ggX0_line_X0_checkLine : GoodIn wsX0_line wsX0_checkLine := goodIn_ca (goodIn_r _ [5, 6, 7, 8, 45, 46, 47, 48, 49, 50, 51, 52] (by decide +kernel) (by decide +kernel)) (goodIn_sub (fun _ h => List.mem_cons_of_mem _ (List.mem_append_right _ h)) (by decide +kernel))
set_option maxRecDepth 20000 in
theorem gX0_line_X0_checkLine : GoodIn wsX0_line (wsV RX0 67 RX0 yX0_checkLine wsX0_checkLine) := goodIn_app (goodIn_of _ (by decide +kernel)) ggX0_line_X0_checkLine
set_option maxRecDepth 20000 in
theorem ggX0_line_X0_checkWhat : GoodIn wsX0_line wsX0_checkWhat := goodIn_ca (goodIn_r _ [11, 6, 7] (by decide +kernel) (by decide +kernel)) (goodIn_sub (fun _ h => List.mem_cons_of_mem _ (List.mem_append_right _ h)) (by decide +kernel))
set_option maxRecDepth 20000 in
theorem gX0_line_X0_checkWhat : GoodIn wsX0_line (va_wsS RX0 87 yX0_checkWhat wsX0_checkWhat) := goodIn_app (goodIn_of _ (by decide +kernel)) ggX0_line_X0_checkWhat
set_option maxRecDepth 20000 in
theorem ggX0_line_X0_figureOfLine : GoodIn wsX0_line wsX0_figureOfLine := goodIn_r _ [15, 16, 17, 18, 19, 4, 20, 21, 22, 23, 24, 25, 26, 27, 28, 29, 30, 31, 32, 33, 34, 35, 36, 37, 38, 39, 40, 41, 42, 43, 44, 45, 46, 47, 48, 49, 50, 51, 52] (by decide +kernel) (by decide +kernel)
set_option maxRecDepth 20000 in
theorem gX0_line_X0_figureOfLine : GoodIn wsX0_line (wsV RX0 94 RX0 yX0_figureOfLine wsX0_figureOfLine) := goodIn_app (goodIn_of _ (by decide +kernel)) ggX0_line_X0_figureOfLine
theorem dX0_line_0 : decode cX0_line 0 = .ok (.aload_n 0, 1) := by decide +kernel
theorem dX0_line_1 : decode cX0_line 1 = .ok (.iload_n 1, 1) := by decide +kernel
theorem dX0_line_2 : decode cX0_line 2 = .ok (.invokevirtual 67, 3) := by decide +kernel
theorem dX0_line_5 : decode cX0_line 5 = .ok (.iload_n 2, 1) := by decide +kernel
theorem dX0_line_6 : decode cX0_line 6 = .ok (.iconst 5, 1) := by decide +kernel
theorem dX0_line_7 : decode cX0_line 7 = .ok (.invokestatic 87, 3) := by decide +kernel
theorem dX0_line_10 : decode cX0_line 10 = .ok (.aload_n 0, 1) := by decide +kernel
theorem dX0_line_11 : decode cX0_line 11 = .ok (.iload_n 1, 1) := by decide +kernel
theorem dX0_line_12 : decode cX0_line 12 = .ok (.iload_n 2, 1) := by decide +kernel
theorem dX0_line_13 : decode cX0_line 13 = .ok (.invokevirtual 94, 3) := by decide +kernel
theorem dX0_line_16 : decode cX0_line 16 = .ok (.ireturn, 1) := by decide +kernel
set_option maxRecDepth 20000 in
theorem ggX0_told_X0_checkWhat : GoodIn wsX0_told wsX0_checkWhat := goodIn_ca (goodIn_r _ [5, 6, 7] (by decide +kernel) (by decide +kernel)) (goodIn_sub (fun _ h => List.mem_cons_of_mem _ (List.mem_append_right _ h)) (by decide +kernel))
set_option maxRecDepth 20000 in
theorem gX0_told_X0_checkWhat : GoodIn wsX0_told (va_wsS RX0 87 yX0_checkWhat wsX0_checkWhat) := goodIn_app (goodIn_of _ (by decide +kernel)) ggX0_told_X0_checkWhat
set_option maxRecDepth 20000 in
theorem ggX0_told_X0_pairsOfSameWorth : GoodIn wsX0_told wsX0_pairsOfSameWorth := goodIn_r _ [11, 1, 12, 13, 14, 15, 16, 17, 4, 18, 19, 20, 21, 22, 23, 24, 25, 26, 27, 28, 29, 30, 31, 32, 33, 54, 55, 56, 57, 58, 59, 60, 61] (by decide +kernel) (by decide +kernel)
set_option maxRecDepth 20000 in
theorem gX0_told_X0_pairsOfSameWorth : GoodIn wsX0_told (wsV RX0 97 RX0 yX0_pairsOfSameWorth wsX0_pairsOfSameWorth) := goodIn_app (goodIn_of _ (by decide +kernel)) ggX0_told_X0_pairsOfSameWorth
set_option maxRecDepth 20000 in
theorem ggX0_told_X0_sumOverLines : GoodIn wsX0_told wsX0_sumOverLines := goodIn_r _ [37, 1, 38, 39, 40, 4, 41, 12, 42, 43, 44, 45, 13, 46, 19, 20, 21, 15, 16, 17, 18, 22, 23, 24, 25, 26, 27, 28, 29, 47, 48, 49, 50, 51, 52, 53, 54, 55, 56, 57, 58, 59, 60, 61] (by decide +kernel) (by decide +kernel)
set_option maxRecDepth 20000 in
theorem gX0_told_X0_sumOverLines : GoodIn wsX0_told (wsV RX0 101 RX0 yX0_sumOverLines wsX0_sumOverLines) := goodIn_app (goodIn_of _ (by decide +kernel)) ggX0_told_X0_sumOverLines
theorem dX0_told_0 : decode cX0_told 0 = .ok (.iload_n 1, 1) := by decide +kernel
theorem dX0_told_1 : decode cX0_told 1 = .ok (.bipush 7, 2) := by decide +kernel
theorem dX0_told_3 : decode cX0_told 3 = .ok (.invokestatic 87, 3) := by decide +kernel
theorem dX0_told_6 : decode cX0_told 6 = .ok (.iload_n 1, 1) := by decide +kernel
theorem dX0_told_7 : decode cX0_told 7 = .ok (.ifCond .ne 8, 3) := by decide +kernel
theorem dX0_told_10 : decode cX0_told 10 = .ok (.aload_n 0, 1) := by decide +kernel
theorem dX0_told_11 : decode cX0_told 11 = .ok (.getfield 13, 3) := by decide +kernel
theorem dX0_told_14 : decode cX0_told 14 = .ok (.ireturn, 1) := by decide +kernel
theorem dX0_told_15 : decode cX0_told 15 = .ok (.iload_n 1, 1) := by decide +kernel
theorem dX0_told_16 : decode cX0_told 16 = .ok (.bipush 6, 2) := by decide +kernel
theorem dX0_told_18 : decode cX0_told 18 = .ok (.if_icmp .ne 8, 3) := by decide +kernel
theorem dX0_told_21 : decode cX0_told 21 = .ok (.aload_n 0, 1) := by decide +kernel
theorem dX0_told_22 : decode cX0_told 22 = .ok (.invokevirtual 97, 3) := by decide +kernel
theorem dX0_told_25 : decode cX0_told 25 = .ok (.ireturn, 1) := by decide +kernel
theorem dX0_told_26 : decode cX0_told 26 = .ok (.aload_n 0, 1) := by decide +kernel
theorem dX0_told_27 : decode cX0_told 27 = .ok (.iload_n 1, 1) := by decide +kernel
theorem dX0_told_28 : decode cX0_told 28 = .ok (.iconst 1, 1) := by decide +kernel
theorem dX0_told_29 : decode cX0_told 29 = .ok (.isub, 1) := by decide +kernel
theorem dX0_told_30 : decode cX0_told 30 = .ok (.invokevirtual 101, 3) := by decide +kernel
theorem dX0_told_33 : decode cX0_told 33 = .ok (.ireturn, 1) := by decide +kernel
set_option maxRecDepth 20000 in
theorem ggX0_hidden_X0_checkLine : GoodIn wsX0_hidden wsX0_checkLine := goodIn_ca (goodIn_r _ [6, 7, 8, 9, 30, 31, 32, 33, 34, 35, 36, 37] (by decide +kernel) (by decide +kernel)) (goodIn_sub (fun _ h => List.mem_cons_of_mem _ (List.mem_append_right _ h)) (by decide +kernel))
set_option maxRecDepth 20000 in
theorem gX0_hidden_X0_checkLine : GoodIn wsX0_hidden (wsV RX0 67 RX0 yX0_checkLine wsX0_checkLine) := goodIn_app (goodIn_of _ (by decide +kernel)) ggX0_hidden_X0_checkLine
set_option maxRecDepth 20000 in
theorem ggX0_hidden_X0_lastOfRun : GoodIn wsX0_hidden wsX0_lastOfRun := goodIn_r _ [13, 1, 14, 15, 16, 17, 5, 18, 19, 20, 21, 22, 23, 24, 25, 26, 27, 28, 29, 30, 31, 32, 33, 34, 35, 36, 37] (by decide +kernel) (by decide +kernel)
set_option maxRecDepth 20000 in
theorem gX0_hidden_X0_lastOfRun : GoodIn wsX0_hidden (wsV RX0 104 RX0 yX0_lastOfRun wsX0_lastOfRun) := goodIn_app (goodIn_of _ (by decide +kernel)) ggX0_hidden_X0_lastOfRun
theorem dX0_hidden_0 : decode cX0_hidden 0 = .ok (.aload_n 0, 1) := by decide +kernel
theorem dX0_hidden_1 : decode cX0_hidden 1 = .ok (.iload_n 1, 1) := by decide +kernel
theorem dX0_hidden_2 : decode cX0_hidden 2 = .ok (.invokevirtual 67, 3) := by decide +kernel
theorem dX0_hidden_5 : decode cX0_hidden 5 = .ok (.iconst 0, 1) := by decide +kernel
theorem dX0_hidden_6 : decode cX0_hidden 6 = .ok (.istore_n 3, 1) := by decide +kernel
theorem dX0_hidden_7 : decode cX0_hidden 7 = .ok (.iload_n 3, 1) := by decide +kernel
theorem dX0_hidden_8 : decode cX0_hidden 8 = .ok (.aload_n 0, 1) := by decide +kernel
theorem dX0_hidden_9 : decode cX0_hidden 9 = .ok (.getfield 16, 3) := by decide +kernel
theorem dX0_hidden_12 : decode cX0_hidden 12 = .ok (.iload_n 1, 1) := by decide +kernel
theorem dX0_hidden_13 : decode cX0_hidden 13 = .ok (.iaload, 1) := by decide +kernel
theorem dX0_hidden_14 : decode cX0_hidden 14 = .ok (.if_icmp .ge 31, 3) := by decide +kernel
theorem dX0_hidden_17 : decode cX0_hidden 17 = .ok (.aload_n 0, 1) := by decide +kernel
theorem dX0_hidden_18 : decode cX0_hidden 18 = .ok (.iload_n 1, 1) := by decide +kernel
theorem dX0_hidden_19 : decode cX0_hidden 19 = .ok (.iload_n 3, 1) := by decide +kernel
theorem dX0_hidden_20 : decode cX0_hidden 20 = .ok (.iload_n 2, 1) := by decide +kernel
theorem dX0_hidden_21 : decode cX0_hidden 21 = .ok (.invokevirtual 104, 3) := by decide +kernel
theorem dX0_hidden_24 : decode cX0_hidden 24 = .ok (.istore 4, 2) := by decide +kernel
theorem dX0_hidden_26 : decode cX0_hidden 26 = .ok (.iload 4, 2) := by decide +kernel
theorem dX0_hidden_28 : decode cX0_hidden 28 = .ok (.ifCond .lt 11, 3) := by decide +kernel
theorem dX0_hidden_31 : decode cX0_hidden 31 = .ok (.bipush 10, 2) := by decide +kernel
theorem dX0_hidden_33 : decode cX0_hidden 33 = .ok (.iload_n 3, 1) := by decide +kernel
theorem dX0_hidden_34 : decode cX0_hidden 34 = .ok (.imul, 1) := by decide +kernel
theorem dX0_hidden_35 : decode cX0_hidden 35 = .ok (.iload 4, 2) := by decide +kernel
theorem dX0_hidden_37 : decode cX0_hidden 37 = .ok (.iadd, 1) := by decide +kernel
theorem dX0_hidden_38 : decode cX0_hidden 38 = .ok (.ireturn, 1) := by decide +kernel
theorem dX0_hidden_39 : decode cX0_hidden 39 = .ok (.iinc 3 1, 3) := by decide +kernel
theorem dX0_hidden_42 : decode cX0_hidden 42 = .ok (.goto (-35), 3) := by decide +kernel
theorem dX0_hidden_45 : decode cX0_hidden 45 = .ok (.iconst (-1), 1) := by decide +kernel
theorem dX0_hidden_46 : decode cX0_hidden 46 = .ok (.ireturn, 1) := by decide +kernel
set_option maxRecDepth 20000 in
theorem ggX0_hides_X0_lastOfRun : GoodIn wsX0_hides wsX0_lastOfRun := goodIn_r _ [7, 2, 8, 9, 10, 11, 6, 12, 13, 14, 15, 16, 17, 18, 19, 20, 21, 22, 23, 24, 25, 26, 27, 28, 29, 30, 31] (by decide +kernel) (by decide +kernel)
set_option maxRecDepth 20000 in
theorem gX0_hides_X0_lastOfRun : GoodIn wsX0_hides (wsV RX0 104 RX0 yX0_lastOfRun wsX0_lastOfRun) := goodIn_app (goodIn_of _ (by decide +kernel)) ggX0_hides_X0_lastOfRun
theorem dX0_hides_0 : decode cX0_hides 0 = .ok (.iconst 0, 1) := by decide +kernel
theorem dX0_hides_1 : decode cX0_hides 1 = .ok (.istore_n 2, 1) := by decide +kernel
theorem dX0_hides_2 : decode cX0_hides 2 = .ok (.iconst 0, 1) := by decide +kernel
theorem dX0_hides_3 : decode cX0_hides 3 = .ok (.istore_n 3, 1) := by decide +kernel
theorem dX0_hides_4 : decode cX0_hides 4 = .ok (.iload_n 3, 1) := by decide +kernel
theorem dX0_hides_5 : decode cX0_hides 5 = .ok (.aload_n 0, 1) := by decide +kernel
theorem dX0_hides_6 : decode cX0_hides 6 = .ok (.getfield 13, 3) := by decide +kernel
theorem dX0_hides_9 : decode cX0_hides 9 = .ok (.if_icmp .ge 43, 3) := by decide +kernel
theorem dX0_hides_12 : decode cX0_hides 12 = .ok (.iconst 0, 1) := by decide +kernel
theorem dX0_hides_13 : decode cX0_hides 13 = .ok (.istore 4, 2) := by decide +kernel
theorem dX0_hides_15 : decode cX0_hides 15 = .ok (.iload 4, 2) := by decide +kernel
theorem dX0_hides_17 : decode cX0_hides 17 = .ok (.aload_n 0, 1) := by decide +kernel
theorem dX0_hides_18 : decode cX0_hides 18 = .ok (.getfield 16, 3) := by decide +kernel
theorem dX0_hides_21 : decode cX0_hides 21 = .ok (.iload_n 3, 1) := by decide +kernel
theorem dX0_hides_22 : decode cX0_hides 22 = .ok (.iaload, 1) := by decide +kernel
theorem dX0_hides_23 : decode cX0_hides 23 = .ok (.if_icmp .ge 23, 3) := by decide +kernel
theorem dX0_hides_26 : decode cX0_hides 26 = .ok (.aload_n 0, 1) := by decide +kernel
theorem dX0_hides_27 : decode cX0_hides 27 = .ok (.iload_n 3, 1) := by decide +kernel
theorem dX0_hides_28 : decode cX0_hides 28 = .ok (.iload 4, 2) := by decide +kernel
theorem dX0_hides_30 : decode cX0_hides 30 = .ok (.iload_n 1, 1) := by decide +kernel
theorem dX0_hides_31 : decode cX0_hides 31 = .ok (.invokevirtual 104, 3) := by decide +kernel
theorem dX0_hides_34 : decode cX0_hides 34 = .ok (.ifCond .lt 6, 3) := by decide +kernel
theorem dX0_hides_37 : decode cX0_hides 37 = .ok (.iinc 2 1, 3) := by decide +kernel
theorem dX0_hides_40 : decode cX0_hides 40 = .ok (.iinc 4 1, 3) := by decide +kernel
theorem dX0_hides_43 : decode cX0_hides 43 = .ok (.goto (-28), 3) := by decide +kernel
theorem dX0_hides_46 : decode cX0_hides 46 = .ok (.iinc 3 1, 3) := by decide +kernel
theorem dX0_hides_49 : decode cX0_hides 49 = .ok (.goto (-45), 3) := by decide +kernel
theorem dX0_hides_52 : decode cX0_hides 52 = .ok (.iload_n 2, 1) := by decide +kernel
theorem dX0_hides_53 : decode cX0_hides 53 = .ok (.ireturn, 1) := by decide +kernel
set_option maxRecDepth 20000 in
theorem ggX0_lacks_X0_checkLine : GoodIn wsX0_lacks wsX0_checkLine := goodIn_ca (goodIn_r _ [5, 6, 7, 8, 42, 43, 44, 45, 46, 47, 48, 49] (by decide +kernel) (by decide +kernel)) (goodIn_sub (fun _ h => List.mem_cons_of_mem _ (List.mem_append_right _ h)) (by decide +kernel))
set_option maxRecDepth 20000 in
theorem gX0_lacks_X0_checkLine : GoodIn wsX0_lacks (wsV RX0 67 RX0 yX0_checkLine wsX0_checkLine) := goodIn_app (goodIn_of _ (by decide +kernel)) ggX0_lacks_X0_checkLine
set_option maxRecDepth 20000 in
theorem ggX0_lacks_X0_figureOfLine : GoodIn wsX0_lacks wsX0_figureOfLine := goodIn_r _ [12, 13, 14, 15, 16, 4, 17, 18, 19, 20, 21, 22, 23, 24, 25, 26, 27, 28, 29, 30, 31, 32, 33, 34, 35, 36, 37, 38, 39, 40, 41, 42, 43, 44, 45, 46, 47, 48, 49] (by decide +kernel) (by decide +kernel)
set_option maxRecDepth 20000 in
theorem gX0_lacks_X0_figureOfLine : GoodIn wsX0_lacks (wsV RX0 94 RX0 yX0_figureOfLine wsX0_figureOfLine) := goodIn_app (goodIn_of _ (by decide +kernel)) ggX0_lacks_X0_figureOfLine
set_option maxRecDepth 20000 in
theorem ggX0_lacks_X0_worthOfLetter : GoodIn wsX0_lacks wsX0_worthOfLetter := goodIn_r _ [33, 34, 42, 43, 44, 45, 46, 47, 48, 49] (by decide +kernel) (by decide +kernel)
set_option maxRecDepth 20000 in
theorem gX0_lacks_X0_worthOfLetter : GoodIn wsX0_lacks (wsV RX0 47 RX0 yX0_worthOfLetter wsX0_worthOfLetter) := goodIn_app (goodIn_of _ (by decide +kernel)) ggX0_lacks_X0_worthOfLetter
theorem dX0_lacks_0 : decode cX0_lacks 0 = .ok (.aload_n 0, 1) := by decide +kernel
theorem dX0_lacks_1 : decode cX0_lacks 1 = .ok (.iload_n 1, 1) := by decide +kernel
theorem dX0_lacks_2 : decode cX0_lacks 2 = .ok (.invokevirtual 67, 3) := by decide +kernel
theorem dX0_lacks_5 : decode cX0_lacks 5 = .ok (.aload_n 0, 1) := by decide +kernel
theorem dX0_lacks_6 : decode cX0_lacks 6 = .ok (.iload_n 1, 1) := by decide +kernel
theorem dX0_lacks_7 : decode cX0_lacks 7 = .ok (.iconst 2, 1) := by decide +kernel
theorem dX0_lacks_8 : decode cX0_lacks 8 = .ok (.invokevirtual 94, 3) := by decide +kernel
theorem dX0_lacks_11 : decode cX0_lacks 11 = .ok (.istore_n 3, 1) := by decide +kernel
theorem dX0_lacks_12 : decode cX0_lacks 12 = .ok (.iconst 1, 1) := by decide +kernel
theorem dX0_lacks_13 : decode cX0_lacks 13 = .ok (.istore 4, 2) := by decide +kernel
theorem dX0_lacks_15 : decode cX0_lacks 15 = .ok (.iload 4, 2) := by decide +kernel
theorem dX0_lacks_17 : decode cX0_lacks 17 = .ok (.bipush 26, 2) := by decide +kernel
theorem dX0_lacks_19 : decode cX0_lacks 19 = .ok (.if_icmp .gt 24, 3) := by decide +kernel
theorem dX0_lacks_22 : decode cX0_lacks 22 = .ok (.iload_n 3, 1) := by decide +kernel
theorem dX0_lacks_23 : decode cX0_lacks 23 = .ok (.aload_n 0, 1) := by decide +kernel
theorem dX0_lacks_24 : decode cX0_lacks 24 = .ok (.iload 4, 2) := by decide +kernel
theorem dX0_lacks_26 : decode cX0_lacks 26 = .ok (.invokevirtual 47, 3) := by decide +kernel
theorem dX0_lacks_29 : decode cX0_lacks 29 = .ok (.iadd, 1) := by decide +kernel
theorem dX0_lacks_30 : decode cX0_lacks 30 = .ok (.iload_n 2, 1) := by decide +kernel
theorem dX0_lacks_31 : decode cX0_lacks 31 = .ok (.if_icmp .ne 6, 3) := by decide +kernel
theorem dX0_lacks_34 : decode cX0_lacks 34 = .ok (.iload 4, 2) := by decide +kernel
theorem dX0_lacks_36 : decode cX0_lacks 36 = .ok (.ireturn, 1) := by decide +kernel
theorem dX0_lacks_37 : decode cX0_lacks 37 = .ok (.iinc 4 1, 3) := by decide +kernel
theorem dX0_lacks_40 : decode cX0_lacks 40 = .ok (.goto (-25), 3) := by decide +kernel
theorem dX0_lacks_43 : decode cX0_lacks 43 = .ok (.iconst (-1), 1) := by decide +kernel
theorem dX0_lacks_44 : decode cX0_lacks 44 = .ok (.ireturn, 1) := by decide +kernel
set_option maxRecDepth 20000 in
theorem ggX0_nearest_X0_figureOfLine : GoodIn wsX0_nearest wsX0_figureOfLine := goodIn_r _ [10, 11, 12, 13, 14, 9, 15, 16, 17, 18, 19, 20, 21, 22, 23, 24, 25, 26, 27, 28, 29, 30, 31, 32, 33, 34, 35, 36, 37, 38, 39, 40, 41, 42, 43, 44, 45, 46, 47] (by decide +kernel) (by decide +kernel)
set_option maxRecDepth 20000 in
theorem gX0_nearest_X0_figureOfLine : GoodIn wsX0_nearest (wsV RX0 94 RX0 yX0_figureOfLine wsX0_figureOfLine) := goodIn_app (goodIn_of _ (by decide +kernel)) ggX0_nearest_X0_figureOfLine
theorem dX0_nearest_0 : decode cX0_nearest 0 = .ok (.iconst (-1), 1) := by decide +kernel
theorem dX0_nearest_1 : decode cX0_nearest 1 = .ok (.istore_n 2, 1) := by decide +kernel
theorem dX0_nearest_2 : decode cX0_nearest 2 = .ok (.lconst 0, 1) := by decide +kernel
theorem dX0_nearest_3 : decode cX0_nearest 3 = .ok (.lstore_n 3, 1) := by decide +kernel
theorem dX0_nearest_4 : decode cX0_nearest 4 = .ok (.iconst 0, 1) := by decide +kernel
theorem dX0_nearest_5 : decode cX0_nearest 5 = .ok (.istore 5, 2) := by decide +kernel
theorem dX0_nearest_7 : decode cX0_nearest 7 = .ok (.iload 5, 2) := by decide +kernel
theorem dX0_nearest_9 : decode cX0_nearest 9 = .ok (.aload_n 0, 1) := by decide +kernel
theorem dX0_nearest_10 : decode cX0_nearest 10 = .ok (.getfield 13, 3) := by decide +kernel
theorem dX0_nearest_13 : decode cX0_nearest 13 = .ok (.if_icmp .ge 42, 3) := by decide +kernel
theorem dX0_nearest_16 : decode cX0_nearest 16 = .ok (.aload_n 0, 1) := by decide +kernel
theorem dX0_nearest_17 : decode cX0_nearest 17 = .ok (.iload 5, 2) := by decide +kernel
theorem dX0_nearest_19 : decode cX0_nearest 19 = .ok (.iconst 2, 1) := by decide +kernel
theorem dX0_nearest_20 : decode cX0_nearest 20 = .ok (.invokevirtual 94, 3) := by decide +kernel
theorem dX0_nearest_23 : decode cX0_nearest 23 = .ok (.i2l, 1) := by decide +kernel
theorem dX0_nearest_24 : decode cX0_nearest 24 = .ok (.iload_n 1, 1) := by decide +kernel
theorem dX0_nearest_25 : decode cX0_nearest 25 = .ok (.i2l, 1) := by decide +kernel
theorem dX0_nearest_26 : decode cX0_nearest 26 = .ok (.lsub, 1) := by decide +kernel
theorem dX0_nearest_27 : decode cX0_nearest 27 = .ok (.invokestatic 107, 3) := by decide +kernel
theorem dX0_nearest_30 : decode cX0_nearest 30 = .ok (.lstore 6, 2) := by decide +kernel
theorem dX0_nearest_32 : decode cX0_nearest 32 = .ok (.iload_n 2, 1) := by decide +kernel
theorem dX0_nearest_33 : decode cX0_nearest 33 = .ok (.ifCond .lt 10, 3) := by decide +kernel
theorem dX0_nearest_36 : decode cX0_nearest 36 = .ok (.lload 6, 2) := by decide +kernel
theorem dX0_nearest_38 : decode cX0_nearest 38 = .ok (.lload_n 3, 1) := by decide +kernel
theorem dX0_nearest_39 : decode cX0_nearest 39 = .ok (.lcmp, 1) := by decide +kernel
theorem dX0_nearest_40 : decode cX0_nearest 40 = .ok (.ifCond .ge 9, 3) := by decide +kernel
theorem dX0_nearest_43 : decode cX0_nearest 43 = .ok (.iload 5, 2) := by decide +kernel
theorem dX0_nearest_45 : decode cX0_nearest 45 = .ok (.istore_n 2, 1) := by decide +kernel
theorem dX0_nearest_46 : decode cX0_nearest 46 = .ok (.lload 6, 2) := by decide +kernel
theorem dX0_nearest_48 : decode cX0_nearest 48 = .ok (.lstore_n 3, 1) := by decide +kernel
theorem dX0_nearest_49 : decode cX0_nearest 49 = .ok (.iinc 5 1, 3) := by decide +kernel
theorem dX0_nearest_52 : decode cX0_nearest 52 = .ok (.goto (-45), 3) := by decide +kernel
theorem dX0_nearest_55 : decode cX0_nearest 55 = .ok (.iload_n 2, 1) := by decide +kernel
theorem dX0_nearest_56 : decode cX0_nearest 56 = .ok (.ireturn, 1) := by decide +kernel
set_option maxRecDepth 20000 in
theorem ggX0_letters_X0_checkYear : GoodIn wsX0_letters wsX0_checkYear := goodIn_ca (goodIn_r _ [6, 7, 8] (by decide +kernel) (by decide +kernel)) (goodIn_sub (fun _ h => List.mem_cons_of_mem _ (List.mem_append_right _ h)) (by decide +kernel))
set_option maxRecDepth 20000 in
theorem gX0_letters_X0_checkYear : GoodIn wsX0_letters (va_wsS RX0 113 yX0_checkYear wsX0_checkYear) := goodIn_app (goodIn_of _ (by decide +kernel)) ggX0_letters_X0_checkYear
set_option maxRecDepth 20000 in
theorem ggX0_letters_X0_fillFewest : GoodIn wsX0_letters wsX0_fillFewest := goodIn_r _ [12, 13, 2, 1, 14, 15, 16, 5, 17, 18, 19, 20, 21, 22, 23, 24, 25, 26, 27, 28, 29] (by decide +kernel) (by decide +kernel)
set_option maxRecDepth 20000 in
theorem gX0_letters_X0_fillFewest : GoodIn wsX0_letters (wsV RX0 116 RX0 yX0_fillFewest wsX0_fillFewest) := goodIn_app (goodIn_of _ (by decide +kernel)) ggX0_letters_X0_fillFewest
theorem dX0_letters_0 : decode cX0_letters 0 = .ok (.iload_n 1, 1) := by decide +kernel
theorem dX0_letters_1 : decode cX0_letters 1 = .ok (.invokestatic 113, 3) := by decide +kernel
theorem dX0_letters_4 : decode cX0_letters 4 = .ok (.aload_n 0, 1) := by decide +kernel
theorem dX0_letters_5 : decode cX0_letters 5 = .ok (.invokevirtual 116, 3) := by decide +kernel
theorem dX0_letters_8 : decode cX0_letters 8 = .ok (.aload_n 0, 1) := by decide +kernel
theorem dX0_letters_9 : decode cX0_letters 9 = .ok (.getfield 31, 3) := by decide +kernel
theorem dX0_letters_12 : decode cX0_letters 12 = .ok (.aload_n 0, 1) := by decide +kernel
theorem dX0_letters_13 : decode cX0_letters 13 = .ok (.getfield 9, 3) := by decide +kernel
theorem dX0_letters_16 : decode cX0_letters 16 = .ok (.aaload, 1) := by decide +kernel
theorem dX0_letters_17 : decode cX0_letters 17 = .ok (.iload_n 1, 1) := by decide +kernel
theorem dX0_letters_18 : decode cX0_letters 18 = .ok (.iaload, 1) := by decide +kernel
theorem dX0_letters_19 : decode cX0_letters 19 = .ok (.ireturn, 1) := by decide +kernel
set_option maxRecDepth 20000 in
theorem ggX0_spell_X0_checkYear : GoodIn wsX0_spell wsX0_checkYear := goodIn_ca (goodIn_r _ [8, 9, 10] (by decide +kernel) (by decide +kernel)) (goodIn_sub (fun _ h => List.mem_cons_of_mem _ (List.mem_append_right _ h)) (by decide +kernel))
set_option maxRecDepth 20000 in
theorem gX0_spell_X0_checkYear : GoodIn wsX0_spell (va_wsS RX0 113 yX0_checkYear wsX0_checkYear) := goodIn_app (goodIn_of _ (by decide +kernel)) ggX0_spell_X0_checkYear
set_option maxRecDepth 20000 in
theorem ggX0_spell_X0_fillFewest : GoodIn wsX0_spell wsX0_fillFewest := goodIn_r _ [14, 15, 4, 3, 16, 17, 18, 7, 19, 20, 21, 22, 23, 28, 29, 30, 31, 32, 33, 34, 35] (by decide +kernel) (by decide +kernel)
set_option maxRecDepth 20000 in
theorem gX0_spell_X0_fillFewest : GoodIn wsX0_spell (wsV RX0 116 RX0 yX0_fillFewest wsX0_fillFewest) := goodIn_app (goodIn_of _ (by decide +kernel)) ggX0_spell_X0_fillFewest
set_option maxRecDepth 20000 in
theorem ggX0_spell_X0_greatestFirst : GoodIn wsX0_spell wsX0_greatestFirst := goodIn_r _ [27, 3, 4, 20, 21, 22, 7, 23, 28, 29, 30, 31, 32, 33, 34, 35] (by decide +kernel) (by decide +kernel)
set_option maxRecDepth 20000 in
theorem gX0_spell_X0_greatestFirst : GoodIn wsX0_spell (wsV RX0 119 RX0 yX0_greatestFirst wsX0_greatestFirst) := goodIn_app (goodIn_of _ (by decide +kernel)) ggX0_spell_X0_greatestFirst
set_option maxRecDepth 20000 in
theorem ggX0_spell_X0_worthOfLetter : GoodIn wsX0_spell wsX0_worthOfLetter := goodIn_r _ [23, 4, 28, 29, 30, 31, 32, 33, 34, 35] (by decide +kernel) (by decide +kernel)
set_option maxRecDepth 20000 in
theorem gX0_spell_X0_worthOfLetter : GoodIn wsX0_spell (wsV RX0 47 RX0 yX0_worthOfLetter wsX0_worthOfLetter) := goodIn_app (goodIn_of _ (by decide +kernel)) ggX0_spell_X0_worthOfLetter
theorem dX0_spell_0 : decode cX0_spell 0 = .ok (.iload_n 1, 1) := by decide +kernel
theorem dX0_spell_1 : decode cX0_spell 1 = .ok (.invokestatic 113, 3) := by decide +kernel
theorem dX0_spell_4 : decode cX0_spell 4 = .ok (.iload_n 2, 1) := by decide +kernel
theorem dX0_spell_5 : decode cX0_spell 5 = .ok (.ifCond .ge 13, 3) := by decide +kernel
theorem dX0_spell_8 : decode cX0_spell 8 = .ok (.new 38, 3) := by decide +kernel
theorem dX0_spell_11 : decode cX0_spell 11 = .ok (.dup, 1) := by decide +kernel
theorem dX0_spell_12 : decode cX0_spell 12 = .ok (.ldc 81, 2) := by decide +kernel
theorem dX0_spell_14 : decode cX0_spell 14 = .ok (.invokespecial 42, 3) := by decide +kernel
theorem dX0_spell_17 : decode cX0_spell 17 = .ok (.athrow, 1) := by decide +kernel
theorem dX0_spell_18 : decode cX0_spell 18 = .ok (.aload_n 0, 1) := by decide +kernel
theorem dX0_spell_19 : decode cX0_spell 19 = .ok (.invokevirtual 116, 3) := by decide +kernel
theorem dX0_spell_22 : decode cX0_spell 22 = .ok (.iload_n 2, 1) := by decide +kernel
theorem dX0_spell_23 : decode cX0_spell 23 = .ok (.aload_n 0, 1) := by decide +kernel
theorem dX0_spell_24 : decode cX0_spell 24 = .ok (.getfield 31, 3) := by decide +kernel
theorem dX0_spell_27 : decode cX0_spell 27 = .ok (.aload_n 0, 1) := by decide +kernel
theorem dX0_spell_28 : decode cX0_spell 28 = .ok (.getfield 9, 3) := by decide +kernel
theorem dX0_spell_31 : decode cX0_spell 31 = .ok (.aaload, 1) := by decide +kernel
theorem dX0_spell_32 : decode cX0_spell 32 = .ok (.iload_n 1, 1) := by decide +kernel
theorem dX0_spell_33 : decode cX0_spell 33 = .ok (.iaload, 1) := by decide +kernel
theorem dX0_spell_34 : decode cX0_spell 34 = .ok (.if_icmp .lt 5, 3) := by decide +kernel
theorem dX0_spell_37 : decode cX0_spell 37 = .ok (.iconst 0, 1) := by decide +kernel
theorem dX0_spell_38 : decode cX0_spell 38 = .ok (.ireturn, 1) := by decide +kernel
theorem dX0_spell_39 : decode cX0_spell 39 = .ok (.iload_n 1, 1) := by decide +kernel
theorem dX0_spell_40 : decode cX0_spell 40 = .ok (.istore_n 3, 1) := by decide +kernel
theorem dX0_spell_41 : decode cX0_spell 41 = .ok (.iconst 0, 1) := by decide +kernel
theorem dX0_spell_42 : decode cX0_spell 42 = .ok (.istore 4, 2) := by decide +kernel
theorem dX0_spell_44 : decode cX0_spell 44 = .ok (.iload 4, 2) := by decide +kernel
theorem dX0_spell_46 : decode cX0_spell 46 = .ok (.iload_n 2, 1) := by decide +kernel
theorem dX0_spell_47 : decode cX0_spell 47 = .ok (.if_icmp .ge 21, 3) := by decide +kernel
theorem dX0_spell_50 : decode cX0_spell 50 = .ok (.iload_n 3, 1) := by decide +kernel
theorem dX0_spell_51 : decode cX0_spell 51 = .ok (.aload_n 0, 1) := by decide +kernel
theorem dX0_spell_52 : decode cX0_spell 52 = .ok (.aload_n 0, 1) := by decide +kernel
theorem dX0_spell_53 : decode cX0_spell 53 = .ok (.iload_n 3, 1) := by decide +kernel
theorem dX0_spell_54 : decode cX0_spell 54 = .ok (.invokevirtual 119, 3) := by decide +kernel
theorem dX0_spell_57 : decode cX0_spell 57 = .ok (.invokevirtual 47, 3) := by decide +kernel
theorem dX0_spell_60 : decode cX0_spell 60 = .ok (.isub, 1) := by decide +kernel
theorem dX0_spell_61 : decode cX0_spell 61 = .ok (.istore_n 3, 1) := by decide +kernel
theorem dX0_spell_62 : decode cX0_spell 62 = .ok (.iinc 4 1, 3) := by decide +kernel
theorem dX0_spell_65 : decode cX0_spell 65 = .ok (.goto (-21), 3) := by decide +kernel
theorem dX0_spell_68 : decode cX0_spell 68 = .ok (.aload_n 0, 1) := by decide +kernel
theorem dX0_spell_69 : decode cX0_spell 69 = .ok (.iload_n 3, 1) := by decide +kernel
theorem dX0_spell_70 : decode cX0_spell 70 = .ok (.invokevirtual 119, 3) := by decide +kernel
theorem dX0_spell_73 : decode cX0_spell 73 = .ok (.ireturn, 1) := by decide +kernel
set_option maxRecDepth 20000 in
theorem ggX0_mean_X0_sumOverLines : GoodIn wsX0_mean wsX0_sumOverLines := goodIn_r _ [5, 6, 7, 8, 9, 4, 10, 11, 12, 13, 14, 15, 16, 17, 18, 19, 20, 21, 22, 23, 24, 25, 26, 27, 28, 29, 30, 31, 32, 33, 34, 35, 36, 37, 38, 39, 40, 41, 42, 43, 44, 45, 46, 47] (by decide +kernel) (by decide +kernel)
set_option maxRecDepth 20000 in
theorem gX0_mean_X0_sumOverLines : GoodIn wsX0_mean (wsV RX0 101 RX0 yX0_sumOverLines wsX0_sumOverLines) := goodIn_app (goodIn_of _ (by decide +kernel)) ggX0_mean_X0_sumOverLines
theorem dX0_mean_0 : decode cX0_mean 0 = .ok (.aload_n 0, 1) := by decide +kernel
theorem dX0_mean_1 : decode cX0_mean 1 = .ok (.iconst 0, 1) := by decide +kernel
theorem dX0_mean_2 : decode cX0_mean 2 = .ok (.invokevirtual 101, 3) := by decide +kernel
theorem dX0_mean_5 : decode cX0_mean 5 = .ok (.istore_n 1, 1) := by decide +kernel
theorem dX0_mean_6 : decode cX0_mean 6 = .ok (.iload_n 1, 1) := by decide +kernel
theorem dX0_mean_7 : decode cX0_mean 7 = .ok (.ifCond .ne 5, 3) := by decide +kernel
theorem dX0_mean_10 : decode cX0_mean 10 = .ok (.dconst 0, 1) := by decide +kernel
theorem dX0_mean_11 : decode cX0_mean 11 = .ok (.dreturn, 1) := by decide +kernel
theorem dX0_mean_12 : decode cX0_mean 12 = .ok (.aload_n 0, 1) := by decide +kernel
theorem dX0_mean_13 : decode cX0_mean 13 = .ok (.iconst 2, 1) := by decide +kernel
theorem dX0_mean_14 : decode cX0_mean 14 = .ok (.invokevirtual 101, 3) := by decide +kernel
theorem dX0_mean_17 : decode cX0_mean 17 = .ok (.i2d, 1) := by decide +kernel
theorem dX0_mean_18 : decode cX0_mean 18 = .ok (.iload_n 1, 1) := by decide +kernel
theorem dX0_mean_19 : decode cX0_mean 19 = .ok (.i2d, 1) := by decide +kernel
theorem dX0_mean_20 : decode cX0_mean 20 = .ok (.ddiv, 1) := by decide +kernel
theorem dX0_mean_21 : decode cX0_mean 21 = .ok (.dreturn, 1) := by decide +kernel
set_option maxRecDepth 20000 in
theorem ggX0_digest_X0_told : GoodIn wsX0_digest wsX0_told := goodIn_ca (goodIn_r _ [9, 4, 10, 11, 8, 12, 13, 14, 15, 16, 17, 18, 19, 20, 21, 22, 23, 24, 25, 26, 27, 28, 29, 30, 31, 32, 33, 34, 35, 3, 36, 37, 38, 39, 40, 41, 42, 43, 44, 45, 46, 47, 48, 49, 50, 51, 52, 53, 54, 55, 56, 57, 58, 59, 64, 65, 66, 67, 68, 69, 70, 71] (by decide +kernel) (by decide +kernel)) (goodIn_sub (fun _ h => List.mem_cons_of_mem _ (List.mem_append_right _ h)) (by decide +kernel))
set_option maxRecDepth 20000 in
theorem gX0_digest_X0_told : GoodIn wsX0_digest (wsV RX0 126 RX0 yX0_told wsX0_told) := goodIn_app (goodIn_of _ (by decide +kernel)) ggX0_digest_X0_told
set_option maxRecDepth 20000 in
theorem ggX0_digest_X0_digestOfLine : GoodIn wsX0_digest wsX0_digestOfLine := goodIn_r _ [63, 2, 19, 44, 45, 46, 8, 47, 48, 49, 50, 51, 20, 52, 26, 27, 28, 22, 23, 24, 25, 29, 30, 31, 32, 33, 34, 35, 3, 53, 54, 55, 56, 57, 58, 59, 64, 65, 66, 67, 68, 69, 70, 71] (by decide +kernel) (by decide +kernel)
set_option maxRecDepth 20000 in
theorem gX0_digest_X0_digestOfLine : GoodIn wsX0_digest (wsV RX0 129 RX0 yX0_digestOfLine wsX0_digestOfLine) := goodIn_app (goodIn_of _ (by decide +kernel)) ggX0_digest_X0_digestOfLine
theorem dX0_digest_0 : decode cX0_digest 0 = .ok (.ldc2_w 122, 3) := by decide +kernel
theorem dX0_digest_3 : decode cX0_digest 3 = .ok (.lstore_n 1, 1) := by decide +kernel
theorem dX0_digest_4 : decode cX0_digest 4 = .ok (.lload_n 1, 1) := by decide +kernel
theorem dX0_digest_5 : decode cX0_digest 5 = .ok (.ldc2_w 124, 3) := by decide +kernel
theorem dX0_digest_8 : decode cX0_digest 8 = .ok (.lmul, 1) := by decide +kernel
theorem dX0_digest_9 : decode cX0_digest 9 = .ok (.aload_n 0, 1) := by decide +kernel
theorem dX0_digest_10 : decode cX0_digest 10 = .ok (.getfield 9, 3) := by decide +kernel
theorem dX0_digest_13 : decode cX0_digest 13 = .ok (.i2l, 1) := by decide +kernel
theorem dX0_digest_14 : decode cX0_digest 14 = .ok (.ladd, 1) := by decide +kernel
theorem dX0_digest_15 : decode cX0_digest 15 = .ok (.lstore_n 1, 1) := by decide +kernel
theorem dX0_digest_16 : decode cX0_digest 16 = .ok (.iconst 0, 1) := by decide +kernel
theorem dX0_digest_17 : decode cX0_digest 17 = .ok (.istore_n 3, 1) := by decide +kernel
theorem dX0_digest_18 : decode cX0_digest 18 = .ok (.iload_n 3, 1) := by decide +kernel
theorem dX0_digest_19 : decode cX0_digest 19 = .ok (.bipush 7, 2) := by decide +kernel
theorem dX0_digest_21 : decode cX0_digest 21 = .ok (.if_icmp .ge 22, 3) := by decide +kernel
theorem dX0_digest_24 : decode cX0_digest 24 = .ok (.lload_n 1, 1) := by decide +kernel
theorem dX0_digest_25 : decode cX0_digest 25 = .ok (.ldc2_w 124, 3) := by decide +kernel
theorem dX0_digest_28 : decode cX0_digest 28 = .ok (.lmul, 1) := by decide +kernel
theorem dX0_digest_29 : decode cX0_digest 29 = .ok (.aload_n 0, 1) := by decide +kernel
theorem dX0_digest_30 : decode cX0_digest 30 = .ok (.iload_n 3, 1) := by decide +kernel
theorem dX0_digest_31 : decode cX0_digest 31 = .ok (.invokevirtual 126, 3) := by decide +kernel
theorem dX0_digest_34 : decode cX0_digest 34 = .ok (.i2l, 1) := by decide +kernel
theorem dX0_digest_35 : decode cX0_digest 35 = .ok (.ladd, 1) := by decide +kernel
theorem dX0_digest_36 : decode cX0_digest 36 = .ok (.lstore_n 1, 1) := by decide +kernel
theorem dX0_digest_37 : decode cX0_digest 37 = .ok (.iinc 3 1, 3) := by decide +kernel
theorem dX0_digest_40 : decode cX0_digest 40 = .ok (.goto (-22), 3) := by decide +kernel
theorem dX0_digest_43 : decode cX0_digest 43 = .ok (.iconst 0, 1) := by decide +kernel
theorem dX0_digest_44 : decode cX0_digest 44 = .ok (.istore_n 3, 1) := by decide +kernel
theorem dX0_digest_45 : decode cX0_digest 45 = .ok (.iload_n 3, 1) := by decide +kernel
theorem dX0_digest_46 : decode cX0_digest 46 = .ok (.aload_n 0, 1) := by decide +kernel
theorem dX0_digest_47 : decode cX0_digest 47 = .ok (.getfield 13, 3) := by decide +kernel
theorem dX0_digest_50 : decode cX0_digest 50 = .ok (.if_icmp .ge 16, 3) := by decide +kernel
theorem dX0_digest_53 : decode cX0_digest 53 = .ok (.aload_n 0, 1) := by decide +kernel
theorem dX0_digest_54 : decode cX0_digest 54 = .ok (.lload_n 1, 1) := by decide +kernel
theorem dX0_digest_55 : decode cX0_digest 55 = .ok (.iload_n 3, 1) := by decide +kernel
theorem dX0_digest_56 : decode cX0_digest 56 = .ok (.invokevirtual 129, 3) := by decide +kernel
theorem dX0_digest_59 : decode cX0_digest 59 = .ok (.lstore_n 1, 1) := by decide +kernel
theorem dX0_digest_60 : decode cX0_digest 60 = .ok (.iinc 3 1, 3) := by decide +kernel
theorem dX0_digest_63 : decode cX0_digest 63 = .ok (.goto (-18), 3) := by decide +kernel
theorem dX0_digest_66 : decode cX0_digest 66 = .ok (.lload_n 1, 1) := by decide +kernel
theorem dX0_digest_67 : decode cX0_digest 67 = .ok (.lreturn, 1) := by decide +kernel
theorem dX0_checkLine_0 : decode cX0_checkLine 0 = .ok (.iload_n 1, 1) := by decide +kernel
theorem dX0_checkLine_1 : decode cX0_checkLine 1 = .ok (.ifCond .lt 11, 3) := by decide +kernel
theorem dX0_checkLine_4 : decode cX0_checkLine 4 = .ok (.iload_n 1, 1) := by decide +kernel
theorem dX0_checkLine_5 : decode cX0_checkLine 5 = .ok (.aload_n 0, 1) := by decide +kernel
theorem dX0_checkLine_6 : decode cX0_checkLine 6 = .ok (.getfield 13, 3) := by decide +kernel
theorem dX0_checkLine_9 : decode cX0_checkLine 9 = .ok (.if_icmp .lt 13, 3) := by decide +kernel
theorem dX0_checkLine_12 : decode cX0_checkLine 12 = .ok (.new 38, 3) := by decide +kernel
theorem dX0_checkLine_15 : decode cX0_checkLine 15 = .ok (.dup, 1) := by decide +kernel
theorem dX0_checkLine_16 : decode cX0_checkLine 16 = .ok (.ldc 133, 2) := by decide +kernel
theorem dX0_checkLine_18 : decode cX0_checkLine 18 = .ok (.invokespecial 42, 3) := by decide +kernel
theorem dX0_checkLine_21 : decode cX0_checkLine 21 = .ok (.athrow, 1) := by decide +kernel
theorem dX0_checkLine_22 : decode cX0_checkLine 22 = .ok (.return_, 1) := by decide +kernel
set_option maxRecDepth 20000 in
theorem ggX0_checkWordOfLine_X0_checkLine : GoodIn wsX0_checkWordOfLine wsX0_checkLine := goodIn_ca (goodIn_r _ [8, 1, 2, 9, 10, 11, 12, 13, 14, 15, 16, 17] (by decide +kernel) (by decide +kernel)) (goodIn_sub (fun _ h => List.mem_cons_of_mem _ (List.mem_append_right _ h)) (by decide +kernel))
set_option maxRecDepth 20000 in
theorem gX0_checkWordOfLine_X0_checkLine : GoodIn wsX0_checkWordOfLine (wsV RX0 67 RX0 yX0_checkLine wsX0_checkLine) := goodIn_app (goodIn_of _ (by decide +kernel)) ggX0_checkWordOfLine_X0_checkLine
theorem dX0_checkWordOfLine_0 : decode cX0_checkWordOfLine 0 = .ok (.aload_n 0, 1) := by decide +kernel
theorem dX0_checkWordOfLine_1 : decode cX0_checkWordOfLine 1 = .ok (.iload_n 1, 1) := by decide +kernel
theorem dX0_checkWordOfLine_2 : decode cX0_checkWordOfLine 2 = .ok (.invokevirtual 67, 3) := by decide +kernel
theorem dX0_checkWordOfLine_5 : decode cX0_checkWordOfLine 5 = .ok (.iload_n 2, 1) := by decide +kernel
theorem dX0_checkWordOfLine_6 : decode cX0_checkWordOfLine 6 = .ok (.ifCond .lt 13, 3) := by decide +kernel
theorem dX0_checkWordOfLine_9 : decode cX0_checkWordOfLine 9 = .ok (.iload_n 2, 1) := by decide +kernel
theorem dX0_checkWordOfLine_10 : decode cX0_checkWordOfLine 10 = .ok (.aload_n 0, 1) := by decide +kernel
theorem dX0_checkWordOfLine_11 : decode cX0_checkWordOfLine 11 = .ok (.getfield 16, 3) := by decide +kernel
theorem dX0_checkWordOfLine_14 : decode cX0_checkWordOfLine 14 = .ok (.iload_n 1, 1) := by decide +kernel
theorem dX0_checkWordOfLine_15 : decode cX0_checkWordOfLine 15 = .ok (.iaload, 1) := by decide +kernel
theorem dX0_checkWordOfLine_16 : decode cX0_checkWordOfLine 16 = .ok (.if_icmp .lt 13, 3) := by decide +kernel
theorem dX0_checkWordOfLine_19 : decode cX0_checkWordOfLine 19 = .ok (.new 38, 3) := by decide +kernel
theorem dX0_checkWordOfLine_22 : decode cX0_checkWordOfLine 22 = .ok (.dup, 1) := by decide +kernel
theorem dX0_checkWordOfLine_23 : decode cX0_checkWordOfLine 23 = .ok (.ldc 135, 2) := by decide +kernel
theorem dX0_checkWordOfLine_25 : decode cX0_checkWordOfLine 25 = .ok (.invokespecial 42, 3) := by decide +kernel
theorem dX0_checkWordOfLine_28 : decode cX0_checkWordOfLine 28 = .ok (.athrow, 1) := by decide +kernel
theorem dX0_checkWordOfLine_29 : decode cX0_checkWordOfLine 29 = .ok (.return_, 1) := by decide +kernel
theorem dX0_checkWhat_0 : decode cX0_checkWhat 0 = .ok (.iload_n 0, 1) := by decide +kernel
theorem dX0_checkWhat_1 : decode cX0_checkWhat 1 = .ok (.ifCond .lt 8, 3) := by decide +kernel
theorem dX0_checkWhat_4 : decode cX0_checkWhat 4 = .ok (.iload_n 0, 1) := by decide +kernel
theorem dX0_checkWhat_5 : decode cX0_checkWhat 5 = .ok (.iload_n 1, 1) := by decide +kernel
theorem dX0_checkWhat_6 : decode cX0_checkWhat 6 = .ok (.if_icmp .lt 13, 3) := by decide +kernel
theorem dX0_checkWhat_9 : decode cX0_checkWhat 9 = .ok (.new 38, 3) := by decide +kernel
theorem dX0_checkWhat_12 : decode cX0_checkWhat 12 = .ok (.dup, 1) := by decide +kernel
theorem dX0_checkWhat_13 : decode cX0_checkWhat 13 = .ok (.ldc 137, 2) := by decide +kernel
theorem dX0_checkWhat_15 : decode cX0_checkWhat 15 = .ok (.invokespecial 42, 3) := by decide +kernel
theorem dX0_checkWhat_18 : decode cX0_checkWhat 18 = .ok (.athrow, 1) := by decide +kernel
theorem dX0_checkWhat_19 : decode cX0_checkWhat 19 = .ok (.return_, 1) := by decide +kernel
set_option maxRecDepth 20000 in
theorem ggX0_checkWord_X0_isWord : GoodIn wsX0_checkWord wsX0_isWord := goodIn_r _ [6, 7] (by decide +kernel) (by decide +kernel)
set_option maxRecDepth 20000 in
theorem gX0_checkWord_X0_isWord : GoodIn wsX0_checkWord (va_wsS RX0 139 yX0_isWord wsX0_isWord) := goodIn_app (goodIn_of _ (by decide +kernel)) ggX0_checkWord_X0_isWord
theorem dX0_checkWord_0 : decode cX0_checkWord 0 = .ok (.iload_n 0, 1) := by decide +kernel
theorem dX0_checkWord_1 : decode cX0_checkWord 1 = .ok (.invokestatic 139, 3) := by decide +kernel
theorem dX0_checkWord_4 : decode cX0_checkWord 4 = .ok (.ifCond .ne 13, 3) := by decide +kernel
theorem dX0_checkWord_7 : decode cX0_checkWord 7 = .ok (.new 143, 3) := by decide +kernel
theorem dX0_checkWord_10 : decode cX0_checkWord 10 = .ok (.dup, 1) := by decide +kernel
theorem dX0_checkWord_11 : decode cX0_checkWord 11 = .ok (.ldc 145, 2) := by decide +kernel
theorem dX0_checkWord_13 : decode cX0_checkWord 13 = .ok (.invokespecial 147, 3) := by decide +kernel
theorem dX0_checkWord_16 : decode cX0_checkWord 16 = .ok (.athrow, 1) := by decide +kernel
theorem dX0_checkWord_17 : decode cX0_checkWord 17 = .ok (.return_, 1) := by decide +kernel
theorem dX0_checkYear_0 : decode cX0_checkYear 0 = .ok (.iload_n 0, 1) := by decide +kernel
theorem dX0_checkYear_1 : decode cX0_checkYear 1 = .ok (.iconst 1, 1) := by decide +kernel
theorem dX0_checkYear_2 : decode cX0_checkYear 2 = .ok (.if_icmp .lt 10, 3) := by decide +kernel
theorem dX0_checkYear_5 : decode cX0_checkYear 5 = .ok (.iload_n 0, 1) := by decide +kernel
theorem dX0_checkYear_6 : decode cX0_checkYear 6 = .ok (.sipush 3000, 3) := by decide +kernel
theorem dX0_checkYear_9 : decode cX0_checkYear 9 = .ok (.if_icmp .le 13, 3) := by decide +kernel
theorem dX0_checkYear_12 : decode cX0_checkYear 12 = .ok (.new 143, 3) := by decide +kernel
theorem dX0_checkYear_15 : decode cX0_checkYear 15 = .ok (.dup, 1) := by decide +kernel
theorem dX0_checkYear_16 : decode cX0_checkYear 16 = .ok (.ldc 148, 2) := by decide +kernel
theorem dX0_checkYear_18 : decode cX0_checkYear 18 = .ok (.invokespecial 147, 3) := by decide +kernel
theorem dX0_checkYear_21 : decode cX0_checkYear 21 = .ok (.athrow, 1) := by decide +kernel
theorem dX0_checkYear_22 : decode cX0_checkYear 22 = .ok (.return_, 1) := by decide +kernel
theorem dX0_worthOfLetter_0 : decode cX0_worthOfLetter 0 = .ok (.aload_n 0, 1) := by decide +kernel
theorem dX0_worthOfLetter_1 : decode cX0_worthOfLetter 1 = .ok (.getfield 9, 3) := by decide +kernel
theorem dX0_worthOfLetter_4 : decode cX0_worthOfLetter 4 = .ok (.iconst 2, 1) := by decide +kernel
theorem dX0_worthOfLetter_5 : decode cX0_worthOfLetter 5 = .ok (.if_icmp .ne 15, 3) := by decide +kernel
theorem dX0_worthOfLetter_8 : decode cX0_worthOfLetter 8 = .ok (.iload_n 1, 1) := by decide +kernel
theorem dX0_worthOfLetter_9 : decode cX0_worthOfLetter 9 = .ok (.iload_n 1, 1) := by decide +kernel
theorem dX0_worthOfLetter_10 : decode cX0_worthOfLetter 10 = .ok (.imul, 1) := by decide +kernel
theorem dX0_worthOfLetter_11 : decode cX0_worthOfLetter 11 = .ok (.bipush 7, 2) := by decide +kernel
theorem dX0_worthOfLetter_13 : decode cX0_worthOfLetter 13 = .ok (.imul, 1) := by decide +kernel
theorem dX0_worthOfLetter_14 : decode cX0_worthOfLetter 14 = .ok (.bipush 101, 2) := by decide +kernel
theorem dX0_worthOfLetter_16 : decode cX0_worthOfLetter 16 = .ok (.irem, 1) := by decide +kernel
theorem dX0_worthOfLetter_17 : decode cX0_worthOfLetter 17 = .ok (.iconst 1, 1) := by decide +kernel
theorem dX0_worthOfLetter_18 : decode cX0_worthOfLetter 18 = .ok (.iadd, 1) := by decide +kernel
theorem dX0_worthOfLetter_19 : decode cX0_worthOfLetter 19 = .ok (.ireturn, 1) := by decide +kernel
theorem dX0_worthOfLetter_20 : decode cX0_worthOfLetter 20 = .ok (.aload_n 0, 1) := by decide +kernel
theorem dX0_worthOfLetter_21 : decode cX0_worthOfLetter 21 = .ok (.getfield 9, 3) := by decide +kernel
theorem dX0_worthOfLetter_24 : decode cX0_worthOfLetter 24 = .ok (.iconst 1, 1) := by decide +kernel
theorem dX0_worthOfLetter_25 : decode cX0_worthOfLetter 25 = .ok (.if_icmp .eq 9, 3) := by decide +kernel
theorem dX0_worthOfLetter_28 : decode cX0_worthOfLetter 28 = .ok (.iload_n 1, 1) := by decide +kernel
theorem dX0_worthOfLetter_29 : decode cX0_worthOfLetter 29 = .ok (.bipush 9, 2) := by decide +kernel
theorem dX0_worthOfLetter_31 : decode cX0_worthOfLetter 31 = .ok (.if_icmp .gt 5, 3) := by decide +kernel
theorem dX0_worthOfLetter_34 : decode cX0_worthOfLetter 34 = .ok (.iload_n 1, 1) := by decide +kernel
theorem dX0_worthOfLetter_35 : decode cX0_worthOfLetter 35 = .ok (.ireturn, 1) := by decide +kernel
theorem dX0_worthOfLetter_36 : decode cX0_worthOfLetter 36 = .ok (.iload_n 1, 1) := by decide +kernel
theorem dX0_worthOfLetter_37 : decode cX0_worthOfLetter 37 = .ok (.bipush 18, 2) := by decide +kernel
theorem dX0_worthOfLetter_39 : decode cX0_worthOfLetter 39 = .ok (.if_icmp .gt 13, 3) := by decide +kernel
theorem dX0_worthOfLetter_42 : decode cX0_worthOfLetter 42 = .ok (.iload_n 1, 1) := by decide +kernel
theorem dX0_worthOfLetter_43 : decode cX0_worthOfLetter 43 = .ok (.bipush 9, 2) := by decide +kernel
theorem dX0_worthOfLetter_45 : decode cX0_worthOfLetter 45 = .ok (.isub, 1) := by decide +kernel
theorem dX0_worthOfLetter_46 : decode cX0_worthOfLetter 46 = .ok (.bipush 10, 2) := by decide +kernel
theorem dX0_worthOfLetter_48 : decode cX0_worthOfLetter 48 = .ok (.imul, 1) := by decide +kernel
theorem dX0_worthOfLetter_49 : decode cX0_worthOfLetter 49 = .ok (.goto 10, 3) := by decide +kernel
theorem dX0_worthOfLetter_52 : decode cX0_worthOfLetter 52 = .ok (.iload_n 1, 1) := by decide +kernel
theorem dX0_worthOfLetter_53 : decode cX0_worthOfLetter 53 = .ok (.bipush 18, 2) := by decide +kernel
theorem dX0_worthOfLetter_55 : decode cX0_worthOfLetter 55 = .ok (.isub, 1) := by decide +kernel
theorem dX0_worthOfLetter_56 : decode cX0_worthOfLetter 56 = .ok (.bipush 100, 2) := by decide +kernel
theorem dX0_worthOfLetter_58 : decode cX0_worthOfLetter 58 = .ok (.imul, 1) := by decide +kernel
theorem dX0_worthOfLetter_59 : decode cX0_worthOfLetter 59 = .ok (.ireturn, 1) := by decide +kernel
theorem dX0_isWord_0 : decode cX0_isWord 0 = .ok (.iload_n 0, 1) := by decide +kernel
theorem dX0_isWord_1 : decode cX0_isWord 1 = .ok (.ifCond .le 9, 3) := by decide +kernel
theorem dX0_isWord_4 : decode cX0_isWord 4 = .ok (.iload_n 0, 1) := by decide +kernel
theorem dX0_isWord_5 : decode cX0_isWord 5 = .ok (.ldc 150, 2) := by decide +kernel
theorem dX0_isWord_7 : decode cX0_isWord 7 = .ok (.if_icmp .lt 5, 3) := by decide +kernel
theorem dX0_isWord_10 : decode cX0_isWord 10 = .ok (.iconst 0, 1) := by decide +kernel
theorem dX0_isWord_11 : decode cX0_isWord 11 = .ok (.ireturn, 1) := by decide +kernel
theorem dX0_isWord_12 : decode cX0_isWord 12 = .ok (.iload_n 0, 1) := by decide +kernel
theorem dX0_isWord_13 : decode cX0_isWord 13 = .ok (.istore_n 1, 1) := by decide +kernel
theorem dX0_isWord_14 : decode cX0_isWord 14 = .ok (.iconst 0, 1) := by decide +kernel
theorem dX0_isWord_15 : decode cX0_isWord 15 = .ok (.istore_n 2, 1) := by decide +kernel
theorem dX0_isWord_16 : decode cX0_isWord 16 = .ok (.iload_n 2, 1) := by decide +kernel
theorem dX0_isWord_17 : decode cX0_isWord 17 = .ok (.bipush 6, 2) := by decide +kernel
theorem dX0_isWord_19 : decode cX0_isWord 19 = .ok (.if_icmp .ge 27, 3) := by decide +kernel
theorem dX0_isWord_22 : decode cX0_isWord 22 = .ok (.iload_n 1, 1) := by decide +kernel
theorem dX0_isWord_23 : decode cX0_isWord 23 = .ok (.ifCond .le 23, 3) := by decide +kernel
theorem dX0_isWord_26 : decode cX0_isWord 26 = .ok (.iload_n 1, 1) := by decide +kernel
theorem dX0_isWord_27 : decode cX0_isWord 27 = .ok (.bipush 27, 2) := by decide +kernel
theorem dX0_isWord_29 : decode cX0_isWord 29 = .ok (.irem, 1) := by decide +kernel
theorem dX0_isWord_30 : decode cX0_isWord 30 = .ok (.ifCond .ne 5, 3) := by decide +kernel
theorem dX0_isWord_33 : decode cX0_isWord 33 = .ok (.iconst 0, 1) := by decide +kernel
theorem dX0_isWord_34 : decode cX0_isWord 34 = .ok (.ireturn, 1) := by decide +kernel
theorem dX0_isWord_35 : decode cX0_isWord 35 = .ok (.iload_n 1, 1) := by decide +kernel
theorem dX0_isWord_36 : decode cX0_isWord 36 = .ok (.bipush 27, 2) := by decide +kernel
theorem dX0_isWord_38 : decode cX0_isWord 38 = .ok (.idiv, 1) := by decide +kernel
theorem dX0_isWord_39 : decode cX0_isWord 39 = .ok (.istore_n 1, 1) := by decide +kernel
theorem dX0_isWord_40 : decode cX0_isWord 40 = .ok (.iinc 2 1, 3) := by decide +kernel
theorem dX0_isWord_43 : decode cX0_isWord 43 = .ok (.goto (-27), 3) := by decide +kernel
theorem dX0_isWord_46 : decode cX0_isWord 46 = .ok (.iconst 1, 1) := by decide +kernel
theorem dX0_isWord_47 : decode cX0_isWord 47 = .ok (.ireturn, 1) := by decide +kernel
theorem dX0_lengthOf_0 : decode cX0_lengthOf 0 = .ok (.iconst 0, 1) := by decide +kernel
theorem dX0_lengthOf_1 : decode cX0_lengthOf 1 = .ok (.istore_n 1, 1) := by decide +kernel
theorem dX0_lengthOf_2 : decode cX0_lengthOf 2 = .ok (.iload_n 0, 1) := by decide +kernel
theorem dX0_lengthOf_3 : decode cX0_lengthOf 3 = .ok (.istore_n 2, 1) := by decide +kernel
theorem dX0_lengthOf_4 : decode cX0_lengthOf 4 = .ok (.iload_n 1, 1) := by decide +kernel
theorem dX0_lengthOf_5 : decode cX0_lengthOf 5 = .ok (.bipush 6, 2) := by decide +kernel
theorem dX0_lengthOf_7 : decode cX0_lengthOf 7 = .ok (.if_icmp .ge 18, 3) := by decide +kernel
theorem dX0_lengthOf_10 : decode cX0_lengthOf 10 = .ok (.iload_n 2, 1) := by decide +kernel
theorem dX0_lengthOf_11 : decode cX0_lengthOf 11 = .ok (.ifCond .le 14, 3) := by decide +kernel
theorem dX0_lengthOf_14 : decode cX0_lengthOf 14 = .ok (.iload_n 2, 1) := by decide +kernel
theorem dX0_lengthOf_15 : decode cX0_lengthOf 15 = .ok (.bipush 27, 2) := by decide +kernel
theorem dX0_lengthOf_17 : decode cX0_lengthOf 17 = .ok (.idiv, 1) := by decide +kernel
theorem dX0_lengthOf_18 : decode cX0_lengthOf 18 = .ok (.istore_n 2, 1) := by decide +kernel
theorem dX0_lengthOf_19 : decode cX0_lengthOf 19 = .ok (.iinc 1 1, 3) := by decide +kernel
theorem dX0_lengthOf_22 : decode cX0_lengthOf 22 = .ok (.goto (-18), 3) := by decide +kernel
theorem dX0_lengthOf_25 : decode cX0_lengthOf 25 = .ok (.iload_n 1, 1) := by decide +kernel
theorem dX0_lengthOf_26 : decode cX0_lengthOf 26 = .ok (.ireturn, 1) := by decide +kernel
theorem dX0_timesIn_0 : decode cX0_timesIn 0 = .ok (.iconst 0, 1) := by decide +kernel
theorem dX0_timesIn_1 : decode cX0_timesIn 1 = .ok (.istore_n 2, 1) := by decide +kernel
theorem dX0_timesIn_2 : decode cX0_timesIn 2 = .ok (.iload_n 0, 1) := by decide +kernel
theorem dX0_timesIn_3 : decode cX0_timesIn 3 = .ok (.istore_n 3, 1) := by decide +kernel
theorem dX0_timesIn_4 : decode cX0_timesIn 4 = .ok (.iconst 0, 1) := by decide +kernel
theorem dX0_timesIn_5 : decode cX0_timesIn 5 = .ok (.istore 4, 2) := by decide +kernel
theorem dX0_timesIn_7 : decode cX0_timesIn 7 = .ok (.iload 4, 2) := by decide +kernel
theorem dX0_timesIn_9 : decode cX0_timesIn 9 = .ok (.bipush 6, 2) := by decide +kernel
theorem dX0_timesIn_11 : decode cX0_timesIn 11 = .ok (.if_icmp .ge 25, 3) := by decide +kernel
theorem dX0_timesIn_14 : decode cX0_timesIn 14 = .ok (.iload_n 3, 1) := by decide +kernel
theorem dX0_timesIn_15 : decode cX0_timesIn 15 = .ok (.bipush 27, 2) := by decide +kernel
theorem dX0_timesIn_17 : decode cX0_timesIn 17 = .ok (.irem, 1) := by decide +kernel
theorem dX0_timesIn_18 : decode cX0_timesIn 18 = .ok (.iload_n 1, 1) := by decide +kernel
theorem dX0_timesIn_19 : decode cX0_timesIn 19 = .ok (.if_icmp .ne 6, 3) := by decide +kernel
theorem dX0_timesIn_22 : decode cX0_timesIn 22 = .ok (.iinc 2 1, 3) := by decide +kernel
theorem dX0_timesIn_25 : decode cX0_timesIn 25 = .ok (.iload_n 3, 1) := by decide +kernel
theorem dX0_timesIn_26 : decode cX0_timesIn 26 = .ok (.bipush 27, 2) := by decide +kernel
theorem dX0_timesIn_28 : decode cX0_timesIn 28 = .ok (.idiv, 1) := by decide +kernel
theorem dX0_timesIn_29 : decode cX0_timesIn 29 = .ok (.istore_n 3, 1) := by decide +kernel
theorem dX0_timesIn_30 : decode cX0_timesIn 30 = .ok (.iinc 4 1, 3) := by decide +kernel
theorem dX0_timesIn_33 : decode cX0_timesIn 33 = .ok (.goto (-26), 3) := by decide +kernel
theorem dX0_timesIn_36 : decode cX0_timesIn 36 = .ok (.iload_n 2, 1) := by decide +kernel
theorem dX0_timesIn_37 : decode cX0_timesIn 37 = .ok (.ireturn, 1) := by decide +kernel
theorem dX0_isMarked_0 : decode cX0_isMarked 0 = .ok (.iload_n 0, 1) := by decide +kernel
theorem dX0_isMarked_1 : decode cX0_isMarked 1 = .ok (.iload_n 1, 1) := by decide +kernel
theorem dX0_isMarked_2 : decode cX0_isMarked 2 = .ok (.ishr, 1) := by decide +kernel
theorem dX0_isMarked_3 : decode cX0_isMarked 3 = .ok (.iconst 1, 1) := by decide +kernel
theorem dX0_isMarked_4 : decode cX0_isMarked 4 = .ok (.iand, 1) := by decide +kernel
theorem dX0_isMarked_5 : decode cX0_isMarked 5 = .ok (.iconst 1, 1) := by decide +kernel
theorem dX0_isMarked_6 : decode cX0_isMarked 6 = .ok (.if_icmp .ne 7, 3) := by decide +kernel
theorem dX0_isMarked_9 : decode cX0_isMarked 9 = .ok (.iconst 1, 1) := by decide +kernel
theorem dX0_isMarked_10 : decode cX0_isMarked 10 = .ok (.goto 4, 3) := by decide +kernel
theorem dX0_isMarked_13 : decode cX0_isMarked 13 = .ok (.iconst 0, 1) := by decide +kernel
theorem dX0_isMarked_14 : decode cX0_isMarked 14 = .ok (.ireturn, 1) := by decide +kernel
set_option maxRecDepth 20000 in
theorem ggX0_worthOfPlaces_X0_lengthOf : GoodIn wsX0_worthOfPlaces wsX0_lengthOf := goodIn_r _ [4] (by decide +kernel) (by decide +kernel)
set_option maxRecDepth 20000 in
theorem gX0_worthOfPlaces_X0_lengthOf : GoodIn wsX0_worthOfPlaces (va_wsS RX0 78 yX0_lengthOf wsX0_lengthOf) := goodIn_app (goodIn_of _ (by decide +kernel)) ggX0_worthOfPlaces_X0_lengthOf
set_option maxRecDepth 20000 in
theorem ggX0_worthOfPlaces_X0_isMarked : GoodIn wsX0_worthOfPlaces wsX0_isMarked := goodIn_r _ [7] (by decide +kernel) (by decide +kernel)
set_option maxRecDepth 20000 in
theorem gX0_worthOfPlaces_X0_isMarked : GoodIn wsX0_worthOfPlaces (va_wsS RX0 83 yX0_isMarked wsX0_isMarked) := goodIn_app (goodIn_of _ (by decide +kernel)) ggX0_worthOfPlaces_X0_isMarked
set_option maxRecDepth 20000 in
theorem ggX0_worthOfPlaces_X0_worthOfLetter : GoodIn wsX0_worthOfPlaces wsX0_worthOfLetter := goodIn_r _ [11, 12, 13, 14, 15, 16, 17, 18, 19, 20] (by decide +kernel) (by decide +kernel)
set_option maxRecDepth 20000 in
theorem gX0_worthOfPlaces_X0_worthOfLetter : GoodIn wsX0_worthOfPlaces (wsV RX0 47 RX0 yX0_worthOfLetter wsX0_worthOfLetter) := goodIn_app (goodIn_of _ (by decide +kernel)) ggX0_worthOfPlaces_X0_worthOfLetter
theorem dX0_worthOfPlaces_0 : decode cX0_worthOfPlaces 0 = .ok (.iconst 0, 1) := by decide +kernel
theorem dX0_worthOfPlaces_1 : decode cX0_worthOfPlaces 1 = .ok (.istore_n 3, 1) := by decide +kernel
theorem dX0_worthOfPlaces_2 : decode cX0_worthOfPlaces 2 = .ok (.iload_n 1, 1) := by decide +kernel
theorem dX0_worthOfPlaces_3 : decode cX0_worthOfPlaces 3 = .ok (.istore 4, 2) := by decide +kernel
theorem dX0_worthOfPlaces_5 : decode cX0_worthOfPlaces 5 = .ok (.iload_n 1, 1) := by decide +kernel
theorem dX0_worthOfPlaces_6 : decode cX0_worthOfPlaces 6 = .ok (.invokestatic 78, 3) := by decide +kernel
theorem dX0_worthOfPlaces_9 : decode cX0_worthOfPlaces 9 = .ok (.iconst 1, 1) := by decide +kernel
theorem dX0_worthOfPlaces_10 : decode cX0_worthOfPlaces 10 = .ok (.isub, 1) := by decide +kernel
theorem dX0_worthOfPlaces_11 : decode cX0_worthOfPlaces 11 = .ok (.istore 5, 2) := by decide +kernel
theorem dX0_worthOfPlaces_13 : decode cX0_worthOfPlaces 13 = .ok (.iload 5, 2) := by decide +kernel
theorem dX0_worthOfPlaces_15 : decode cX0_worthOfPlaces 15 = .ok (.ifCond .lt 37, 3) := by decide +kernel
theorem dX0_worthOfPlaces_18 : decode cX0_worthOfPlaces 18 = .ok (.iload_n 2, 1) := by decide +kernel
theorem dX0_worthOfPlaces_19 : decode cX0_worthOfPlaces 19 = .ok (.iload 5, 2) := by decide +kernel
theorem dX0_worthOfPlaces_21 : decode cX0_worthOfPlaces 21 = .ok (.invokestatic 83, 3) := by decide +kernel
theorem dX0_worthOfPlaces_24 : decode cX0_worthOfPlaces 24 = .ok (.ifCond .eq 15, 3) := by decide +kernel
theorem dX0_worthOfPlaces_27 : decode cX0_worthOfPlaces 27 = .ok (.iload_n 3, 1) := by decide +kernel
theorem dX0_worthOfPlaces_28 : decode cX0_worthOfPlaces 28 = .ok (.aload_n 0, 1) := by decide +kernel
theorem dX0_worthOfPlaces_29 : decode cX0_worthOfPlaces 29 = .ok (.iload 4, 2) := by decide +kernel
theorem dX0_worthOfPlaces_31 : decode cX0_worthOfPlaces 31 = .ok (.bipush 27, 2) := by decide +kernel
theorem dX0_worthOfPlaces_33 : decode cX0_worthOfPlaces 33 = .ok (.irem, 1) := by decide +kernel
theorem dX0_worthOfPlaces_34 : decode cX0_worthOfPlaces 34 = .ok (.invokevirtual 47, 3) := by decide +kernel
theorem dX0_worthOfPlaces_37 : decode cX0_worthOfPlaces 37 = .ok (.iadd, 1) := by decide +kernel
theorem dX0_worthOfPlaces_38 : decode cX0_worthOfPlaces 38 = .ok (.istore_n 3, 1) := by decide +kernel
theorem dX0_worthOfPlaces_39 : decode cX0_worthOfPlaces 39 = .ok (.iload 4, 2) := by decide +kernel
theorem dX0_worthOfPlaces_41 : decode cX0_worthOfPlaces 41 = .ok (.bipush 27, 2) := by decide +kernel
theorem dX0_worthOfPlaces_43 : decode cX0_worthOfPlaces 43 = .ok (.idiv, 1) := by decide +kernel
theorem dX0_worthOfPlaces_44 : decode cX0_worthOfPlaces 44 = .ok (.istore 4, 2) := by decide +kernel
theorem dX0_worthOfPlaces_46 : decode cX0_worthOfPlaces 46 = .ok (.iinc 5 (-1), 3) := by decide +kernel
theorem dX0_worthOfPlaces_49 : decode cX0_worthOfPlaces 49 = .ok (.goto (-36), 3) := by decide +kernel
theorem dX0_worthOfPlaces_52 : decode cX0_worthOfPlaces 52 = .ok (.iload_n 3, 1) := by decide +kernel
theorem dX0_worthOfPlaces_53 : decode cX0_worthOfPlaces 53 = .ok (.ireturn, 1) := by decide +kernel
set_option maxRecDepth 20000 in
theorem ggX0_figureOfWord_X0_lengthOf : GoodIn wsX0_figureOfWord wsX0_lengthOf := goodIn_r _ [6] (by decide +kernel) (by decide +kernel)
set_option maxRecDepth 20000 in
theorem gX0_figureOfWord_X0_lengthOf : GoodIn wsX0_figureOfWord (va_wsS RX0 78 yX0_lengthOf wsX0_lengthOf) := goodIn_app (goodIn_of _ (by decide +kernel)) ggX0_figureOfWord_X0_lengthOf
set_option maxRecDepth 20000 in
theorem ggX0_figureOfWord_X0_worthOfPlaces : GoodIn wsX0_figureOfWord wsX0_worthOfPlaces := goodIn_r _ [10, 3, 4, 5, 6, 11, 12, 13, 14, 15, 16, 17, 18, 26, 27, 28, 29, 30, 31, 32, 33] (by decide +kernel) (by decide +kernel)
set_option maxRecDepth 20000 in
theorem gX0_figureOfWord_X0_worthOfPlaces : GoodIn wsX0_figureOfWord (wsV RX0 55 RX0 yX0_worthOfPlaces wsX0_worthOfPlaces) := goodIn_app (goodIn_of _ (by decide +kernel)) ggX0_figureOfWord_X0_worthOfPlaces
set_option maxRecDepth 20000 in
theorem ggX0_figureOfWord_J6_bitCount_0f7a4 : GoodIn wsX0_figureOfWord wsJ6_bitCount_0f7a4 := goodIn_r _ [22, 23, 24, 25] (by decide +kernel) (by decide +kernel)
set_option maxRecDepth 20000 in
theorem gX0_figureOfWord_J6_bitCount_0f7a4 : GoodIn wsX0_figureOfWord (va_wsS RX0 151 yJ6_bitCount_0f7a4 wsJ6_bitCount_0f7a4) := goodIn_app (goodIn_of _ (by decide +kernel)) ggX0_figureOfWord_J6_bitCount_0f7a4
theorem dX0_figureOfWord_0 : decode cX0_figureOfWord 0 = .ok (.iload_n 3, 1) := by decide +kernel
theorem dX0_figureOfWord_1 : decode cX0_figureOfWord 1 = .ok (.tableswitch 79 0 3 #[31, 40, 52, 67], 31) := by decide +kernel
theorem dX0_figureOfWord_32 : decode cX0_figureOfWord 32 = .ok (.aload_n 0, 1) := by decide +kernel
theorem dX0_figureOfWord_33 : decode cX0_figureOfWord 33 = .ok (.getfield 22, 3) := by decide +kernel
theorem dX0_figureOfWord_36 : decode cX0_figureOfWord 36 = .ok (.iload_n 1, 1) := by decide +kernel
theorem dX0_figureOfWord_37 : decode cX0_figureOfWord 37 = .ok (.aaload, 1) := by decide +kernel
theorem dX0_figureOfWord_38 : decode cX0_figureOfWord 38 = .ok (.iload_n 2, 1) := by decide +kernel
theorem dX0_figureOfWord_39 : decode cX0_figureOfWord 39 = .ok (.iaload, 1) := by decide +kernel
theorem dX0_figureOfWord_40 : decode cX0_figureOfWord 40 = .ok (.ireturn, 1) := by decide +kernel
theorem dX0_figureOfWord_41 : decode cX0_figureOfWord 41 = .ok (.aload_n 0, 1) := by decide +kernel
theorem dX0_figureOfWord_42 : decode cX0_figureOfWord 42 = .ok (.getfield 22, 3) := by decide +kernel
theorem dX0_figureOfWord_45 : decode cX0_figureOfWord 45 = .ok (.iload_n 1, 1) := by decide +kernel
theorem dX0_figureOfWord_46 : decode cX0_figureOfWord 46 = .ok (.aaload, 1) := by decide +kernel
theorem dX0_figureOfWord_47 : decode cX0_figureOfWord 47 = .ok (.iload_n 2, 1) := by decide +kernel
theorem dX0_figureOfWord_48 : decode cX0_figureOfWord 48 = .ok (.iaload, 1) := by decide +kernel
theorem dX0_figureOfWord_49 : decode cX0_figureOfWord 49 = .ok (.invokestatic 78, 3) := by decide +kernel
theorem dX0_figureOfWord_52 : decode cX0_figureOfWord 52 = .ok (.ireturn, 1) := by decide +kernel
theorem dX0_figureOfWord_53 : decode cX0_figureOfWord 53 = .ok (.aload_n 0, 1) := by decide +kernel
theorem dX0_figureOfWord_54 : decode cX0_figureOfWord 54 = .ok (.aload_n 0, 1) := by decide +kernel
theorem dX0_figureOfWord_55 : decode cX0_figureOfWord 55 = .ok (.getfield 22, 3) := by decide +kernel
theorem dX0_figureOfWord_58 : decode cX0_figureOfWord 58 = .ok (.iload_n 1, 1) := by decide +kernel
theorem dX0_figureOfWord_59 : decode cX0_figureOfWord 59 = .ok (.aaload, 1) := by decide +kernel
theorem dX0_figureOfWord_60 : decode cX0_figureOfWord 60 = .ok (.iload_n 2, 1) := by decide +kernel
theorem dX0_figureOfWord_61 : decode cX0_figureOfWord 61 = .ok (.iaload, 1) := by decide +kernel
theorem dX0_figureOfWord_62 : decode cX0_figureOfWord 62 = .ok (.bipush 63, 2) := by decide +kernel
theorem dX0_figureOfWord_64 : decode cX0_figureOfWord 64 = .ok (.invokevirtual 55, 3) := by decide +kernel
theorem dX0_figureOfWord_67 : decode cX0_figureOfWord 67 = .ok (.ireturn, 1) := by decide +kernel
theorem dX0_figureOfWord_68 : decode cX0_figureOfWord 68 = .ok (.aload_n 0, 1) := by decide +kernel
theorem dX0_figureOfWord_69 : decode cX0_figureOfWord 69 = .ok (.getfield 25, 3) := by decide +kernel
theorem dX0_figureOfWord_72 : decode cX0_figureOfWord 72 = .ok (.iload_n 1, 1) := by decide +kernel
theorem dX0_figureOfWord_73 : decode cX0_figureOfWord 73 = .ok (.aaload, 1) := by decide +kernel
theorem dX0_figureOfWord_74 : decode cX0_figureOfWord 74 = .ok (.iload_n 2, 1) := by decide +kernel
theorem dX0_figureOfWord_75 : decode cX0_figureOfWord 75 = .ok (.iaload, 1) := by decide +kernel
theorem dX0_figureOfWord_76 : decode cX0_figureOfWord 76 = .ok (.invokestatic 151, 3) := by decide +kernel
theorem dX0_figureOfWord_79 : decode cX0_figureOfWord 79 = .ok (.ireturn, 1) := by decide +kernel
theorem dX0_figureOfWord_80 : decode cX0_figureOfWord 80 = .ok (.aload_n 0, 1) := by decide +kernel
theorem dX0_figureOfWord_81 : decode cX0_figureOfWord 81 = .ok (.aload_n 0, 1) := by decide +kernel
theorem dX0_figureOfWord_82 : decode cX0_figureOfWord 82 = .ok (.getfield 22, 3) := by decide +kernel
theorem dX0_figureOfWord_85 : decode cX0_figureOfWord 85 = .ok (.iload_n 1, 1) := by decide +kernel
theorem dX0_figureOfWord_86 : decode cX0_figureOfWord 86 = .ok (.aaload, 1) := by decide +kernel
theorem dX0_figureOfWord_87 : decode cX0_figureOfWord 87 = .ok (.iload_n 2, 1) := by decide +kernel
theorem dX0_figureOfWord_88 : decode cX0_figureOfWord 88 = .ok (.iaload, 1) := by decide +kernel
theorem dX0_figureOfWord_89 : decode cX0_figureOfWord 89 = .ok (.aload_n 0, 1) := by decide +kernel
theorem dX0_figureOfWord_90 : decode cX0_figureOfWord 90 = .ok (.getfield 25, 3) := by decide +kernel
theorem dX0_figureOfWord_93 : decode cX0_figureOfWord 93 = .ok (.iload_n 1, 1) := by decide +kernel
theorem dX0_figureOfWord_94 : decode cX0_figureOfWord 94 = .ok (.aaload, 1) := by decide +kernel
theorem dX0_figureOfWord_95 : decode cX0_figureOfWord 95 = .ok (.iload_n 2, 1) := by decide +kernel
theorem dX0_figureOfWord_96 : decode cX0_figureOfWord 96 = .ok (.iaload, 1) := by decide +kernel
theorem dX0_figureOfWord_97 : decode cX0_figureOfWord 97 = .ok (.invokevirtual 55, 3) := by decide +kernel
theorem dX0_figureOfWord_100 : decode cX0_figureOfWord 100 = .ok (.ireturn, 1) := by decide +kernel
set_option maxRecDepth 20000 in
theorem ggX0_figureOfLine_X0_figureOfWord : GoodIn wsX0_figureOfLine wsX0_figureOfWord := goodIn_r _ [6, 7, 8, 9, 10, 5, 11, 12, 13, 14, 15, 16, 17, 18, 19, 20, 21, 22, 23, 24, 25, 26, 27, 28, 29, 30, 31, 32, 33, 34, 35, 36, 37, 38] (by decide +kernel) (by decide +kernel)
set_option maxRecDepth 20000 in
theorem gX0_figureOfLine_X0_figureOfWord : GoodIn wsX0_figureOfLine (wsV RX0 90 RX0 yX0_figureOfWord wsX0_figureOfWord) := goodIn_app (goodIn_of _ (by decide +kernel)) ggX0_figureOfLine_X0_figureOfWord
theorem dX0_figureOfLine_0 : decode cX0_figureOfLine 0 = .ok (.iload_n 2, 1) := by decide +kernel
theorem dX0_figureOfLine_1 : decode cX0_figureOfLine 1 = .ok (.ifCond .ne 10, 3) := by decide +kernel
theorem dX0_figureOfLine_4 : decode cX0_figureOfLine 4 = .ok (.aload_n 0, 1) := by decide +kernel
theorem dX0_figureOfLine_5 : decode cX0_figureOfLine 5 = .ok (.getfield 16, 3) := by decide +kernel
theorem dX0_figureOfLine_8 : decode cX0_figureOfLine 8 = .ok (.iload_n 1, 1) := by decide +kernel
theorem dX0_figureOfLine_9 : decode cX0_figureOfLine 9 = .ok (.iaload, 1) := by decide +kernel
theorem dX0_figureOfLine_10 : decode cX0_figureOfLine 10 = .ok (.ireturn, 1) := by decide +kernel
theorem dX0_figureOfLine_11 : decode cX0_figureOfLine 11 = .ok (.iconst 0, 1) := by decide +kernel
theorem dX0_figureOfLine_12 : decode cX0_figureOfLine 12 = .ok (.istore_n 3, 1) := by decide +kernel
theorem dX0_figureOfLine_13 : decode cX0_figureOfLine 13 = .ok (.iconst 0, 1) := by decide +kernel
theorem dX0_figureOfLine_14 : decode cX0_figureOfLine 14 = .ok (.istore 4, 2) := by decide +kernel
theorem dX0_figureOfLine_16 : decode cX0_figureOfLine 16 = .ok (.iload 4, 2) := by decide +kernel
theorem dX0_figureOfLine_18 : decode cX0_figureOfLine 18 = .ok (.aload_n 0, 1) := by decide +kernel
theorem dX0_figureOfLine_19 : decode cX0_figureOfLine 19 = .ok (.getfield 16, 3) := by decide +kernel
theorem dX0_figureOfLine_22 : decode cX0_figureOfLine 22 = .ok (.iload_n 1, 1) := by decide +kernel
theorem dX0_figureOfLine_23 : decode cX0_figureOfLine 23 = .ok (.iaload, 1) := by decide +kernel
theorem dX0_figureOfLine_24 : decode cX0_figureOfLine 24 = .ok (.if_icmp .ge 20, 3) := by decide +kernel
theorem dX0_figureOfLine_27 : decode cX0_figureOfLine 27 = .ok (.iload_n 3, 1) := by decide +kernel
theorem dX0_figureOfLine_28 : decode cX0_figureOfLine 28 = .ok (.aload_n 0, 1) := by decide +kernel
theorem dX0_figureOfLine_29 : decode cX0_figureOfLine 29 = .ok (.iload_n 1, 1) := by decide +kernel
theorem dX0_figureOfLine_30 : decode cX0_figureOfLine 30 = .ok (.iload 4, 2) := by decide +kernel
theorem dX0_figureOfLine_32 : decode cX0_figureOfLine 32 = .ok (.iload_n 2, 1) := by decide +kernel
theorem dX0_figureOfLine_33 : decode cX0_figureOfLine 33 = .ok (.invokevirtual 90, 3) := by decide +kernel
theorem dX0_figureOfLine_36 : decode cX0_figureOfLine 36 = .ok (.iadd, 1) := by decide +kernel
theorem dX0_figureOfLine_37 : decode cX0_figureOfLine 37 = .ok (.istore_n 3, 1) := by decide +kernel
theorem dX0_figureOfLine_38 : decode cX0_figureOfLine 38 = .ok (.iinc 4 1, 3) := by decide +kernel
theorem dX0_figureOfLine_41 : decode cX0_figureOfLine 41 = .ok (.goto (-25), 3) := by decide +kernel
theorem dX0_figureOfLine_44 : decode cX0_figureOfLine 44 = .ok (.iload_n 3, 1) := by decide +kernel
theorem dX0_figureOfLine_45 : decode cX0_figureOfLine 45 = .ok (.ireturn, 1) := by decide +kernel
set_option maxRecDepth 20000 in
theorem ggX0_sumOverLines_X0_figureOfLine : GoodIn wsX0_sumOverLines wsX0_figureOfLine := goodIn_r _ [6, 7, 8, 9, 10, 5, 11, 12, 13, 14, 15, 16, 17, 18, 19, 20, 21, 22, 23, 24, 25, 26, 27, 28, 29, 30, 31, 32, 33, 34, 35, 36, 37, 38, 39, 40, 41, 42, 43] (by decide +kernel) (by decide +kernel)
set_option maxRecDepth 20000 in
theorem gX0_sumOverLines_X0_figureOfLine : GoodIn wsX0_sumOverLines (wsV RX0 94 RX0 yX0_figureOfLine wsX0_figureOfLine) := goodIn_app (goodIn_of _ (by decide +kernel)) ggX0_sumOverLines_X0_figureOfLine
theorem dX0_sumOverLines_0 : decode cX0_sumOverLines 0 = .ok (.iconst 0, 1) := by decide +kernel
theorem dX0_sumOverLines_1 : decode cX0_sumOverLines 1 = .ok (.istore_n 2, 1) := by decide +kernel
theorem dX0_sumOverLines_2 : decode cX0_sumOverLines 2 = .ok (.iconst 0, 1) := by decide +kernel
theorem dX0_sumOverLines_3 : decode cX0_sumOverLines 3 = .ok (.istore_n 3, 1) := by decide +kernel
theorem dX0_sumOverLines_4 : decode cX0_sumOverLines 4 = .ok (.iload_n 3, 1) := by decide +kernel
theorem dX0_sumOverLines_5 : decode cX0_sumOverLines 5 = .ok (.aload_n 0, 1) := by decide +kernel
theorem dX0_sumOverLines_6 : decode cX0_sumOverLines 6 = .ok (.getfield 13, 3) := by decide +kernel
theorem dX0_sumOverLines_9 : decode cX0_sumOverLines 9 = .ok (.if_icmp .ge 18, 3) := by decide +kernel
theorem dX0_sumOverLines_12 : decode cX0_sumOverLines 12 = .ok (.iload_n 2, 1) := by decide +kernel
theorem dX0_sumOverLines_13 : decode cX0_sumOverLines 13 = .ok (.aload_n 0, 1) := by decide +kernel
theorem dX0_sumOverLines_14 : decode cX0_sumOverLines 14 = .ok (.iload_n 3, 1) := by decide +kernel
theorem dX0_sumOverLines_15 : decode cX0_sumOverLines 15 = .ok (.iload_n 1, 1) := by decide +kernel
theorem dX0_sumOverLines_16 : decode cX0_sumOverLines 16 = .ok (.invokevirtual 94, 3) := by decide +kernel
theorem dX0_sumOverLines_19 : decode cX0_sumOverLines 19 = .ok (.iadd, 1) := by decide +kernel
theorem dX0_sumOverLines_20 : decode cX0_sumOverLines 20 = .ok (.istore_n 2, 1) := by decide +kernel
theorem dX0_sumOverLines_21 : decode cX0_sumOverLines 21 = .ok (.iinc 3 1, 3) := by decide +kernel
theorem dX0_sumOverLines_24 : decode cX0_sumOverLines 24 = .ok (.goto (-20), 3) := by decide +kernel
theorem dX0_sumOverLines_27 : decode cX0_sumOverLines 27 = .ok (.iload_n 2, 1) := by decide +kernel
theorem dX0_sumOverLines_28 : decode cX0_sumOverLines 28 = .ok (.ireturn, 1) := by decide +kernel
set_option maxRecDepth 20000 in
theorem ggX0_pairsOfSameWorth_X0_worthOfPlaces : GoodIn wsX0_pairsOfSameWorth wsX0_worthOfPlaces := goodIn_r _ [9, 10, 11, 8, 12, 13, 14, 15, 16, 17, 18, 19, 20, 25, 26, 27, 28, 29, 30, 31, 32] (by decide +kernel) (by decide +kernel)
set_option maxRecDepth 20000 in
theorem gX0_pairsOfSameWorth_X0_worthOfPlaces : GoodIn wsX0_pairsOfSameWorth (wsV RX0 55 RX0 yX0_worthOfPlaces wsX0_worthOfPlaces) := goodIn_app (goodIn_of _ (by decide +kernel)) ggX0_pairsOfSameWorth_X0_worthOfPlaces
set_option maxRecDepth 20000 in
theorem ggX0_pairsOfSameWorth_X0_timesAmongWorths : GoodIn wsX0_pairsOfSameWorth wsX0_timesAmongWorths := goodIn_r _ [24, 4, 25, 26, 27, 28, 29, 30, 31, 32] (by decide +kernel) (by decide +kernel)
set_option maxRecDepth 20000 in
theorem gX0_pairsOfSameWorth_X0_timesAmongWorths : GoodIn wsX0_pairsOfSameWorth (wsV RX0 156 RX0 yX0_timesAmongWorths wsX0_timesAmongWorths) := goodIn_app (goodIn_of _ (by decide +kernel)) ggX0_pairsOfSameWorth_X0_timesAmongWorths
theorem dX0_pairsOfSameWorth_0 : decode cX0_pairsOfSameWorth 0 = .ok (.iconst 0, 1) := by decide +kernel
theorem dX0_pairsOfSameWorth_1 : decode cX0_pairsOfSameWorth 1 = .ok (.istore_n 1, 1) := by decide +kernel
theorem dX0_pairsOfSameWorth_2 : decode cX0_pairsOfSameWorth 2 = .ok (.iconst 0, 1) := by decide +kernel
theorem dX0_pairsOfSameWorth_3 : decode cX0_pairsOfSameWorth 3 = .ok (.istore_n 2, 1) := by decide +kernel
theorem dX0_pairsOfSameWorth_4 : decode cX0_pairsOfSameWorth 4 = .ok (.iconst 0, 1) := by decide +kernel
theorem dX0_pairsOfSameWorth_5 : decode cX0_pairsOfSameWorth 5 = .ok (.istore_n 3, 1) := by decide +kernel
theorem dX0_pairsOfSameWorth_6 : decode cX0_pairsOfSameWorth 6 = .ok (.iload_n 3, 1) := by decide +kernel
theorem dX0_pairsOfSameWorth_7 : decode cX0_pairsOfSameWorth 7 = .ok (.aload_n 0, 1) := by decide +kernel
theorem dX0_pairsOfSameWorth_8 : decode cX0_pairsOfSameWorth 8 = .ok (.getfield 13, 3) := by decide +kernel
theorem dX0_pairsOfSameWorth_11 : decode cX0_pairsOfSameWorth 11 = .ok (.if_icmp .ge 67, 3) := by decide +kernel
theorem dX0_pairsOfSameWorth_14 : decode cX0_pairsOfSameWorth 14 = .ok (.iconst 0, 1) := by decide +kernel
theorem dX0_pairsOfSameWorth_15 : decode cX0_pairsOfSameWorth 15 = .ok (.istore 4, 2) := by decide +kernel
theorem dX0_pairsOfSameWorth_17 : decode cX0_pairsOfSameWorth 17 = .ok (.iload 4, 2) := by decide +kernel
theorem dX0_pairsOfSameWorth_19 : decode cX0_pairsOfSameWorth 19 = .ok (.aload_n 0, 1) := by decide +kernel
theorem dX0_pairsOfSameWorth_20 : decode cX0_pairsOfSameWorth 20 = .ok (.getfield 16, 3) := by decide +kernel
theorem dX0_pairsOfSameWorth_23 : decode cX0_pairsOfSameWorth 23 = .ok (.iload_n 3, 1) := by decide +kernel
theorem dX0_pairsOfSameWorth_24 : decode cX0_pairsOfSameWorth 24 = .ok (.iaload, 1) := by decide +kernel
theorem dX0_pairsOfSameWorth_25 : decode cX0_pairsOfSameWorth 25 = .ok (.if_icmp .ge 47, 3) := by decide +kernel
theorem dX0_pairsOfSameWorth_28 : decode cX0_pairsOfSameWorth 28 = .ok (.aload_n 0, 1) := by decide +kernel
theorem dX0_pairsOfSameWorth_29 : decode cX0_pairsOfSameWorth 29 = .ok (.aload_n 0, 1) := by decide +kernel
theorem dX0_pairsOfSameWorth_30 : decode cX0_pairsOfSameWorth 30 = .ok (.getfield 22, 3) := by decide +kernel
theorem dX0_pairsOfSameWorth_33 : decode cX0_pairsOfSameWorth 33 = .ok (.iload_n 3, 1) := by decide +kernel
theorem dX0_pairsOfSameWorth_34 : decode cX0_pairsOfSameWorth 34 = .ok (.aaload, 1) := by decide +kernel
theorem dX0_pairsOfSameWorth_35 : decode cX0_pairsOfSameWorth 35 = .ok (.iload 4, 2) := by decide +kernel
theorem dX0_pairsOfSameWorth_37 : decode cX0_pairsOfSameWorth 37 = .ok (.iaload, 1) := by decide +kernel
theorem dX0_pairsOfSameWorth_38 : decode cX0_pairsOfSameWorth 38 = .ok (.bipush 63, 2) := by decide +kernel
theorem dX0_pairsOfSameWorth_40 : decode cX0_pairsOfSameWorth 40 = .ok (.invokevirtual 55, 3) := by decide +kernel
theorem dX0_pairsOfSameWorth_43 : decode cX0_pairsOfSameWorth 43 = .ok (.istore 5, 2) := by decide +kernel
theorem dX0_pairsOfSameWorth_45 : decode cX0_pairsOfSameWorth 45 = .ok (.iload_n 2, 1) := by decide +kernel
theorem dX0_pairsOfSameWorth_46 : decode cX0_pairsOfSameWorth 46 = .ok (.aload_n 0, 1) := by decide +kernel
theorem dX0_pairsOfSameWorth_47 : decode cX0_pairsOfSameWorth 47 = .ok (.iload 5, 2) := by decide +kernel
theorem dX0_pairsOfSameWorth_49 : decode cX0_pairsOfSameWorth 49 = .ok (.iload_n 1, 1) := by decide +kernel
theorem dX0_pairsOfSameWorth_50 : decode cX0_pairsOfSameWorth 50 = .ok (.invokevirtual 156, 3) := by decide +kernel
theorem dX0_pairsOfSameWorth_53 : decode cX0_pairsOfSameWorth 53 = .ok (.iadd, 1) := by decide +kernel
theorem dX0_pairsOfSameWorth_54 : decode cX0_pairsOfSameWorth 54 = .ok (.istore_n 2, 1) := by decide +kernel
theorem dX0_pairsOfSameWorth_55 : decode cX0_pairsOfSameWorth 55 = .ok (.aload_n 0, 1) := by decide +kernel
theorem dX0_pairsOfSameWorth_56 : decode cX0_pairsOfSameWorth 56 = .ok (.getfield 28, 3) := by decide +kernel
theorem dX0_pairsOfSameWorth_59 : decode cX0_pairsOfSameWorth 59 = .ok (.iload_n 1, 1) := by decide +kernel
theorem dX0_pairsOfSameWorth_60 : decode cX0_pairsOfSameWorth 60 = .ok (.iload 5, 2) := by decide +kernel
theorem dX0_pairsOfSameWorth_62 : decode cX0_pairsOfSameWorth 62 = .ok (.iastore, 1) := by decide +kernel
theorem dX0_pairsOfSameWorth_63 : decode cX0_pairsOfSameWorth 63 = .ok (.iinc 1 1, 3) := by decide +kernel
theorem dX0_pairsOfSameWorth_66 : decode cX0_pairsOfSameWorth 66 = .ok (.iinc 4 1, 3) := by decide +kernel
theorem dX0_pairsOfSameWorth_69 : decode cX0_pairsOfSameWorth 69 = .ok (.goto (-52), 3) := by decide +kernel
theorem dX0_pairsOfSameWorth_72 : decode cX0_pairsOfSameWorth 72 = .ok (.iinc 3 1, 3) := by decide +kernel
theorem dX0_pairsOfSameWorth_75 : decode cX0_pairsOfSameWorth 75 = .ok (.goto (-69), 3) := by decide +kernel
theorem dX0_pairsOfSameWorth_78 : decode cX0_pairsOfSameWorth 78 = .ok (.iload_n 2, 1) := by decide +kernel
theorem dX0_pairsOfSameWorth_79 : decode cX0_pairsOfSameWorth 79 = .ok (.ireturn, 1) := by decide +kernel
theorem dX0_timesAmongWorths_0 : decode cX0_timesAmongWorths 0 = .ok (.iconst 0, 1) := by decide +kernel
theorem dX0_timesAmongWorths_1 : decode cX0_timesAmongWorths 1 = .ok (.istore_n 3, 1) := by decide +kernel
theorem dX0_timesAmongWorths_2 : decode cX0_timesAmongWorths 2 = .ok (.iconst 0, 1) := by decide +kernel
theorem dX0_timesAmongWorths_3 : decode cX0_timesAmongWorths 3 = .ok (.istore 4, 2) := by decide +kernel
theorem dX0_timesAmongWorths_5 : decode cX0_timesAmongWorths 5 = .ok (.iload 4, 2) := by decide +kernel
theorem dX0_timesAmongWorths_7 : decode cX0_timesAmongWorths 7 = .ok (.iload_n 2, 1) := by decide +kernel
theorem dX0_timesAmongWorths_8 : decode cX0_timesAmongWorths 8 = .ok (.if_icmp .ge 23, 3) := by decide +kernel
theorem dX0_timesAmongWorths_11 : decode cX0_timesAmongWorths 11 = .ok (.aload_n 0, 1) := by decide +kernel
theorem dX0_timesAmongWorths_12 : decode cX0_timesAmongWorths 12 = .ok (.getfield 28, 3) := by decide +kernel
theorem dX0_timesAmongWorths_15 : decode cX0_timesAmongWorths 15 = .ok (.iload 4, 2) := by decide +kernel
theorem dX0_timesAmongWorths_17 : decode cX0_timesAmongWorths 17 = .ok (.iaload, 1) := by decide +kernel
theorem dX0_timesAmongWorths_18 : decode cX0_timesAmongWorths 18 = .ok (.iload_n 1, 1) := by decide +kernel
theorem dX0_timesAmongWorths_19 : decode cX0_timesAmongWorths 19 = .ok (.if_icmp .ne 6, 3) := by decide +kernel
theorem dX0_timesAmongWorths_22 : decode cX0_timesAmongWorths 22 = .ok (.iinc 3 1, 3) := by decide +kernel
theorem dX0_timesAmongWorths_25 : decode cX0_timesAmongWorths 25 = .ok (.iinc 4 1, 3) := by decide +kernel
theorem dX0_timesAmongWorths_28 : decode cX0_timesAmongWorths 28 = .ok (.goto (-23), 3) := by decide +kernel
theorem dX0_timesAmongWorths_31 : decode cX0_timesAmongWorths 31 = .ok (.iload_n 3, 1) := by decide +kernel
theorem dX0_timesAmongWorths_32 : decode cX0_timesAmongWorths 32 = .ok (.ireturn, 1) := by decide +kernel
set_option maxRecDepth 20000 in
theorem ggX0_digestOfLine_X0_figureOfLine : GoodIn wsX0_digestOfLine wsX0_figureOfLine := goodIn_r _ [7, 2, 8, 9, 10, 6, 11, 12, 13, 14, 15, 16, 17, 18, 19, 20, 21, 22, 23, 24, 25, 26, 27, 28, 29, 30, 31, 32, 33, 34, 35, 36, 37, 38, 39, 40, 41, 42, 43] (by decide +kernel) (by decide +kernel)
set_option maxRecDepth 20000 in
theorem gX0_digestOfLine_X0_figureOfLine : GoodIn wsX0_digestOfLine (wsV RX0 94 RX0 yX0_figureOfLine wsX0_figureOfLine) := goodIn_app (goodIn_of _ (by decide +kernel)) ggX0_digestOfLine_X0_figureOfLine
set_option maxRecDepth 20000 in
theorem ggX0_digestOfLine_X0_figureOfWord : GoodIn wsX0_digestOfLine wsX0_figureOfWord := goodIn_r _ [11, 12, 13, 14, 15, 6, 16, 17, 18, 19, 20, 21, 22, 23, 24, 25, 26, 27, 28, 29, 30, 31, 32, 33, 34, 35, 36, 37, 38, 39, 40, 41, 42, 43] (by decide +kernel) (by decide +kernel)
set_option maxRecDepth 20000 in
theorem gX0_digestOfLine_X0_figureOfWord : GoodIn wsX0_digestOfLine (wsV RX0 90 RX0 yX0_figureOfWord wsX0_figureOfWord) := goodIn_app (goodIn_of _ (by decide +kernel)) ggX0_digestOfLine_X0_figureOfWord
theorem dX0_digestOfLine_0 : decode cX0_digestOfLine 0 = .ok (.lload_n 1, 1) := by decide +kernel
theorem dX0_digestOfLine_1 : decode cX0_digestOfLine 1 = .ok (.lstore 4, 2) := by decide +kernel
theorem dX0_digestOfLine_3 : decode cX0_digestOfLine 3 = .ok (.iconst 0, 1) := by decide +kernel
theorem dX0_digestOfLine_4 : decode cX0_digestOfLine 4 = .ok (.istore 6, 2) := by decide +kernel
theorem dX0_digestOfLine_6 : decode cX0_digestOfLine 6 = .ok (.iload 6, 2) := by decide +kernel
theorem dX0_digestOfLine_8 : decode cX0_digestOfLine 8 = .ok (.iconst 5, 1) := by decide +kernel
theorem dX0_digestOfLine_9 : decode cX0_digestOfLine 9 = .ok (.if_icmp .ge 26, 3) := by decide +kernel
theorem dX0_digestOfLine_12 : decode cX0_digestOfLine 12 = .ok (.lload 4, 2) := by decide +kernel
theorem dX0_digestOfLine_14 : decode cX0_digestOfLine 14 = .ok (.ldc2_w 124, 3) := by decide +kernel
theorem dX0_digestOfLine_17 : decode cX0_digestOfLine 17 = .ok (.lmul, 1) := by decide +kernel
theorem dX0_digestOfLine_18 : decode cX0_digestOfLine 18 = .ok (.aload_n 0, 1) := by decide +kernel
theorem dX0_digestOfLine_19 : decode cX0_digestOfLine 19 = .ok (.iload_n 3, 1) := by decide +kernel
theorem dX0_digestOfLine_20 : decode cX0_digestOfLine 20 = .ok (.iload 6, 2) := by decide +kernel
theorem dX0_digestOfLine_22 : decode cX0_digestOfLine 22 = .ok (.invokevirtual 94, 3) := by decide +kernel
theorem dX0_digestOfLine_25 : decode cX0_digestOfLine 25 = .ok (.i2l, 1) := by decide +kernel
theorem dX0_digestOfLine_26 : decode cX0_digestOfLine 26 = .ok (.ladd, 1) := by decide +kernel
theorem dX0_digestOfLine_27 : decode cX0_digestOfLine 27 = .ok (.lstore 4, 2) := by decide +kernel
theorem dX0_digestOfLine_29 : decode cX0_digestOfLine 29 = .ok (.iinc 6 1, 3) := by decide +kernel
theorem dX0_digestOfLine_32 : decode cX0_digestOfLine 32 = .ok (.goto (-26), 3) := by decide +kernel
theorem dX0_digestOfLine_35 : decode cX0_digestOfLine 35 = .ok (.iconst 0, 1) := by decide +kernel
theorem dX0_digestOfLine_36 : decode cX0_digestOfLine 36 = .ok (.istore 6, 2) := by decide +kernel
theorem dX0_digestOfLine_38 : decode cX0_digestOfLine 38 = .ok (.iload 6, 2) := by decide +kernel
theorem dX0_digestOfLine_40 : decode cX0_digestOfLine 40 = .ok (.aload_n 0, 1) := by decide +kernel
theorem dX0_digestOfLine_41 : decode cX0_digestOfLine 41 = .ok (.getfield 16, 3) := by decide +kernel
theorem dX0_digestOfLine_44 : decode cX0_digestOfLine 44 = .ok (.iload_n 3, 1) := by decide +kernel
theorem dX0_digestOfLine_45 : decode cX0_digestOfLine 45 = .ok (.iaload, 1) := by decide +kernel
theorem dX0_digestOfLine_46 : decode cX0_digestOfLine 46 = .ok (.if_icmp .ge 43, 3) := by decide +kernel
theorem dX0_digestOfLine_49 : decode cX0_digestOfLine 49 = .ok (.iconst 0, 1) := by decide +kernel
theorem dX0_digestOfLine_50 : decode cX0_digestOfLine 50 = .ok (.istore 7, 2) := by decide +kernel
theorem dX0_digestOfLine_52 : decode cX0_digestOfLine 52 = .ok (.iload 7, 2) := by decide +kernel
theorem dX0_digestOfLine_54 : decode cX0_digestOfLine 54 = .ok (.iconst 5, 1) := by decide +kernel
theorem dX0_digestOfLine_55 : decode cX0_digestOfLine 55 = .ok (.if_icmp .ge 28, 3) := by decide +kernel
theorem dX0_digestOfLine_58 : decode cX0_digestOfLine 58 = .ok (.lload 4, 2) := by decide +kernel
theorem dX0_digestOfLine_60 : decode cX0_digestOfLine 60 = .ok (.ldc2_w 124, 3) := by decide +kernel
theorem dX0_digestOfLine_63 : decode cX0_digestOfLine 63 = .ok (.lmul, 1) := by decide +kernel
theorem dX0_digestOfLine_64 : decode cX0_digestOfLine 64 = .ok (.aload_n 0, 1) := by decide +kernel
theorem dX0_digestOfLine_65 : decode cX0_digestOfLine 65 = .ok (.iload_n 3, 1) := by decide +kernel
theorem dX0_digestOfLine_66 : decode cX0_digestOfLine 66 = .ok (.iload 6, 2) := by decide +kernel
theorem dX0_digestOfLine_68 : decode cX0_digestOfLine 68 = .ok (.iload 7, 2) := by decide +kernel
theorem dX0_digestOfLine_70 : decode cX0_digestOfLine 70 = .ok (.invokevirtual 90, 3) := by decide +kernel
theorem dX0_digestOfLine_73 : decode cX0_digestOfLine 73 = .ok (.i2l, 1) := by decide +kernel
theorem dX0_digestOfLine_74 : decode cX0_digestOfLine 74 = .ok (.ladd, 1) := by decide +kernel
theorem dX0_digestOfLine_75 : decode cX0_digestOfLine 75 = .ok (.lstore 4, 2) := by decide +kernel
theorem dX0_digestOfLine_77 : decode cX0_digestOfLine 77 = .ok (.iinc 7 1, 3) := by decide +kernel
theorem dX0_digestOfLine_80 : decode cX0_digestOfLine 80 = .ok (.goto (-28), 3) := by decide +kernel
theorem dX0_digestOfLine_83 : decode cX0_digestOfLine 83 = .ok (.iinc 6 1, 3) := by decide +kernel
theorem dX0_digestOfLine_86 : decode cX0_digestOfLine 86 = .ok (.goto (-48), 3) := by decide +kernel
theorem dX0_digestOfLine_89 : decode cX0_digestOfLine 89 = .ok (.lload 4, 2) := by decide +kernel
theorem dX0_digestOfLine_91 : decode cX0_digestOfLine 91 = .ok (.lreturn, 1) := by decide +kernel
set_option maxRecDepth 20000 in
theorem ggX0_lastOfRun_X0_worthOfPlaces : GoodIn wsX0_lastOfRun wsX0_worthOfPlaces := goodIn_r _ [7, 8, 9, 6, 10, 11, 12, 13, 14, 15, 16, 17, 18, 19, 20, 21, 22, 23, 24, 25, 26] (by decide +kernel) (by decide +kernel)
set_option maxRecDepth 20000 in
theorem gX0_lastOfRun_X0_worthOfPlaces : GoodIn wsX0_lastOfRun (wsV RX0 55 RX0 yX0_worthOfPlaces wsX0_worthOfPlaces) := goodIn_app (goodIn_of _ (by decide +kernel)) ggX0_lastOfRun_X0_worthOfPlaces
theorem dX0_lastOfRun_0 : decode cX0_lastOfRun 0 = .ok (.iconst 0, 1) := by decide +kernel
theorem dX0_lastOfRun_1 : decode cX0_lastOfRun 1 = .ok (.istore 4, 2) := by decide +kernel
theorem dX0_lastOfRun_3 : decode cX0_lastOfRun 3 = .ok (.iload_n 2, 1) := by decide +kernel
theorem dX0_lastOfRun_4 : decode cX0_lastOfRun 4 = .ok (.istore 5, 2) := by decide +kernel
theorem dX0_lastOfRun_6 : decode cX0_lastOfRun 6 = .ok (.iload 5, 2) := by decide +kernel
theorem dX0_lastOfRun_8 : decode cX0_lastOfRun 8 = .ok (.aload_n 0, 1) := by decide +kernel
theorem dX0_lastOfRun_9 : decode cX0_lastOfRun 9 = .ok (.getfield 16, 3) := by decide +kernel
theorem dX0_lastOfRun_12 : decode cX0_lastOfRun 12 = .ok (.iload_n 1, 1) := by decide +kernel
theorem dX0_lastOfRun_13 : decode cX0_lastOfRun 13 = .ok (.iaload, 1) := by decide +kernel
theorem dX0_lastOfRun_14 : decode cX0_lastOfRun 14 = .ok (.if_icmp .ge 38, 3) := by decide +kernel
theorem dX0_lastOfRun_17 : decode cX0_lastOfRun 17 = .ok (.iload 4, 2) := by decide +kernel
theorem dX0_lastOfRun_19 : decode cX0_lastOfRun 19 = .ok (.aload_n 0, 1) := by decide +kernel
theorem dX0_lastOfRun_20 : decode cX0_lastOfRun 20 = .ok (.aload_n 0, 1) := by decide +kernel
theorem dX0_lastOfRun_21 : decode cX0_lastOfRun 21 = .ok (.getfield 22, 3) := by decide +kernel
theorem dX0_lastOfRun_24 : decode cX0_lastOfRun 24 = .ok (.iload_n 1, 1) := by decide +kernel
theorem dX0_lastOfRun_25 : decode cX0_lastOfRun 25 = .ok (.aaload, 1) := by decide +kernel
theorem dX0_lastOfRun_26 : decode cX0_lastOfRun 26 = .ok (.iload 5, 2) := by decide +kernel
theorem dX0_lastOfRun_28 : decode cX0_lastOfRun 28 = .ok (.iaload, 1) := by decide +kernel
theorem dX0_lastOfRun_29 : decode cX0_lastOfRun 29 = .ok (.bipush 63, 2) := by decide +kernel
theorem dX0_lastOfRun_31 : decode cX0_lastOfRun 31 = .ok (.invokevirtual 55, 3) := by decide +kernel
theorem dX0_lastOfRun_34 : decode cX0_lastOfRun 34 = .ok (.iadd, 1) := by decide +kernel
theorem dX0_lastOfRun_35 : decode cX0_lastOfRun 35 = .ok (.istore 4, 2) := by decide +kernel
theorem dX0_lastOfRun_37 : decode cX0_lastOfRun 37 = .ok (.iload 4, 2) := by decide +kernel
theorem dX0_lastOfRun_39 : decode cX0_lastOfRun 39 = .ok (.iload_n 3, 1) := by decide +kernel
theorem dX0_lastOfRun_40 : decode cX0_lastOfRun 40 = .ok (.if_icmp .ne 6, 3) := by decide +kernel
theorem dX0_lastOfRun_43 : decode cX0_lastOfRun 43 = .ok (.iload 5, 2) := by decide +kernel
theorem dX0_lastOfRun_45 : decode cX0_lastOfRun 45 = .ok (.ireturn, 1) := by decide +kernel
theorem dX0_lastOfRun_46 : decode cX0_lastOfRun 46 = .ok (.iinc 5 1, 3) := by decide +kernel
theorem dX0_lastOfRun_49 : decode cX0_lastOfRun 49 = .ok (.goto (-43), 3) := by decide +kernel
theorem dX0_lastOfRun_52 : decode cX0_lastOfRun 52 = .ok (.iconst (-1), 1) := by decide +kernel
theorem dX0_lastOfRun_53 : decode cX0_lastOfRun 53 = .ok (.ireturn, 1) := by decide +kernel
set_option maxRecDepth 20000 in
theorem ggX0_fillFewest_X0_fewestBySmaller : GoodIn wsX0_fillFewest wsX0_fewestBySmaller := goodIn_r _ [8, 3, 2, 9, 10, 11, 7, 12, 13, 14, 15, 16, 17, 18, 19, 20] (by decide +kernel) (by decide +kernel)
set_option maxRecDepth 20000 in
theorem gX0_fillFewest_X0_fewestBySmaller : GoodIn wsX0_fillFewest (wsV RX0 159 RX0 yX0_fewestBySmaller wsX0_fewestBySmaller) := goodIn_app (goodIn_of _ (by decide +kernel)) ggX0_fillFewest_X0_fewestBySmaller
theorem dX0_fillFewest_0 : decode cX0_fillFewest 0 = .ok (.aload_n 0, 1) := by decide +kernel
theorem dX0_fillFewest_1 : decode cX0_fillFewest 1 = .ok (.getfield 34, 3) := by decide +kernel
theorem dX0_fillFewest_4 : decode cX0_fillFewest 4 = .ok (.aload_n 0, 1) := by decide +kernel
theorem dX0_fillFewest_5 : decode cX0_fillFewest 5 = .ok (.getfield 9, 3) := by decide +kernel
theorem dX0_fillFewest_8 : decode cX0_fillFewest 8 = .ok (.baload, 1) := by decide +kernel
theorem dX0_fillFewest_9 : decode cX0_fillFewest 9 = .ok (.ifCond .eq 4, 3) := by decide +kernel
theorem dX0_fillFewest_12 : decode cX0_fillFewest 12 = .ok (.return_, 1) := by decide +kernel
theorem dX0_fillFewest_13 : decode cX0_fillFewest 13 = .ok (.aload_n 0, 1) := by decide +kernel
theorem dX0_fillFewest_14 : decode cX0_fillFewest 14 = .ok (.getfield 31, 3) := by decide +kernel
theorem dX0_fillFewest_17 : decode cX0_fillFewest 17 = .ok (.aload_n 0, 1) := by decide +kernel
theorem dX0_fillFewest_18 : decode cX0_fillFewest 18 = .ok (.getfield 9, 3) := by decide +kernel
theorem dX0_fillFewest_21 : decode cX0_fillFewest 21 = .ok (.aaload, 1) := by decide +kernel
theorem dX0_fillFewest_22 : decode cX0_fillFewest 22 = .ok (.iconst 0, 1) := by decide +kernel
theorem dX0_fillFewest_23 : decode cX0_fillFewest 23 = .ok (.iconst 0, 1) := by decide +kernel
theorem dX0_fillFewest_24 : decode cX0_fillFewest 24 = .ok (.iastore, 1) := by decide +kernel
theorem dX0_fillFewest_25 : decode cX0_fillFewest 25 = .ok (.iconst 1, 1) := by decide +kernel
theorem dX0_fillFewest_26 : decode cX0_fillFewest 26 = .ok (.istore_n 1, 1) := by decide +kernel
theorem dX0_fillFewest_27 : decode cX0_fillFewest 27 = .ok (.iload_n 1, 1) := by decide +kernel
theorem dX0_fillFewest_28 : decode cX0_fillFewest 28 = .ok (.sipush 3000, 3) := by decide +kernel
theorem dX0_fillFewest_31 : decode cX0_fillFewest 31 = .ok (.if_icmp .gt 25, 3) := by decide +kernel
theorem dX0_fillFewest_34 : decode cX0_fillFewest 34 = .ok (.aload_n 0, 1) := by decide +kernel
theorem dX0_fillFewest_35 : decode cX0_fillFewest 35 = .ok (.getfield 31, 3) := by decide +kernel
theorem dX0_fillFewest_38 : decode cX0_fillFewest 38 = .ok (.aload_n 0, 1) := by decide +kernel
theorem dX0_fillFewest_39 : decode cX0_fillFewest 39 = .ok (.getfield 9, 3) := by decide +kernel
theorem dX0_fillFewest_42 : decode cX0_fillFewest 42 = .ok (.aaload, 1) := by decide +kernel
theorem dX0_fillFewest_43 : decode cX0_fillFewest 43 = .ok (.iload_n 1, 1) := by decide +kernel
theorem dX0_fillFewest_44 : decode cX0_fillFewest 44 = .ok (.aload_n 0, 1) := by decide +kernel
theorem dX0_fillFewest_45 : decode cX0_fillFewest 45 = .ok (.iload_n 1, 1) := by decide +kernel
theorem dX0_fillFewest_46 : decode cX0_fillFewest 46 = .ok (.invokevirtual 159, 3) := by decide +kernel
theorem dX0_fillFewest_49 : decode cX0_fillFewest 49 = .ok (.iastore, 1) := by decide +kernel
theorem dX0_fillFewest_50 : decode cX0_fillFewest 50 = .ok (.iinc 1 1, 3) := by decide +kernel
theorem dX0_fillFewest_53 : decode cX0_fillFewest 53 = .ok (.goto (-26), 3) := by decide +kernel
theorem dX0_fillFewest_56 : decode cX0_fillFewest 56 = .ok (.aload_n 0, 1) := by decide +kernel
theorem dX0_fillFewest_57 : decode cX0_fillFewest 57 = .ok (.getfield 34, 3) := by decide +kernel
theorem dX0_fillFewest_60 : decode cX0_fillFewest 60 = .ok (.aload_n 0, 1) := by decide +kernel
theorem dX0_fillFewest_61 : decode cX0_fillFewest 61 = .ok (.getfield 9, 3) := by decide +kernel
theorem dX0_fillFewest_64 : decode cX0_fillFewest 64 = .ok (.iconst 1, 1) := by decide +kernel
theorem dX0_fillFewest_65 : decode cX0_fillFewest 65 = .ok (.bastore, 1) := by decide +kernel
theorem dX0_fillFewest_66 : decode cX0_fillFewest 66 = .ok (.return_, 1) := by decide +kernel
set_option maxRecDepth 20000 in
theorem ggX0_fewestBySmaller_X0_worthOfLetter : GoodIn wsX0_fewestBySmaller wsX0_worthOfLetter := goodIn_r _ [7, 2, 8, 9, 10, 11, 12, 13, 14, 15] (by decide +kernel) (by decide +kernel)
set_option maxRecDepth 20000 in
theorem gX0_fewestBySmaller_X0_worthOfLetter : GoodIn wsX0_fewestBySmaller (wsV RX0 47 RX0 yX0_worthOfLetter wsX0_worthOfLetter) := goodIn_app (goodIn_of _ (by decide +kernel)) ggX0_fewestBySmaller_X0_worthOfLetter
theorem dX0_fewestBySmaller_0 : decode cX0_fewestBySmaller 0 = .ok (.iconst (-1), 1) := by decide +kernel
theorem dX0_fewestBySmaller_1 : decode cX0_fewestBySmaller 1 = .ok (.istore_n 2, 1) := by decide +kernel
theorem dX0_fewestBySmaller_2 : decode cX0_fewestBySmaller 2 = .ok (.iconst 1, 1) := by decide +kernel
theorem dX0_fewestBySmaller_3 : decode cX0_fewestBySmaller 3 = .ok (.istore_n 3, 1) := by decide +kernel
theorem dX0_fewestBySmaller_4 : decode cX0_fewestBySmaller 4 = .ok (.iload_n 3, 1) := by decide +kernel
theorem dX0_fewestBySmaller_5 : decode cX0_fewestBySmaller 5 = .ok (.bipush 26, 2) := by decide +kernel
theorem dX0_fewestBySmaller_7 : decode cX0_fewestBySmaller 7 = .ok (.if_icmp .gt 75, 3) := by decide +kernel
theorem dX0_fewestBySmaller_10 : decode cX0_fewestBySmaller 10 = .ok (.iload_n 1, 1) := by decide +kernel
theorem dX0_fewestBySmaller_11 : decode cX0_fewestBySmaller 11 = .ok (.aload_n 0, 1) := by decide +kernel
theorem dX0_fewestBySmaller_12 : decode cX0_fewestBySmaller 12 = .ok (.iload_n 3, 1) := by decide +kernel
theorem dX0_fewestBySmaller_13 : decode cX0_fewestBySmaller 13 = .ok (.invokevirtual 47, 3) := by decide +kernel
theorem dX0_fewestBySmaller_16 : decode cX0_fewestBySmaller 16 = .ok (.isub, 1) := by decide +kernel
theorem dX0_fewestBySmaller_17 : decode cX0_fewestBySmaller 17 = .ok (.istore 4, 2) := by decide +kernel
theorem dX0_fewestBySmaller_19 : decode cX0_fewestBySmaller 19 = .ok (.iload 4, 2) := by decide +kernel
theorem dX0_fewestBySmaller_21 : decode cX0_fewestBySmaller 21 = .ok (.ifCond .lt 55, 3) := by decide +kernel
theorem dX0_fewestBySmaller_24 : decode cX0_fewestBySmaller 24 = .ok (.aload_n 0, 1) := by decide +kernel
theorem dX0_fewestBySmaller_25 : decode cX0_fewestBySmaller 25 = .ok (.getfield 31, 3) := by decide +kernel
theorem dX0_fewestBySmaller_28 : decode cX0_fewestBySmaller 28 = .ok (.aload_n 0, 1) := by decide +kernel
theorem dX0_fewestBySmaller_29 : decode cX0_fewestBySmaller 29 = .ok (.getfield 9, 3) := by decide +kernel
theorem dX0_fewestBySmaller_32 : decode cX0_fewestBySmaller 32 = .ok (.aaload, 1) := by decide +kernel
theorem dX0_fewestBySmaller_33 : decode cX0_fewestBySmaller 33 = .ok (.iload 4, 2) := by decide +kernel
theorem dX0_fewestBySmaller_35 : decode cX0_fewestBySmaller 35 = .ok (.iaload, 1) := by decide +kernel
theorem dX0_fewestBySmaller_36 : decode cX0_fewestBySmaller 36 = .ok (.ifCond .lt 40, 3) := by decide +kernel
theorem dX0_fewestBySmaller_39 : decode cX0_fewestBySmaller 39 = .ok (.iload_n 2, 1) := by decide +kernel
theorem dX0_fewestBySmaller_40 : decode cX0_fewestBySmaller 40 = .ok (.ifCond .lt 21, 3) := by decide +kernel
theorem dX0_fewestBySmaller_43 : decode cX0_fewestBySmaller 43 = .ok (.aload_n 0, 1) := by decide +kernel
theorem dX0_fewestBySmaller_44 : decode cX0_fewestBySmaller 44 = .ok (.getfield 31, 3) := by decide +kernel
theorem dX0_fewestBySmaller_47 : decode cX0_fewestBySmaller 47 = .ok (.aload_n 0, 1) := by decide +kernel
theorem dX0_fewestBySmaller_48 : decode cX0_fewestBySmaller 48 = .ok (.getfield 9, 3) := by decide +kernel
theorem dX0_fewestBySmaller_51 : decode cX0_fewestBySmaller 51 = .ok (.aaload, 1) := by decide +kernel
theorem dX0_fewestBySmaller_52 : decode cX0_fewestBySmaller 52 = .ok (.iload 4, 2) := by decide +kernel
theorem dX0_fewestBySmaller_54 : decode cX0_fewestBySmaller 54 = .ok (.iaload, 1) := by decide +kernel
theorem dX0_fewestBySmaller_55 : decode cX0_fewestBySmaller 55 = .ok (.iconst 1, 1) := by decide +kernel
theorem dX0_fewestBySmaller_56 : decode cX0_fewestBySmaller 56 = .ok (.iadd, 1) := by decide +kernel
theorem dX0_fewestBySmaller_57 : decode cX0_fewestBySmaller 57 = .ok (.iload_n 2, 1) := by decide +kernel
theorem dX0_fewestBySmaller_58 : decode cX0_fewestBySmaller 58 = .ok (.if_icmp .ge 18, 3) := by decide +kernel
theorem dX0_fewestBySmaller_61 : decode cX0_fewestBySmaller 61 = .ok (.aload_n 0, 1) := by decide +kernel
theorem dX0_fewestBySmaller_62 : decode cX0_fewestBySmaller 62 = .ok (.getfield 31, 3) := by decide +kernel
theorem dX0_fewestBySmaller_65 : decode cX0_fewestBySmaller 65 = .ok (.aload_n 0, 1) := by decide +kernel
theorem dX0_fewestBySmaller_66 : decode cX0_fewestBySmaller 66 = .ok (.getfield 9, 3) := by decide +kernel
theorem dX0_fewestBySmaller_69 : decode cX0_fewestBySmaller 69 = .ok (.aaload, 1) := by decide +kernel
theorem dX0_fewestBySmaller_70 : decode cX0_fewestBySmaller 70 = .ok (.iload 4, 2) := by decide +kernel
theorem dX0_fewestBySmaller_72 : decode cX0_fewestBySmaller 72 = .ok (.iaload, 1) := by decide +kernel
theorem dX0_fewestBySmaller_73 : decode cX0_fewestBySmaller 73 = .ok (.iconst 1, 1) := by decide +kernel
theorem dX0_fewestBySmaller_74 : decode cX0_fewestBySmaller 74 = .ok (.iadd, 1) := by decide +kernel
theorem dX0_fewestBySmaller_75 : decode cX0_fewestBySmaller 75 = .ok (.istore_n 2, 1) := by decide +kernel
theorem dX0_fewestBySmaller_76 : decode cX0_fewestBySmaller 76 = .ok (.iinc 3 1, 3) := by decide +kernel
theorem dX0_fewestBySmaller_79 : decode cX0_fewestBySmaller 79 = .ok (.goto (-75), 3) := by decide +kernel
theorem dX0_fewestBySmaller_82 : decode cX0_fewestBySmaller 82 = .ok (.iload_n 2, 1) := by decide +kernel
theorem dX0_fewestBySmaller_83 : decode cX0_fewestBySmaller 83 = .ok (.ireturn, 1) := by decide +kernel
set_option maxRecDepth 20000 in
theorem ggX0_greatestFirst_X0_worthOfLetter : GoodIn wsX0_greatestFirst wsX0_worthOfLetter := goodIn_r _ [7, 2, 8, 9, 10, 11, 12, 13, 14, 15] (by decide +kernel) (by decide +kernel)
set_option maxRecDepth 20000 in
theorem gX0_greatestFirst_X0_worthOfLetter : GoodIn wsX0_greatestFirst (wsV RX0 47 RX0 yX0_worthOfLetter wsX0_worthOfLetter) := goodIn_app (goodIn_of _ (by decide +kernel)) ggX0_greatestFirst_X0_worthOfLetter
theorem dX0_greatestFirst_0 : decode cX0_greatestFirst 0 = .ok (.bipush 26, 2) := by decide +kernel
theorem dX0_greatestFirst_2 : decode cX0_greatestFirst 2 = .ok (.istore_n 2, 1) := by decide +kernel
theorem dX0_greatestFirst_3 : decode cX0_greatestFirst 3 = .ok (.iload_n 2, 1) := by decide +kernel
theorem dX0_greatestFirst_4 : decode cX0_greatestFirst 4 = .ok (.iconst 1, 1) := by decide +kernel
theorem dX0_greatestFirst_5 : decode cX0_greatestFirst 5 = .ok (.if_icmp .lt 50, 3) := by decide +kernel
theorem dX0_greatestFirst_8 : decode cX0_greatestFirst 8 = .ok (.iload_n 1, 1) := by decide +kernel
theorem dX0_greatestFirst_9 : decode cX0_greatestFirst 9 = .ok (.aload_n 0, 1) := by decide +kernel
theorem dX0_greatestFirst_10 : decode cX0_greatestFirst 10 = .ok (.iload_n 2, 1) := by decide +kernel
theorem dX0_greatestFirst_11 : decode cX0_greatestFirst 11 = .ok (.invokevirtual 47, 3) := by decide +kernel
theorem dX0_greatestFirst_14 : decode cX0_greatestFirst 14 = .ok (.isub, 1) := by decide +kernel
theorem dX0_greatestFirst_15 : decode cX0_greatestFirst 15 = .ok (.istore_n 3, 1) := by decide +kernel
theorem dX0_greatestFirst_16 : decode cX0_greatestFirst 16 = .ok (.iload_n 3, 1) := by decide +kernel
theorem dX0_greatestFirst_17 : decode cX0_greatestFirst 17 = .ok (.ifCond .lt 32, 3) := by decide +kernel
theorem dX0_greatestFirst_20 : decode cX0_greatestFirst 20 = .ok (.aload_n 0, 1) := by decide +kernel
theorem dX0_greatestFirst_21 : decode cX0_greatestFirst 21 = .ok (.getfield 31, 3) := by decide +kernel
theorem dX0_greatestFirst_24 : decode cX0_greatestFirst 24 = .ok (.aload_n 0, 1) := by decide +kernel
theorem dX0_greatestFirst_25 : decode cX0_greatestFirst 25 = .ok (.getfield 9, 3) := by decide +kernel
theorem dX0_greatestFirst_28 : decode cX0_greatestFirst 28 = .ok (.aaload, 1) := by decide +kernel
theorem dX0_greatestFirst_29 : decode cX0_greatestFirst 29 = .ok (.iload_n 3, 1) := by decide +kernel
theorem dX0_greatestFirst_30 : decode cX0_greatestFirst 30 = .ok (.iaload, 1) := by decide +kernel
theorem dX0_greatestFirst_31 : decode cX0_greatestFirst 31 = .ok (.aload_n 0, 1) := by decide +kernel
theorem dX0_greatestFirst_32 : decode cX0_greatestFirst 32 = .ok (.getfield 31, 3) := by decide +kernel
theorem dX0_greatestFirst_35 : decode cX0_greatestFirst 35 = .ok (.aload_n 0, 1) := by decide +kernel
theorem dX0_greatestFirst_36 : decode cX0_greatestFirst 36 = .ok (.getfield 9, 3) := by decide +kernel
theorem dX0_greatestFirst_39 : decode cX0_greatestFirst 39 = .ok (.aaload, 1) := by decide +kernel
theorem dX0_greatestFirst_40 : decode cX0_greatestFirst 40 = .ok (.iload_n 1, 1) := by decide +kernel
theorem dX0_greatestFirst_41 : decode cX0_greatestFirst 41 = .ok (.iaload, 1) := by decide +kernel
theorem dX0_greatestFirst_42 : decode cX0_greatestFirst 42 = .ok (.iconst 1, 1) := by decide +kernel
theorem dX0_greatestFirst_43 : decode cX0_greatestFirst 43 = .ok (.isub, 1) := by decide +kernel
theorem dX0_greatestFirst_44 : decode cX0_greatestFirst 44 = .ok (.if_icmp .ne 5, 3) := by decide +kernel
theorem dX0_greatestFirst_47 : decode cX0_greatestFirst 47 = .ok (.iload_n 2, 1) := by decide +kernel
theorem dX0_greatestFirst_48 : decode cX0_greatestFirst 48 = .ok (.ireturn, 1) := by decide +kernel
theorem dX0_greatestFirst_49 : decode cX0_greatestFirst 49 = .ok (.iinc 2 (-1), 3) := by decide +kernel
theorem dX0_greatestFirst_52 : decode cX0_greatestFirst 52 = .ok (.goto (-49), 3) := by decide +kernel
theorem dX0_greatestFirst_55 : decode cX0_greatestFirst 55 = .ok (.iconst 0, 1) := by decide +kernel
theorem dX0_greatestFirst_56 : decode cX0_greatestFirst 56 = .ok (.ireturn, 1) := by decide +kernel
end
section
theorem dX1_init_0 : decode cX1_init 0 = .ok (.aload_n 0, 1) := by decide +kernel
theorem dX1_init_1 : decode cX1_init 1 = .ok (.invokespecial 1, 3) := by decide +kernel
theorem dX1_init_4 : decode cX1_init 4 = .ok (.aload_n 0, 1) := by decide +kernel
theorem dX1_init_5 : decode cX1_init 5 = .ok (.bipush 12, 2) := by decide +kernel
theorem dX1_init_7 : decode cX1_init 7 = .ok (.newarray .int, 2) := by decide +kernel
theorem dX1_init_9 : decode cX1_init 9 = .ok (.putfield 9, 3) := by decide +kernel
theorem dX1_init_12 : decode cX1_init 12 = .ok (.aload_n 0, 1) := by decide +kernel
theorem dX1_init_13 : decode cX1_init 13 = .ok (.bipush 120, 2) := by decide +kernel
theorem dX1_init_15 : decode cX1_init 15 = .ok (.newarray .int, 2) := by decide +kernel
theorem dX1_init_17 : decode cX1_init 17 = .ok (.putfield 13, 3) := by decide +kernel
theorem dX1_init_20 : decode cX1_init 20 = .ok (.aload_n 0, 1) := by decide +kernel
theorem dX1_init_21 : decode cX1_init 21 = .ok (.sipush 720, 3) := by decide +kernel
theorem dX1_init_24 : decode cX1_init 24 = .ok (.newarray .boolean, 2) := by decide +kernel
theorem dX1_init_26 : decode cX1_init 26 = .ok (.putfield 16, 3) := by decide +kernel
theorem dX1_init_29 : decode cX1_init 29 = .ok (.return_, 1) := by decide +kernel
theorem dX1_thrown_0 : decode cX1_thrown 0 = .ok (.aload_n 0, 1) := by decide +kernel
theorem dX1_thrown_1 : decode cX1_thrown 1 = .ok (.getfield 20, 3) := by decide +kernel
theorem dX1_thrown_4 : decode cX1_thrown 4 = .ok (.ireturn, 1) := by decide +kernel
theorem dX1_fail_0 : decode cX1_fail 0 = .ok (.aload_n 0, 1) := by decide +kernel
theorem dX1_fail_1 : decode cX1_fail 1 = .ok (.iload_n 1, 1) := by decide +kernel
theorem dX1_fail_2 : decode cX1_fail 2 = .ok (.putfield 20, 3) := by decide +kernel
theorem dX1_fail_5 : decode cX1_fail 5 = .ok (.iconst 0, 1) := by decide +kernel
theorem dX1_fail_6 : decode cX1_fail 6 = .ok (.ireturn, 1) := by decide +kernel
theorem dX1_isIn_0 : decode cX1_isIn 0 = .ok (.iload_n 0, 1) := by decide +kernel
theorem dX1_isIn_1 : decode cX1_isIn 1 = .ok (.iload_n 1, 1) := by decide +kernel
theorem dX1_isIn_2 : decode cX1_isIn 2 = .ok (.if_icmp .lt 12, 3) := by decide +kernel
theorem dX1_isIn_5 : decode cX1_isIn 5 = .ok (.iload_n 0, 1) := by decide +kernel
theorem dX1_isIn_6 : decode cX1_isIn 6 = .ok (.iload_n 2, 1) := by decide +kernel
theorem dX1_isIn_7 : decode cX1_isIn 7 = .ok (.if_icmp .gt 7, 3) := by decide +kernel
theorem dX1_isIn_10 : decode cX1_isIn 10 = .ok (.iconst 1, 1) := by decide +kernel
theorem dX1_isIn_11 : decode cX1_isIn 11 = .ok (.goto 4, 3) := by decide +kernel
theorem dX1_isIn_14 : decode cX1_isIn 14 = .ok (.iconst 0, 1) := by decide +kernel
theorem dX1_isIn_15 : decode cX1_isIn 15 = .ok (.ireturn, 1) := by decide +kernel
set_option maxRecDepth 20000 in
theorem ggX1_isLine_X1_isIn : GoodIn wsX1_isLine wsX1_isIn := goodIn_r _ [5] (by decide +kernel) (by decide +kernel)
set_option maxRecDepth 20000 in
theorem gX1_isLine_X1_isIn : GoodIn wsX1_isLine (va_wsS RX1 27 yX1_isIn wsX1_isIn) := goodIn_app (goodIn_of _ (by decide +kernel)) ggX1_isLine_X1_isIn
theorem dX1_isLine_0 : decode cX1_isLine 0 = .ok (.iload_n 1, 1) := by decide +kernel
theorem dX1_isLine_1 : decode cX1_isLine 1 = .ok (.iconst 0, 1) := by decide +kernel
theorem dX1_isLine_2 : decode cX1_isLine 2 = .ok (.aload_n 0, 1) := by decide +kernel
theorem dX1_isLine_3 : decode cX1_isLine 3 = .ok (.getfield 24, 3) := by decide +kernel
theorem dX1_isLine_6 : decode cX1_isLine 6 = .ok (.iconst 1, 1) := by decide +kernel
theorem dX1_isLine_7 : decode cX1_isLine 7 = .ok (.isub, 1) := by decide +kernel
theorem dX1_isLine_8 : decode cX1_isLine 8 = .ok (.invokestatic 27, 3) := by decide +kernel
theorem dX1_isLine_11 : decode cX1_isLine 11 = .ok (.ireturn, 1) := by decide +kernel
set_option maxRecDepth 20000 in
theorem ggX1_count_X1_isIn : GoodIn wsX1_count wsX1_isIn := goodIn_r _ [6] (by decide +kernel) (by decide +kernel)
set_option maxRecDepth 20000 in
theorem gX1_count_X1_isIn : GoodIn wsX1_count (va_wsS RX1 27 yX1_isIn wsX1_isIn) := goodIn_app (goodIn_of _ (by decide +kernel)) ggX1_count_X1_isIn
set_option maxRecDepth 20000 in
theorem ggX1_count_X1_fail : GoodIn wsX1_count wsX1_fail := goodIn_r _ [10, 1, 11, 12, 13, 14, 15, 16] (by decide +kernel) (by decide +kernel)
set_option maxRecDepth 20000 in
theorem gX1_count_X1_fail : GoodIn wsX1_count (wsV RX1 31 RX1 yX1_fail wsX1_fail) := goodIn_app (goodIn_of _ (by decide +kernel)) ggX1_count_X1_fail
theorem dX1_count_0 : decode cX1_count 0 = .ok (.aload_n 0, 1) := by decide +kernel
theorem dX1_count_1 : decode cX1_count 1 = .ok (.iconst 0, 1) := by decide +kernel
theorem dX1_count_2 : decode cX1_count 2 = .ok (.putfield 20, 3) := by decide +kernel
theorem dX1_count_5 : decode cX1_count 5 = .ok (.iload_n 1, 1) := by decide +kernel
theorem dX1_count_6 : decode cX1_count 6 = .ok (.iconst 0, 1) := by decide +kernel
theorem dX1_count_7 : decode cX1_count 7 = .ok (.iconst 2, 1) := by decide +kernel
theorem dX1_count_8 : decode cX1_count 8 = .ok (.invokestatic 27, 3) := by decide +kernel
theorem dX1_count_11 : decode cX1_count 11 = .ok (.ifCond .ne 9, 3) := by decide +kernel
theorem dX1_count_14 : decode cX1_count 14 = .ok (.aload_n 0, 1) := by decide +kernel
theorem dX1_count_15 : decode cX1_count 15 = .ok (.iconst 1, 1) := by decide +kernel
theorem dX1_count_16 : decode cX1_count 16 = .ok (.invokevirtual 31, 3) := by decide +kernel
theorem dX1_count_19 : decode cX1_count 19 = .ok (.ireturn, 1) := by decide +kernel
theorem dX1_count_20 : decode cX1_count 20 = .ok (.aload_n 0, 1) := by decide +kernel
theorem dX1_count_21 : decode cX1_count 21 = .ok (.getfield 35, 3) := by decide +kernel
theorem dX1_count_24 : decode cX1_count 24 = .ok (.istore_n 2, 1) := by decide +kernel
theorem dX1_count_25 : decode cX1_count 25 = .ok (.aload_n 0, 1) := by decide +kernel
theorem dX1_count_26 : decode cX1_count 26 = .ok (.iload_n 1, 1) := by decide +kernel
theorem dX1_count_27 : decode cX1_count 27 = .ok (.putfield 35, 3) := by decide +kernel
theorem dX1_count_30 : decode cX1_count 30 = .ok (.iload_n 2, 1) := by decide +kernel
theorem dX1_count_31 : decode cX1_count 31 = .ok (.ireturn, 1) := by decide +kernel
theorem dX1_valueOf_0 : decode cX1_valueOf 0 = .ok (.aload_n 0, 1) := by decide +kernel
theorem dX1_valueOf_1 : decode cX1_valueOf 1 = .ok (.getfield 35, 3) := by decide +kernel
theorem dX1_valueOf_4 : decode cX1_valueOf 4 = .ok (.iconst 1, 1) := by decide +kernel
theorem dX1_valueOf_5 : decode cX1_valueOf 5 = .ok (.if_icmp .ne 5, 3) := by decide +kernel
theorem dX1_valueOf_8 : decode cX1_valueOf 8 = .ok (.iload_n 1, 1) := by decide +kernel
theorem dX1_valueOf_9 : decode cX1_valueOf 9 = .ok (.ireturn, 1) := by decide +kernel
theorem dX1_valueOf_10 : decode cX1_valueOf 10 = .ok (.aload_n 0, 1) := by decide +kernel
theorem dX1_valueOf_11 : decode cX1_valueOf 11 = .ok (.getfield 35, 3) := by decide +kernel
theorem dX1_valueOf_14 : decode cX1_valueOf 14 = .ok (.iconst 2, 1) := by decide +kernel
theorem dX1_valueOf_15 : decode cX1_valueOf 15 = .ok (.if_icmp .ne 15, 3) := by decide +kernel
theorem dX1_valueOf_18 : decode cX1_valueOf 18 = .ok (.iload_n 1, 1) := by decide +kernel
theorem dX1_valueOf_19 : decode cX1_valueOf 19 = .ok (.iload_n 1, 1) := by decide +kernel
theorem dX1_valueOf_20 : decode cX1_valueOf 20 = .ok (.imul, 1) := by decide +kernel
theorem dX1_valueOf_21 : decode cX1_valueOf 21 = .ok (.bipush 7, 2) := by decide +kernel
theorem dX1_valueOf_23 : decode cX1_valueOf 23 = .ok (.imul, 1) := by decide +kernel
theorem dX1_valueOf_24 : decode cX1_valueOf 24 = .ok (.bipush 101, 2) := by decide +kernel
theorem dX1_valueOf_26 : decode cX1_valueOf 26 = .ok (.irem, 1) := by decide +kernel
theorem dX1_valueOf_27 : decode cX1_valueOf 27 = .ok (.iconst 1, 1) := by decide +kernel
theorem dX1_valueOf_28 : decode cX1_valueOf 28 = .ok (.iadd, 1) := by decide +kernel
theorem dX1_valueOf_29 : decode cX1_valueOf 29 = .ok (.ireturn, 1) := by decide +kernel
theorem dX1_valueOf_30 : decode cX1_valueOf 30 = .ok (.iload_n 1, 1) := by decide +kernel
theorem dX1_valueOf_31 : decode cX1_valueOf 31 = .ok (.bipush 10, 2) := by decide +kernel
theorem dX1_valueOf_33 : decode cX1_valueOf 33 = .ok (.if_icmp .ge 7, 3) := by decide +kernel
theorem dX1_valueOf_36 : decode cX1_valueOf 36 = .ok (.iload_n 1, 1) := by decide +kernel
theorem dX1_valueOf_37 : decode cX1_valueOf 37 = .ok (.goto 26, 3) := by decide +kernel
theorem dX1_valueOf_40 : decode cX1_valueOf 40 = .ok (.iload_n 1, 1) := by decide +kernel
theorem dX1_valueOf_41 : decode cX1_valueOf 41 = .ok (.bipush 19, 2) := by decide +kernel
theorem dX1_valueOf_43 : decode cX1_valueOf 43 = .ok (.if_icmp .ge 13, 3) := by decide +kernel
theorem dX1_valueOf_46 : decode cX1_valueOf 46 = .ok (.bipush 10, 2) := by decide +kernel
theorem dX1_valueOf_48 : decode cX1_valueOf 48 = .ok (.iload_n 1, 1) := by decide +kernel
theorem dX1_valueOf_49 : decode cX1_valueOf 49 = .ok (.bipush 9, 2) := by decide +kernel
theorem dX1_valueOf_51 : decode cX1_valueOf 51 = .ok (.isub, 1) := by decide +kernel
theorem dX1_valueOf_52 : decode cX1_valueOf 52 = .ok (.imul, 1) := by decide +kernel
theorem dX1_valueOf_53 : decode cX1_valueOf 53 = .ok (.goto 10, 3) := by decide +kernel
theorem dX1_valueOf_56 : decode cX1_valueOf 56 = .ok (.bipush 100, 2) := by decide +kernel
theorem dX1_valueOf_58 : decode cX1_valueOf 58 = .ok (.iload_n 1, 1) := by decide +kernel
theorem dX1_valueOf_59 : decode cX1_valueOf 59 = .ok (.bipush 18, 2) := by decide +kernel
theorem dX1_valueOf_61 : decode cX1_valueOf 61 = .ok (.isub, 1) := by decide +kernel
theorem dX1_valueOf_62 : decode cX1_valueOf 62 = .ok (.imul, 1) := by decide +kernel
theorem dX1_valueOf_63 : decode cX1_valueOf 63 = .ok (.ireturn, 1) := by decide +kernel
set_option maxRecDepth 20000 in
theorem ggX1_letter_X1_isIn : GoodIn wsX1_letter wsX1_isIn := goodIn_r _ [5] (by decide +kernel) (by decide +kernel)
set_option maxRecDepth 20000 in
theorem gX1_letter_X1_isIn : GoodIn wsX1_letter (va_wsS RX1 27 yX1_isIn wsX1_isIn) := goodIn_app (goodIn_of _ (by decide +kernel)) ggX1_letter_X1_isIn
set_option maxRecDepth 20000 in
theorem ggX1_letter_X1_valueOf : GoodIn wsX1_letter wsX1_valueOf := goodIn_r _ [9, 10, 15, 16, 17, 18, 19, 20] (by decide +kernel) (by decide +kernel)
set_option maxRecDepth 20000 in
theorem gX1_letter_X1_valueOf : GoodIn wsX1_letter (wsV RX1 38 RX1 yX1_valueOf wsX1_valueOf) := goodIn_app (goodIn_of _ (by decide +kernel)) ggX1_letter_X1_valueOf
set_option maxRecDepth 20000 in
theorem ggX1_letter_X1_fail : GoodIn wsX1_letter wsX1_fail := goodIn_r _ [14, 1, 15, 16, 17, 18, 19, 20] (by decide +kernel) (by decide +kernel)
set_option maxRecDepth 20000 in
theorem gX1_letter_X1_fail : GoodIn wsX1_letter (wsV RX1 31 RX1 yX1_fail wsX1_fail) := goodIn_app (goodIn_of _ (by decide +kernel)) ggX1_letter_X1_fail
theorem dX1_letter_0 : decode cX1_letter 0 = .ok (.aload_n 0, 1) := by decide +kernel
theorem dX1_letter_1 : decode cX1_letter 1 = .ok (.iconst 0, 1) := by decide +kernel
theorem dX1_letter_2 : decode cX1_letter 2 = .ok (.putfield 20, 3) := by decide +kernel
theorem dX1_letter_5 : decode cX1_letter 5 = .ok (.iload_n 1, 1) := by decide +kernel
theorem dX1_letter_6 : decode cX1_letter 6 = .ok (.iconst 1, 1) := by decide +kernel
theorem dX1_letter_7 : decode cX1_letter 7 = .ok (.bipush 26, 2) := by decide +kernel
theorem dX1_letter_9 : decode cX1_letter 9 = .ok (.invokestatic 27, 3) := by decide +kernel
theorem dX1_letter_12 : decode cX1_letter 12 = .ok (.ifCond .eq 11, 3) := by decide +kernel
theorem dX1_letter_15 : decode cX1_letter 15 = .ok (.aload_n 0, 1) := by decide +kernel
theorem dX1_letter_16 : decode cX1_letter 16 = .ok (.iload_n 1, 1) := by decide +kernel
theorem dX1_letter_17 : decode cX1_letter 17 = .ok (.invokevirtual 38, 3) := by decide +kernel
theorem dX1_letter_20 : decode cX1_letter 20 = .ok (.goto 8, 3) := by decide +kernel
theorem dX1_letter_23 : decode cX1_letter 23 = .ok (.aload_n 0, 1) := by decide +kernel
theorem dX1_letter_24 : decode cX1_letter 24 = .ok (.iconst 1, 1) := by decide +kernel
theorem dX1_letter_25 : decode cX1_letter 25 = .ok (.invokevirtual 31, 3) := by decide +kernel
theorem dX1_letter_28 : decode cX1_letter 28 = .ok (.ireturn, 1) := by decide +kernel
theorem dX1_size_0 : decode cX1_size 0 = .ok (.iconst 0, 1) := by decide +kernel
theorem dX1_size_1 : decode cX1_size 1 = .ok (.istore_n 1, 1) := by decide +kernel
theorem dX1_size_2 : decode cX1_size 2 = .ok (.iload_n 0, 1) := by decide +kernel
theorem dX1_size_3 : decode cX1_size 3 = .ok (.istore_n 2, 1) := by decide +kernel
theorem dX1_size_4 : decode cX1_size 4 = .ok (.iload_n 2, 1) := by decide +kernel
theorem dX1_size_5 : decode cX1_size 5 = .ok (.ifCond .le 14, 3) := by decide +kernel
theorem dX1_size_8 : decode cX1_size 8 = .ok (.iinc 1 1, 3) := by decide +kernel
theorem dX1_size_11 : decode cX1_size 11 = .ok (.iload_n 2, 1) := by decide +kernel
theorem dX1_size_12 : decode cX1_size 12 = .ok (.bipush 27, 2) := by decide +kernel
theorem dX1_size_14 : decode cX1_size 14 = .ok (.idiv, 1) := by decide +kernel
theorem dX1_size_15 : decode cX1_size 15 = .ok (.istore_n 2, 1) := by decide +kernel
theorem dX1_size_16 : decode cX1_size 16 = .ok (.goto (-12), 3) := by decide +kernel
theorem dX1_size_19 : decode cX1_size 19 = .ok (.iload_n 1, 1) := by decide +kernel
theorem dX1_size_20 : decode cX1_size 20 = .ok (.ireturn, 1) := by decide +kernel
set_option maxRecDepth 20000 in
theorem ggX1_isWord_X1_size : GoodIn wsX1_isWord wsX1_size := goodIn_r _ [4] (by decide +kernel) (by decide +kernel)
set_option maxRecDepth 20000 in
theorem gX1_isWord_X1_size : GoodIn wsX1_isWord (va_wsS RX1 41 yX1_size wsX1_size) := goodIn_app (goodIn_of _ (by decide +kernel)) ggX1_isWord_X1_size
theorem dX1_isWord_0 : decode cX1_isWord 0 = .ok (.iload_n 0, 1) := by decide +kernel
theorem dX1_isWord_1 : decode cX1_isWord 1 = .ok (.istore_n 1, 1) := by decide +kernel
theorem dX1_isWord_2 : decode cX1_isWord 2 = .ok (.iload_n 1, 1) := by decide +kernel
theorem dX1_isWord_3 : decode cX1_isWord 3 = .ok (.ifCond .le 20, 3) := by decide +kernel
theorem dX1_isWord_6 : decode cX1_isWord 6 = .ok (.iload_n 1, 1) := by decide +kernel
theorem dX1_isWord_7 : decode cX1_isWord 7 = .ok (.bipush 27, 2) := by decide +kernel
theorem dX1_isWord_9 : decode cX1_isWord 9 = .ok (.irem, 1) := by decide +kernel
theorem dX1_isWord_10 : decode cX1_isWord 10 = .ok (.ifCond .ne 5, 3) := by decide +kernel
theorem dX1_isWord_13 : decode cX1_isWord 13 = .ok (.iconst 0, 1) := by decide +kernel
theorem dX1_isWord_14 : decode cX1_isWord 14 = .ok (.ireturn, 1) := by decide +kernel
theorem dX1_isWord_15 : decode cX1_isWord 15 = .ok (.iload_n 1, 1) := by decide +kernel
theorem dX1_isWord_16 : decode cX1_isWord 16 = .ok (.bipush 27, 2) := by decide +kernel
theorem dX1_isWord_18 : decode cX1_isWord 18 = .ok (.idiv, 1) := by decide +kernel
theorem dX1_isWord_19 : decode cX1_isWord 19 = .ok (.istore_n 1, 1) := by decide +kernel
theorem dX1_isWord_20 : decode cX1_isWord 20 = .ok (.goto (-18), 3) := by decide +kernel
theorem dX1_isWord_23 : decode cX1_isWord 23 = .ok (.iload_n 0, 1) := by decide +kernel
theorem dX1_isWord_24 : decode cX1_isWord 24 = .ok (.ifCond .le 16, 3) := by decide +kernel
theorem dX1_isWord_27 : decode cX1_isWord 27 = .ok (.iload_n 0, 1) := by decide +kernel
theorem dX1_isWord_28 : decode cX1_isWord 28 = .ok (.invokestatic 41, 3) := by decide +kernel
theorem dX1_isWord_31 : decode cX1_isWord 31 = .ok (.bipush 6, 2) := by decide +kernel
theorem dX1_isWord_33 : decode cX1_isWord 33 = .ok (.if_icmp .gt 7, 3) := by decide +kernel
theorem dX1_isWord_36 : decode cX1_isWord 36 = .ok (.iconst 1, 1) := by decide +kernel
theorem dX1_isWord_37 : decode cX1_isWord 37 = .ok (.goto 4, 3) := by decide +kernel
theorem dX1_isWord_40 : decode cX1_isWord 40 = .ok (.iconst 0, 1) := by decide +kernel
theorem dX1_isWord_41 : decode cX1_isWord 41 = .ok (.ireturn, 1) := by decide +kernel
set_option maxRecDepth 20000 in
theorem ggX1_at_X1_size : GoodIn wsX1_at wsX1_size := goodIn_r _ [4] (by decide +kernel) (by decide +kernel)
set_option maxRecDepth 20000 in
theorem gX1_at_X1_size : GoodIn wsX1_at (va_wsS RX1 41 yX1_size wsX1_size) := goodIn_app (goodIn_of _ (by decide +kernel)) ggX1_at_X1_size
theorem dX1_at_0 : decode cX1_at 0 = .ok (.iload_n 0, 1) := by decide +kernel
theorem dX1_at_1 : decode cX1_at 1 = .ok (.istore_n 2, 1) := by decide +kernel
theorem dX1_at_2 : decode cX1_at 2 = .ok (.iload_n 0, 1) := by decide +kernel
theorem dX1_at_3 : decode cX1_at 3 = .ok (.invokestatic 41, 3) := by decide +kernel
theorem dX1_at_6 : decode cX1_at 6 = .ok (.iconst 1, 1) := by decide +kernel
theorem dX1_at_7 : decode cX1_at 7 = .ok (.isub, 1) := by decide +kernel
theorem dX1_at_8 : decode cX1_at 8 = .ok (.istore_n 3, 1) := by decide +kernel
theorem dX1_at_9 : decode cX1_at 9 = .ok (.iload_n 3, 1) := by decide +kernel
theorem dX1_at_10 : decode cX1_at 10 = .ok (.iload_n 1, 1) := by decide +kernel
theorem dX1_at_11 : decode cX1_at 11 = .ok (.if_icmp .le 14, 3) := by decide +kernel
theorem dX1_at_14 : decode cX1_at 14 = .ok (.iload_n 2, 1) := by decide +kernel
theorem dX1_at_15 : decode cX1_at 15 = .ok (.bipush 27, 2) := by decide +kernel
theorem dX1_at_17 : decode cX1_at 17 = .ok (.idiv, 1) := by decide +kernel
theorem dX1_at_18 : decode cX1_at 18 = .ok (.istore_n 2, 1) := by decide +kernel
theorem dX1_at_19 : decode cX1_at 19 = .ok (.iinc 3 (-1), 3) := by decide +kernel
theorem dX1_at_22 : decode cX1_at 22 = .ok (.goto (-13), 3) := by decide +kernel
theorem dX1_at_25 : decode cX1_at 25 = .ok (.iload_n 2, 1) := by decide +kernel
theorem dX1_at_26 : decode cX1_at 26 = .ok (.bipush 27, 2) := by decide +kernel
theorem dX1_at_28 : decode cX1_at 28 = .ok (.irem, 1) := by decide +kernel
theorem dX1_at_29 : decode cX1_at 29 = .ok (.ireturn, 1) := by decide +kernel
set_option maxRecDepth 20000 in
theorem ggX1_sum_X1_size : GoodIn wsX1_sum wsX1_size := goodIn_r _ [4] (by decide +kernel) (by decide +kernel)
set_option maxRecDepth 20000 in
theorem gX1_sum_X1_size : GoodIn wsX1_sum (va_wsS RX1 41 yX1_size wsX1_size) := goodIn_app (goodIn_of _ (by decide +kernel)) ggX1_sum_X1_size
set_option maxRecDepth 20000 in
theorem ggX1_sum_X1_at : GoodIn wsX1_sum wsX1_at := goodIn_r _ [7, 1, 2, 3, 4] (by decide +kernel) (by decide +kernel)
set_option maxRecDepth 20000 in
theorem gX1_sum_X1_at : GoodIn wsX1_sum (va_wsS RX1 44 yX1_at wsX1_at) := goodIn_app (goodIn_of _ (by decide +kernel)) ggX1_sum_X1_at
set_option maxRecDepth 20000 in
theorem ggX1_sum_X1_valueOf : GoodIn wsX1_sum wsX1_valueOf := goodIn_r _ [11, 12, 13, 14, 15, 16, 17, 18] (by decide +kernel) (by decide +kernel)
set_option maxRecDepth 20000 in
theorem gX1_sum_X1_valueOf : GoodIn wsX1_sum (wsV RX1 38 RX1 yX1_valueOf wsX1_valueOf) := goodIn_app (goodIn_of _ (by decide +kernel)) ggX1_sum_X1_valueOf
theorem dX1_sum_0 : decode cX1_sum 0 = .ok (.iconst 0, 1) := by decide +kernel
theorem dX1_sum_1 : decode cX1_sum 1 = .ok (.istore_n 2, 1) := by decide +kernel
theorem dX1_sum_2 : decode cX1_sum 2 = .ok (.iconst 0, 1) := by decide +kernel
theorem dX1_sum_3 : decode cX1_sum 3 = .ok (.istore_n 3, 1) := by decide +kernel
theorem dX1_sum_4 : decode cX1_sum 4 = .ok (.iload_n 3, 1) := by decide +kernel
theorem dX1_sum_5 : decode cX1_sum 5 = .ok (.iload_n 1, 1) := by decide +kernel
theorem dX1_sum_6 : decode cX1_sum 6 = .ok (.invokestatic 41, 3) := by decide +kernel
theorem dX1_sum_9 : decode cX1_sum 9 = .ok (.if_icmp .ge 21, 3) := by decide +kernel
theorem dX1_sum_12 : decode cX1_sum 12 = .ok (.iload_n 2, 1) := by decide +kernel
theorem dX1_sum_13 : decode cX1_sum 13 = .ok (.aload_n 0, 1) := by decide +kernel
theorem dX1_sum_14 : decode cX1_sum 14 = .ok (.iload_n 1, 1) := by decide +kernel
theorem dX1_sum_15 : decode cX1_sum 15 = .ok (.iload_n 3, 1) := by decide +kernel
theorem dX1_sum_16 : decode cX1_sum 16 = .ok (.invokestatic 44, 3) := by decide +kernel
theorem dX1_sum_19 : decode cX1_sum 19 = .ok (.invokevirtual 38, 3) := by decide +kernel
theorem dX1_sum_22 : decode cX1_sum 22 = .ok (.iadd, 1) := by decide +kernel
theorem dX1_sum_23 : decode cX1_sum 23 = .ok (.istore_n 2, 1) := by decide +kernel
theorem dX1_sum_24 : decode cX1_sum 24 = .ok (.iinc 3 1, 3) := by decide +kernel
theorem dX1_sum_27 : decode cX1_sum 27 = .ok (.goto (-23), 3) := by decide +kernel
theorem dX1_sum_30 : decode cX1_sum 30 = .ok (.iload_n 2, 1) := by decide +kernel
theorem dX1_sum_31 : decode cX1_sum 31 = .ok (.ireturn, 1) := by decide +kernel
set_option maxRecDepth 20000 in
theorem ggX1_value_X1_isWord : GoodIn wsX1_value wsX1_isWord := goodIn_r _ [5, 6, 7, 4, 8] (by decide +kernel) (by decide +kernel)
set_option maxRecDepth 20000 in
theorem gX1_value_X1_isWord : GoodIn wsX1_value (va_wsS RX1 48 yX1_isWord wsX1_isWord) := goodIn_app (goodIn_of _ (by decide +kernel)) ggX1_value_X1_isWord
set_option maxRecDepth 20000 in
theorem ggX1_value_X1_sum : GoodIn wsX1_value wsX1_sum := goodIn_r _ [12, 6, 7, 4, 8, 13, 14, 15, 16, 17, 18, 19, 20, 25, 26, 27, 28, 29, 30] (by decide +kernel) (by decide +kernel)
set_option maxRecDepth 20000 in
theorem gX1_value_X1_sum : GoodIn wsX1_value (wsV RX1 52 RX1 yX1_sum wsX1_sum) := goodIn_app (goodIn_of _ (by decide +kernel)) ggX1_value_X1_sum
set_option maxRecDepth 20000 in
theorem ggX1_value_X1_fail : GoodIn wsX1_value wsX1_fail := goodIn_r _ [24, 1, 25, 26, 27, 28, 29, 30] (by decide +kernel) (by decide +kernel)
set_option maxRecDepth 20000 in
theorem gX1_value_X1_fail : GoodIn wsX1_value (wsV RX1 31 RX1 yX1_fail wsX1_fail) := goodIn_app (goodIn_of _ (by decide +kernel)) ggX1_value_X1_fail
theorem dX1_value_0 : decode cX1_value 0 = .ok (.aload_n 0, 1) := by decide +kernel
theorem dX1_value_1 : decode cX1_value 1 = .ok (.iconst 0, 1) := by decide +kernel
theorem dX1_value_2 : decode cX1_value 2 = .ok (.putfield 20, 3) := by decide +kernel
theorem dX1_value_5 : decode cX1_value 5 = .ok (.iload_n 1, 1) := by decide +kernel
theorem dX1_value_6 : decode cX1_value 6 = .ok (.invokestatic 48, 3) := by decide +kernel
theorem dX1_value_9 : decode cX1_value 9 = .ok (.ifCond .eq 11, 3) := by decide +kernel
theorem dX1_value_12 : decode cX1_value 12 = .ok (.aload_n 0, 1) := by decide +kernel
theorem dX1_value_13 : decode cX1_value 13 = .ok (.iload_n 1, 1) := by decide +kernel
theorem dX1_value_14 : decode cX1_value 14 = .ok (.invokevirtual 52, 3) := by decide +kernel
theorem dX1_value_17 : decode cX1_value 17 = .ok (.goto 8, 3) := by decide +kernel
theorem dX1_value_20 : decode cX1_value 20 = .ok (.aload_n 0, 1) := by decide +kernel
theorem dX1_value_21 : decode cX1_value 21 = .ok (.iconst 1, 1) := by decide +kernel
theorem dX1_value_22 : decode cX1_value 22 = .ok (.invokevirtual 31, 3) := by decide +kernel
theorem dX1_value_25 : decode cX1_value 25 = .ok (.ireturn, 1) := by decide +kernel
set_option maxRecDepth 20000 in
theorem ggX1_often_X1_size : GoodIn wsX1_often wsX1_size := goodIn_r _ [4] (by decide +kernel) (by decide +kernel)
set_option maxRecDepth 20000 in
theorem gX1_often_X1_size : GoodIn wsX1_often (va_wsS RX1 41 yX1_size wsX1_size) := goodIn_app (goodIn_of _ (by decide +kernel)) ggX1_often_X1_size
set_option maxRecDepth 20000 in
theorem ggX1_often_X1_at : GoodIn wsX1_often wsX1_at := goodIn_r _ [7, 1, 2, 3, 4] (by decide +kernel) (by decide +kernel)
set_option maxRecDepth 20000 in
theorem gX1_often_X1_at : GoodIn wsX1_often (va_wsS RX1 44 yX1_at wsX1_at) := goodIn_app (goodIn_of _ (by decide +kernel)) ggX1_often_X1_at
theorem dX1_often_0 : decode cX1_often 0 = .ok (.iconst 0, 1) := by decide +kernel
theorem dX1_often_1 : decode cX1_often 1 = .ok (.istore_n 2, 1) := by decide +kernel
theorem dX1_often_2 : decode cX1_often 2 = .ok (.iconst 0, 1) := by decide +kernel
theorem dX1_often_3 : decode cX1_often 3 = .ok (.istore_n 3, 1) := by decide +kernel
theorem dX1_often_4 : decode cX1_often 4 = .ok (.iload_n 3, 1) := by decide +kernel
theorem dX1_often_5 : decode cX1_often 5 = .ok (.iload_n 0, 1) := by decide +kernel
theorem dX1_often_6 : decode cX1_often 6 = .ok (.invokestatic 41, 3) := by decide +kernel
theorem dX1_often_9 : decode cX1_often 9 = .ok (.if_icmp .ge 26, 3) := by decide +kernel
theorem dX1_often_12 : decode cX1_often 12 = .ok (.iload_n 2, 1) := by decide +kernel
theorem dX1_often_13 : decode cX1_often 13 = .ok (.iload_n 0, 1) := by decide +kernel
theorem dX1_often_14 : decode cX1_often 14 = .ok (.iload_n 3, 1) := by decide +kernel
theorem dX1_often_15 : decode cX1_often 15 = .ok (.invokestatic 44, 3) := by decide +kernel
theorem dX1_often_18 : decode cX1_often 18 = .ok (.iload_n 1, 1) := by decide +kernel
theorem dX1_often_19 : decode cX1_often 19 = .ok (.if_icmp .ne 7, 3) := by decide +kernel
theorem dX1_often_22 : decode cX1_often 22 = .ok (.iconst 1, 1) := by decide +kernel
theorem dX1_often_23 : decode cX1_often 23 = .ok (.goto 4, 3) := by decide +kernel
theorem dX1_often_26 : decode cX1_often 26 = .ok (.iconst 0, 1) := by decide +kernel
theorem dX1_often_27 : decode cX1_often 27 = .ok (.iadd, 1) := by decide +kernel
theorem dX1_often_28 : decode cX1_often 28 = .ok (.istore_n 2, 1) := by decide +kernel
theorem dX1_often_29 : decode cX1_often 29 = .ok (.iinc 3 1, 3) := by decide +kernel
theorem dX1_often_32 : decode cX1_often 32 = .ok (.goto (-28), 3) := by decide +kernel
theorem dX1_often_35 : decode cX1_often 35 = .ok (.iload_n 2, 1) := by decide +kernel
theorem dX1_often_36 : decode cX1_often 36 = .ok (.ireturn, 1) := by decide +kernel
set_option maxRecDepth 20000 in
theorem ggX1_alike_X1_isWord : GoodIn wsX1_alike wsX1_isWord := goodIn_r _ [5, 6, 7, 4, 8] (by decide +kernel) (by decide +kernel)
set_option maxRecDepth 20000 in
theorem gX1_alike_X1_isWord : GoodIn wsX1_alike (va_wsS RX1 48 yX1_isWord wsX1_isWord) := goodIn_app (goodIn_of _ (by decide +kernel)) ggX1_alike_X1_isWord
set_option maxRecDepth 20000 in
theorem ggX1_alike_X1_often : GoodIn wsX1_alike wsX1_often := goodIn_r _ [11, 6, 7, 4, 8, 12, 13, 14] (by decide +kernel) (by decide +kernel)
set_option maxRecDepth 20000 in
theorem gX1_alike_X1_often : GoodIn wsX1_alike (va_wsS RX1 55 yX1_often wsX1_often) := goodIn_app (goodIn_of _ (by decide +kernel)) ggX1_alike_X1_often
theorem dX1_alike_0 : decode cX1_alike 0 = .ok (.aload_n 0, 1) := by decide +kernel
theorem dX1_alike_1 : decode cX1_alike 1 = .ok (.iload_n 1, 1) := by decide +kernel
theorem dX1_alike_2 : decode cX1_alike 2 = .ok (.invokestatic 48, 3) := by decide +kernel
theorem dX1_alike_5 : decode cX1_alike 5 = .ok (.ifCond .eq 14, 3) := by decide +kernel
theorem dX1_alike_8 : decode cX1_alike 8 = .ok (.iload_n 2, 1) := by decide +kernel
theorem dX1_alike_9 : decode cX1_alike 9 = .ok (.invokestatic 48, 3) := by decide +kernel
theorem dX1_alike_12 : decode cX1_alike 12 = .ok (.ifCond .eq 7, 3) := by decide +kernel
theorem dX1_alike_15 : decode cX1_alike 15 = .ok (.iconst 0, 1) := by decide +kernel
theorem dX1_alike_16 : decode cX1_alike 16 = .ok (.goto 4, 3) := by decide +kernel
theorem dX1_alike_19 : decode cX1_alike 19 = .ok (.iconst 1, 1) := by decide +kernel
theorem dX1_alike_20 : decode cX1_alike 20 = .ok (.putfield 20, 3) := by decide +kernel
theorem dX1_alike_23 : decode cX1_alike 23 = .ok (.aload_n 0, 1) := by decide +kernel
theorem dX1_alike_24 : decode cX1_alike 24 = .ok (.getfield 20, 3) := by decide +kernel
theorem dX1_alike_27 : decode cX1_alike 27 = .ok (.ifCond .ne 7, 3) := by decide +kernel
theorem dX1_alike_30 : decode cX1_alike 30 = .ok (.iconst 1, 1) := by decide +kernel
theorem dX1_alike_31 : decode cX1_alike 31 = .ok (.goto 4, 3) := by decide +kernel
theorem dX1_alike_34 : decode cX1_alike 34 = .ok (.iconst 0, 1) := by decide +kernel
theorem dX1_alike_35 : decode cX1_alike 35 = .ok (.istore_n 3, 1) := by decide +kernel
theorem dX1_alike_36 : decode cX1_alike 36 = .ok (.iconst 1, 1) := by decide +kernel
theorem dX1_alike_37 : decode cX1_alike 37 = .ok (.istore 4, 2) := by decide +kernel
theorem dX1_alike_39 : decode cX1_alike 39 = .ok (.iload 4, 2) := by decide +kernel
theorem dX1_alike_41 : decode cX1_alike 41 = .ok (.bipush 26, 2) := by decide +kernel
theorem dX1_alike_43 : decode cX1_alike 43 = .ok (.if_icmp .gt 34, 3) := by decide +kernel
theorem dX1_alike_46 : decode cX1_alike 46 = .ok (.iload_n 3, 1) := by decide +kernel
theorem dX1_alike_47 : decode cX1_alike 47 = .ok (.ifCond .eq 30, 3) := by decide +kernel
theorem dX1_alike_50 : decode cX1_alike 50 = .ok (.iload_n 1, 1) := by decide +kernel
theorem dX1_alike_51 : decode cX1_alike 51 = .ok (.iload 4, 2) := by decide +kernel
theorem dX1_alike_53 : decode cX1_alike 53 = .ok (.invokestatic 55, 3) := by decide +kernel
theorem dX1_alike_56 : decode cX1_alike 56 = .ok (.iload_n 2, 1) := by decide +kernel
theorem dX1_alike_57 : decode cX1_alike 57 = .ok (.iload 4, 2) := by decide +kernel
theorem dX1_alike_59 : decode cX1_alike 59 = .ok (.invokestatic 55, 3) := by decide +kernel
theorem dX1_alike_62 : decode cX1_alike 62 = .ok (.if_icmp .ne 7, 3) := by decide +kernel
theorem dX1_alike_65 : decode cX1_alike 65 = .ok (.iconst 1, 1) := by decide +kernel
theorem dX1_alike_66 : decode cX1_alike 66 = .ok (.goto 4, 3) := by decide +kernel
theorem dX1_alike_69 : decode cX1_alike 69 = .ok (.iconst 0, 1) := by decide +kernel
theorem dX1_alike_70 : decode cX1_alike 70 = .ok (.istore_n 3, 1) := by decide +kernel
theorem dX1_alike_71 : decode cX1_alike 71 = .ok (.iinc 4 1, 3) := by decide +kernel
theorem dX1_alike_74 : decode cX1_alike 74 = .ok (.goto (-35), 3) := by decide +kernel
theorem dX1_alike_77 : decode cX1_alike 77 = .ok (.iload_n 3, 1) := by decide +kernel
theorem dX1_alike_78 : decode cX1_alike 78 = .ok (.ireturn, 1) := by decide +kernel
set_option maxRecDepth 20000 in
theorem ggX1_write_X1_fail : GoodIn wsX1_write wsX1_fail := goodIn_r _ [7, 1, 8, 9, 10, 11, 12, 13] (by decide +kernel) (by decide +kernel)
set_option maxRecDepth 20000 in
theorem gX1_write_X1_fail : GoodIn wsX1_write (wsV RX1 31 RX1 yX1_fail wsX1_fail) := goodIn_app (goodIn_of _ (by decide +kernel)) ggX1_write_X1_fail
theorem dX1_write_0 : decode cX1_write 0 = .ok (.aload_n 0, 1) := by decide +kernel
theorem dX1_write_1 : decode cX1_write 1 = .ok (.iconst 0, 1) := by decide +kernel
theorem dX1_write_2 : decode cX1_write 2 = .ok (.putfield 20, 3) := by decide +kernel
theorem dX1_write_5 : decode cX1_write 5 = .ok (.aload_n 0, 1) := by decide +kernel
theorem dX1_write_6 : decode cX1_write 6 = .ok (.getfield 24, 3) := by decide +kernel
theorem dX1_write_9 : decode cX1_write 9 = .ok (.bipush 12, 2) := by decide +kernel
theorem dX1_write_11 : decode cX1_write 11 = .ok (.if_icmp .ne 9, 3) := by decide +kernel
theorem dX1_write_14 : decode cX1_write 14 = .ok (.aload_n 0, 1) := by decide +kernel
theorem dX1_write_15 : decode cX1_write 15 = .ok (.iconst 1, 1) := by decide +kernel
theorem dX1_write_16 : decode cX1_write 16 = .ok (.invokevirtual 31, 3) := by decide +kernel
theorem dX1_write_19 : decode cX1_write 19 = .ok (.ireturn, 1) := by decide +kernel
theorem dX1_write_20 : decode cX1_write 20 = .ok (.aload_n 0, 1) := by decide +kernel
theorem dX1_write_21 : decode cX1_write 21 = .ok (.dup, 1) := by decide +kernel
theorem dX1_write_22 : decode cX1_write 22 = .ok (.getfield 24, 3) := by decide +kernel
theorem dX1_write_25 : decode cX1_write 25 = .ok (.iconst 1, 1) := by decide +kernel
theorem dX1_write_26 : decode cX1_write 26 = .ok (.iadd, 1) := by decide +kernel
theorem dX1_write_27 : decode cX1_write 27 = .ok (.putfield 24, 3) := by decide +kernel
theorem dX1_write_30 : decode cX1_write 30 = .ok (.aload_n 0, 1) := by decide +kernel
theorem dX1_write_31 : decode cX1_write 31 = .ok (.getfield 24, 3) := by decide +kernel
theorem dX1_write_34 : decode cX1_write 34 = .ok (.iconst 1, 1) := by decide +kernel
theorem dX1_write_35 : decode cX1_write 35 = .ok (.isub, 1) := by decide +kernel
theorem dX1_write_36 : decode cX1_write 36 = .ok (.ireturn, 1) := by decide +kernel
theorem dX1_wo_0 : decode cX1_wo 0 = .ok (.aload_n 0, 1) := by decide +kernel
theorem dX1_wo_1 : decode cX1_wo 1 = .ok (.getfield 13, 3) := by decide +kernel
theorem dX1_wo_4 : decode cX1_wo 4 = .ok (.bipush 10, 2) := by decide +kernel
theorem dX1_wo_6 : decode cX1_wo 6 = .ok (.iload_n 1, 1) := by decide +kernel
theorem dX1_wo_7 : decode cX1_wo 7 = .ok (.imul, 1) := by decide +kernel
theorem dX1_wo_8 : decode cX1_wo 8 = .ok (.iload_n 2, 1) := by decide +kernel
theorem dX1_wo_9 : decode cX1_wo 9 = .ok (.iadd, 1) := by decide +kernel
theorem dX1_wo_10 : decode cX1_wo 10 = .ok (.iaload, 1) := by decide +kernel
theorem dX1_wo_11 : decode cX1_wo 11 = .ok (.ireturn, 1) := by decide +kernel
theorem dX1_base_0 : decode cX1_base 0 = .ok (.bipush 6, 2) := by decide +kernel
theorem dX1_base_2 : decode cX1_base 2 = .ok (.bipush 10, 2) := by decide +kernel
theorem dX1_base_4 : decode cX1_base 4 = .ok (.iload_n 1, 1) := by decide +kernel
theorem dX1_base_5 : decode cX1_base 5 = .ok (.imul, 1) := by decide +kernel
theorem dX1_base_6 : decode cX1_base 6 = .ok (.iload_n 2, 1) := by decide +kernel
theorem dX1_base_7 : decode cX1_base 7 = .ok (.iadd, 1) := by decide +kernel
theorem dX1_base_8 : decode cX1_base 8 = .ok (.imul, 1) := by decide +kernel
theorem dX1_base_9 : decode cX1_base 9 = .ok (.ireturn, 1) := by decide +kernel
set_option maxRecDepth 20000 in
theorem ggX1_add_X1_isLine : GoodIn wsX1_add wsX1_isLine := goodIn_r _ [9, 10, 11, 12, 8, 13, 28, 29, 30, 31, 32, 33] (by decide +kernel) (by decide +kernel)
set_option maxRecDepth 20000 in
theorem gX1_add_X1_isLine : GoodIn wsX1_add (wsV RX1 58 RX1 yX1_isLine wsX1_isLine) := goodIn_app (goodIn_of _ (by decide +kernel)) ggX1_add_X1_isLine
set_option maxRecDepth 20000 in
theorem ggX1_add_X1_fail : GoodIn wsX1_add wsX1_fail := goodIn_r _ [17, 1, 28, 29, 30, 31, 32, 33] (by decide +kernel) (by decide +kernel)
set_option maxRecDepth 20000 in
theorem gX1_add_X1_fail : GoodIn wsX1_add (wsV RX1 31 RX1 yX1_fail wsX1_fail) := goodIn_app (goodIn_of _ (by decide +kernel)) ggX1_add_X1_fail
set_option maxRecDepth 20000 in
theorem ggX1_add_X1_isWord : GoodIn wsX1_add wsX1_isWord := goodIn_r _ [20, 21, 22, 8, 23] (by decide +kernel) (by decide +kernel)
set_option maxRecDepth 20000 in
theorem gX1_add_X1_isWord : GoodIn wsX1_add (va_wsS RX1 48 yX1_isWord wsX1_isWord) := goodIn_app (goodIn_of _ (by decide +kernel)) ggX1_add_X1_isWord
set_option maxRecDepth 20000 in
theorem ggX1_add_X1_base : GoodIn wsX1_add wsX1_base := goodIn_r _ [27] (by decide +kernel) (by decide +kernel)
set_option maxRecDepth 20000 in
theorem gX1_add_X1_base : GoodIn wsX1_add (wsV RX1 61 RX1 yX1_base wsX1_base) := goodIn_app (goodIn_of _ (by decide +kernel)) ggX1_add_X1_base
theorem dX1_add_0 : decode cX1_add 0 = .ok (.aload_n 0, 1) := by decide +kernel
theorem dX1_add_1 : decode cX1_add 1 = .ok (.iconst 0, 1) := by decide +kernel
theorem dX1_add_2 : decode cX1_add 2 = .ok (.putfield 20, 3) := by decide +kernel
theorem dX1_add_5 : decode cX1_add 5 = .ok (.aload_n 0, 1) := by decide +kernel
theorem dX1_add_6 : decode cX1_add 6 = .ok (.iload_n 1, 1) := by decide +kernel
theorem dX1_add_7 : decode cX1_add 7 = .ok (.invokevirtual 58, 3) := by decide +kernel
theorem dX1_add_10 : decode cX1_add 10 = .ok (.ifCond .ne 9, 3) := by decide +kernel
theorem dX1_add_13 : decode cX1_add 13 = .ok (.aload_n 0, 1) := by decide +kernel
theorem dX1_add_14 : decode cX1_add 14 = .ok (.iconst 1, 1) := by decide +kernel
theorem dX1_add_15 : decode cX1_add 15 = .ok (.invokevirtual 31, 3) := by decide +kernel
theorem dX1_add_18 : decode cX1_add 18 = .ok (.ireturn, 1) := by decide +kernel
theorem dX1_add_19 : decode cX1_add 19 = .ok (.iload_n 2, 1) := by decide +kernel
theorem dX1_add_20 : decode cX1_add 20 = .ok (.invokestatic 48, 3) := by decide +kernel
theorem dX1_add_23 : decode cX1_add 23 = .ok (.ifCond .ne 9, 3) := by decide +kernel
theorem dX1_add_26 : decode cX1_add 26 = .ok (.aload_n 0, 1) := by decide +kernel
theorem dX1_add_27 : decode cX1_add 27 = .ok (.iconst 2, 1) := by decide +kernel
theorem dX1_add_28 : decode cX1_add 28 = .ok (.invokevirtual 31, 3) := by decide +kernel
theorem dX1_add_31 : decode cX1_add 31 = .ok (.ireturn, 1) := by decide +kernel
theorem dX1_add_32 : decode cX1_add 32 = .ok (.aload_n 0, 1) := by decide +kernel
theorem dX1_add_33 : decode cX1_add 33 = .ok (.getfield 9, 3) := by decide +kernel
theorem dX1_add_36 : decode cX1_add 36 = .ok (.iload_n 1, 1) := by decide +kernel
theorem dX1_add_37 : decode cX1_add 37 = .ok (.iaload, 1) := by decide +kernel
theorem dX1_add_38 : decode cX1_add 38 = .ok (.bipush 10, 2) := by decide +kernel
theorem dX1_add_40 : decode cX1_add 40 = .ok (.if_icmp .ne 9, 3) := by decide +kernel
theorem dX1_add_43 : decode cX1_add 43 = .ok (.aload_n 0, 1) := by decide +kernel
theorem dX1_add_44 : decode cX1_add 44 = .ok (.iconst 3, 1) := by decide +kernel
theorem dX1_add_45 : decode cX1_add 45 = .ok (.invokevirtual 31, 3) := by decide +kernel
theorem dX1_add_48 : decode cX1_add 48 = .ok (.ireturn, 1) := by decide +kernel
theorem dX1_add_49 : decode cX1_add 49 = .ok (.aload_n 0, 1) := by decide +kernel
theorem dX1_add_50 : decode cX1_add 50 = .ok (.getfield 13, 3) := by decide +kernel
theorem dX1_add_53 : decode cX1_add 53 = .ok (.bipush 10, 2) := by decide +kernel
theorem dX1_add_55 : decode cX1_add 55 = .ok (.iload_n 1, 1) := by decide +kernel
theorem dX1_add_56 : decode cX1_add 56 = .ok (.imul, 1) := by decide +kernel
theorem dX1_add_57 : decode cX1_add 57 = .ok (.aload_n 0, 1) := by decide +kernel
theorem dX1_add_58 : decode cX1_add 58 = .ok (.getfield 9, 3) := by decide +kernel
theorem dX1_add_61 : decode cX1_add 61 = .ok (.iload_n 1, 1) := by decide +kernel
theorem dX1_add_62 : decode cX1_add 62 = .ok (.iaload, 1) := by decide +kernel
theorem dX1_add_63 : decode cX1_add 63 = .ok (.iadd, 1) := by decide +kernel
theorem dX1_add_64 : decode cX1_add 64 = .ok (.iload_n 2, 1) := by decide +kernel
theorem dX1_add_65 : decode cX1_add 65 = .ok (.iastore, 1) := by decide +kernel
theorem dX1_add_66 : decode cX1_add 66 = .ok (.iconst 0, 1) := by decide +kernel
theorem dX1_add_67 : decode cX1_add 67 = .ok (.istore_n 3, 1) := by decide +kernel
theorem dX1_add_68 : decode cX1_add 68 = .ok (.iload_n 3, 1) := by decide +kernel
theorem dX1_add_69 : decode cX1_add 69 = .ok (.bipush 6, 2) := by decide +kernel
theorem dX1_add_71 : decode cX1_add 71 = .ok (.if_icmp .ge 28, 3) := by decide +kernel
theorem dX1_add_74 : decode cX1_add 74 = .ok (.aload_n 0, 1) := by decide +kernel
theorem dX1_add_75 : decode cX1_add 75 = .ok (.getfield 16, 3) := by decide +kernel
theorem dX1_add_78 : decode cX1_add 78 = .ok (.aload_n 0, 1) := by decide +kernel
theorem dX1_add_79 : decode cX1_add 79 = .ok (.iload_n 1, 1) := by decide +kernel
theorem dX1_add_80 : decode cX1_add 80 = .ok (.aload_n 0, 1) := by decide +kernel
theorem dX1_add_81 : decode cX1_add 81 = .ok (.getfield 9, 3) := by decide +kernel
theorem dX1_add_84 : decode cX1_add 84 = .ok (.iload_n 1, 1) := by decide +kernel
theorem dX1_add_85 : decode cX1_add 85 = .ok (.iaload, 1) := by decide +kernel
theorem dX1_add_86 : decode cX1_add 86 = .ok (.invokevirtual 61, 3) := by decide +kernel
theorem dX1_add_89 : decode cX1_add 89 = .ok (.iload_n 3, 1) := by decide +kernel
theorem dX1_add_90 : decode cX1_add 90 = .ok (.iadd, 1) := by decide +kernel
theorem dX1_add_91 : decode cX1_add 91 = .ok (.iconst 0, 1) := by decide +kernel
theorem dX1_add_92 : decode cX1_add 92 = .ok (.bastore, 1) := by decide +kernel
theorem dX1_add_93 : decode cX1_add 93 = .ok (.iinc 3 1, 3) := by decide +kernel
theorem dX1_add_96 : decode cX1_add 96 = .ok (.goto (-28), 3) := by decide +kernel
theorem dX1_add_99 : decode cX1_add 99 = .ok (.aload_n 0, 1) := by decide +kernel
theorem dX1_add_100 : decode cX1_add 100 = .ok (.getfield 9, 3) := by decide +kernel
theorem dX1_add_103 : decode cX1_add 103 = .ok (.iload_n 1, 1) := by decide +kernel
theorem dX1_add_104 : decode cX1_add 104 = .ok (.dup2, 1) := by decide +kernel
theorem dX1_add_105 : decode cX1_add 105 = .ok (.iaload, 1) := by decide +kernel
theorem dX1_add_106 : decode cX1_add 106 = .ok (.iconst 1, 1) := by decide +kernel
theorem dX1_add_107 : decode cX1_add 107 = .ok (.iadd, 1) := by decide +kernel
theorem dX1_add_108 : decode cX1_add 108 = .ok (.iastore, 1) := by decide +kernel
theorem dX1_add_109 : decode cX1_add 109 = .ok (.aload_n 0, 1) := by decide +kernel
theorem dX1_add_110 : decode cX1_add 110 = .ok (.getfield 9, 3) := by decide +kernel
theorem dX1_add_113 : decode cX1_add 113 = .ok (.iload_n 1, 1) := by decide +kernel
theorem dX1_add_114 : decode cX1_add 114 = .ok (.iaload, 1) := by decide +kernel
theorem dX1_add_115 : decode cX1_add 115 = .ok (.ireturn, 1) := by decide +kernel
set_option maxRecDepth 20000 in
theorem ggX1_cut_X1_isLine : GoodIn wsX1_cut wsX1_isLine := goodIn_r _ [7, 8, 9, 10, 6, 11, 21, 22, 23, 24, 25, 26] (by decide +kernel) (by decide +kernel)
set_option maxRecDepth 20000 in
theorem gX1_cut_X1_isLine : GoodIn wsX1_cut (wsV RX1 58 RX1 yX1_isLine wsX1_isLine) := goodIn_app (goodIn_of _ (by decide +kernel)) ggX1_cut_X1_isLine
set_option maxRecDepth 20000 in
theorem ggX1_cut_X1_fail : GoodIn wsX1_cut wsX1_fail := goodIn_r _ [15, 1, 21, 22, 23, 24, 25, 26] (by decide +kernel) (by decide +kernel)
set_option maxRecDepth 20000 in
theorem gX1_cut_X1_fail : GoodIn wsX1_cut (wsV RX1 31 RX1 yX1_fail wsX1_fail) := goodIn_app (goodIn_of _ (by decide +kernel)) ggX1_cut_X1_fail
set_option maxRecDepth 20000 in
theorem ggX1_cut_X1_wo : GoodIn wsX1_cut wsX1_wo := goodIn_r _ [19, 20, 21, 22, 23, 24, 25, 26] (by decide +kernel) (by decide +kernel)
set_option maxRecDepth 20000 in
theorem gX1_cut_X1_wo : GoodIn wsX1_cut (wsV RX1 64 RX1 yX1_wo wsX1_wo) := goodIn_app (goodIn_of _ (by decide +kernel)) ggX1_cut_X1_wo
theorem dX1_cut_0 : decode cX1_cut 0 = .ok (.aload_n 0, 1) := by decide +kernel
theorem dX1_cut_1 : decode cX1_cut 1 = .ok (.iconst 0, 1) := by decide +kernel
theorem dX1_cut_2 : decode cX1_cut 2 = .ok (.putfield 20, 3) := by decide +kernel
theorem dX1_cut_5 : decode cX1_cut 5 = .ok (.aload_n 0, 1) := by decide +kernel
theorem dX1_cut_6 : decode cX1_cut 6 = .ok (.iload_n 1, 1) := by decide +kernel
theorem dX1_cut_7 : decode cX1_cut 7 = .ok (.invokevirtual 58, 3) := by decide +kernel
theorem dX1_cut_10 : decode cX1_cut 10 = .ok (.ifCond .ne 9, 3) := by decide +kernel
theorem dX1_cut_13 : decode cX1_cut 13 = .ok (.aload_n 0, 1) := by decide +kernel
theorem dX1_cut_14 : decode cX1_cut 14 = .ok (.iconst 1, 1) := by decide +kernel
theorem dX1_cut_15 : decode cX1_cut 15 = .ok (.invokevirtual 31, 3) := by decide +kernel
theorem dX1_cut_18 : decode cX1_cut 18 = .ok (.ireturn, 1) := by decide +kernel
theorem dX1_cut_19 : decode cX1_cut 19 = .ok (.aload_n 0, 1) := by decide +kernel
theorem dX1_cut_20 : decode cX1_cut 20 = .ok (.getfield 9, 3) := by decide +kernel
theorem dX1_cut_23 : decode cX1_cut 23 = .ok (.iload_n 1, 1) := by decide +kernel
theorem dX1_cut_24 : decode cX1_cut 24 = .ok (.iaload, 1) := by decide +kernel
theorem dX1_cut_25 : decode cX1_cut 25 = .ok (.ifCond .ne 9, 3) := by decide +kernel
theorem dX1_cut_28 : decode cX1_cut 28 = .ok (.aload_n 0, 1) := by decide +kernel
theorem dX1_cut_29 : decode cX1_cut 29 = .ok (.iconst 2, 1) := by decide +kernel
theorem dX1_cut_30 : decode cX1_cut 30 = .ok (.invokevirtual 31, 3) := by decide +kernel
theorem dX1_cut_33 : decode cX1_cut 33 = .ok (.ireturn, 1) := by decide +kernel
theorem dX1_cut_34 : decode cX1_cut 34 = .ok (.aload_n 0, 1) := by decide +kernel
theorem dX1_cut_35 : decode cX1_cut 35 = .ok (.getfield 9, 3) := by decide +kernel
theorem dX1_cut_38 : decode cX1_cut 38 = .ok (.iload_n 1, 1) := by decide +kernel
theorem dX1_cut_39 : decode cX1_cut 39 = .ok (.dup2, 1) := by decide +kernel
theorem dX1_cut_40 : decode cX1_cut 40 = .ok (.iaload, 1) := by decide +kernel
theorem dX1_cut_41 : decode cX1_cut 41 = .ok (.iconst 1, 1) := by decide +kernel
theorem dX1_cut_42 : decode cX1_cut 42 = .ok (.isub, 1) := by decide +kernel
theorem dX1_cut_43 : decode cX1_cut 43 = .ok (.iastore, 1) := by decide +kernel
theorem dX1_cut_44 : decode cX1_cut 44 = .ok (.aload_n 0, 1) := by decide +kernel
theorem dX1_cut_45 : decode cX1_cut 45 = .ok (.iload_n 1, 1) := by decide +kernel
theorem dX1_cut_46 : decode cX1_cut 46 = .ok (.aload_n 0, 1) := by decide +kernel
theorem dX1_cut_47 : decode cX1_cut 47 = .ok (.getfield 9, 3) := by decide +kernel
theorem dX1_cut_50 : decode cX1_cut 50 = .ok (.iload_n 1, 1) := by decide +kernel
theorem dX1_cut_51 : decode cX1_cut 51 = .ok (.iaload, 1) := by decide +kernel
theorem dX1_cut_52 : decode cX1_cut 52 = .ok (.invokevirtual 64, 3) := by decide +kernel
theorem dX1_cut_55 : decode cX1_cut 55 = .ok (.ireturn, 1) := by decide +kernel
set_option maxRecDepth 20000 in
theorem ggX1_isOne_X1_isLine : GoodIn wsX1_isOne wsX1_isLine := goodIn_r _ [6, 7, 8, 9, 5, 10, 11, 12, 13, 14, 15, 16] (by decide +kernel) (by decide +kernel)
set_option maxRecDepth 20000 in
theorem gX1_isOne_X1_isLine : GoodIn wsX1_isOne (wsV RX1 58 RX1 yX1_isLine wsX1_isLine) := goodIn_app (goodIn_of _ (by decide +kernel)) ggX1_isOne_X1_isLine
set_option maxRecDepth 20000 in
theorem ggX1_isOne_X1_isIn : GoodIn wsX1_isOne wsX1_isIn := goodIn_r _ [10] (by decide +kernel) (by decide +kernel)
set_option maxRecDepth 20000 in
theorem gX1_isOne_X1_isIn : GoodIn wsX1_isOne (va_wsS RX1 27 yX1_isIn wsX1_isIn) := goodIn_app (goodIn_of _ (by decide +kernel)) ggX1_isOne_X1_isIn
theorem dX1_isOne_0 : decode cX1_isOne 0 = .ok (.aload_n 0, 1) := by decide +kernel
theorem dX1_isOne_1 : decode cX1_isOne 1 = .ok (.iload_n 1, 1) := by decide +kernel
theorem dX1_isOne_2 : decode cX1_isOne 2 = .ok (.invokevirtual 58, 3) := by decide +kernel
theorem dX1_isOne_5 : decode cX1_isOne 5 = .ok (.ifCond .eq 23, 3) := by decide +kernel
theorem dX1_isOne_8 : decode cX1_isOne 8 = .ok (.iload_n 2, 1) := by decide +kernel
theorem dX1_isOne_9 : decode cX1_isOne 9 = .ok (.iconst 0, 1) := by decide +kernel
theorem dX1_isOne_10 : decode cX1_isOne 10 = .ok (.aload_n 0, 1) := by decide +kernel
theorem dX1_isOne_11 : decode cX1_isOne 11 = .ok (.getfield 9, 3) := by decide +kernel
theorem dX1_isOne_14 : decode cX1_isOne 14 = .ok (.iload_n 1, 1) := by decide +kernel
theorem dX1_isOne_15 : decode cX1_isOne 15 = .ok (.iaload, 1) := by decide +kernel
theorem dX1_isOne_16 : decode cX1_isOne 16 = .ok (.iconst 1, 1) := by decide +kernel
theorem dX1_isOne_17 : decode cX1_isOne 17 = .ok (.isub, 1) := by decide +kernel
theorem dX1_isOne_18 : decode cX1_isOne 18 = .ok (.invokestatic 27, 3) := by decide +kernel
theorem dX1_isOne_21 : decode cX1_isOne 21 = .ok (.ifCond .eq 7, 3) := by decide +kernel
theorem dX1_isOne_24 : decode cX1_isOne 24 = .ok (.iconst 1, 1) := by decide +kernel
theorem dX1_isOne_25 : decode cX1_isOne 25 = .ok (.goto 4, 3) := by decide +kernel
theorem dX1_isOne_28 : decode cX1_isOne 28 = .ok (.iconst 0, 1) := by decide +kernel
theorem dX1_isOne_29 : decode cX1_isOne 29 = .ok (.ireturn, 1) := by decide +kernel
set_option maxRecDepth 20000 in
theorem ggX1_mark_X1_isOne : GoodIn wsX1_mark wsX1_isOne := goodIn_r _ [7, 8, 9, 10, 11, 6, 12, 13, 14, 15, 16, 29, 30, 31, 32, 33, 34] (by decide +kernel) (by decide +kernel)
set_option maxRecDepth 20000 in
theorem gX1_mark_X1_isOne : GoodIn wsX1_mark (wsV RX1 67 RX1 yX1_isOne wsX1_isOne) := goodIn_app (goodIn_of _ (by decide +kernel)) ggX1_mark_X1_isOne
set_option maxRecDepth 20000 in
theorem ggX1_mark_X1_wo : GoodIn wsX1_mark wsX1_wo := goodIn_r _ [20, 21, 29, 30, 31, 32, 33, 34] (by decide +kernel) (by decide +kernel)
set_option maxRecDepth 20000 in
theorem gX1_mark_X1_wo : GoodIn wsX1_mark (wsV RX1 64 RX1 yX1_wo wsX1_wo) := goodIn_app (goodIn_of _ (by decide +kernel)) ggX1_mark_X1_wo
set_option maxRecDepth 20000 in
theorem ggX1_mark_X1_size : GoodIn wsX1_mark wsX1_size := goodIn_r _ [24] (by decide +kernel) (by decide +kernel)
set_option maxRecDepth 20000 in
theorem gX1_mark_X1_size : GoodIn wsX1_mark (va_wsS RX1 41 yX1_size wsX1_size) := goodIn_app (goodIn_of _ (by decide +kernel)) ggX1_mark_X1_size
set_option maxRecDepth 20000 in
theorem ggX1_mark_X1_isIn : GoodIn wsX1_mark wsX1_isIn := goodIn_r _ [16] (by decide +kernel) (by decide +kernel)
set_option maxRecDepth 20000 in
theorem gX1_mark_X1_isIn : GoodIn wsX1_mark (va_wsS RX1 27 yX1_isIn wsX1_isIn) := goodIn_app (goodIn_of _ (by decide +kernel)) ggX1_mark_X1_isIn
set_option maxRecDepth 20000 in
theorem ggX1_mark_X1_base : GoodIn wsX1_mark wsX1_base := goodIn_r _ [28] (by decide +kernel) (by decide +kernel)
set_option maxRecDepth 20000 in
theorem gX1_mark_X1_base : GoodIn wsX1_mark (wsV RX1 61 RX1 yX1_base wsX1_base) := goodIn_app (goodIn_of _ (by decide +kernel)) ggX1_mark_X1_base
theorem dX1_mark_0 : decode cX1_mark 0 = .ok (.aload_n 0, 1) := by decide +kernel
theorem dX1_mark_1 : decode cX1_mark 1 = .ok (.aload_n 0, 1) := by decide +kernel
theorem dX1_mark_2 : decode cX1_mark 2 = .ok (.iload_n 1, 1) := by decide +kernel
theorem dX1_mark_3 : decode cX1_mark 3 = .ok (.iload_n 2, 1) := by decide +kernel
theorem dX1_mark_4 : decode cX1_mark 4 = .ok (.invokevirtual 67, 3) := by decide +kernel
theorem dX1_mark_7 : decode cX1_mark 7 = .ok (.ifCond .eq 26, 3) := by decide +kernel
theorem dX1_mark_10 : decode cX1_mark 10 = .ok (.iload_n 3, 1) := by decide +kernel
theorem dX1_mark_11 : decode cX1_mark 11 = .ok (.iconst 0, 1) := by decide +kernel
theorem dX1_mark_12 : decode cX1_mark 12 = .ok (.aload_n 0, 1) := by decide +kernel
theorem dX1_mark_13 : decode cX1_mark 13 = .ok (.iload_n 1, 1) := by decide +kernel
theorem dX1_mark_14 : decode cX1_mark 14 = .ok (.iload_n 2, 1) := by decide +kernel
theorem dX1_mark_15 : decode cX1_mark 15 = .ok (.invokevirtual 64, 3) := by decide +kernel
theorem dX1_mark_18 : decode cX1_mark 18 = .ok (.invokestatic 41, 3) := by decide +kernel
theorem dX1_mark_21 : decode cX1_mark 21 = .ok (.iconst 1, 1) := by decide +kernel
theorem dX1_mark_22 : decode cX1_mark 22 = .ok (.isub, 1) := by decide +kernel
theorem dX1_mark_23 : decode cX1_mark 23 = .ok (.invokestatic 27, 3) := by decide +kernel
theorem dX1_mark_26 : decode cX1_mark 26 = .ok (.ifCond .eq 7, 3) := by decide +kernel
theorem dX1_mark_29 : decode cX1_mark 29 = .ok (.iconst 0, 1) := by decide +kernel
theorem dX1_mark_30 : decode cX1_mark 30 = .ok (.goto 4, 3) := by decide +kernel
theorem dX1_mark_33 : decode cX1_mark 33 = .ok (.iconst 1, 1) := by decide +kernel
theorem dX1_mark_34 : decode cX1_mark 34 = .ok (.putfield 20, 3) := by decide +kernel
theorem dX1_mark_37 : decode cX1_mark 37 = .ok (.aload_n 0, 1) := by decide +kernel
theorem dX1_mark_38 : decode cX1_mark 38 = .ok (.getfield 20, 3) := by decide +kernel
theorem dX1_mark_41 : decode cX1_mark 41 = .ok (.ifCond .eq 5, 3) := by decide +kernel
theorem dX1_mark_44 : decode cX1_mark 44 = .ok (.iconst 0, 1) := by decide +kernel
theorem dX1_mark_45 : decode cX1_mark 45 = .ok (.ireturn, 1) := by decide +kernel
theorem dX1_mark_46 : decode cX1_mark 46 = .ok (.aload_n 0, 1) := by decide +kernel
theorem dX1_mark_47 : decode cX1_mark 47 = .ok (.iload_n 1, 1) := by decide +kernel
theorem dX1_mark_48 : decode cX1_mark 48 = .ok (.iload_n 2, 1) := by decide +kernel
theorem dX1_mark_49 : decode cX1_mark 49 = .ok (.invokevirtual 61, 3) := by decide +kernel
theorem dX1_mark_52 : decode cX1_mark 52 = .ok (.iload_n 3, 1) := by decide +kernel
theorem dX1_mark_53 : decode cX1_mark 53 = .ok (.iadd, 1) := by decide +kernel
theorem dX1_mark_54 : decode cX1_mark 54 = .ok (.istore 4, 2) := by decide +kernel
theorem dX1_mark_56 : decode cX1_mark 56 = .ok (.aload_n 0, 1) := by decide +kernel
theorem dX1_mark_57 : decode cX1_mark 57 = .ok (.getfield 16, 3) := by decide +kernel
theorem dX1_mark_60 : decode cX1_mark 60 = .ok (.iload 4, 2) := by decide +kernel
theorem dX1_mark_62 : decode cX1_mark 62 = .ok (.aload_n 0, 1) := by decide +kernel
theorem dX1_mark_63 : decode cX1_mark 63 = .ok (.getfield 16, 3) := by decide +kernel
theorem dX1_mark_66 : decode cX1_mark 66 = .ok (.iload 4, 2) := by decide +kernel
theorem dX1_mark_68 : decode cX1_mark 68 = .ok (.baload, 1) := by decide +kernel
theorem dX1_mark_69 : decode cX1_mark 69 = .ok (.ifCond .ne 7, 3) := by decide +kernel
theorem dX1_mark_72 : decode cX1_mark 72 = .ok (.iconst 1, 1) := by decide +kernel
theorem dX1_mark_73 : decode cX1_mark 73 = .ok (.goto 4, 3) := by decide +kernel
theorem dX1_mark_76 : decode cX1_mark 76 = .ok (.iconst 0, 1) := by decide +kernel
theorem dX1_mark_77 : decode cX1_mark 77 = .ok (.bastore, 1) := by decide +kernel
theorem dX1_mark_78 : decode cX1_mark 78 = .ok (.aload_n 0, 1) := by decide +kernel
theorem dX1_mark_79 : decode cX1_mark 79 = .ok (.getfield 16, 3) := by decide +kernel
theorem dX1_mark_82 : decode cX1_mark 82 = .ok (.iload 4, 2) := by decide +kernel
theorem dX1_mark_84 : decode cX1_mark 84 = .ok (.baload, 1) := by decide +kernel
theorem dX1_mark_85 : decode cX1_mark 85 = .ok (.ireturn, 1) := by decide +kernel
set_option maxRecDepth 20000 in
theorem ggX1_wordTold_X1_wo : GoodIn wsX1_wordTold wsX1_wo := goodIn_r _ [6, 7, 27, 28, 29, 30, 31, 32] (by decide +kernel) (by decide +kernel)
set_option maxRecDepth 20000 in
theorem gX1_wordTold_X1_wo : GoodIn wsX1_wordTold (wsV RX1 64 RX1 yX1_wo wsX1_wo) := goodIn_app (goodIn_of _ (by decide +kernel)) ggX1_wordTold_X1_wo
set_option maxRecDepth 20000 in
theorem ggX1_wordTold_X1_size : GoodIn wsX1_wordTold wsX1_size := goodIn_r _ [10] (by decide +kernel) (by decide +kernel)
set_option maxRecDepth 20000 in
theorem gX1_wordTold_X1_size : GoodIn wsX1_wordTold (va_wsS RX1 41 yX1_size wsX1_size) := goodIn_app (goodIn_of _ (by decide +kernel)) ggX1_wordTold_X1_size
set_option maxRecDepth 20000 in
theorem ggX1_wordTold_X1_sum : GoodIn wsX1_wordTold wsX1_sum := goodIn_r _ [14, 8, 9, 5, 10, 15, 16, 17, 18, 19, 20, 21, 22, 27, 28, 29, 30, 31, 32] (by decide +kernel) (by decide +kernel)
set_option maxRecDepth 20000 in
theorem gX1_wordTold_X1_sum : GoodIn wsX1_wordTold (wsV RX1 52 RX1 yX1_sum wsX1_sum) := goodIn_app (goodIn_of _ (by decide +kernel)) ggX1_wordTold_X1_sum
set_option maxRecDepth 20000 in
theorem ggX1_wordTold_X1_base : GoodIn wsX1_wordTold wsX1_base := goodIn_r _ [26] (by decide +kernel) (by decide +kernel)
set_option maxRecDepth 20000 in
theorem gX1_wordTold_X1_base : GoodIn wsX1_wordTold (wsV RX1 61 RX1 yX1_base wsX1_base) := goodIn_app (goodIn_of _ (by decide +kernel)) ggX1_wordTold_X1_base
set_option maxRecDepth 20000 in
theorem ggX1_wordTold_X1_at : GoodIn wsX1_wordTold wsX1_at := goodIn_r _ [17, 8, 9, 5, 10] (by decide +kernel) (by decide +kernel)
set_option maxRecDepth 20000 in
theorem gX1_wordTold_X1_at : GoodIn wsX1_wordTold (va_wsS RX1 44 yX1_at wsX1_at) := goodIn_app (goodIn_of _ (by decide +kernel)) ggX1_wordTold_X1_at
set_option maxRecDepth 20000 in
theorem ggX1_wordTold_X1_valueOf : GoodIn wsX1_wordTold wsX1_valueOf := goodIn_r _ [21, 22, 27, 28, 29, 30, 31, 32] (by decide +kernel) (by decide +kernel)
set_option maxRecDepth 20000 in
theorem gX1_wordTold_X1_valueOf : GoodIn wsX1_wordTold (wsV RX1 38 RX1 yX1_valueOf wsX1_valueOf) := goodIn_app (goodIn_of _ (by decide +kernel)) ggX1_wordTold_X1_valueOf
theorem dX1_wordTold_0 : decode cX1_wordTold 0 = .ok (.aload_n 0, 1) := by decide +kernel
theorem dX1_wordTold_1 : decode cX1_wordTold 1 = .ok (.iload_n 1, 1) := by decide +kernel
theorem dX1_wordTold_2 : decode cX1_wordTold 2 = .ok (.iload_n 2, 1) := by decide +kernel
theorem dX1_wordTold_3 : decode cX1_wordTold 3 = .ok (.invokevirtual 64, 3) := by decide +kernel
theorem dX1_wordTold_6 : decode cX1_wordTold 6 = .ok (.istore 4, 2) := by decide +kernel
theorem dX1_wordTold_8 : decode cX1_wordTold 8 = .ok (.iconst 0, 1) := by decide +kernel
theorem dX1_wordTold_9 : decode cX1_wordTold 9 = .ok (.istore 5, 2) := by decide +kernel
theorem dX1_wordTold_11 : decode cX1_wordTold 11 = .ok (.iload_n 3, 1) := by decide +kernel
theorem dX1_wordTold_12 : decode cX1_wordTold 12 = .ok (.tableswitch 44 0 2 #[28, 31, 37], 28) := by decide +kernel
theorem dX1_wordTold_40 : decode cX1_wordTold 40 = .ok (.iload 4, 2) := by decide +kernel
theorem dX1_wordTold_42 : decode cX1_wordTold 42 = .ok (.ireturn, 1) := by decide +kernel
theorem dX1_wordTold_43 : decode cX1_wordTold 43 = .ok (.iload 4, 2) := by decide +kernel
theorem dX1_wordTold_45 : decode cX1_wordTold 45 = .ok (.invokestatic 41, 3) := by decide +kernel
theorem dX1_wordTold_48 : decode cX1_wordTold 48 = .ok (.ireturn, 1) := by decide +kernel
theorem dX1_wordTold_49 : decode cX1_wordTold 49 = .ok (.aload_n 0, 1) := by decide +kernel
theorem dX1_wordTold_50 : decode cX1_wordTold 50 = .ok (.iload 4, 2) := by decide +kernel
theorem dX1_wordTold_52 : decode cX1_wordTold 52 = .ok (.invokevirtual 52, 3) := by decide +kernel
theorem dX1_wordTold_55 : decode cX1_wordTold 55 = .ok (.ireturn, 1) := by decide +kernel
theorem dX1_wordTold_56 : decode cX1_wordTold 56 = .ok (.iconst 0, 1) := by decide +kernel
theorem dX1_wordTold_57 : decode cX1_wordTold 57 = .ok (.istore 6, 2) := by decide +kernel
theorem dX1_wordTold_59 : decode cX1_wordTold 59 = .ok (.iload 6, 2) := by decide +kernel
theorem dX1_wordTold_61 : decode cX1_wordTold 61 = .ok (.iload 4, 2) := by decide +kernel
theorem dX1_wordTold_63 : decode cX1_wordTold 63 = .ok (.invokestatic 41, 3) := by decide +kernel
theorem dX1_wordTold_66 : decode cX1_wordTold 66 = .ok (.if_icmp .ge 51, 3) := by decide +kernel
theorem dX1_wordTold_69 : decode cX1_wordTold 69 = .ok (.aload_n 0, 1) := by decide +kernel
theorem dX1_wordTold_70 : decode cX1_wordTold 70 = .ok (.getfield 16, 3) := by decide +kernel
theorem dX1_wordTold_73 : decode cX1_wordTold 73 = .ok (.aload_n 0, 1) := by decide +kernel
theorem dX1_wordTold_74 : decode cX1_wordTold 74 = .ok (.iload_n 1, 1) := by decide +kernel
theorem dX1_wordTold_75 : decode cX1_wordTold 75 = .ok (.iload_n 2, 1) := by decide +kernel
theorem dX1_wordTold_76 : decode cX1_wordTold 76 = .ok (.invokevirtual 61, 3) := by decide +kernel
theorem dX1_wordTold_79 : decode cX1_wordTold 79 = .ok (.iload 6, 2) := by decide +kernel
theorem dX1_wordTold_81 : decode cX1_wordTold 81 = .ok (.iadd, 1) := by decide +kernel
theorem dX1_wordTold_82 : decode cX1_wordTold 82 = .ok (.baload, 1) := by decide +kernel
theorem dX1_wordTold_83 : decode cX1_wordTold 83 = .ok (.ifCond .eq 28, 3) := by decide +kernel
theorem dX1_wordTold_86 : decode cX1_wordTold 86 = .ok (.iload 5, 2) := by decide +kernel
theorem dX1_wordTold_88 : decode cX1_wordTold 88 = .ok (.iload_n 3, 1) := by decide +kernel
theorem dX1_wordTold_89 : decode cX1_wordTold 89 = .ok (.iconst 3, 1) := by decide +kernel
theorem dX1_wordTold_90 : decode cX1_wordTold 90 = .ok (.if_icmp .ne 7, 3) := by decide +kernel
theorem dX1_wordTold_93 : decode cX1_wordTold 93 = .ok (.iconst 1, 1) := by decide +kernel
theorem dX1_wordTold_94 : decode cX1_wordTold 94 = .ok (.goto 14, 3) := by decide +kernel
theorem dX1_wordTold_97 : decode cX1_wordTold 97 = .ok (.aload_n 0, 1) := by decide +kernel
theorem dX1_wordTold_98 : decode cX1_wordTold 98 = .ok (.iload 4, 2) := by decide +kernel
theorem dX1_wordTold_100 : decode cX1_wordTold 100 = .ok (.iload 6, 2) := by decide +kernel
theorem dX1_wordTold_102 : decode cX1_wordTold 102 = .ok (.invokestatic 44, 3) := by decide +kernel
theorem dX1_wordTold_105 : decode cX1_wordTold 105 = .ok (.invokevirtual 38, 3) := by decide +kernel
theorem dX1_wordTold_108 : decode cX1_wordTold 108 = .ok (.iadd, 1) := by decide +kernel
theorem dX1_wordTold_109 : decode cX1_wordTold 109 = .ok (.istore 5, 2) := by decide +kernel
theorem dX1_wordTold_111 : decode cX1_wordTold 111 = .ok (.iinc 6 1, 3) := by decide +kernel
theorem dX1_wordTold_114 : decode cX1_wordTold 114 = .ok (.goto (-55), 3) := by decide +kernel
theorem dX1_wordTold_117 : decode cX1_wordTold 117 = .ok (.iload 5, 2) := by decide +kernel
theorem dX1_wordTold_119 : decode cX1_wordTold 119 = .ok (.ireturn, 1) := by decide +kernel
set_option maxRecDepth 20000 in
theorem ggX1_word_X1_isOne : GoodIn wsX1_word wsX1_isOne := goodIn_r _ [6, 7, 8, 9, 10, 5, 11, 12, 13, 14, 15, 49, 50, 51, 52, 53, 54] (by decide +kernel) (by decide +kernel)
set_option maxRecDepth 20000 in
theorem gX1_word_X1_isOne : GoodIn wsX1_word (wsV RX1 67 RX1 yX1_isOne wsX1_isOne) := goodIn_app (goodIn_of _ (by decide +kernel)) ggX1_word_X1_isOne
set_option maxRecDepth 20000 in
theorem ggX1_word_X1_isIn : GoodIn wsX1_word wsX1_isIn := goodIn_r _ [15] (by decide +kernel) (by decide +kernel)
set_option maxRecDepth 20000 in
theorem gX1_word_X1_isIn : GoodIn wsX1_word (va_wsS RX1 27 yX1_isIn wsX1_isIn) := goodIn_app (goodIn_of _ (by decide +kernel)) ggX1_word_X1_isIn
set_option maxRecDepth 20000 in
theorem ggX1_word_X1_wordTold : GoodIn wsX1_word wsX1_wordTold := goodIn_r _ [19, 20, 21, 22, 23, 5, 24, 25, 26, 27, 28, 29, 30, 31, 32, 33, 34, 35, 36, 37, 38, 39, 40, 41, 42, 43, 44, 49, 50, 51, 52, 53, 54] (by decide +kernel) (by decide +kernel)
set_option maxRecDepth 20000 in
theorem gX1_word_X1_wordTold : GoodIn wsX1_word (wsV RX1 71 RX1 yX1_wordTold wsX1_wordTold) := goodIn_app (goodIn_of _ (by decide +kernel)) ggX1_word_X1_wordTold
set_option maxRecDepth 20000 in
theorem ggX1_word_X1_fail : GoodIn wsX1_word wsX1_fail := goodIn_r _ [48, 1, 49, 50, 51, 52, 53, 54] (by decide +kernel) (by decide +kernel)
set_option maxRecDepth 20000 in
theorem gX1_word_X1_fail : GoodIn wsX1_word (wsV RX1 31 RX1 yX1_fail wsX1_fail) := goodIn_app (goodIn_of _ (by decide +kernel)) ggX1_word_X1_fail
theorem dX1_word_0 : decode cX1_word 0 = .ok (.aload_n 0, 1) := by decide +kernel
theorem dX1_word_1 : decode cX1_word 1 = .ok (.iconst 0, 1) := by decide +kernel
theorem dX1_word_2 : decode cX1_word 2 = .ok (.putfield 20, 3) := by decide +kernel
theorem dX1_word_5 : decode cX1_word 5 = .ok (.aload_n 0, 1) := by decide +kernel
theorem dX1_word_6 : decode cX1_word 6 = .ok (.iload_n 1, 1) := by decide +kernel
theorem dX1_word_7 : decode cX1_word 7 = .ok (.iload_n 2, 1) := by decide +kernel
theorem dX1_word_8 : decode cX1_word 8 = .ok (.invokevirtual 67, 3) := by decide +kernel
theorem dX1_word_11 : decode cX1_word 11 = .ok (.ifCond .eq 22, 3) := by decide +kernel
theorem dX1_word_14 : decode cX1_word 14 = .ok (.iload_n 3, 1) := by decide +kernel
theorem dX1_word_15 : decode cX1_word 15 = .ok (.iconst 0, 1) := by decide +kernel
theorem dX1_word_16 : decode cX1_word 16 = .ok (.iconst 4, 1) := by decide +kernel
theorem dX1_word_17 : decode cX1_word 17 = .ok (.invokestatic 27, 3) := by decide +kernel
theorem dX1_word_20 : decode cX1_word 20 = .ok (.ifCond .eq 13, 3) := by decide +kernel
theorem dX1_word_23 : decode cX1_word 23 = .ok (.aload_n 0, 1) := by decide +kernel
theorem dX1_word_24 : decode cX1_word 24 = .ok (.iload_n 1, 1) := by decide +kernel
theorem dX1_word_25 : decode cX1_word 25 = .ok (.iload_n 2, 1) := by decide +kernel
theorem dX1_word_26 : decode cX1_word 26 = .ok (.iload_n 3, 1) := by decide +kernel
theorem dX1_word_27 : decode cX1_word 27 = .ok (.invokevirtual 71, 3) := by decide +kernel
theorem dX1_word_30 : decode cX1_word 30 = .ok (.goto 8, 3) := by decide +kernel
theorem dX1_word_33 : decode cX1_word 33 = .ok (.aload_n 0, 1) := by decide +kernel
theorem dX1_word_34 : decode cX1_word 34 = .ok (.iconst 1, 1) := by decide +kernel
theorem dX1_word_35 : decode cX1_word 35 = .ok (.invokevirtual 31, 3) := by decide +kernel
theorem dX1_word_38 : decode cX1_word 38 = .ok (.ireturn, 1) := by decide +kernel
set_option maxRecDepth 20000 in
theorem ggX1_lineTold_X1_wordTold : GoodIn wsX1_lineTold wsX1_wordTold := goodIn_r _ [6, 7, 8, 9, 10, 5, 11, 12, 13, 14, 15, 16, 17, 18, 19, 20, 21, 22, 23, 24, 25, 26, 27, 28, 29, 30, 31, 32, 33, 34, 35, 36, 37] (by decide +kernel) (by decide +kernel)
set_option maxRecDepth 20000 in
theorem gX1_lineTold_X1_wordTold : GoodIn wsX1_lineTold (wsV RX1 71 RX1 yX1_wordTold wsX1_wordTold) := goodIn_app (goodIn_of _ (by decide +kernel)) ggX1_lineTold_X1_wordTold
theorem dX1_lineTold_0 : decode cX1_lineTold 0 = .ok (.iload_n 2, 1) := by decide +kernel
theorem dX1_lineTold_1 : decode cX1_lineTold 1 = .ok (.ifCond .ne 10, 3) := by decide +kernel
theorem dX1_lineTold_4 : decode cX1_lineTold 4 = .ok (.aload_n 0, 1) := by decide +kernel
theorem dX1_lineTold_5 : decode cX1_lineTold 5 = .ok (.getfield 9, 3) := by decide +kernel
theorem dX1_lineTold_8 : decode cX1_lineTold 8 = .ok (.iload_n 1, 1) := by decide +kernel
theorem dX1_lineTold_9 : decode cX1_lineTold 9 = .ok (.iaload, 1) := by decide +kernel
theorem dX1_lineTold_10 : decode cX1_lineTold 10 = .ok (.ireturn, 1) := by decide +kernel
theorem dX1_lineTold_11 : decode cX1_lineTold 11 = .ok (.iconst 0, 1) := by decide +kernel
theorem dX1_lineTold_12 : decode cX1_lineTold 12 = .ok (.istore_n 3, 1) := by decide +kernel
theorem dX1_lineTold_13 : decode cX1_lineTold 13 = .ok (.iconst 0, 1) := by decide +kernel
theorem dX1_lineTold_14 : decode cX1_lineTold 14 = .ok (.istore 4, 2) := by decide +kernel
theorem dX1_lineTold_16 : decode cX1_lineTold 16 = .ok (.iload 4, 2) := by decide +kernel
theorem dX1_lineTold_18 : decode cX1_lineTold 18 = .ok (.aload_n 0, 1) := by decide +kernel
theorem dX1_lineTold_19 : decode cX1_lineTold 19 = .ok (.getfield 9, 3) := by decide +kernel
theorem dX1_lineTold_22 : decode cX1_lineTold 22 = .ok (.iload_n 1, 1) := by decide +kernel
theorem dX1_lineTold_23 : decode cX1_lineTold 23 = .ok (.iaload, 1) := by decide +kernel
theorem dX1_lineTold_24 : decode cX1_lineTold 24 = .ok (.if_icmp .ge 20, 3) := by decide +kernel
theorem dX1_lineTold_27 : decode cX1_lineTold 27 = .ok (.iload_n 3, 1) := by decide +kernel
theorem dX1_lineTold_28 : decode cX1_lineTold 28 = .ok (.aload_n 0, 1) := by decide +kernel
theorem dX1_lineTold_29 : decode cX1_lineTold 29 = .ok (.iload_n 1, 1) := by decide +kernel
theorem dX1_lineTold_30 : decode cX1_lineTold 30 = .ok (.iload 4, 2) := by decide +kernel
theorem dX1_lineTold_32 : decode cX1_lineTold 32 = .ok (.iload_n 2, 1) := by decide +kernel
theorem dX1_lineTold_33 : decode cX1_lineTold 33 = .ok (.invokevirtual 71, 3) := by decide +kernel
theorem dX1_lineTold_36 : decode cX1_lineTold 36 = .ok (.iadd, 1) := by decide +kernel
theorem dX1_lineTold_37 : decode cX1_lineTold 37 = .ok (.istore_n 3, 1) := by decide +kernel
theorem dX1_lineTold_38 : decode cX1_lineTold 38 = .ok (.iinc 4 1, 3) := by decide +kernel
theorem dX1_lineTold_41 : decode cX1_lineTold 41 = .ok (.goto (-25), 3) := by decide +kernel
theorem dX1_lineTold_44 : decode cX1_lineTold 44 = .ok (.iload_n 3, 1) := by decide +kernel
theorem dX1_lineTold_45 : decode cX1_lineTold 45 = .ok (.ireturn, 1) := by decide +kernel
set_option maxRecDepth 20000 in
theorem ggX1_line_X1_isLine : GoodIn wsX1_line wsX1_isLine := goodIn_r _ [6, 7, 8, 9, 5, 10, 49, 50, 51, 52, 53, 54] (by decide +kernel) (by decide +kernel)
set_option maxRecDepth 20000 in
theorem gX1_line_X1_isLine : GoodIn wsX1_line (wsV RX1 58 RX1 yX1_isLine wsX1_isLine) := goodIn_app (goodIn_of _ (by decide +kernel)) ggX1_line_X1_isLine
set_option maxRecDepth 20000 in
theorem ggX1_line_X1_isIn : GoodIn wsX1_line wsX1_isIn := goodIn_r _ [10] (by decide +kernel) (by decide +kernel)
set_option maxRecDepth 20000 in
theorem gX1_line_X1_isIn : GoodIn wsX1_line (va_wsS RX1 27 yX1_isIn wsX1_isIn) := goodIn_app (goodIn_of _ (by decide +kernel)) ggX1_line_X1_isIn
set_option maxRecDepth 20000 in
theorem ggX1_line_X1_lineTold : GoodIn wsX1_line wsX1_lineTold := goodIn_r _ [14, 15, 16, 17, 18, 5, 19, 20, 21, 22, 23, 24, 25, 26, 27, 28, 29, 30, 31, 32, 33, 34, 35, 36, 37, 38, 39, 40, 41, 42, 43, 44, 49, 50, 51, 52, 53, 54] (by decide +kernel) (by decide +kernel)
set_option maxRecDepth 20000 in
theorem gX1_line_X1_lineTold : GoodIn wsX1_line (wsV RX1 75 RX1 yX1_lineTold wsX1_lineTold) := goodIn_app (goodIn_of _ (by decide +kernel)) ggX1_line_X1_lineTold
set_option maxRecDepth 20000 in
theorem ggX1_line_X1_fail : GoodIn wsX1_line wsX1_fail := goodIn_r _ [48, 1, 49, 50, 51, 52, 53, 54] (by decide +kernel) (by decide +kernel)
set_option maxRecDepth 20000 in
theorem gX1_line_X1_fail : GoodIn wsX1_line (wsV RX1 31 RX1 yX1_fail wsX1_fail) := goodIn_app (goodIn_of _ (by decide +kernel)) ggX1_line_X1_fail
theorem dX1_line_0 : decode cX1_line 0 = .ok (.aload_n 0, 1) := by decide +kernel
theorem dX1_line_1 : decode cX1_line 1 = .ok (.iconst 0, 1) := by decide +kernel
theorem dX1_line_2 : decode cX1_line 2 = .ok (.putfield 20, 3) := by decide +kernel
theorem dX1_line_5 : decode cX1_line 5 = .ok (.aload_n 0, 1) := by decide +kernel
theorem dX1_line_6 : decode cX1_line 6 = .ok (.iload_n 1, 1) := by decide +kernel
theorem dX1_line_7 : decode cX1_line 7 = .ok (.invokevirtual 58, 3) := by decide +kernel
theorem dX1_line_10 : decode cX1_line 10 = .ok (.ifCond .eq 21, 3) := by decide +kernel
theorem dX1_line_13 : decode cX1_line 13 = .ok (.iload_n 2, 1) := by decide +kernel
theorem dX1_line_14 : decode cX1_line 14 = .ok (.iconst 0, 1) := by decide +kernel
theorem dX1_line_15 : decode cX1_line 15 = .ok (.iconst 4, 1) := by decide +kernel
theorem dX1_line_16 : decode cX1_line 16 = .ok (.invokestatic 27, 3) := by decide +kernel
theorem dX1_line_19 : decode cX1_line 19 = .ok (.ifCond .eq 12, 3) := by decide +kernel
theorem dX1_line_22 : decode cX1_line 22 = .ok (.aload_n 0, 1) := by decide +kernel
theorem dX1_line_23 : decode cX1_line 23 = .ok (.iload_n 1, 1) := by decide +kernel
theorem dX1_line_24 : decode cX1_line 24 = .ok (.iload_n 2, 1) := by decide +kernel
theorem dX1_line_25 : decode cX1_line 25 = .ok (.invokevirtual 75, 3) := by decide +kernel
theorem dX1_line_28 : decode cX1_line 28 = .ok (.goto 8, 3) := by decide +kernel
theorem dX1_line_31 : decode cX1_line 31 = .ok (.aload_n 0, 1) := by decide +kernel
theorem dX1_line_32 : decode cX1_line 32 = .ok (.iconst 1, 1) := by decide +kernel
theorem dX1_line_33 : decode cX1_line 33 = .ok (.invokevirtual 31, 3) := by decide +kernel
theorem dX1_line_36 : decode cX1_line 36 = .ok (.ireturn, 1) := by decide +kernel
set_option maxRecDepth 20000 in
theorem ggX1_all_X1_lineTold : GoodIn wsX1_all wsX1_lineTold := goodIn_r _ [6, 7, 8, 9, 10, 5, 11, 12, 13, 14, 15, 16, 17, 18, 19, 20, 21, 22, 23, 24, 25, 26, 27, 28, 29, 30, 31, 32, 33, 34, 35, 36, 37, 38, 39, 40, 41, 42] (by decide +kernel) (by decide +kernel)
set_option maxRecDepth 20000 in
theorem gX1_all_X1_lineTold : GoodIn wsX1_all (wsV RX1 75 RX1 yX1_lineTold wsX1_lineTold) := goodIn_app (goodIn_of _ (by decide +kernel)) ggX1_all_X1_lineTold
theorem dX1_all_0 : decode cX1_all 0 = .ok (.iconst 0, 1) := by decide +kernel
theorem dX1_all_1 : decode cX1_all 1 = .ok (.istore_n 2, 1) := by decide +kernel
theorem dX1_all_2 : decode cX1_all 2 = .ok (.iconst 0, 1) := by decide +kernel
theorem dX1_all_3 : decode cX1_all 3 = .ok (.istore_n 3, 1) := by decide +kernel
theorem dX1_all_4 : decode cX1_all 4 = .ok (.iload_n 3, 1) := by decide +kernel
theorem dX1_all_5 : decode cX1_all 5 = .ok (.aload_n 0, 1) := by decide +kernel
theorem dX1_all_6 : decode cX1_all 6 = .ok (.getfield 24, 3) := by decide +kernel
theorem dX1_all_9 : decode cX1_all 9 = .ok (.if_icmp .ge 18, 3) := by decide +kernel
theorem dX1_all_12 : decode cX1_all 12 = .ok (.iload_n 2, 1) := by decide +kernel
theorem dX1_all_13 : decode cX1_all 13 = .ok (.aload_n 0, 1) := by decide +kernel
theorem dX1_all_14 : decode cX1_all 14 = .ok (.iload_n 3, 1) := by decide +kernel
theorem dX1_all_15 : decode cX1_all 15 = .ok (.iload_n 1, 1) := by decide +kernel
theorem dX1_all_16 : decode cX1_all 16 = .ok (.invokevirtual 75, 3) := by decide +kernel
theorem dX1_all_19 : decode cX1_all 19 = .ok (.iadd, 1) := by decide +kernel
theorem dX1_all_20 : decode cX1_all 20 = .ok (.istore_n 2, 1) := by decide +kernel
theorem dX1_all_21 : decode cX1_all 21 = .ok (.iinc 3 1, 3) := by decide +kernel
theorem dX1_all_24 : decode cX1_all 24 = .ok (.goto (-20), 3) := by decide +kernel
theorem dX1_all_27 : decode cX1_all 27 = .ok (.iload_n 2, 1) := by decide +kernel
theorem dX1_all_28 : decode cX1_all 28 = .ok (.ireturn, 1) := by decide +kernel
set_option maxRecDepth 20000 in
theorem ggX1_pairs_X1_isOne : GoodIn wsX1_pairs wsX1_isOne := goodIn_r _ [7, 8, 9, 10, 11, 6, 12, 1, 13, 14, 15, 31, 32, 33, 34, 35, 36] (by decide +kernel) (by decide +kernel)
set_option maxRecDepth 20000 in
theorem gX1_pairs_X1_isOne : GoodIn wsX1_pairs (wsV RX1 67 RX1 yX1_isOne wsX1_isOne) := goodIn_app (goodIn_of _ (by decide +kernel)) ggX1_pairs_X1_isOne
set_option maxRecDepth 20000 in
theorem ggX1_pairs_X1_sum : GoodIn wsX1_pairs wsX1_sum := goodIn_r _ [19, 20, 21, 6, 22, 23, 24, 25, 26, 27, 28, 29, 30, 31, 32, 33, 34, 35, 36] (by decide +kernel) (by decide +kernel)
set_option maxRecDepth 20000 in
theorem gX1_pairs_X1_sum : GoodIn wsX1_pairs (wsV RX1 52 RX1 yX1_sum wsX1_sum) := goodIn_app (goodIn_of _ (by decide +kernel)) ggX1_pairs_X1_sum
theorem dX1_pairs_0 : decode cX1_pairs 0 = .ok (.iconst 0, 1) := by decide +kernel
theorem dX1_pairs_1 : decode cX1_pairs 1 = .ok (.istore_n 1, 1) := by decide +kernel
theorem dX1_pairs_2 : decode cX1_pairs 2 = .ok (.iconst 0, 1) := by decide +kernel
theorem dX1_pairs_3 : decode cX1_pairs 3 = .ok (.istore_n 2, 1) := by decide +kernel
theorem dX1_pairs_4 : decode cX1_pairs 4 = .ok (.iload_n 2, 1) := by decide +kernel
theorem dX1_pairs_5 : decode cX1_pairs 5 = .ok (.bipush 10, 2) := by decide +kernel
theorem dX1_pairs_7 : decode cX1_pairs 7 = .ok (.aload_n 0, 1) := by decide +kernel
theorem dX1_pairs_8 : decode cX1_pairs 8 = .ok (.getfield 24, 3) := by decide +kernel
theorem dX1_pairs_11 : decode cX1_pairs 11 = .ok (.imul, 1) := by decide +kernel
theorem dX1_pairs_12 : decode cX1_pairs 12 = .ok (.if_icmp .ge 86, 3) := by decide +kernel
theorem dX1_pairs_15 : decode cX1_pairs 15 = .ok (.aload_n 0, 1) := by decide +kernel
theorem dX1_pairs_16 : decode cX1_pairs 16 = .ok (.iload_n 2, 1) := by decide +kernel
theorem dX1_pairs_17 : decode cX1_pairs 17 = .ok (.bipush 10, 2) := by decide +kernel
theorem dX1_pairs_19 : decode cX1_pairs 19 = .ok (.idiv, 1) := by decide +kernel
theorem dX1_pairs_20 : decode cX1_pairs 20 = .ok (.iload_n 2, 1) := by decide +kernel
theorem dX1_pairs_21 : decode cX1_pairs 21 = .ok (.bipush 10, 2) := by decide +kernel
theorem dX1_pairs_23 : decode cX1_pairs 23 = .ok (.irem, 1) := by decide +kernel
theorem dX1_pairs_24 : decode cX1_pairs 24 = .ok (.invokevirtual 67, 3) := by decide +kernel
theorem dX1_pairs_27 : decode cX1_pairs 27 = .ok (.ifCond .ne 6, 3) := by decide +kernel
theorem dX1_pairs_30 : decode cX1_pairs 30 = .ok (.goto 62, 3) := by decide +kernel
theorem dX1_pairs_33 : decode cX1_pairs 33 = .ok (.iconst 0, 1) := by decide +kernel
theorem dX1_pairs_34 : decode cX1_pairs 34 = .ok (.istore_n 3, 1) := by decide +kernel
theorem dX1_pairs_35 : decode cX1_pairs 35 = .ok (.iload_n 3, 1) := by decide +kernel
theorem dX1_pairs_36 : decode cX1_pairs 36 = .ok (.iload_n 2, 1) := by decide +kernel
theorem dX1_pairs_37 : decode cX1_pairs 37 = .ok (.if_icmp .ge 55, 3) := by decide +kernel
theorem dX1_pairs_40 : decode cX1_pairs 40 = .ok (.iload_n 1, 1) := by decide +kernel
theorem dX1_pairs_41 : decode cX1_pairs 41 = .ok (.aload_n 0, 1) := by decide +kernel
theorem dX1_pairs_42 : decode cX1_pairs 42 = .ok (.iload_n 3, 1) := by decide +kernel
theorem dX1_pairs_43 : decode cX1_pairs 43 = .ok (.bipush 10, 2) := by decide +kernel
theorem dX1_pairs_45 : decode cX1_pairs 45 = .ok (.idiv, 1) := by decide +kernel
theorem dX1_pairs_46 : decode cX1_pairs 46 = .ok (.iload_n 3, 1) := by decide +kernel
theorem dX1_pairs_47 : decode cX1_pairs 47 = .ok (.bipush 10, 2) := by decide +kernel
theorem dX1_pairs_49 : decode cX1_pairs 49 = .ok (.irem, 1) := by decide +kernel
theorem dX1_pairs_50 : decode cX1_pairs 50 = .ok (.invokevirtual 67, 3) := by decide +kernel
theorem dX1_pairs_53 : decode cX1_pairs 53 = .ok (.ifCond .eq 30, 3) := by decide +kernel
theorem dX1_pairs_56 : decode cX1_pairs 56 = .ok (.aload_n 0, 1) := by decide +kernel
theorem dX1_pairs_57 : decode cX1_pairs 57 = .ok (.aload_n 0, 1) := by decide +kernel
theorem dX1_pairs_58 : decode cX1_pairs 58 = .ok (.getfield 13, 3) := by decide +kernel
theorem dX1_pairs_61 : decode cX1_pairs 61 = .ok (.iload_n 2, 1) := by decide +kernel
theorem dX1_pairs_62 : decode cX1_pairs 62 = .ok (.iaload, 1) := by decide +kernel
theorem dX1_pairs_63 : decode cX1_pairs 63 = .ok (.invokevirtual 52, 3) := by decide +kernel
theorem dX1_pairs_66 : decode cX1_pairs 66 = .ok (.aload_n 0, 1) := by decide +kernel
theorem dX1_pairs_67 : decode cX1_pairs 67 = .ok (.aload_n 0, 1) := by decide +kernel
theorem dX1_pairs_68 : decode cX1_pairs 68 = .ok (.getfield 13, 3) := by decide +kernel
theorem dX1_pairs_71 : decode cX1_pairs 71 = .ok (.iload_n 3, 1) := by decide +kernel
theorem dX1_pairs_72 : decode cX1_pairs 72 = .ok (.iaload, 1) := by decide +kernel
theorem dX1_pairs_73 : decode cX1_pairs 73 = .ok (.invokevirtual 52, 3) := by decide +kernel
theorem dX1_pairs_76 : decode cX1_pairs 76 = .ok (.if_icmp .ne 7, 3) := by decide +kernel
theorem dX1_pairs_79 : decode cX1_pairs 79 = .ok (.iconst 1, 1) := by decide +kernel
theorem dX1_pairs_80 : decode cX1_pairs 80 = .ok (.goto 4, 3) := by decide +kernel
theorem dX1_pairs_83 : decode cX1_pairs 83 = .ok (.iconst 0, 1) := by decide +kernel
theorem dX1_pairs_84 : decode cX1_pairs 84 = .ok (.iadd, 1) := by decide +kernel
theorem dX1_pairs_85 : decode cX1_pairs 85 = .ok (.istore_n 1, 1) := by decide +kernel
theorem dX1_pairs_86 : decode cX1_pairs 86 = .ok (.iinc 3 1, 3) := by decide +kernel
theorem dX1_pairs_89 : decode cX1_pairs 89 = .ok (.goto (-54), 3) := by decide +kernel
theorem dX1_pairs_92 : decode cX1_pairs 92 = .ok (.iinc 2 1, 3) := by decide +kernel
theorem dX1_pairs_95 : decode cX1_pairs 95 = .ok (.goto (-91), 3) := by decide +kernel
theorem dX1_pairs_98 : decode cX1_pairs 98 = .ok (.iload_n 1, 1) := by decide +kernel
theorem dX1_pairs_99 : decode cX1_pairs 99 = .ok (.ireturn, 1) := by decide +kernel
set_option maxRecDepth 20000 in
theorem ggX1_toldOf_X1_pairs : GoodIn wsX1_toldOf wsX1_pairs := goodIn_r _ [6, 1, 7, 8, 9, 10, 5, 11, 12, 13, 14, 15, 16, 17, 18, 19, 20, 21, 22, 23, 24, 25, 26, 27, 28, 29, 30, 31, 32, 33, 34, 56, 57, 58, 59, 60, 61] (by decide +kernel) (by decide +kernel)
set_option maxRecDepth 20000 in
theorem gX1_toldOf_X1_pairs : GoodIn wsX1_toldOf (wsV RX1 78 RX1 yX1_pairs wsX1_pairs) := goodIn_app (goodIn_of _ (by decide +kernel)) ggX1_toldOf_X1_pairs
set_option maxRecDepth 20000 in
theorem ggX1_toldOf_X1_all : GoodIn wsX1_toldOf wsX1_all := goodIn_r _ [38, 1, 39, 40, 41, 5, 42, 12, 43, 44, 45, 46, 47, 48, 49, 50, 51, 7, 24, 25, 26, 20, 21, 22, 23, 27, 28, 29, 30, 31, 32, 33, 34, 52, 53, 54, 55, 56, 57, 58, 59, 60, 61] (by decide +kernel) (by decide +kernel)
set_option maxRecDepth 20000 in
theorem gX1_toldOf_X1_all : GoodIn wsX1_toldOf (wsV RX1 82 RX1 yX1_all wsX1_all) := goodIn_app (goodIn_of _ (by decide +kernel)) ggX1_toldOf_X1_all
theorem dX1_toldOf_0 : decode cX1_toldOf 0 = .ok (.iload_n 1, 1) := by decide +kernel
theorem dX1_toldOf_1 : decode cX1_toldOf 1 = .ok (.ifCond .ne 10, 3) := by decide +kernel
theorem dX1_toldOf_4 : decode cX1_toldOf 4 = .ok (.aload_n 0, 1) := by decide +kernel
theorem dX1_toldOf_5 : decode cX1_toldOf 5 = .ok (.getfield 24, 3) := by decide +kernel
theorem dX1_toldOf_8 : decode cX1_toldOf 8 = .ok (.goto 23, 3) := by decide +kernel
theorem dX1_toldOf_11 : decode cX1_toldOf 11 = .ok (.iload_n 1, 1) := by decide +kernel
theorem dX1_toldOf_12 : decode cX1_toldOf 12 = .ok (.bipush 6, 2) := by decide +kernel
theorem dX1_toldOf_14 : decode cX1_toldOf 14 = .ok (.if_icmp .ne 10, 3) := by decide +kernel
theorem dX1_toldOf_17 : decode cX1_toldOf 17 = .ok (.aload_n 0, 1) := by decide +kernel
theorem dX1_toldOf_18 : decode cX1_toldOf 18 = .ok (.invokevirtual 78, 3) := by decide +kernel
theorem dX1_toldOf_21 : decode cX1_toldOf 21 = .ok (.goto 10, 3) := by decide +kernel
theorem dX1_toldOf_24 : decode cX1_toldOf 24 = .ok (.aload_n 0, 1) := by decide +kernel
theorem dX1_toldOf_25 : decode cX1_toldOf 25 = .ok (.iload_n 1, 1) := by decide +kernel
theorem dX1_toldOf_26 : decode cX1_toldOf 26 = .ok (.iconst 1, 1) := by decide +kernel
theorem dX1_toldOf_27 : decode cX1_toldOf 27 = .ok (.isub, 1) := by decide +kernel
theorem dX1_toldOf_28 : decode cX1_toldOf 28 = .ok (.invokevirtual 82, 3) := by decide +kernel
theorem dX1_toldOf_31 : decode cX1_toldOf 31 = .ok (.ireturn, 1) := by decide +kernel
set_option maxRecDepth 20000 in
theorem ggX1_told_X1_isIn : GoodIn wsX1_told wsX1_isIn := goodIn_r _ [5] (by decide +kernel) (by decide +kernel)
set_option maxRecDepth 20000 in
theorem gX1_told_X1_isIn : GoodIn wsX1_told (va_wsS RX1 27 yX1_isIn wsX1_isIn) := goodIn_app (goodIn_of _ (by decide +kernel)) ggX1_told_X1_isIn
set_option maxRecDepth 20000 in
theorem ggX1_told_X1_toldOf : GoodIn wsX1_told wsX1_toldOf := goodIn_r _ [9, 10, 11, 12, 13, 4, 14, 15, 16, 17, 18, 19, 20, 21, 22, 23, 24, 2, 3, 5, 25, 26, 27, 28, 29, 30, 31, 32, 33, 34, 35, 36, 37, 38, 39, 40, 41, 42, 43, 44, 45, 46, 47, 48, 49, 50, 51, 52, 53, 54, 55, 56, 57, 58, 59, 60, 65, 66, 67, 68, 69, 70] (by decide +kernel) (by decide +kernel)
set_option maxRecDepth 20000 in
theorem gX1_told_X1_toldOf : GoodIn wsX1_told (wsV RX1 85 RX1 yX1_toldOf wsX1_toldOf) := goodIn_app (goodIn_of _ (by decide +kernel)) ggX1_told_X1_toldOf
set_option maxRecDepth 20000 in
theorem ggX1_told_X1_fail : GoodIn wsX1_told wsX1_fail := goodIn_r _ [64, 1, 65, 66, 67, 68, 69, 70] (by decide +kernel) (by decide +kernel)
set_option maxRecDepth 20000 in
theorem gX1_told_X1_fail : GoodIn wsX1_told (wsV RX1 31 RX1 yX1_fail wsX1_fail) := goodIn_app (goodIn_of _ (by decide +kernel)) ggX1_told_X1_fail
theorem dX1_told_0 : decode cX1_told 0 = .ok (.aload_n 0, 1) := by decide +kernel
theorem dX1_told_1 : decode cX1_told 1 = .ok (.iconst 0, 1) := by decide +kernel
theorem dX1_told_2 : decode cX1_told 2 = .ok (.putfield 20, 3) := by decide +kernel
theorem dX1_told_5 : decode cX1_told 5 = .ok (.iload_n 1, 1) := by decide +kernel
theorem dX1_told_6 : decode cX1_told 6 = .ok (.iconst 0, 1) := by decide +kernel
theorem dX1_told_7 : decode cX1_told 7 = .ok (.bipush 6, 2) := by decide +kernel
theorem dX1_told_9 : decode cX1_told 9 = .ok (.invokestatic 27, 3) := by decide +kernel
theorem dX1_told_12 : decode cX1_told 12 = .ok (.ifCond .eq 11, 3) := by decide +kernel
theorem dX1_told_15 : decode cX1_told 15 = .ok (.aload_n 0, 1) := by decide +kernel
theorem dX1_told_16 : decode cX1_told 16 = .ok (.iload_n 1, 1) := by decide +kernel
theorem dX1_told_17 : decode cX1_told 17 = .ok (.invokevirtual 85, 3) := by decide +kernel
theorem dX1_told_20 : decode cX1_told 20 = .ok (.goto 8, 3) := by decide +kernel
theorem dX1_told_23 : decode cX1_told 23 = .ok (.aload_n 0, 1) := by decide +kernel
theorem dX1_told_24 : decode cX1_told 24 = .ok (.iconst 1, 1) := by decide +kernel
theorem dX1_told_25 : decode cX1_told 25 = .ok (.invokevirtual 31, 3) := by decide +kernel
theorem dX1_told_28 : decode cX1_told 28 = .ok (.ireturn, 1) := by decide +kernel
set_option maxRecDepth 20000 in
theorem ggX1_runTo_X1_wo : GoodIn wsX1_runTo wsX1_wo := goodIn_r _ [6, 7, 23, 24, 25, 26, 27, 28] (by decide +kernel) (by decide +kernel)
set_option maxRecDepth 20000 in
theorem gX1_runTo_X1_wo : GoodIn wsX1_runTo (wsV RX1 64 RX1 yX1_wo wsX1_wo) := goodIn_app (goodIn_of _ (by decide +kernel)) ggX1_runTo_X1_wo
set_option maxRecDepth 20000 in
theorem ggX1_runTo_X1_sum : GoodIn wsX1_runTo wsX1_sum := goodIn_r _ [11, 12, 13, 5, 14, 15, 16, 17, 18, 19, 20, 21, 22, 23, 24, 25, 26, 27, 28] (by decide +kernel) (by decide +kernel)
set_option maxRecDepth 20000 in
theorem gX1_runTo_X1_sum : GoodIn wsX1_runTo (wsV RX1 52 RX1 yX1_sum wsX1_sum) := goodIn_app (goodIn_of _ (by decide +kernel)) ggX1_runTo_X1_sum
theorem dX1_runTo_0 : decode cX1_runTo 0 = .ok (.iconst 0, 1) := by decide +kernel
theorem dX1_runTo_1 : decode cX1_runTo 1 = .ok (.istore 4, 2) := by decide +kernel
theorem dX1_runTo_3 : decode cX1_runTo 3 = .ok (.iload_n 2, 1) := by decide +kernel
theorem dX1_runTo_4 : decode cX1_runTo 4 = .ok (.istore 5, 2) := by decide +kernel
theorem dX1_runTo_6 : decode cX1_runTo 6 = .ok (.iload 5, 2) := by decide +kernel
theorem dX1_runTo_8 : decode cX1_runTo 8 = .ok (.aload_n 0, 1) := by decide +kernel
theorem dX1_runTo_9 : decode cX1_runTo 9 = .ok (.getfield 9, 3) := by decide +kernel
theorem dX1_runTo_12 : decode cX1_runTo 12 = .ok (.iload_n 1, 1) := by decide +kernel
theorem dX1_runTo_13 : decode cX1_runTo 13 = .ok (.iaload, 1) := by decide +kernel
theorem dX1_runTo_14 : decode cX1_runTo 14 = .ok (.if_icmp .ge 34, 3) := by decide +kernel
theorem dX1_runTo_17 : decode cX1_runTo 17 = .ok (.iload 4, 2) := by decide +kernel
theorem dX1_runTo_19 : decode cX1_runTo 19 = .ok (.aload_n 0, 1) := by decide +kernel
theorem dX1_runTo_20 : decode cX1_runTo 20 = .ok (.aload_n 0, 1) := by decide +kernel
theorem dX1_runTo_21 : decode cX1_runTo 21 = .ok (.iload_n 1, 1) := by decide +kernel
theorem dX1_runTo_22 : decode cX1_runTo 22 = .ok (.iload 5, 2) := by decide +kernel
theorem dX1_runTo_24 : decode cX1_runTo 24 = .ok (.invokevirtual 64, 3) := by decide +kernel
theorem dX1_runTo_27 : decode cX1_runTo 27 = .ok (.invokevirtual 52, 3) := by decide +kernel
theorem dX1_runTo_30 : decode cX1_runTo 30 = .ok (.iadd, 1) := by decide +kernel
theorem dX1_runTo_31 : decode cX1_runTo 31 = .ok (.istore 4, 2) := by decide +kernel
theorem dX1_runTo_33 : decode cX1_runTo 33 = .ok (.iload 4, 2) := by decide +kernel
theorem dX1_runTo_35 : decode cX1_runTo 35 = .ok (.iload_n 3, 1) := by decide +kernel
theorem dX1_runTo_36 : decode cX1_runTo 36 = .ok (.if_icmp .ne 6, 3) := by decide +kernel
theorem dX1_runTo_39 : decode cX1_runTo 39 = .ok (.iload 5, 2) := by decide +kernel
theorem dX1_runTo_41 : decode cX1_runTo 41 = .ok (.ireturn, 1) := by decide +kernel
theorem dX1_runTo_42 : decode cX1_runTo 42 = .ok (.iinc 5 1, 3) := by decide +kernel
theorem dX1_runTo_45 : decode cX1_runTo 45 = .ok (.goto (-39), 3) := by decide +kernel
theorem dX1_runTo_48 : decode cX1_runTo 48 = .ok (.iconst (-1), 1) := by decide +kernel
theorem dX1_runTo_49 : decode cX1_runTo 49 = .ok (.ireturn, 1) := by decide +kernel
set_option maxRecDepth 20000 in
theorem ggX1_hidden_X1_isLine : GoodIn wsX1_hidden wsX1_isLine := goodIn_r _ [7, 8, 9, 10, 6, 11, 40, 41, 42, 43, 44, 45] (by decide +kernel) (by decide +kernel)
set_option maxRecDepth 20000 in
theorem gX1_hidden_X1_isLine : GoodIn wsX1_hidden (wsV RX1 58 RX1 yX1_isLine wsX1_isLine) := goodIn_app (goodIn_of _ (by decide +kernel)) ggX1_hidden_X1_isLine
set_option maxRecDepth 20000 in
theorem ggX1_hidden_X1_fail : GoodIn wsX1_hidden wsX1_fail := goodIn_r _ [15, 1, 40, 41, 42, 43, 44, 45] (by decide +kernel) (by decide +kernel)
set_option maxRecDepth 20000 in
theorem gX1_hidden_X1_fail : GoodIn wsX1_hidden (wsV RX1 31 RX1 yX1_fail wsX1_fail) := goodIn_app (goodIn_of _ (by decide +kernel)) ggX1_hidden_X1_fail
set_option maxRecDepth 20000 in
theorem ggX1_hidden_X1_runTo : GoodIn wsX1_hidden wsX1_runTo := goodIn_r _ [19, 2, 20, 21, 22, 6, 23, 24, 25, 26, 27, 28, 29, 30, 31, 32, 33, 34, 35, 36, 37, 38, 39, 40, 41, 42, 43, 44, 45] (by decide +kernel) (by decide +kernel)
set_option maxRecDepth 20000 in
theorem gX1_hidden_X1_runTo : GoodIn wsX1_hidden (wsV RX1 88 RX1 yX1_runTo wsX1_runTo) := goodIn_app (goodIn_of _ (by decide +kernel)) ggX1_hidden_X1_runTo
theorem dX1_hidden_0 : decode cX1_hidden 0 = .ok (.aload_n 0, 1) := by decide +kernel
theorem dX1_hidden_1 : decode cX1_hidden 1 = .ok (.iconst 0, 1) := by decide +kernel
theorem dX1_hidden_2 : decode cX1_hidden 2 = .ok (.putfield 20, 3) := by decide +kernel
theorem dX1_hidden_5 : decode cX1_hidden 5 = .ok (.aload_n 0, 1) := by decide +kernel
theorem dX1_hidden_6 : decode cX1_hidden 6 = .ok (.iload_n 1, 1) := by decide +kernel
theorem dX1_hidden_7 : decode cX1_hidden 7 = .ok (.invokevirtual 58, 3) := by decide +kernel
theorem dX1_hidden_10 : decode cX1_hidden 10 = .ok (.ifCond .ne 9, 3) := by decide +kernel
theorem dX1_hidden_13 : decode cX1_hidden 13 = .ok (.aload_n 0, 1) := by decide +kernel
theorem dX1_hidden_14 : decode cX1_hidden 14 = .ok (.iconst 1, 1) := by decide +kernel
theorem dX1_hidden_15 : decode cX1_hidden 15 = .ok (.invokevirtual 31, 3) := by decide +kernel
theorem dX1_hidden_18 : decode cX1_hidden 18 = .ok (.ireturn, 1) := by decide +kernel
theorem dX1_hidden_19 : decode cX1_hidden 19 = .ok (.iconst 0, 1) := by decide +kernel
theorem dX1_hidden_20 : decode cX1_hidden 20 = .ok (.istore_n 3, 1) := by decide +kernel
theorem dX1_hidden_21 : decode cX1_hidden 21 = .ok (.iload_n 3, 1) := by decide +kernel
theorem dX1_hidden_22 : decode cX1_hidden 22 = .ok (.aload_n 0, 1) := by decide +kernel
theorem dX1_hidden_23 : decode cX1_hidden 23 = .ok (.getfield 9, 3) := by decide +kernel
theorem dX1_hidden_26 : decode cX1_hidden 26 = .ok (.iload_n 1, 1) := by decide +kernel
theorem dX1_hidden_27 : decode cX1_hidden 27 = .ok (.iaload, 1) := by decide +kernel
theorem dX1_hidden_28 : decode cX1_hidden 28 = .ok (.if_icmp .ge 33, 3) := by decide +kernel
theorem dX1_hidden_31 : decode cX1_hidden 31 = .ok (.aload_n 0, 1) := by decide +kernel
theorem dX1_hidden_32 : decode cX1_hidden 32 = .ok (.iload_n 1, 1) := by decide +kernel
theorem dX1_hidden_33 : decode cX1_hidden 33 = .ok (.iload_n 3, 1) := by decide +kernel
theorem dX1_hidden_34 : decode cX1_hidden 34 = .ok (.iload_n 2, 1) := by decide +kernel
theorem dX1_hidden_35 : decode cX1_hidden 35 = .ok (.invokevirtual 88, 3) := by decide +kernel
theorem dX1_hidden_38 : decode cX1_hidden 38 = .ok (.iconst (-1), 1) := by decide +kernel
theorem dX1_hidden_39 : decode cX1_hidden 39 = .ok (.if_icmp .eq 16, 3) := by decide +kernel
theorem dX1_hidden_42 : decode cX1_hidden 42 = .ok (.bipush 10, 2) := by decide +kernel
theorem dX1_hidden_44 : decode cX1_hidden 44 = .ok (.iload_n 3, 1) := by decide +kernel
theorem dX1_hidden_45 : decode cX1_hidden 45 = .ok (.imul, 1) := by decide +kernel
theorem dX1_hidden_46 : decode cX1_hidden 46 = .ok (.aload_n 0, 1) := by decide +kernel
theorem dX1_hidden_47 : decode cX1_hidden 47 = .ok (.iload_n 1, 1) := by decide +kernel
theorem dX1_hidden_48 : decode cX1_hidden 48 = .ok (.iload_n 3, 1) := by decide +kernel
theorem dX1_hidden_49 : decode cX1_hidden 49 = .ok (.iload_n 2, 1) := by decide +kernel
theorem dX1_hidden_50 : decode cX1_hidden 50 = .ok (.invokevirtual 88, 3) := by decide +kernel
theorem dX1_hidden_53 : decode cX1_hidden 53 = .ok (.iadd, 1) := by decide +kernel
theorem dX1_hidden_54 : decode cX1_hidden 54 = .ok (.ireturn, 1) := by decide +kernel
theorem dX1_hidden_55 : decode cX1_hidden 55 = .ok (.iinc 3 1, 3) := by decide +kernel
theorem dX1_hidden_58 : decode cX1_hidden 58 = .ok (.goto (-37), 3) := by decide +kernel
theorem dX1_hidden_61 : decode cX1_hidden 61 = .ok (.iconst (-1), 1) := by decide +kernel
theorem dX1_hidden_62 : decode cX1_hidden 62 = .ok (.ireturn, 1) := by decide +kernel
set_option maxRecDepth 20000 in
theorem ggX1_hides_X1_runTo : GoodIn wsX1_hides wsX1_runTo := goodIn_r _ [8, 3, 9, 10, 11, 7, 12, 13, 14, 15, 16, 17, 18, 19, 20, 21, 22, 23, 24, 25, 26, 27, 28, 29, 30, 31, 32, 33, 34] (by decide +kernel) (by decide +kernel)
set_option maxRecDepth 20000 in
theorem gX1_hides_X1_runTo : GoodIn wsX1_hides (wsV RX1 88 RX1 yX1_runTo wsX1_runTo) := goodIn_app (goodIn_of _ (by decide +kernel)) ggX1_hides_X1_runTo
theorem dX1_hides_0 : decode cX1_hides 0 = .ok (.aload_n 0, 1) := by decide +kernel
theorem dX1_hides_1 : decode cX1_hides 1 = .ok (.iconst 0, 1) := by decide +kernel
theorem dX1_hides_2 : decode cX1_hides 2 = .ok (.putfield 20, 3) := by decide +kernel
theorem dX1_hides_5 : decode cX1_hides 5 = .ok (.iconst 0, 1) := by decide +kernel
theorem dX1_hides_6 : decode cX1_hides 6 = .ok (.istore_n 2, 1) := by decide +kernel
theorem dX1_hides_7 : decode cX1_hides 7 = .ok (.iconst 0, 1) := by decide +kernel
theorem dX1_hides_8 : decode cX1_hides 8 = .ok (.istore_n 3, 1) := by decide +kernel
theorem dX1_hides_9 : decode cX1_hides 9 = .ok (.iload_n 3, 1) := by decide +kernel
theorem dX1_hides_10 : decode cX1_hides 10 = .ok (.aload_n 0, 1) := by decide +kernel
theorem dX1_hides_11 : decode cX1_hides 11 = .ok (.getfield 24, 3) := by decide +kernel
theorem dX1_hides_14 : decode cX1_hides 14 = .ok (.if_icmp .ge 49, 3) := by decide +kernel
theorem dX1_hides_17 : decode cX1_hides 17 = .ok (.iconst 0, 1) := by decide +kernel
theorem dX1_hides_18 : decode cX1_hides 18 = .ok (.istore 4, 2) := by decide +kernel
theorem dX1_hides_20 : decode cX1_hides 20 = .ok (.iload 4, 2) := by decide +kernel
theorem dX1_hides_22 : decode cX1_hides 22 = .ok (.aload_n 0, 1) := by decide +kernel
theorem dX1_hides_23 : decode cX1_hides 23 = .ok (.getfield 9, 3) := by decide +kernel
theorem dX1_hides_26 : decode cX1_hides 26 = .ok (.iload_n 3, 1) := by decide +kernel
theorem dX1_hides_27 : decode cX1_hides 27 = .ok (.iaload, 1) := by decide +kernel
theorem dX1_hides_28 : decode cX1_hides 28 = .ok (.if_icmp .ge 29, 3) := by decide +kernel
theorem dX1_hides_31 : decode cX1_hides 31 = .ok (.iload_n 2, 1) := by decide +kernel
theorem dX1_hides_32 : decode cX1_hides 32 = .ok (.aload_n 0, 1) := by decide +kernel
theorem dX1_hides_33 : decode cX1_hides 33 = .ok (.iload_n 3, 1) := by decide +kernel
theorem dX1_hides_34 : decode cX1_hides 34 = .ok (.iload 4, 2) := by decide +kernel
theorem dX1_hides_36 : decode cX1_hides 36 = .ok (.iload_n 1, 1) := by decide +kernel
theorem dX1_hides_37 : decode cX1_hides 37 = .ok (.invokevirtual 88, 3) := by decide +kernel
theorem dX1_hides_40 : decode cX1_hides 40 = .ok (.iconst (-1), 1) := by decide +kernel
theorem dX1_hides_41 : decode cX1_hides 41 = .ok (.if_icmp .ne 7, 3) := by decide +kernel
theorem dX1_hides_44 : decode cX1_hides 44 = .ok (.iconst 0, 1) := by decide +kernel
theorem dX1_hides_45 : decode cX1_hides 45 = .ok (.goto 4, 3) := by decide +kernel
theorem dX1_hides_48 : decode cX1_hides 48 = .ok (.iconst 1, 1) := by decide +kernel
theorem dX1_hides_49 : decode cX1_hides 49 = .ok (.iadd, 1) := by decide +kernel
theorem dX1_hides_50 : decode cX1_hides 50 = .ok (.istore_n 2, 1) := by decide +kernel
theorem dX1_hides_51 : decode cX1_hides 51 = .ok (.iinc 4 1, 3) := by decide +kernel
theorem dX1_hides_54 : decode cX1_hides 54 = .ok (.goto (-34), 3) := by decide +kernel
theorem dX1_hides_57 : decode cX1_hides 57 = .ok (.iinc 3 1, 3) := by decide +kernel
theorem dX1_hides_60 : decode cX1_hides 60 = .ok (.goto (-51), 3) := by decide +kernel
theorem dX1_hides_63 : decode cX1_hides 63 = .ok (.iload_n 2, 1) := by decide +kernel
theorem dX1_hides_64 : decode cX1_hides 64 = .ok (.ireturn, 1) := by decide +kernel
set_option maxRecDepth 20000 in
theorem ggX1_lacks_X1_isLine : GoodIn wsX1_lacks wsX1_isLine := goodIn_r _ [6, 7, 8, 9, 5, 10, 49, 50, 51, 52, 53, 54] (by decide +kernel) (by decide +kernel)
set_option maxRecDepth 20000 in
theorem gX1_lacks_X1_isLine : GoodIn wsX1_lacks (wsV RX1 58 RX1 yX1_isLine wsX1_isLine) := goodIn_app (goodIn_of _ (by decide +kernel)) ggX1_lacks_X1_isLine
set_option maxRecDepth 20000 in
theorem ggX1_lacks_X1_fail : GoodIn wsX1_lacks wsX1_fail := goodIn_r _ [14, 1, 49, 50, 51, 52, 53, 54] (by decide +kernel) (by decide +kernel)
set_option maxRecDepth 20000 in
theorem gX1_lacks_X1_fail : GoodIn wsX1_lacks (wsV RX1 31 RX1 yX1_fail wsX1_fail) := goodIn_app (goodIn_of _ (by decide +kernel)) ggX1_lacks_X1_fail
set_option maxRecDepth 20000 in
theorem ggX1_lacks_X1_lineTold : GoodIn wsX1_lacks wsX1_lineTold := goodIn_r _ [18, 19, 20, 21, 22, 5, 23, 24, 25, 26, 27, 28, 29, 30, 31, 32, 33, 34, 35, 36, 37, 38, 39, 40, 41, 42, 43, 44, 45, 46, 47, 48, 49, 50, 51, 52, 53, 54] (by decide +kernel) (by decide +kernel)
set_option maxRecDepth 20000 in
theorem gX1_lacks_X1_lineTold : GoodIn wsX1_lacks (wsV RX1 75 RX1 yX1_lineTold wsX1_lineTold) := goodIn_app (goodIn_of _ (by decide +kernel)) ggX1_lacks_X1_lineTold
set_option maxRecDepth 20000 in
theorem ggX1_lacks_X1_valueOf : GoodIn wsX1_lacks wsX1_valueOf := goodIn_r _ [43, 44, 49, 50, 51, 52, 53, 54] (by decide +kernel) (by decide +kernel)
set_option maxRecDepth 20000 in
theorem gX1_lacks_X1_valueOf : GoodIn wsX1_lacks (wsV RX1 38 RX1 yX1_valueOf wsX1_valueOf) := goodIn_app (goodIn_of _ (by decide +kernel)) ggX1_lacks_X1_valueOf
theorem dX1_lacks_0 : decode cX1_lacks 0 = .ok (.aload_n 0, 1) := by decide +kernel
theorem dX1_lacks_1 : decode cX1_lacks 1 = .ok (.iconst 0, 1) := by decide +kernel
theorem dX1_lacks_2 : decode cX1_lacks 2 = .ok (.putfield 20, 3) := by decide +kernel
theorem dX1_lacks_5 : decode cX1_lacks 5 = .ok (.aload_n 0, 1) := by decide +kernel
theorem dX1_lacks_6 : decode cX1_lacks 6 = .ok (.iload_n 1, 1) := by decide +kernel
theorem dX1_lacks_7 : decode cX1_lacks 7 = .ok (.invokevirtual 58, 3) := by decide +kernel
theorem dX1_lacks_10 : decode cX1_lacks 10 = .ok (.ifCond .ne 9, 3) := by decide +kernel
theorem dX1_lacks_13 : decode cX1_lacks 13 = .ok (.aload_n 0, 1) := by decide +kernel
theorem dX1_lacks_14 : decode cX1_lacks 14 = .ok (.iconst 1, 1) := by decide +kernel
theorem dX1_lacks_15 : decode cX1_lacks 15 = .ok (.invokevirtual 31, 3) := by decide +kernel
theorem dX1_lacks_18 : decode cX1_lacks 18 = .ok (.ireturn, 1) := by decide +kernel
theorem dX1_lacks_19 : decode cX1_lacks 19 = .ok (.iconst 1, 1) := by decide +kernel
theorem dX1_lacks_20 : decode cX1_lacks 20 = .ok (.istore_n 3, 1) := by decide +kernel
theorem dX1_lacks_21 : decode cX1_lacks 21 = .ok (.iload_n 3, 1) := by decide +kernel
theorem dX1_lacks_22 : decode cX1_lacks 22 = .ok (.bipush 26, 2) := by decide +kernel
theorem dX1_lacks_24 : decode cX1_lacks 24 = .ok (.if_icmp .gt 27, 3) := by decide +kernel
theorem dX1_lacks_27 : decode cX1_lacks 27 = .ok (.aload_n 0, 1) := by decide +kernel
theorem dX1_lacks_28 : decode cX1_lacks 28 = .ok (.iload_n 1, 1) := by decide +kernel
theorem dX1_lacks_29 : decode cX1_lacks 29 = .ok (.iconst 2, 1) := by decide +kernel
theorem dX1_lacks_30 : decode cX1_lacks 30 = .ok (.invokevirtual 75, 3) := by decide +kernel
theorem dX1_lacks_33 : decode cX1_lacks 33 = .ok (.aload_n 0, 1) := by decide +kernel
theorem dX1_lacks_34 : decode cX1_lacks 34 = .ok (.iload_n 3, 1) := by decide +kernel
theorem dX1_lacks_35 : decode cX1_lacks 35 = .ok (.invokevirtual 38, 3) := by decide +kernel
theorem dX1_lacks_38 : decode cX1_lacks 38 = .ok (.iadd, 1) := by decide +kernel
theorem dX1_lacks_39 : decode cX1_lacks 39 = .ok (.iload_n 2, 1) := by decide +kernel
theorem dX1_lacks_40 : decode cX1_lacks 40 = .ok (.if_icmp .ne 5, 3) := by decide +kernel
theorem dX1_lacks_43 : decode cX1_lacks 43 = .ok (.iload_n 3, 1) := by decide +kernel
theorem dX1_lacks_44 : decode cX1_lacks 44 = .ok (.ireturn, 1) := by decide +kernel
theorem dX1_lacks_45 : decode cX1_lacks 45 = .ok (.iinc 3 1, 3) := by decide +kernel
theorem dX1_lacks_48 : decode cX1_lacks 48 = .ok (.goto (-27), 3) := by decide +kernel
theorem dX1_lacks_51 : decode cX1_lacks 51 = .ok (.iconst (-1), 1) := by decide +kernel
theorem dX1_lacks_52 : decode cX1_lacks 52 = .ok (.ireturn, 1) := by decide +kernel
set_option maxRecDepth 20000 in
theorem ggX1_nearest_X1_lineTold : GoodIn wsX1_nearest wsX1_lineTold := goodIn_r _ [11, 12, 13, 14, 15, 10, 16, 17, 18, 19, 20, 21, 22, 23, 24, 25, 26, 27, 28, 29, 30, 31, 32, 33, 34, 35, 36, 37, 38, 39, 40, 41, 42, 43, 44, 45, 46, 47] (by decide +kernel) (by decide +kernel)
set_option maxRecDepth 20000 in
theorem gX1_nearest_X1_lineTold : GoodIn wsX1_nearest (wsV RX1 75 RX1 yX1_lineTold wsX1_lineTold) := goodIn_app (goodIn_of _ (by decide +kernel)) ggX1_nearest_X1_lineTold
theorem dX1_nearest_0 : decode cX1_nearest 0 = .ok (.aload_n 0, 1) := by decide +kernel
theorem dX1_nearest_1 : decode cX1_nearest 1 = .ok (.iconst 0, 1) := by decide +kernel
theorem dX1_nearest_2 : decode cX1_nearest 2 = .ok (.putfield 20, 3) := by decide +kernel
theorem dX1_nearest_5 : decode cX1_nearest 5 = .ok (.iconst (-1), 1) := by decide +kernel
theorem dX1_nearest_6 : decode cX1_nearest 6 = .ok (.istore_n 2, 1) := by decide +kernel
theorem dX1_nearest_7 : decode cX1_nearest 7 = .ok (.iconst 0, 1) := by decide +kernel
theorem dX1_nearest_8 : decode cX1_nearest 8 = .ok (.istore_n 3, 1) := by decide +kernel
theorem dX1_nearest_9 : decode cX1_nearest 9 = .ok (.iload_n 3, 1) := by decide +kernel
theorem dX1_nearest_10 : decode cX1_nearest 10 = .ok (.aload_n 0, 1) := by decide +kernel
theorem dX1_nearest_11 : decode cX1_nearest 11 = .ok (.getfield 24, 3) := by decide +kernel
theorem dX1_nearest_14 : decode cX1_nearest 14 = .ok (.if_icmp .ge 46, 3) := by decide +kernel
theorem dX1_nearest_17 : decode cX1_nearest 17 = .ok (.iload_n 2, 1) := by decide +kernel
theorem dX1_nearest_18 : decode cX1_nearest 18 = .ok (.iconst (-1), 1) := by decide +kernel
theorem dX1_nearest_19 : decode cX1_nearest 19 = .ok (.if_icmp .eq 33, 3) := by decide +kernel
theorem dX1_nearest_22 : decode cX1_nearest 22 = .ok (.aload_n 0, 1) := by decide +kernel
theorem dX1_nearest_23 : decode cX1_nearest 23 = .ok (.iload_n 3, 1) := by decide +kernel
theorem dX1_nearest_24 : decode cX1_nearest 24 = .ok (.iconst 2, 1) := by decide +kernel
theorem dX1_nearest_25 : decode cX1_nearest 25 = .ok (.invokevirtual 75, 3) := by decide +kernel
theorem dX1_nearest_28 : decode cX1_nearest 28 = .ok (.i2l, 1) := by decide +kernel
theorem dX1_nearest_29 : decode cX1_nearest 29 = .ok (.iload_n 1, 1) := by decide +kernel
theorem dX1_nearest_30 : decode cX1_nearest 30 = .ok (.i2l, 1) := by decide +kernel
theorem dX1_nearest_31 : decode cX1_nearest 31 = .ok (.lsub, 1) := by decide +kernel
theorem dX1_nearest_32 : decode cX1_nearest 32 = .ok (.invokestatic 91, 3) := by decide +kernel
theorem dX1_nearest_35 : decode cX1_nearest 35 = .ok (.aload_n 0, 1) := by decide +kernel
theorem dX1_nearest_36 : decode cX1_nearest 36 = .ok (.iload_n 2, 1) := by decide +kernel
theorem dX1_nearest_37 : decode cX1_nearest 37 = .ok (.iconst 2, 1) := by decide +kernel
theorem dX1_nearest_38 : decode cX1_nearest 38 = .ok (.invokevirtual 75, 3) := by decide +kernel
theorem dX1_nearest_41 : decode cX1_nearest 41 = .ok (.i2l, 1) := by decide +kernel
theorem dX1_nearest_42 : decode cX1_nearest 42 = .ok (.iload_n 1, 1) := by decide +kernel
theorem dX1_nearest_43 : decode cX1_nearest 43 = .ok (.i2l, 1) := by decide +kernel
theorem dX1_nearest_44 : decode cX1_nearest 44 = .ok (.lsub, 1) := by decide +kernel
theorem dX1_nearest_45 : decode cX1_nearest 45 = .ok (.invokestatic 91, 3) := by decide +kernel
theorem dX1_nearest_48 : decode cX1_nearest 48 = .ok (.lcmp, 1) := by decide +kernel
theorem dX1_nearest_49 : decode cX1_nearest 49 = .ok (.ifCond .ge 5, 3) := by decide +kernel
theorem dX1_nearest_52 : decode cX1_nearest 52 = .ok (.iload_n 3, 1) := by decide +kernel
theorem dX1_nearest_53 : decode cX1_nearest 53 = .ok (.istore_n 2, 1) := by decide +kernel
theorem dX1_nearest_54 : decode cX1_nearest 54 = .ok (.iinc 3 1, 3) := by decide +kernel
theorem dX1_nearest_57 : decode cX1_nearest 57 = .ok (.goto (-48), 3) := by decide +kernel
theorem dX1_nearest_60 : decode cX1_nearest 60 = .ok (.iload_n 2, 1) := by decide +kernel
theorem dX1_nearest_61 : decode cX1_nearest 61 = .ok (.ireturn, 1) := by decide +kernel
set_option maxRecDepth 20000 in
theorem ggX1_fewest_X1_valueOf : GoodIn wsX1_fewest wsX1_valueOf := goodIn_r _ [10, 11, 12, 13, 14, 15, 16, 17] (by decide +kernel) (by decide +kernel)
set_option maxRecDepth 20000 in
theorem gX1_fewest_X1_valueOf : GoodIn wsX1_fewest (wsV RX1 38 RX1 yX1_valueOf wsX1_valueOf) := goodIn_app (goodIn_of _ (by decide +kernel)) ggX1_fewest_X1_valueOf
theorem dX1_fewest_0 : decode cX1_fewest 0 = .ok (.iload_n 1, 1) := by decide +kernel
theorem dX1_fewest_1 : decode cX1_fewest 1 = .ok (.iconst 1, 1) := by decide +kernel
theorem dX1_fewest_2 : decode cX1_fewest 2 = .ok (.iadd, 1) := by decide +kernel
theorem dX1_fewest_3 : decode cX1_fewest 3 = .ok (.newarray .int, 2) := by decide +kernel
theorem dX1_fewest_5 : decode cX1_fewest 5 = .ok (.astore_n 2, 1) := by decide +kernel
theorem dX1_fewest_6 : decode cX1_fewest 6 = .ok (.iconst 1, 1) := by decide +kernel
theorem dX1_fewest_7 : decode cX1_fewest 7 = .ok (.istore_n 3, 1) := by decide +kernel
theorem dX1_fewest_8 : decode cX1_fewest 8 = .ok (.iload_n 3, 1) := by decide +kernel
theorem dX1_fewest_9 : decode cX1_fewest 9 = .ok (.iload_n 1, 1) := by decide +kernel
theorem dX1_fewest_10 : decode cX1_fewest 10 = .ok (.if_icmp .gt 62, 3) := by decide +kernel
theorem dX1_fewest_13 : decode cX1_fewest 13 = .ok (.aload_n 2, 1) := by decide +kernel
theorem dX1_fewest_14 : decode cX1_fewest 14 = .ok (.iload_n 3, 1) := by decide +kernel
theorem dX1_fewest_15 : decode cX1_fewest 15 = .ok (.sipush 9999, 3) := by decide +kernel
theorem dX1_fewest_18 : decode cX1_fewest 18 = .ok (.iastore, 1) := by decide +kernel
theorem dX1_fewest_19 : decode cX1_fewest 19 = .ok (.iconst 1, 1) := by decide +kernel
theorem dX1_fewest_20 : decode cX1_fewest 20 = .ok (.istore 4, 2) := by decide +kernel
theorem dX1_fewest_22 : decode cX1_fewest 22 = .ok (.iload 4, 2) := by decide +kernel
theorem dX1_fewest_24 : decode cX1_fewest 24 = .ok (.bipush 26, 2) := by decide +kernel
theorem dX1_fewest_26 : decode cX1_fewest 26 = .ok (.if_icmp .gt 40, 3) := by decide +kernel
theorem dX1_fewest_29 : decode cX1_fewest 29 = .ok (.aload_n 0, 1) := by decide +kernel
theorem dX1_fewest_30 : decode cX1_fewest 30 = .ok (.iload 4, 2) := by decide +kernel
theorem dX1_fewest_32 : decode cX1_fewest 32 = .ok (.invokevirtual 38, 3) := by decide +kernel
theorem dX1_fewest_35 : decode cX1_fewest 35 = .ok (.iload_n 3, 1) := by decide +kernel
theorem dX1_fewest_36 : decode cX1_fewest 36 = .ok (.if_icmp .gt 24, 3) := by decide +kernel
theorem dX1_fewest_39 : decode cX1_fewest 39 = .ok (.aload_n 2, 1) := by decide +kernel
theorem dX1_fewest_40 : decode cX1_fewest 40 = .ok (.iload_n 3, 1) := by decide +kernel
theorem dX1_fewest_41 : decode cX1_fewest 41 = .ok (.aload_n 2, 1) := by decide +kernel
theorem dX1_fewest_42 : decode cX1_fewest 42 = .ok (.iload_n 3, 1) := by decide +kernel
theorem dX1_fewest_43 : decode cX1_fewest 43 = .ok (.iaload, 1) := by decide +kernel
theorem dX1_fewest_44 : decode cX1_fewest 44 = .ok (.aload_n 2, 1) := by decide +kernel
theorem dX1_fewest_45 : decode cX1_fewest 45 = .ok (.iload_n 3, 1) := by decide +kernel
theorem dX1_fewest_46 : decode cX1_fewest 46 = .ok (.aload_n 0, 1) := by decide +kernel
theorem dX1_fewest_47 : decode cX1_fewest 47 = .ok (.iload 4, 2) := by decide +kernel
theorem dX1_fewest_49 : decode cX1_fewest 49 = .ok (.invokevirtual 38, 3) := by decide +kernel
theorem dX1_fewest_52 : decode cX1_fewest 52 = .ok (.isub, 1) := by decide +kernel
theorem dX1_fewest_53 : decode cX1_fewest 53 = .ok (.iaload, 1) := by decide +kernel
theorem dX1_fewest_54 : decode cX1_fewest 54 = .ok (.iconst 1, 1) := by decide +kernel
theorem dX1_fewest_55 : decode cX1_fewest 55 = .ok (.iadd, 1) := by decide +kernel
theorem dX1_fewest_56 : decode cX1_fewest 56 = .ok (.invokestatic 97, 3) := by decide +kernel
theorem dX1_fewest_59 : decode cX1_fewest 59 = .ok (.iastore, 1) := by decide +kernel
theorem dX1_fewest_60 : decode cX1_fewest 60 = .ok (.iinc 4 1, 3) := by decide +kernel
theorem dX1_fewest_63 : decode cX1_fewest 63 = .ok (.goto (-41), 3) := by decide +kernel
theorem dX1_fewest_66 : decode cX1_fewest 66 = .ok (.iinc 3 1, 3) := by decide +kernel
theorem dX1_fewest_69 : decode cX1_fewest 69 = .ok (.goto (-61), 3) := by decide +kernel
theorem dX1_fewest_72 : decode cX1_fewest 72 = .ok (.aload_n 2, 1) := by decide +kernel
theorem dX1_fewest_73 : decode cX1_fewest 73 = .ok (.areturn, 1) := by decide +kernel
set_option maxRecDepth 20000 in
theorem ggX1_letters_X1_isIn : GoodIn wsX1_letters wsX1_isIn := goodIn_r _ [5] (by decide +kernel) (by decide +kernel)
set_option maxRecDepth 20000 in
theorem gX1_letters_X1_isIn : GoodIn wsX1_letters (va_wsS RX1 27 yX1_isIn wsX1_isIn) := goodIn_app (goodIn_of _ (by decide +kernel)) ggX1_letters_X1_isIn
set_option maxRecDepth 20000 in
theorem ggX1_letters_X1_fail : GoodIn wsX1_letters wsX1_fail := goodIn_r _ [9, 1, 24, 25, 26, 27, 28, 29] (by decide +kernel) (by decide +kernel)
set_option maxRecDepth 20000 in
theorem gX1_letters_X1_fail : GoodIn wsX1_letters (wsV RX1 31 RX1 yX1_fail wsX1_fail) := goodIn_app (goodIn_of _ (by decide +kernel)) ggX1_letters_X1_fail
set_option maxRecDepth 20000 in
theorem ggX1_letters_X1_fewest : GoodIn wsX1_letters wsX1_fewest := goodIn_r _ [13, 14, 15, 16, 17, 18, 19, 20, 21, 4, 22, 23, 24, 25, 26, 27, 28, 29] (by decide +kernel) (by decide +kernel)
set_option maxRecDepth 20000 in
theorem gX1_letters_X1_fewest : GoodIn wsX1_letters (wsV RX1 100 RX1 yX1_fewest wsX1_fewest) := goodIn_app (goodIn_of _ (by decide +kernel)) ggX1_letters_X1_fewest
theorem dX1_letters_0 : decode cX1_letters 0 = .ok (.aload_n 0, 1) := by decide +kernel
theorem dX1_letters_1 : decode cX1_letters 1 = .ok (.iconst 0, 1) := by decide +kernel
theorem dX1_letters_2 : decode cX1_letters 2 = .ok (.putfield 20, 3) := by decide +kernel
theorem dX1_letters_5 : decode cX1_letters 5 = .ok (.iload_n 1, 1) := by decide +kernel
theorem dX1_letters_6 : decode cX1_letters 6 = .ok (.iconst 1, 1) := by decide +kernel
theorem dX1_letters_7 : decode cX1_letters 7 = .ok (.sipush 3000, 3) := by decide +kernel
theorem dX1_letters_10 : decode cX1_letters 10 = .ok (.invokestatic 27, 3) := by decide +kernel
theorem dX1_letters_13 : decode cX1_letters 13 = .ok (.ifCond .ne 9, 3) := by decide +kernel
theorem dX1_letters_16 : decode cX1_letters 16 = .ok (.aload_n 0, 1) := by decide +kernel
theorem dX1_letters_17 : decode cX1_letters 17 = .ok (.iconst 1, 1) := by decide +kernel
theorem dX1_letters_18 : decode cX1_letters 18 = .ok (.invokevirtual 31, 3) := by decide +kernel
theorem dX1_letters_21 : decode cX1_letters 21 = .ok (.ireturn, 1) := by decide +kernel
theorem dX1_letters_22 : decode cX1_letters 22 = .ok (.aload_n 0, 1) := by decide +kernel
theorem dX1_letters_23 : decode cX1_letters 23 = .ok (.iload_n 1, 1) := by decide +kernel
theorem dX1_letters_24 : decode cX1_letters 24 = .ok (.invokevirtual 100, 3) := by decide +kernel
theorem dX1_letters_27 : decode cX1_letters 27 = .ok (.iload_n 1, 1) := by decide +kernel
theorem dX1_letters_28 : decode cX1_letters 28 = .ok (.iaload, 1) := by decide +kernel
theorem dX1_letters_29 : decode cX1_letters 29 = .ok (.istore_n 2, 1) := by decide +kernel
theorem dX1_letters_30 : decode cX1_letters 30 = .ok (.iload_n 2, 1) := by decide +kernel
theorem dX1_letters_31 : decode cX1_letters 31 = .ok (.sipush 9999, 3) := by decide +kernel
theorem dX1_letters_34 : decode cX1_letters 34 = .ok (.if_icmp .lt 7, 3) := by decide +kernel
theorem dX1_letters_37 : decode cX1_letters 37 = .ok (.iconst (-1), 1) := by decide +kernel
theorem dX1_letters_38 : decode cX1_letters 38 = .ok (.goto 4, 3) := by decide +kernel
theorem dX1_letters_41 : decode cX1_letters 41 = .ok (.iload_n 2, 1) := by decide +kernel
theorem dX1_letters_42 : decode cX1_letters 42 = .ok (.ireturn, 1) := by decide +kernel
set_option maxRecDepth 20000 in
theorem ggX1_spell_X1_isIn : GoodIn wsX1_spell wsX1_isIn := goodIn_r _ [5] (by decide +kernel) (by decide +kernel)
set_option maxRecDepth 20000 in
theorem gX1_spell_X1_isIn : GoodIn wsX1_spell (va_wsS RX1 27 yX1_isIn wsX1_isIn) := goodIn_app (goodIn_of _ (by decide +kernel)) ggX1_spell_X1_isIn
set_option maxRecDepth 20000 in
theorem ggX1_spell_X1_fail : GoodIn wsX1_spell wsX1_fail := goodIn_r _ [9, 1, 24, 25, 26, 27, 28, 29] (by decide +kernel) (by decide +kernel)
set_option maxRecDepth 20000 in
theorem gX1_spell_X1_fail : GoodIn wsX1_spell (wsV RX1 31 RX1 yX1_fail wsX1_fail) := goodIn_app (goodIn_of _ (by decide +kernel)) ggX1_spell_X1_fail
set_option maxRecDepth 20000 in
theorem ggX1_spell_X1_fewest : GoodIn wsX1_spell wsX1_fewest := goodIn_r _ [13, 14, 15, 16, 17, 18, 19, 20, 21, 4, 22, 23, 24, 25, 26, 27, 28, 29] (by decide +kernel) (by decide +kernel)
set_option maxRecDepth 20000 in
theorem gX1_spell_X1_fewest : GoodIn wsX1_spell (wsV RX1 100 RX1 yX1_fewest wsX1_fewest) := goodIn_app (goodIn_of _ (by decide +kernel)) ggX1_spell_X1_fewest
set_option maxRecDepth 20000 in
theorem ggX1_spell_X1_valueOf : GoodIn wsX1_spell wsX1_valueOf := goodIn_r _ [22, 23, 24, 25, 26, 27, 28, 29] (by decide +kernel) (by decide +kernel)
set_option maxRecDepth 20000 in
theorem gX1_spell_X1_valueOf : GoodIn wsX1_spell (wsV RX1 38 RX1 yX1_valueOf wsX1_valueOf) := goodIn_app (goodIn_of _ (by decide +kernel)) ggX1_spell_X1_valueOf
theorem dX1_spell_0 : decode cX1_spell 0 = .ok (.aload_n 0, 1) := by decide +kernel
theorem dX1_spell_1 : decode cX1_spell 1 = .ok (.iconst 0, 1) := by decide +kernel
theorem dX1_spell_2 : decode cX1_spell 2 = .ok (.putfield 20, 3) := by decide +kernel
theorem dX1_spell_5 : decode cX1_spell 5 = .ok (.iload_n 1, 1) := by decide +kernel
theorem dX1_spell_6 : decode cX1_spell 6 = .ok (.iconst 1, 1) := by decide +kernel
theorem dX1_spell_7 : decode cX1_spell 7 = .ok (.sipush 3000, 3) := by decide +kernel
theorem dX1_spell_10 : decode cX1_spell 10 = .ok (.invokestatic 27, 3) := by decide +kernel
theorem dX1_spell_13 : decode cX1_spell 13 = .ok (.ifCond .ne 9, 3) := by decide +kernel
theorem dX1_spell_16 : decode cX1_spell 16 = .ok (.aload_n 0, 1) := by decide +kernel
theorem dX1_spell_17 : decode cX1_spell 17 = .ok (.iconst 1, 1) := by decide +kernel
theorem dX1_spell_18 : decode cX1_spell 18 = .ok (.invokevirtual 31, 3) := by decide +kernel
theorem dX1_spell_21 : decode cX1_spell 21 = .ok (.ireturn, 1) := by decide +kernel
theorem dX1_spell_22 : decode cX1_spell 22 = .ok (.iload_n 2, 1) := by decide +kernel
theorem dX1_spell_23 : decode cX1_spell 23 = .ok (.ifCond .ge 9, 3) := by decide +kernel
theorem dX1_spell_26 : decode cX1_spell 26 = .ok (.aload_n 0, 1) := by decide +kernel
theorem dX1_spell_27 : decode cX1_spell 27 = .ok (.iconst 2, 1) := by decide +kernel
theorem dX1_spell_28 : decode cX1_spell 28 = .ok (.invokevirtual 31, 3) := by decide +kernel
theorem dX1_spell_31 : decode cX1_spell 31 = .ok (.ireturn, 1) := by decide +kernel
theorem dX1_spell_32 : decode cX1_spell 32 = .ok (.aload_n 0, 1) := by decide +kernel
theorem dX1_spell_33 : decode cX1_spell 33 = .ok (.iload_n 1, 1) := by decide +kernel
theorem dX1_spell_34 : decode cX1_spell 34 = .ok (.invokevirtual 100, 3) := by decide +kernel
theorem dX1_spell_37 : decode cX1_spell 37 = .ok (.astore_n 3, 1) := by decide +kernel
theorem dX1_spell_38 : decode cX1_spell 38 = .ok (.aload_n 3, 1) := by decide +kernel
theorem dX1_spell_39 : decode cX1_spell 39 = .ok (.iload_n 1, 1) := by decide +kernel
theorem dX1_spell_40 : decode cX1_spell 40 = .ok (.iaload, 1) := by decide +kernel
theorem dX1_spell_41 : decode cX1_spell 41 = .ok (.sipush 9999, 3) := by decide +kernel
theorem dX1_spell_44 : decode cX1_spell 44 = .ok (.if_icmp .ge 10, 3) := by decide +kernel
theorem dX1_spell_47 : decode cX1_spell 47 = .ok (.iload_n 2, 1) := by decide +kernel
theorem dX1_spell_48 : decode cX1_spell 48 = .ok (.aload_n 3, 1) := by decide +kernel
theorem dX1_spell_49 : decode cX1_spell 49 = .ok (.iload_n 1, 1) := by decide +kernel
theorem dX1_spell_50 : decode cX1_spell 50 = .ok (.iaload, 1) := by decide +kernel
theorem dX1_spell_51 : decode cX1_spell 51 = .ok (.if_icmp .lt 5, 3) := by decide +kernel
theorem dX1_spell_54 : decode cX1_spell 54 = .ok (.iconst 0, 1) := by decide +kernel
theorem dX1_spell_55 : decode cX1_spell 55 = .ok (.ireturn, 1) := by decide +kernel
theorem dX1_spell_56 : decode cX1_spell 56 = .ok (.iload_n 1, 1) := by decide +kernel
theorem dX1_spell_57 : decode cX1_spell 57 = .ok (.istore 4, 2) := by decide +kernel
theorem dX1_spell_59 : decode cX1_spell 59 = .ok (.iconst 0, 1) := by decide +kernel
theorem dX1_spell_60 : decode cX1_spell 60 = .ok (.istore 5, 2) := by decide +kernel
theorem dX1_spell_62 : decode cX1_spell 62 = .ok (.iconst 0, 1) := by decide +kernel
theorem dX1_spell_63 : decode cX1_spell 63 = .ok (.istore 6, 2) := by decide +kernel
theorem dX1_spell_65 : decode cX1_spell 65 = .ok (.iload 6, 2) := by decide +kernel
theorem dX1_spell_67 : decode cX1_spell 67 = .ok (.iload_n 2, 1) := by decide +kernel
theorem dX1_spell_68 : decode cX1_spell 68 = .ok (.if_icmp .gt 61, 3) := by decide +kernel
theorem dX1_spell_71 : decode cX1_spell 71 = .ok (.bipush 26, 2) := by decide +kernel
theorem dX1_spell_73 : decode cX1_spell 73 = .ok (.istore 5, 2) := by decide +kernel
theorem dX1_spell_75 : decode cX1_spell 75 = .ok (.aload_n 0, 1) := by decide +kernel
theorem dX1_spell_76 : decode cX1_spell 76 = .ok (.iload 5, 2) := by decide +kernel
theorem dX1_spell_78 : decode cX1_spell 78 = .ok (.invokevirtual 38, 3) := by decide +kernel
theorem dX1_spell_81 : decode cX1_spell 81 = .ok (.iload 4, 2) := by decide +kernel
theorem dX1_spell_83 : decode cX1_spell 83 = .ok (.if_icmp .gt 23, 3) := by decide +kernel
theorem dX1_spell_86 : decode cX1_spell 86 = .ok (.aload_n 3, 1) := by decide +kernel
theorem dX1_spell_87 : decode cX1_spell 87 = .ok (.iload 4, 2) := by decide +kernel
theorem dX1_spell_89 : decode cX1_spell 89 = .ok (.aload_n 0, 1) := by decide +kernel
theorem dX1_spell_90 : decode cX1_spell 90 = .ok (.iload 5, 2) := by decide +kernel
theorem dX1_spell_92 : decode cX1_spell 92 = .ok (.invokevirtual 38, 3) := by decide +kernel
theorem dX1_spell_95 : decode cX1_spell 95 = .ok (.isub, 1) := by decide +kernel
theorem dX1_spell_96 : decode cX1_spell 96 = .ok (.iaload, 1) := by decide +kernel
theorem dX1_spell_97 : decode cX1_spell 97 = .ok (.iconst 1, 1) := by decide +kernel
theorem dX1_spell_98 : decode cX1_spell 98 = .ok (.iadd, 1) := by decide +kernel
theorem dX1_spell_99 : decode cX1_spell 99 = .ok (.aload_n 3, 1) := by decide +kernel
theorem dX1_spell_100 : decode cX1_spell 100 = .ok (.iload 4, 2) := by decide +kernel
theorem dX1_spell_102 : decode cX1_spell 102 = .ok (.iaload, 1) := by decide +kernel
theorem dX1_spell_103 : decode cX1_spell 103 = .ok (.if_icmp .eq 9, 3) := by decide +kernel
theorem dX1_spell_106 : decode cX1_spell 106 = .ok (.iinc 5 (-1), 3) := by decide +kernel
theorem dX1_spell_109 : decode cX1_spell 109 = .ok (.goto (-34), 3) := by decide +kernel
theorem dX1_spell_112 : decode cX1_spell 112 = .ok (.iload 4, 2) := by decide +kernel
theorem dX1_spell_114 : decode cX1_spell 114 = .ok (.aload_n 0, 1) := by decide +kernel
theorem dX1_spell_115 : decode cX1_spell 115 = .ok (.iload 5, 2) := by decide +kernel
theorem dX1_spell_117 : decode cX1_spell 117 = .ok (.invokevirtual 38, 3) := by decide +kernel
theorem dX1_spell_120 : decode cX1_spell 120 = .ok (.isub, 1) := by decide +kernel
theorem dX1_spell_121 : decode cX1_spell 121 = .ok (.istore 4, 2) := by decide +kernel
theorem dX1_spell_123 : decode cX1_spell 123 = .ok (.iinc 6 1, 3) := by decide +kernel
theorem dX1_spell_126 : decode cX1_spell 126 = .ok (.goto (-61), 3) := by decide +kernel
theorem dX1_spell_129 : decode cX1_spell 129 = .ok (.iload 5, 2) := by decide +kernel
theorem dX1_spell_131 : decode cX1_spell 131 = .ok (.ireturn, 1) := by decide +kernel
set_option maxRecDepth 20000 in
theorem ggX1_mean_X1_all : GoodIn wsX1_mean wsX1_all := goodIn_r _ [6, 7, 8, 9, 10, 5, 11, 12, 13, 14, 15, 16, 17, 18, 19, 20, 21, 22, 23, 24, 25, 26, 27, 28, 29, 30, 31, 32, 33, 34, 35, 36, 37, 38, 39, 40, 41, 42, 43, 44, 45, 46, 47] (by decide +kernel) (by decide +kernel)
set_option maxRecDepth 20000 in
theorem gX1_mean_X1_all : GoodIn wsX1_mean (wsV RX1 82 RX1 yX1_all wsX1_all) := goodIn_app (goodIn_of _ (by decide +kernel)) ggX1_mean_X1_all
theorem dX1_mean_0 : decode cX1_mean 0 = .ok (.aload_n 0, 1) := by decide +kernel
theorem dX1_mean_1 : decode cX1_mean 1 = .ok (.iconst 0, 1) := by decide +kernel
theorem dX1_mean_2 : decode cX1_mean 2 = .ok (.putfield 20, 3) := by decide +kernel
theorem dX1_mean_5 : decode cX1_mean 5 = .ok (.aload_n 0, 1) := by decide +kernel
theorem dX1_mean_6 : decode cX1_mean 6 = .ok (.iconst 0, 1) := by decide +kernel
theorem dX1_mean_7 : decode cX1_mean 7 = .ok (.invokevirtual 82, 3) := by decide +kernel
theorem dX1_mean_10 : decode cX1_mean 10 = .ok (.ifCond .ne 7, 3) := by decide +kernel
theorem dX1_mean_13 : decode cX1_mean 13 = .ok (.dconst 0, 1) := by decide +kernel
theorem dX1_mean_14 : decode cX1_mean 14 = .ok (.goto 16, 3) := by decide +kernel
theorem dX1_mean_17 : decode cX1_mean 17 = .ok (.aload_n 0, 1) := by decide +kernel
theorem dX1_mean_18 : decode cX1_mean 18 = .ok (.iconst 2, 1) := by decide +kernel
theorem dX1_mean_19 : decode cX1_mean 19 = .ok (.invokevirtual 82, 3) := by decide +kernel
theorem dX1_mean_22 : decode cX1_mean 22 = .ok (.i2d, 1) := by decide +kernel
theorem dX1_mean_23 : decode cX1_mean 23 = .ok (.aload_n 0, 1) := by decide +kernel
theorem dX1_mean_24 : decode cX1_mean 24 = .ok (.iconst 0, 1) := by decide +kernel
theorem dX1_mean_25 : decode cX1_mean 25 = .ok (.invokevirtual 82, 3) := by decide +kernel
theorem dX1_mean_28 : decode cX1_mean 28 = .ok (.i2d, 1) := by decide +kernel
theorem dX1_mean_29 : decode cX1_mean 29 = .ok (.ddiv, 1) := by decide +kernel
theorem dX1_mean_30 : decode cX1_mean 30 = .ok (.dreturn, 1) := by decide +kernel
set_option maxRecDepth 20000 in
theorem ggX1_digest_X1_toldOf : GoodIn wsX1_digest wsX1_toldOf := goodIn_r _ [11, 5, 12, 13, 14, 10, 15, 16, 17, 18, 19, 20, 6, 21, 22, 23, 24, 25, 26, 27, 28, 29, 30, 31, 32, 33, 34, 35, 36, 37, 38, 39, 40, 41, 3, 42, 43, 44, 45, 46, 47, 48, 49, 50, 51, 52, 53, 54, 55, 56, 57, 58, 59, 60, 61, 62, 63, 64, 65, 66, 67, 68] (by decide +kernel) (by decide +kernel)
set_option maxRecDepth 20000 in
theorem gX1_digest_X1_toldOf : GoodIn wsX1_digest (wsV RX1 85 RX1 yX1_toldOf wsX1_toldOf) := goodIn_app (goodIn_of _ (by decide +kernel)) ggX1_digest_X1_toldOf
set_option maxRecDepth 20000 in
theorem ggX1_digest_X1_lineTold : GoodIn wsX1_digest wsX1_lineTold := goodIn_r _ [49, 6, 50, 51, 52, 10, 53, 54, 55, 56, 57, 58, 16, 32, 33, 34, 28, 29, 30, 31, 35, 36, 37, 38, 39, 40, 41, 3, 59, 60, 61, 62, 63, 64, 65, 66, 67, 68] (by decide +kernel) (by decide +kernel)
set_option maxRecDepth 20000 in
theorem gX1_digest_X1_lineTold : GoodIn wsX1_digest (wsV RX1 75 RX1 yX1_lineTold wsX1_lineTold) := goodIn_app (goodIn_of _ (by decide +kernel)) ggX1_digest_X1_lineTold
set_option maxRecDepth 20000 in
theorem ggX1_digest_X1_wordTold : GoodIn wsX1_digest wsX1_wordTold := goodIn_r _ [53, 54, 55, 56, 57, 10, 58, 16, 32, 33, 34, 28, 29, 30, 31, 35, 36, 37, 38, 39, 40, 41, 3, 59, 60, 61, 62, 63, 64, 65, 66, 67, 68] (by decide +kernel) (by decide +kernel)
set_option maxRecDepth 20000 in
theorem gX1_digest_X1_wordTold : GoodIn wsX1_digest (wsV RX1 71 RX1 yX1_wordTold wsX1_wordTold) := goodIn_app (goodIn_of _ (by decide +kernel)) ggX1_digest_X1_wordTold
theorem dX1_digest_0 : decode cX1_digest 0 = .ok (.aload_n 0, 1) := by decide +kernel
theorem dX1_digest_1 : decode cX1_digest 1 = .ok (.iconst 0, 1) := by decide +kernel
theorem dX1_digest_2 : decode cX1_digest 2 = .ok (.putfield 20, 3) := by decide +kernel
theorem dX1_digest_5 : decode cX1_digest 5 = .ok (.ldc2_w 104, 3) := by decide +kernel
theorem dX1_digest_8 : decode cX1_digest 8 = .ok (.aload_n 0, 1) := by decide +kernel
theorem dX1_digest_9 : decode cX1_digest 9 = .ok (.getfield 35, 3) := by decide +kernel
theorem dX1_digest_12 : decode cX1_digest 12 = .ok (.i2l, 1) := by decide +kernel
theorem dX1_digest_13 : decode cX1_digest 13 = .ok (.ladd, 1) := by decide +kernel
theorem dX1_digest_14 : decode cX1_digest 14 = .ok (.lstore_n 1, 1) := by decide +kernel
theorem dX1_digest_15 : decode cX1_digest 15 = .ok (.iconst 0, 1) := by decide +kernel
theorem dX1_digest_16 : decode cX1_digest 16 = .ok (.istore_n 3, 1) := by decide +kernel
theorem dX1_digest_17 : decode cX1_digest 17 = .ok (.iload_n 3, 1) := by decide +kernel
theorem dX1_digest_18 : decode cX1_digest 18 = .ok (.bipush 7, 2) := by decide +kernel
theorem dX1_digest_20 : decode cX1_digest 20 = .ok (.if_icmp .ge 22, 3) := by decide +kernel
theorem dX1_digest_23 : decode cX1_digest 23 = .ok (.lload_n 1, 1) := by decide +kernel
theorem dX1_digest_24 : decode cX1_digest 24 = .ok (.ldc2_w 106, 3) := by decide +kernel
theorem dX1_digest_27 : decode cX1_digest 27 = .ok (.lmul, 1) := by decide +kernel
theorem dX1_digest_28 : decode cX1_digest 28 = .ok (.aload_n 0, 1) := by decide +kernel
theorem dX1_digest_29 : decode cX1_digest 29 = .ok (.iload_n 3, 1) := by decide +kernel
theorem dX1_digest_30 : decode cX1_digest 30 = .ok (.invokevirtual 85, 3) := by decide +kernel
theorem dX1_digest_33 : decode cX1_digest 33 = .ok (.i2l, 1) := by decide +kernel
theorem dX1_digest_34 : decode cX1_digest 34 = .ok (.ladd, 1) := by decide +kernel
theorem dX1_digest_35 : decode cX1_digest 35 = .ok (.lstore_n 1, 1) := by decide +kernel
theorem dX1_digest_36 : decode cX1_digest 36 = .ok (.iinc 3 1, 3) := by decide +kernel
theorem dX1_digest_39 : decode cX1_digest 39 = .ok (.goto (-22), 3) := by decide +kernel
theorem dX1_digest_42 : decode cX1_digest 42 = .ok (.iconst 0, 1) := by decide +kernel
theorem dX1_digest_43 : decode cX1_digest 43 = .ok (.istore_n 3, 1) := by decide +kernel
theorem dX1_digest_44 : decode cX1_digest 44 = .ok (.iload_n 3, 1) := by decide +kernel
theorem dX1_digest_45 : decode cX1_digest 45 = .ok (.aload_n 0, 1) := by decide +kernel
theorem dX1_digest_46 : decode cX1_digest 46 = .ok (.getfield 24, 3) := by decide +kernel
theorem dX1_digest_49 : decode cX1_digest 49 = .ok (.if_icmp .ge 91, 3) := by decide +kernel
theorem dX1_digest_52 : decode cX1_digest 52 = .ok (.iconst 0, 1) := by decide +kernel
theorem dX1_digest_53 : decode cX1_digest 53 = .ok (.istore 4, 2) := by decide +kernel
theorem dX1_digest_55 : decode cX1_digest 55 = .ok (.iload 4, 2) := by decide +kernel
theorem dX1_digest_57 : decode cX1_digest 57 = .ok (.iconst 5, 1) := by decide +kernel
theorem dX1_digest_58 : decode cX1_digest 58 = .ok (.if_icmp .ge 24, 3) := by decide +kernel
theorem dX1_digest_61 : decode cX1_digest 61 = .ok (.lload_n 1, 1) := by decide +kernel
theorem dX1_digest_62 : decode cX1_digest 62 = .ok (.ldc2_w 106, 3) := by decide +kernel
theorem dX1_digest_65 : decode cX1_digest 65 = .ok (.lmul, 1) := by decide +kernel
theorem dX1_digest_66 : decode cX1_digest 66 = .ok (.aload_n 0, 1) := by decide +kernel
theorem dX1_digest_67 : decode cX1_digest 67 = .ok (.iload_n 3, 1) := by decide +kernel
theorem dX1_digest_68 : decode cX1_digest 68 = .ok (.iload 4, 2) := by decide +kernel
theorem dX1_digest_70 : decode cX1_digest 70 = .ok (.invokevirtual 75, 3) := by decide +kernel
theorem dX1_digest_73 : decode cX1_digest 73 = .ok (.i2l, 1) := by decide +kernel
theorem dX1_digest_74 : decode cX1_digest 74 = .ok (.ladd, 1) := by decide +kernel
theorem dX1_digest_75 : decode cX1_digest 75 = .ok (.lstore_n 1, 1) := by decide +kernel
theorem dX1_digest_76 : decode cX1_digest 76 = .ok (.iinc 4 1, 3) := by decide +kernel
theorem dX1_digest_79 : decode cX1_digest 79 = .ok (.goto (-24), 3) := by decide +kernel
theorem dX1_digest_82 : decode cX1_digest 82 = .ok (.iconst 0, 1) := by decide +kernel
theorem dX1_digest_83 : decode cX1_digest 83 = .ok (.istore 4, 2) := by decide +kernel
theorem dX1_digest_85 : decode cX1_digest 85 = .ok (.iload 4, 2) := by decide +kernel
theorem dX1_digest_87 : decode cX1_digest 87 = .ok (.aload_n 0, 1) := by decide +kernel
theorem dX1_digest_88 : decode cX1_digest 88 = .ok (.getfield 9, 3) := by decide +kernel
theorem dX1_digest_91 : decode cX1_digest 91 = .ok (.iload_n 3, 1) := by decide +kernel
theorem dX1_digest_92 : decode cX1_digest 92 = .ok (.iaload, 1) := by decide +kernel
theorem dX1_digest_93 : decode cX1_digest 93 = .ok (.if_icmp .ge 41, 3) := by decide +kernel
theorem dX1_digest_96 : decode cX1_digest 96 = .ok (.iconst 0, 1) := by decide +kernel
theorem dX1_digest_97 : decode cX1_digest 97 = .ok (.istore 5, 2) := by decide +kernel
theorem dX1_digest_99 : decode cX1_digest 99 = .ok (.iload 5, 2) := by decide +kernel
theorem dX1_digest_101 : decode cX1_digest 101 = .ok (.iconst 5, 1) := by decide +kernel
theorem dX1_digest_102 : decode cX1_digest 102 = .ok (.if_icmp .ge 26, 3) := by decide +kernel
theorem dX1_digest_105 : decode cX1_digest 105 = .ok (.lload_n 1, 1) := by decide +kernel
theorem dX1_digest_106 : decode cX1_digest 106 = .ok (.ldc2_w 106, 3) := by decide +kernel
theorem dX1_digest_109 : decode cX1_digest 109 = .ok (.lmul, 1) := by decide +kernel
theorem dX1_digest_110 : decode cX1_digest 110 = .ok (.aload_n 0, 1) := by decide +kernel
theorem dX1_digest_111 : decode cX1_digest 111 = .ok (.iload_n 3, 1) := by decide +kernel
theorem dX1_digest_112 : decode cX1_digest 112 = .ok (.iload 4, 2) := by decide +kernel
theorem dX1_digest_114 : decode cX1_digest 114 = .ok (.iload 5, 2) := by decide +kernel
theorem dX1_digest_116 : decode cX1_digest 116 = .ok (.invokevirtual 71, 3) := by decide +kernel
theorem dX1_digest_119 : decode cX1_digest 119 = .ok (.i2l, 1) := by decide +kernel
theorem dX1_digest_120 : decode cX1_digest 120 = .ok (.ladd, 1) := by decide +kernel
theorem dX1_digest_121 : decode cX1_digest 121 = .ok (.lstore_n 1, 1) := by decide +kernel
theorem dX1_digest_122 : decode cX1_digest 122 = .ok (.iinc 5 1, 3) := by decide +kernel
theorem dX1_digest_125 : decode cX1_digest 125 = .ok (.goto (-26), 3) := by decide +kernel
theorem dX1_digest_128 : decode cX1_digest 128 = .ok (.iinc 4 1, 3) := by decide +kernel
theorem dX1_digest_131 : decode cX1_digest 131 = .ok (.goto (-46), 3) := by decide +kernel
theorem dX1_digest_134 : decode cX1_digest 134 = .ok (.iinc 3 1, 3) := by decide +kernel
theorem dX1_digest_137 : decode cX1_digest 137 = .ok (.goto (-93), 3) := by decide +kernel
theorem dX1_digest_140 : decode cX1_digest 140 = .ok (.lload_n 1, 1) := by decide +kernel
theorem dX1_digest_141 : decode cX1_digest 141 = .ok (.lreturn, 1) := by decide +kernel
theorem dJ6_bitCount_0f7a4_0 : decode cJ6_bitCount_0f7a4 0 = .ok (.iload_n 0, 1) := by decide +kernel
theorem dJ6_bitCount_0f7a4_1 : decode cJ6_bitCount_0f7a4 1 = .ok (.iload_n 0, 1) := by decide +kernel
theorem dJ6_bitCount_0f7a4_2 : decode cJ6_bitCount_0f7a4 2 = .ok (.iconst 1, 1) := by decide +kernel
theorem dJ6_bitCount_0f7a4_3 : decode cJ6_bitCount_0f7a4 3 = .ok (.iushr, 1) := by decide +kernel
theorem dJ6_bitCount_0f7a4_4 : decode cJ6_bitCount_0f7a4 4 = .ok (.ldc_w 265, 3) := by decide +kernel
theorem dJ6_bitCount_0f7a4_7 : decode cJ6_bitCount_0f7a4 7 = .ok (.iand, 1) := by decide +kernel
theorem dJ6_bitCount_0f7a4_8 : decode cJ6_bitCount_0f7a4 8 = .ok (.isub, 1) := by decide +kernel
theorem dJ6_bitCount_0f7a4_9 : decode cJ6_bitCount_0f7a4 9 = .ok (.istore_n 0, 1) := by decide +kernel
theorem dJ6_bitCount_0f7a4_10 : decode cJ6_bitCount_0f7a4 10 = .ok (.iload_n 0, 1) := by decide +kernel
theorem dJ6_bitCount_0f7a4_11 : decode cJ6_bitCount_0f7a4 11 = .ok (.ldc_w 266, 3) := by decide +kernel
theorem dJ6_bitCount_0f7a4_14 : decode cJ6_bitCount_0f7a4 14 = .ok (.iand, 1) := by decide +kernel
theorem dJ6_bitCount_0f7a4_15 : decode cJ6_bitCount_0f7a4 15 = .ok (.iload_n 0, 1) := by decide +kernel
theorem dJ6_bitCount_0f7a4_16 : decode cJ6_bitCount_0f7a4 16 = .ok (.iconst 2, 1) := by decide +kernel
theorem dJ6_bitCount_0f7a4_17 : decode cJ6_bitCount_0f7a4 17 = .ok (.iushr, 1) := by decide +kernel
theorem dJ6_bitCount_0f7a4_18 : decode cJ6_bitCount_0f7a4 18 = .ok (.ldc_w 266, 3) := by decide +kernel
theorem dJ6_bitCount_0f7a4_21 : decode cJ6_bitCount_0f7a4 21 = .ok (.iand, 1) := by decide +kernel
theorem dJ6_bitCount_0f7a4_22 : decode cJ6_bitCount_0f7a4 22 = .ok (.iadd, 1) := by decide +kernel
theorem dJ6_bitCount_0f7a4_23 : decode cJ6_bitCount_0f7a4 23 = .ok (.istore_n 0, 1) := by decide +kernel
theorem dJ6_bitCount_0f7a4_24 : decode cJ6_bitCount_0f7a4 24 = .ok (.iload_n 0, 1) := by decide +kernel
theorem dJ6_bitCount_0f7a4_25 : decode cJ6_bitCount_0f7a4 25 = .ok (.iload_n 0, 1) := by decide +kernel
theorem dJ6_bitCount_0f7a4_26 : decode cJ6_bitCount_0f7a4 26 = .ok (.iconst 4, 1) := by decide +kernel
theorem dJ6_bitCount_0f7a4_27 : decode cJ6_bitCount_0f7a4 27 = .ok (.iushr, 1) := by decide +kernel
theorem dJ6_bitCount_0f7a4_28 : decode cJ6_bitCount_0f7a4 28 = .ok (.iadd, 1) := by decide +kernel
theorem dJ6_bitCount_0f7a4_29 : decode cJ6_bitCount_0f7a4 29 = .ok (.ldc_w 267, 3) := by decide +kernel
theorem dJ6_bitCount_0f7a4_32 : decode cJ6_bitCount_0f7a4 32 = .ok (.iand, 1) := by decide +kernel
theorem dJ6_bitCount_0f7a4_33 : decode cJ6_bitCount_0f7a4 33 = .ok (.istore_n 0, 1) := by decide +kernel
theorem dJ6_bitCount_0f7a4_34 : decode cJ6_bitCount_0f7a4 34 = .ok (.iload_n 0, 1) := by decide +kernel
theorem dJ6_bitCount_0f7a4_35 : decode cJ6_bitCount_0f7a4 35 = .ok (.iload_n 0, 1) := by decide +kernel
theorem dJ6_bitCount_0f7a4_36 : decode cJ6_bitCount_0f7a4 36 = .ok (.bipush 8, 2) := by decide +kernel
theorem dJ6_bitCount_0f7a4_38 : decode cJ6_bitCount_0f7a4 38 = .ok (.iushr, 1) := by decide +kernel
theorem dJ6_bitCount_0f7a4_39 : decode cJ6_bitCount_0f7a4 39 = .ok (.iadd, 1) := by decide +kernel
theorem dJ6_bitCount_0f7a4_40 : decode cJ6_bitCount_0f7a4 40 = .ok (.istore_n 0, 1) := by decide +kernel
theorem dJ6_bitCount_0f7a4_41 : decode cJ6_bitCount_0f7a4 41 = .ok (.iload_n 0, 1) := by decide +kernel
theorem dJ6_bitCount_0f7a4_42 : decode cJ6_bitCount_0f7a4 42 = .ok (.iload_n 0, 1) := by decide +kernel
theorem dJ6_bitCount_0f7a4_43 : decode cJ6_bitCount_0f7a4 43 = .ok (.bipush 16, 2) := by decide +kernel
theorem dJ6_bitCount_0f7a4_45 : decode cJ6_bitCount_0f7a4 45 = .ok (.iushr, 1) := by decide +kernel
theorem dJ6_bitCount_0f7a4_46 : decode cJ6_bitCount_0f7a4 46 = .ok (.iadd, 1) := by decide +kernel
theorem dJ6_bitCount_0f7a4_47 : decode cJ6_bitCount_0f7a4 47 = .ok (.istore_n 0, 1) := by decide +kernel
theorem dJ6_bitCount_0f7a4_48 : decode cJ6_bitCount_0f7a4 48 = .ok (.iload_n 0, 1) := by decide +kernel
theorem dJ6_bitCount_0f7a4_49 : decode cJ6_bitCount_0f7a4 49 = .ok (.bipush 63, 2) := by decide +kernel
theorem dJ6_bitCount_0f7a4_51 : decode cJ6_bitCount_0f7a4 51 = .ok (.iand, 1) := by decide +kernel
theorem dJ6_bitCount_0f7a4_52 : decode cJ6_bitCount_0f7a4 52 = .ok (.ireturn, 1) := by decide +kernel
theorem dJ9_abs_067f4_0 : decode cJ9_abs_067f4 0 = .ok (.lload_n 0, 1) := by decide +kernel
theorem dJ9_abs_067f4_1 : decode cJ9_abs_067f4 1 = .ok (.lconst 0, 1) := by decide +kernel
theorem dJ9_abs_067f4_2 : decode cJ9_abs_067f4 2 = .ok (.lcmp, 1) := by decide +kernel
theorem dJ9_abs_067f4_3 : decode cJ9_abs_067f4 3 = .ok (.ifCond .ge 8, 3) := by decide +kernel
theorem dJ9_abs_067f4_6 : decode cJ9_abs_067f4 6 = .ok (.lload_n 0, 1) := by decide +kernel
theorem dJ9_abs_067f4_7 : decode cJ9_abs_067f4 7 = .ok (.lneg, 1) := by decide +kernel
theorem dJ9_abs_067f4_8 : decode cJ9_abs_067f4 8 = .ok (.goto 4, 3) := by decide +kernel
theorem dJ9_abs_067f4_11 : decode cJ9_abs_067f4 11 = .ok (.lload_n 0, 1) := by decide +kernel
theorem dJ9_abs_067f4_12 : decode cJ9_abs_067f4 12 = .ok (.lreturn, 1) := by decide +kernel
theorem dJ9_min_7cf53_0 : decode cJ9_min_7cf53 0 = .ok (.iload_n 0, 1) := by decide +kernel
theorem dJ9_min_7cf53_1 : decode cJ9_min_7cf53 1 = .ok (.iload_n 1, 1) := by decide +kernel
theorem dJ9_min_7cf53_2 : decode cJ9_min_7cf53 2 = .ok (.if_icmp .gt 7, 3) := by decide +kernel
theorem dJ9_min_7cf53_5 : decode cJ9_min_7cf53 5 = .ok (.iload_n 0, 1) := by decide +kernel
theorem dJ9_min_7cf53_6 : decode cJ9_min_7cf53 6 = .ok (.goto 4, 3) := by decide +kernel
theorem dJ9_min_7cf53_9 : decode cJ9_min_7cf53 9 = .ok (.iload_n 1, 1) := by decide +kernel
theorem dJ9_min_7cf53_10 : decode cJ9_min_7cf53 10 = .ok (.ireturn, 1) := by decide +kernel
end
section
set_option maxRecDepth 20000 in
theorem ggL_count_X0_count : GoodIn wsL_count wsX0_count := goodIn_ca (goodIn_r _ [6, 7, 8, 9, 10, 11, 12, 13, 14, 15, 16, 17] (by decide +kernel) (by decide +kernel)) (goodIn_sub (fun _ h => List.mem_cons_of_mem _ (List.mem_append_right _ h)) (by decide +kernel))
set_option maxRecDepth 20000 in
theorem gL_count_X0_count : GoodIn wsL_count (wsV RL 7 RX0 yX0_count wsX0_count) := goodIn_app (goodIn_of _ (by decide +kernel)) ggL_count_X0_count
theorem dL_count_0 : decode cL_count 0 = .ok (.aload_n 2, 1) := by decide +kernel
theorem dL_count_1 : decode cL_count 1 = .ok (.iconst 0, 1) := by decide +kernel
theorem dL_count_2 : decode cL_count 2 = .ok (.aload_n 0, 1) := by decide +kernel
theorem dL_count_3 : decode cL_count 3 = .ok (.iload_n 1, 1) := by decide +kernel
theorem dL_count_4 : decode cL_count 4 = .ok (.invokevirtual 7, 3) := by decide +kernel
theorem dL_count_7 : decode cL_count 7 = .ok (.i2l, 1) := by decide +kernel
theorem dL_count_8 : decode cL_count 8 = .ok (.lastore, 1) := by decide +kernel
theorem dL_count_9 : decode cL_count 9 = .ok (.goto 6, 3) := by decide +kernel
theorem dL_count_12 : decode cL_count 12 = .ok (.astore_n 3, 1) := by decide +kernel
theorem dL_count_13 : decode cL_count 13 = .ok (.iconst 1, 1) := by decide +kernel
theorem dL_count_14 : decode cL_count 14 = .ok (.ireturn, 1) := by decide +kernel
theorem dL_count_15 : decode cL_count 15 = .ok (.iconst 0, 1) := by decide +kernel
theorem dL_count_16 : decode cL_count 16 = .ok (.ireturn, 1) := by decide +kernel
set_option maxRecDepth 20000 in
theorem ggL_letter_X0_letter : GoodIn wsL_letter wsX0_letter := goodIn_ca (goodIn_r _ [6, 7, 8, 9, 10, 11, 5, 12, 13, 14, 15, 16, 17, 18, 19, 20, 21] (by decide +kernel) (by decide +kernel)) (goodIn_sub (fun _ h => List.mem_cons_of_mem _ (List.mem_append_right _ h)) (by decide +kernel))
set_option maxRecDepth 20000 in
theorem gL_letter_X0_letter : GoodIn wsL_letter (wsV RL 15 RX0 yX0_letter wsX0_letter) := goodIn_app (goodIn_of _ (by decide +kernel)) ggL_letter_X0_letter
theorem dL_letter_0 : decode cL_letter 0 = .ok (.aload_n 2, 1) := by decide +kernel
theorem dL_letter_1 : decode cL_letter 1 = .ok (.iconst 0, 1) := by decide +kernel
theorem dL_letter_2 : decode cL_letter 2 = .ok (.aload_n 0, 1) := by decide +kernel
theorem dL_letter_3 : decode cL_letter 3 = .ok (.iload_n 1, 1) := by decide +kernel
theorem dL_letter_4 : decode cL_letter 4 = .ok (.invokevirtual 15, 3) := by decide +kernel
theorem dL_letter_7 : decode cL_letter 7 = .ok (.i2l, 1) := by decide +kernel
theorem dL_letter_8 : decode cL_letter 8 = .ok (.lastore, 1) := by decide +kernel
theorem dL_letter_9 : decode cL_letter 9 = .ok (.goto 6, 3) := by decide +kernel
theorem dL_letter_12 : decode cL_letter 12 = .ok (.astore_n 3, 1) := by decide +kernel
theorem dL_letter_13 : decode cL_letter 13 = .ok (.iconst 1, 1) := by decide +kernel
theorem dL_letter_14 : decode cL_letter 14 = .ok (.ireturn, 1) := by decide +kernel
theorem dL_letter_15 : decode cL_letter 15 = .ok (.iconst 0, 1) := by decide +kernel
theorem dL_letter_16 : decode cL_letter 16 = .ok (.ireturn, 1) := by decide +kernel
set_option maxRecDepth 20000 in
theorem ggL_value_X0_value : GoodIn wsL_value wsX0_value := goodIn_ca (goodIn_r _ [6, 7, 8, 5, 9, 10, 11, 12, 13, 14, 15, 16, 17, 18, 19, 20, 21, 22, 23, 24, 25, 26, 27, 28, 29, 30, 31, 32, 33, 34, 35, 36, 37, 38] (by decide +kernel) (by decide +kernel)) (goodIn_sub (fun _ h => List.mem_cons_of_mem _ (List.mem_append_right _ h)) (by decide +kernel))
set_option maxRecDepth 20000 in
theorem gL_value_X0_value : GoodIn wsL_value (wsV RL 18 RX0 yX0_value wsX0_value) := goodIn_app (goodIn_of _ (by decide +kernel)) ggL_value_X0_value
theorem dL_value_0 : decode cL_value 0 = .ok (.aload_n 2, 1) := by decide +kernel
theorem dL_value_1 : decode cL_value 1 = .ok (.iconst 0, 1) := by decide +kernel
theorem dL_value_2 : decode cL_value 2 = .ok (.aload_n 0, 1) := by decide +kernel
theorem dL_value_3 : decode cL_value 3 = .ok (.iload_n 1, 1) := by decide +kernel
theorem dL_value_4 : decode cL_value 4 = .ok (.invokevirtual 18, 3) := by decide +kernel
theorem dL_value_7 : decode cL_value 7 = .ok (.i2l, 1) := by decide +kernel
theorem dL_value_8 : decode cL_value 8 = .ok (.lastore, 1) := by decide +kernel
theorem dL_value_9 : decode cL_value 9 = .ok (.goto 6, 3) := by decide +kernel
theorem dL_value_12 : decode cL_value 12 = .ok (.astore_n 3, 1) := by decide +kernel
theorem dL_value_13 : decode cL_value 13 = .ok (.iconst 1, 1) := by decide +kernel
theorem dL_value_14 : decode cL_value 14 = .ok (.ireturn, 1) := by decide +kernel
theorem dL_value_15 : decode cL_value 15 = .ok (.iconst 0, 1) := by decide +kernel
theorem dL_value_16 : decode cL_value 16 = .ok (.ireturn, 1) := by decide +kernel
set_option maxRecDepth 20000 in
theorem ggL_alike_X0_alike : GoodIn wsL_alike wsX0_alike := goodIn_ca (goodIn_r _ [6, 7, 8, 5, 9, 10, 11, 12, 13, 14, 15, 16, 17, 18] (by decide +kernel) (by decide +kernel)) (goodIn_sub (fun _ h => List.mem_cons_of_mem _ (List.mem_append_right _ h)) (by decide +kernel))
set_option maxRecDepth 20000 in
theorem gL_alike_X0_alike : GoodIn wsL_alike (wsV RL 23 RX0 yX0_alike wsX0_alike) := goodIn_app (goodIn_of _ (by decide +kernel)) ggL_alike_X0_alike
theorem dL_alike_0 : decode cL_alike 0 = .ok (.aload_n 3, 1) := by decide +kernel
theorem dL_alike_1 : decode cL_alike 1 = .ok (.iconst 0, 1) := by decide +kernel
theorem dL_alike_2 : decode cL_alike 2 = .ok (.aload_n 0, 1) := by decide +kernel
theorem dL_alike_3 : decode cL_alike 3 = .ok (.iload_n 1, 1) := by decide +kernel
theorem dL_alike_4 : decode cL_alike 4 = .ok (.iload_n 2, 1) := by decide +kernel
theorem dL_alike_5 : decode cL_alike 5 = .ok (.invokevirtual 23, 3) := by decide +kernel
theorem dL_alike_8 : decode cL_alike 8 = .ok (.ifCond .eq 7, 3) := by decide +kernel
theorem dL_alike_11 : decode cL_alike 11 = .ok (.lconst 1, 1) := by decide +kernel
theorem dL_alike_12 : decode cL_alike 12 = .ok (.goto 4, 3) := by decide +kernel
theorem dL_alike_15 : decode cL_alike 15 = .ok (.lconst 0, 1) := by decide +kernel
theorem dL_alike_16 : decode cL_alike 16 = .ok (.lastore, 1) := by decide +kernel
theorem dL_alike_17 : decode cL_alike 17 = .ok (.goto 7, 3) := by decide +kernel
theorem dL_alike_20 : decode cL_alike 20 = .ok (.astore 4, 2) := by decide +kernel
theorem dL_alike_22 : decode cL_alike 22 = .ok (.iconst 1, 1) := by decide +kernel
theorem dL_alike_23 : decode cL_alike 23 = .ok (.ireturn, 1) := by decide +kernel
theorem dL_alike_24 : decode cL_alike 24 = .ok (.iconst 0, 1) := by decide +kernel
theorem dL_alike_25 : decode cL_alike 25 = .ok (.ireturn, 1) := by decide +kernel
set_option maxRecDepth 20000 in
theorem ggL_write_X0_write : GoodIn wsL_write wsX0_write := goodIn_ca (goodIn_r _ [6, 7, 8, 9, 10, 11, 12, 13, 14, 15, 16, 17] (by decide +kernel) (by decide +kernel)) (goodIn_sub (fun _ h => List.mem_cons_of_mem _ (List.mem_append_right _ h)) (by decide +kernel))
set_option maxRecDepth 20000 in
theorem gL_write_X0_write : GoodIn wsL_write (wsV RL 27 RX0 yX0_write wsX0_write) := goodIn_app (goodIn_of _ (by decide +kernel)) ggL_write_X0_write
theorem dL_write_0 : decode cL_write 0 = .ok (.aload_n 1, 1) := by decide +kernel
theorem dL_write_1 : decode cL_write 1 = .ok (.iconst 0, 1) := by decide +kernel
theorem dL_write_2 : decode cL_write 2 = .ok (.aload_n 0, 1) := by decide +kernel
theorem dL_write_3 : decode cL_write 3 = .ok (.invokevirtual 27, 3) := by decide +kernel
theorem dL_write_6 : decode cL_write 6 = .ok (.i2l, 1) := by decide +kernel
theorem dL_write_7 : decode cL_write 7 = .ok (.lastore, 1) := by decide +kernel
theorem dL_write_8 : decode cL_write 8 = .ok (.goto 6, 3) := by decide +kernel
theorem dL_write_11 : decode cL_write 11 = .ok (.astore_n 2, 1) := by decide +kernel
theorem dL_write_12 : decode cL_write 12 = .ok (.iconst 1, 1) := by decide +kernel
theorem dL_write_13 : decode cL_write 13 = .ok (.ireturn, 1) := by decide +kernel
theorem dL_write_14 : decode cL_write 14 = .ok (.iconst 0, 1) := by decide +kernel
theorem dL_write_15 : decode cL_write 15 = .ok (.ireturn, 1) := by decide +kernel
set_option maxRecDepth 20000 in
theorem ggL_add_X0_add : GoodIn wsL_add wsX0_add := goodIn_ca (goodIn_ca (goodIn_ca (goodIn_r _ [8, 9, 10, 11, 12, 13, 14, 15, 16, 7, 17, 18, 19, 20, 21, 22, 23, 24, 25, 26, 27, 28, 29, 30, 31, 32, 33, 34, 35, 36, 37] (by decide +kernel) (by decide +kernel)) (goodIn_sub (fun _ h => List.mem_cons_of_mem _ (List.mem_append_left _ (List.mem_append_left _ (List.mem_append_right _ h)))) (by decide +kernel))) (goodIn_sub (fun _ h => List.mem_cons_of_mem _ (List.mem_append_left _ (List.mem_append_right _ h))) (by decide +kernel))) (goodIn_sub (fun _ h => List.mem_cons_of_mem _ (List.mem_append_right _ h)) (by decide +kernel))
set_option maxRecDepth 20000 in
theorem gL_add_X0_add : GoodIn wsL_add (wsV RL 33 RX0 yX0_add wsX0_add) := goodIn_app (goodIn_of _ (by decide +kernel)) ggL_add_X0_add
theorem dL_add_0 : decode cL_add 0 = .ok (.aload_n 3, 1) := by decide +kernel
theorem dL_add_1 : decode cL_add 1 = .ok (.iconst 0, 1) := by decide +kernel
theorem dL_add_2 : decode cL_add 2 = .ok (.aload_n 0, 1) := by decide +kernel
theorem dL_add_3 : decode cL_add 3 = .ok (.iload_n 1, 1) := by decide +kernel
theorem dL_add_4 : decode cL_add 4 = .ok (.iload_n 2, 1) := by decide +kernel
theorem dL_add_5 : decode cL_add 5 = .ok (.invokevirtual 33, 3) := by decide +kernel
theorem dL_add_8 : decode cL_add 8 = .ok (.i2l, 1) := by decide +kernel
theorem dL_add_9 : decode cL_add 9 = .ok (.lastore, 1) := by decide +kernel
theorem dL_add_10 : decode cL_add 10 = .ok (.goto 15, 3) := by decide +kernel
theorem dL_add_13 : decode cL_add 13 = .ok (.astore 4, 2) := by decide +kernel
theorem dL_add_15 : decode cL_add 15 = .ok (.iconst 1, 1) := by decide +kernel
theorem dL_add_16 : decode cL_add 16 = .ok (.ireturn, 1) := by decide +kernel
theorem dL_add_17 : decode cL_add 17 = .ok (.astore 4, 2) := by decide +kernel
theorem dL_add_19 : decode cL_add 19 = .ok (.iconst 2, 1) := by decide +kernel
theorem dL_add_20 : decode cL_add 20 = .ok (.ireturn, 1) := by decide +kernel
theorem dL_add_21 : decode cL_add 21 = .ok (.astore 4, 2) := by decide +kernel
theorem dL_add_23 : decode cL_add 23 = .ok (.iconst 3, 1) := by decide +kernel
theorem dL_add_24 : decode cL_add 24 = .ok (.ireturn, 1) := by decide +kernel
theorem dL_add_25 : decode cL_add 25 = .ok (.iconst 0, 1) := by decide +kernel
theorem dL_add_26 : decode cL_add 26 = .ok (.ireturn, 1) := by decide +kernel
set_option maxRecDepth 20000 in
theorem ggL_cut_X0_cut : GoodIn wsL_cut wsX0_cut := goodIn_ca (goodIn_ca (goodIn_r _ [7, 8, 9, 10, 11, 12, 13, 14, 6, 15, 16, 17, 18, 19, 20, 21, 22, 23, 24, 25, 26] (by decide +kernel) (by decide +kernel)) (goodIn_sub (fun _ h => List.mem_cons_of_mem _ (List.mem_append_left _ (List.mem_append_right _ h))) (by decide +kernel))) (goodIn_sub (fun _ h => List.mem_cons_of_mem _ (List.mem_append_right _ h)) (by decide +kernel))
set_option maxRecDepth 20000 in
theorem gL_cut_X0_cut : GoodIn wsL_cut (wsV RL 37 RX0 yX0_cut wsX0_cut) := goodIn_app (goodIn_of _ (by decide +kernel)) ggL_cut_X0_cut
theorem dL_cut_0 : decode cL_cut 0 = .ok (.aload_n 2, 1) := by decide +kernel
theorem dL_cut_1 : decode cL_cut 1 = .ok (.iconst 0, 1) := by decide +kernel
theorem dL_cut_2 : decode cL_cut 2 = .ok (.aload_n 0, 1) := by decide +kernel
theorem dL_cut_3 : decode cL_cut 3 = .ok (.iload_n 1, 1) := by decide +kernel
theorem dL_cut_4 : decode cL_cut 4 = .ok (.invokevirtual 37, 3) := by decide +kernel
theorem dL_cut_7 : decode cL_cut 7 = .ok (.i2l, 1) := by decide +kernel
theorem dL_cut_8 : decode cL_cut 8 = .ok (.lastore, 1) := by decide +kernel
theorem dL_cut_9 : decode cL_cut 9 = .ok (.goto 9, 3) := by decide +kernel
theorem dL_cut_12 : decode cL_cut 12 = .ok (.astore_n 3, 1) := by decide +kernel
theorem dL_cut_13 : decode cL_cut 13 = .ok (.iconst 1, 1) := by decide +kernel
theorem dL_cut_14 : decode cL_cut 14 = .ok (.ireturn, 1) := by decide +kernel
theorem dL_cut_15 : decode cL_cut 15 = .ok (.astore_n 3, 1) := by decide +kernel
theorem dL_cut_16 : decode cL_cut 16 = .ok (.iconst 2, 1) := by decide +kernel
theorem dL_cut_17 : decode cL_cut 17 = .ok (.ireturn, 1) := by decide +kernel
theorem dL_cut_18 : decode cL_cut 18 = .ok (.iconst 0, 1) := by decide +kernel
theorem dL_cut_19 : decode cL_cut 19 = .ok (.ireturn, 1) := by decide +kernel
set_option maxRecDepth 20000 in
theorem ggL_mark_X0_mark : GoodIn wsL_mark wsX0_mark := goodIn_ca (goodIn_r _ [6, 7, 8, 9, 10, 11, 12, 13, 5, 14, 15, 16, 17, 18, 19, 20, 21, 22, 23, 24, 25, 26, 27, 28, 29, 30, 31, 32, 33, 34] (by decide +kernel) (by decide +kernel)) (goodIn_sub (fun _ h => List.mem_cons_of_mem _ (List.mem_append_right _ h)) (by decide +kernel))
set_option maxRecDepth 20000 in
theorem gL_mark_X0_mark : GoodIn wsL_mark (wsV RL 40 RX0 yX0_mark wsX0_mark) := goodIn_app (goodIn_of _ (by decide +kernel)) ggL_mark_X0_mark
theorem dL_mark_0 : decode cL_mark 0 = .ok (.aload 4, 2) := by decide +kernel
theorem dL_mark_2 : decode cL_mark 2 = .ok (.iconst 0, 1) := by decide +kernel
theorem dL_mark_3 : decode cL_mark 3 = .ok (.aload_n 0, 1) := by decide +kernel
theorem dL_mark_4 : decode cL_mark 4 = .ok (.iload_n 1, 1) := by decide +kernel
theorem dL_mark_5 : decode cL_mark 5 = .ok (.iload_n 2, 1) := by decide +kernel
theorem dL_mark_6 : decode cL_mark 6 = .ok (.iload_n 3, 1) := by decide +kernel
theorem dL_mark_7 : decode cL_mark 7 = .ok (.invokevirtual 40, 3) := by decide +kernel
theorem dL_mark_10 : decode cL_mark 10 = .ok (.ifCond .eq 7, 3) := by decide +kernel
theorem dL_mark_13 : decode cL_mark 13 = .ok (.lconst 1, 1) := by decide +kernel
theorem dL_mark_14 : decode cL_mark 14 = .ok (.goto 4, 3) := by decide +kernel
theorem dL_mark_17 : decode cL_mark 17 = .ok (.lconst 0, 1) := by decide +kernel
theorem dL_mark_18 : decode cL_mark 18 = .ok (.lastore, 1) := by decide +kernel
theorem dL_mark_19 : decode cL_mark 19 = .ok (.goto 7, 3) := by decide +kernel
theorem dL_mark_22 : decode cL_mark 22 = .ok (.astore 5, 2) := by decide +kernel
theorem dL_mark_24 : decode cL_mark 24 = .ok (.iconst 1, 1) := by decide +kernel
theorem dL_mark_25 : decode cL_mark 25 = .ok (.ireturn, 1) := by decide +kernel
theorem dL_mark_26 : decode cL_mark 26 = .ok (.iconst 0, 1) := by decide +kernel
theorem dL_mark_27 : decode cL_mark 27 = .ok (.ireturn, 1) := by decide +kernel
set_option maxRecDepth 20000 in
theorem ggL_word_X0_word : GoodIn wsL_word wsX0_word := goodIn_ca (goodIn_r _ [6, 7, 8, 9, 5, 10, 11, 12, 13, 14, 15, 16, 17, 18, 19, 20, 21, 22, 23, 24, 25, 26, 27, 28, 29, 30, 31, 32, 33, 34, 35, 36, 37, 38, 39, 40, 41, 42, 43, 44, 45, 46, 47, 48, 49, 50, 51, 52, 53, 54, 55, 56, 57] (by decide +kernel) (by decide +kernel)) (goodIn_sub (fun _ h => List.mem_cons_of_mem _ (List.mem_append_right _ h)) (by decide +kernel))
set_option maxRecDepth 20000 in
theorem gL_word_X0_word : GoodIn wsL_word (wsV RL 44 RX0 yX0_word wsX0_word) := goodIn_app (goodIn_of _ (by decide +kernel)) ggL_word_X0_word
theorem dL_word_0 : decode cL_word 0 = .ok (.aload 4, 2) := by decide +kernel
theorem dL_word_2 : decode cL_word 2 = .ok (.iconst 0, 1) := by decide +kernel
theorem dL_word_3 : decode cL_word 3 = .ok (.aload_n 0, 1) := by decide +kernel
theorem dL_word_4 : decode cL_word 4 = .ok (.iload_n 1, 1) := by decide +kernel
theorem dL_word_5 : decode cL_word 5 = .ok (.iload_n 2, 1) := by decide +kernel
theorem dL_word_6 : decode cL_word 6 = .ok (.iload_n 3, 1) := by decide +kernel
theorem dL_word_7 : decode cL_word 7 = .ok (.invokevirtual 44, 3) := by decide +kernel
theorem dL_word_10 : decode cL_word 10 = .ok (.i2l, 1) := by decide +kernel
theorem dL_word_11 : decode cL_word 11 = .ok (.lastore, 1) := by decide +kernel
theorem dL_word_12 : decode cL_word 12 = .ok (.goto 7, 3) := by decide +kernel
theorem dL_word_15 : decode cL_word 15 = .ok (.astore 5, 2) := by decide +kernel
theorem dL_word_17 : decode cL_word 17 = .ok (.iconst 1, 1) := by decide +kernel
theorem dL_word_18 : decode cL_word 18 = .ok (.ireturn, 1) := by decide +kernel
theorem dL_word_19 : decode cL_word 19 = .ok (.iconst 0, 1) := by decide +kernel
theorem dL_word_20 : decode cL_word 20 = .ok (.ireturn, 1) := by decide +kernel
set_option maxRecDepth 20000 in
theorem ggL_line_X0_line : GoodIn wsL_line wsX0_line := goodIn_ca (goodIn_r _ [6, 7, 8, 9, 5, 10, 11, 12, 13, 14, 15, 16, 17, 18, 19, 20, 21, 22, 23, 24, 25, 26, 27, 28, 29, 30, 31, 32, 33, 34, 35, 36, 37, 38, 39, 40, 41, 42, 43, 44, 45, 46, 47, 48, 49, 50, 51, 52, 53, 54, 55, 56, 57] (by decide +kernel) (by decide +kernel)) (goodIn_sub (fun _ h => List.mem_cons_of_mem _ (List.mem_append_right _ h)) (by decide +kernel))
set_option maxRecDepth 20000 in
theorem gL_line_X0_line : GoodIn wsL_line (wsV RL 48 RX0 yX0_line wsX0_line) := goodIn_app (goodIn_of _ (by decide +kernel)) ggL_line_X0_line
theorem dL_line_0 : decode cL_line 0 = .ok (.aload_n 3, 1) := by decide +kernel
theorem dL_line_1 : decode cL_line 1 = .ok (.iconst 0, 1) := by decide +kernel
theorem dL_line_2 : decode cL_line 2 = .ok (.aload_n 0, 1) := by decide +kernel
theorem dL_line_3 : decode cL_line 3 = .ok (.iload_n 1, 1) := by decide +kernel
theorem dL_line_4 : decode cL_line 4 = .ok (.iload_n 2, 1) := by decide +kernel
theorem dL_line_5 : decode cL_line 5 = .ok (.invokevirtual 48, 3) := by decide +kernel
theorem dL_line_8 : decode cL_line 8 = .ok (.i2l, 1) := by decide +kernel
theorem dL_line_9 : decode cL_line 9 = .ok (.lastore, 1) := by decide +kernel
theorem dL_line_10 : decode cL_line 10 = .ok (.goto 7, 3) := by decide +kernel
theorem dL_line_13 : decode cL_line 13 = .ok (.astore 4, 2) := by decide +kernel
theorem dL_line_15 : decode cL_line 15 = .ok (.iconst 1, 1) := by decide +kernel
theorem dL_line_16 : decode cL_line 16 = .ok (.ireturn, 1) := by decide +kernel
theorem dL_line_17 : decode cL_line 17 = .ok (.iconst 0, 1) := by decide +kernel
theorem dL_line_18 : decode cL_line 18 = .ok (.ireturn, 1) := by decide +kernel
set_option maxRecDepth 20000 in
theorem ggL_told_X0_told : GoodIn wsL_told wsX0_told := goodIn_ca (goodIn_r _ [6, 7, 8, 9, 5, 10, 11, 12, 13, 14, 15, 16, 17, 18, 19, 20, 21, 22, 23, 24, 25, 26, 27, 28, 29, 30, 31, 32, 33, 34, 35, 36, 37, 38, 39, 40, 41, 42, 43, 44, 45, 46, 47, 48, 49, 50, 51, 52, 53, 54, 55, 56, 57, 58, 59, 60, 61, 62, 63, 64, 65, 66] (by decide +kernel) (by decide +kernel)) (goodIn_sub (fun _ h => List.mem_cons_of_mem _ (List.mem_append_right _ h)) (by decide +kernel))
set_option maxRecDepth 20000 in
theorem gL_told_X0_told : GoodIn wsL_told (wsV RL 51 RX0 yX0_told wsX0_told) := goodIn_app (goodIn_of _ (by decide +kernel)) ggL_told_X0_told
theorem dL_told_0 : decode cL_told 0 = .ok (.aload_n 2, 1) := by decide +kernel
theorem dL_told_1 : decode cL_told 1 = .ok (.iconst 0, 1) := by decide +kernel
theorem dL_told_2 : decode cL_told 2 = .ok (.aload_n 0, 1) := by decide +kernel
theorem dL_told_3 : decode cL_told 3 = .ok (.iload_n 1, 1) := by decide +kernel
theorem dL_told_4 : decode cL_told 4 = .ok (.invokevirtual 51, 3) := by decide +kernel
theorem dL_told_7 : decode cL_told 7 = .ok (.i2l, 1) := by decide +kernel
theorem dL_told_8 : decode cL_told 8 = .ok (.lastore, 1) := by decide +kernel
theorem dL_told_9 : decode cL_told 9 = .ok (.goto 6, 3) := by decide +kernel
theorem dL_told_12 : decode cL_told 12 = .ok (.astore_n 3, 1) := by decide +kernel
theorem dL_told_13 : decode cL_told 13 = .ok (.iconst 1, 1) := by decide +kernel
theorem dL_told_14 : decode cL_told 14 = .ok (.ireturn, 1) := by decide +kernel
theorem dL_told_15 : decode cL_told 15 = .ok (.iconst 0, 1) := by decide +kernel
theorem dL_told_16 : decode cL_told 16 = .ok (.ireturn, 1) := by decide +kernel
set_option maxRecDepth 20000 in
theorem ggL_hidden_X0_hidden : GoodIn wsL_hidden wsX0_hidden := goodIn_ca (goodIn_r _ [6, 7, 8, 9, 10, 5, 11, 12, 13, 14, 15, 16, 17, 18, 19, 20, 21, 22, 23, 24, 25, 26, 27, 28, 29, 30, 31, 32, 33, 34, 35, 36, 37, 38, 39, 40, 41, 42] (by decide +kernel) (by decide +kernel)) (goodIn_sub (fun _ h => List.mem_cons_of_mem _ (List.mem_append_right _ h)) (by decide +kernel))
set_option maxRecDepth 20000 in
theorem gL_hidden_X0_hidden : GoodIn wsL_hidden (wsV RL 54 RX0 yX0_hidden wsX0_hidden) := goodIn_app (goodIn_of _ (by decide +kernel)) ggL_hidden_X0_hidden
theorem dL_hidden_0 : decode cL_hidden 0 = .ok (.aload_n 3, 1) := by decide +kernel
theorem dL_hidden_1 : decode cL_hidden 1 = .ok (.iconst 0, 1) := by decide +kernel
theorem dL_hidden_2 : decode cL_hidden 2 = .ok (.aload_n 0, 1) := by decide +kernel
theorem dL_hidden_3 : decode cL_hidden 3 = .ok (.iload_n 1, 1) := by decide +kernel
theorem dL_hidden_4 : decode cL_hidden 4 = .ok (.iload_n 2, 1) := by decide +kernel
theorem dL_hidden_5 : decode cL_hidden 5 = .ok (.invokevirtual 54, 3) := by decide +kernel
theorem dL_hidden_8 : decode cL_hidden 8 = .ok (.i2l, 1) := by decide +kernel
theorem dL_hidden_9 : decode cL_hidden 9 = .ok (.lastore, 1) := by decide +kernel
theorem dL_hidden_10 : decode cL_hidden 10 = .ok (.goto 7, 3) := by decide +kernel
theorem dL_hidden_13 : decode cL_hidden 13 = .ok (.astore 4, 2) := by decide +kernel
theorem dL_hidden_15 : decode cL_hidden 15 = .ok (.iconst 1, 1) := by decide +kernel
theorem dL_hidden_16 : decode cL_hidden 16 = .ok (.ireturn, 1) := by decide +kernel
theorem dL_hidden_17 : decode cL_hidden 17 = .ok (.iconst 0, 1) := by decide +kernel
theorem dL_hidden_18 : decode cL_hidden 18 = .ok (.ireturn, 1) := by decide +kernel
set_option maxRecDepth 20000 in
theorem ggL_lacks_X0_lacks : GoodIn wsL_lacks wsX0_lacks := goodIn_ca (goodIn_r _ [6, 7, 8, 9, 5, 10, 11, 12, 13, 14, 15, 16, 17, 18, 19, 20, 21, 22, 23, 24, 25, 26, 27, 28, 29, 30, 31, 32, 33, 34, 35, 36, 37, 38, 39, 40, 41, 42, 43, 44, 45, 46, 47, 48, 49, 50, 51, 52, 53, 54] (by decide +kernel) (by decide +kernel)) (goodIn_sub (fun _ h => List.mem_cons_of_mem _ (List.mem_append_right _ h)) (by decide +kernel))
set_option maxRecDepth 20000 in
theorem gL_lacks_X0_lacks : GoodIn wsL_lacks (wsV RL 57 RX0 yX0_lacks wsX0_lacks) := goodIn_app (goodIn_of _ (by decide +kernel)) ggL_lacks_X0_lacks
theorem dL_lacks_0 : decode cL_lacks 0 = .ok (.aload_n 3, 1) := by decide +kernel
theorem dL_lacks_1 : decode cL_lacks 1 = .ok (.iconst 0, 1) := by decide +kernel
theorem dL_lacks_2 : decode cL_lacks 2 = .ok (.aload_n 0, 1) := by decide +kernel
theorem dL_lacks_3 : decode cL_lacks 3 = .ok (.iload_n 1, 1) := by decide +kernel
theorem dL_lacks_4 : decode cL_lacks 4 = .ok (.iload_n 2, 1) := by decide +kernel
theorem dL_lacks_5 : decode cL_lacks 5 = .ok (.invokevirtual 57, 3) := by decide +kernel
theorem dL_lacks_8 : decode cL_lacks 8 = .ok (.i2l, 1) := by decide +kernel
theorem dL_lacks_9 : decode cL_lacks 9 = .ok (.lastore, 1) := by decide +kernel
theorem dL_lacks_10 : decode cL_lacks 10 = .ok (.goto 7, 3) := by decide +kernel
theorem dL_lacks_13 : decode cL_lacks 13 = .ok (.astore 4, 2) := by decide +kernel
theorem dL_lacks_15 : decode cL_lacks 15 = .ok (.iconst 1, 1) := by decide +kernel
theorem dL_lacks_16 : decode cL_lacks 16 = .ok (.ireturn, 1) := by decide +kernel
theorem dL_lacks_17 : decode cL_lacks 17 = .ok (.iconst 0, 1) := by decide +kernel
theorem dL_lacks_18 : decode cL_lacks 18 = .ok (.ireturn, 1) := by decide +kernel
set_option maxRecDepth 20000 in
theorem ggL_letters_X0_letters : GoodIn wsL_letters wsX0_letters := goodIn_ca (goodIn_r _ [6, 7, 8, 9, 10, 5, 11, 12, 13, 14, 15, 16, 17, 18, 19, 20, 21, 22, 23, 24, 25, 26, 27, 28, 29, 30, 31, 32, 33, 34] (by decide +kernel) (by decide +kernel)) (goodIn_sub (fun _ h => List.mem_cons_of_mem _ (List.mem_append_right _ h)) (by decide +kernel))
set_option maxRecDepth 20000 in
theorem gL_letters_X0_letters : GoodIn wsL_letters (wsV RL 60 RX0 yX0_letters wsX0_letters) := goodIn_app (goodIn_of _ (by decide +kernel)) ggL_letters_X0_letters
theorem dL_letters_0 : decode cL_letters 0 = .ok (.aload_n 2, 1) := by decide +kernel
theorem dL_letters_1 : decode cL_letters 1 = .ok (.iconst 0, 1) := by decide +kernel
theorem dL_letters_2 : decode cL_letters 2 = .ok (.aload_n 0, 1) := by decide +kernel
theorem dL_letters_3 : decode cL_letters 3 = .ok (.iload_n 1, 1) := by decide +kernel
theorem dL_letters_4 : decode cL_letters 4 = .ok (.invokevirtual 60, 3) := by decide +kernel
theorem dL_letters_7 : decode cL_letters 7 = .ok (.i2l, 1) := by decide +kernel
theorem dL_letters_8 : decode cL_letters 8 = .ok (.lastore, 1) := by decide +kernel
theorem dL_letters_9 : decode cL_letters 9 = .ok (.goto 6, 3) := by decide +kernel
theorem dL_letters_12 : decode cL_letters 12 = .ok (.astore_n 3, 1) := by decide +kernel
theorem dL_letters_13 : decode cL_letters 13 = .ok (.iconst 1, 1) := by decide +kernel
theorem dL_letters_14 : decode cL_letters 14 = .ok (.ireturn, 1) := by decide +kernel
theorem dL_letters_15 : decode cL_letters 15 = .ok (.iconst 0, 1) := by decide +kernel
theorem dL_letters_16 : decode cL_letters 16 = .ok (.ireturn, 1) := by decide +kernel
set_option maxRecDepth 20000 in
theorem ggL_spell_X0_spell : GoodIn wsL_spell wsX0_spell := goodIn_ca (goodIn_ca (goodIn_r _ [7, 8, 9, 10, 11, 12, 13, 6, 14, 15, 16, 17, 18, 19, 20, 21, 22, 23, 24, 25, 26, 27, 28, 29, 30, 31, 32, 33, 34, 35, 36, 37, 38, 39, 40, 41] (by decide +kernel) (by decide +kernel)) (goodIn_sub (fun _ h => List.mem_cons_of_mem _ (List.mem_append_left _ (List.mem_append_right _ h))) (by decide +kernel))) (goodIn_sub (fun _ h => List.mem_cons_of_mem _ (List.mem_append_right _ h)) (by decide +kernel))
set_option maxRecDepth 20000 in
theorem gL_spell_X0_spell : GoodIn wsL_spell (wsV RL 63 RX0 yX0_spell wsX0_spell) := goodIn_app (goodIn_of _ (by decide +kernel)) ggL_spell_X0_spell
theorem dL_spell_0 : decode cL_spell 0 = .ok (.aload_n 3, 1) := by decide +kernel
theorem dL_spell_1 : decode cL_spell 1 = .ok (.iconst 0, 1) := by decide +kernel
theorem dL_spell_2 : decode cL_spell 2 = .ok (.aload_n 0, 1) := by decide +kernel
theorem dL_spell_3 : decode cL_spell 3 = .ok (.iload_n 1, 1) := by decide +kernel
theorem dL_spell_4 : decode cL_spell 4 = .ok (.iload_n 2, 1) := by decide +kernel
theorem dL_spell_5 : decode cL_spell 5 = .ok (.invokevirtual 63, 3) := by decide +kernel
theorem dL_spell_8 : decode cL_spell 8 = .ok (.i2l, 1) := by decide +kernel
theorem dL_spell_9 : decode cL_spell 9 = .ok (.lastore, 1) := by decide +kernel
theorem dL_spell_10 : decode cL_spell 10 = .ok (.goto 11, 3) := by decide +kernel
theorem dL_spell_13 : decode cL_spell 13 = .ok (.astore 4, 2) := by decide +kernel
theorem dL_spell_15 : decode cL_spell 15 = .ok (.iconst 1, 1) := by decide +kernel
theorem dL_spell_16 : decode cL_spell 16 = .ok (.ireturn, 1) := by decide +kernel
theorem dL_spell_17 : decode cL_spell 17 = .ok (.astore 4, 2) := by decide +kernel
theorem dL_spell_19 : decode cL_spell 19 = .ok (.iconst 2, 1) := by decide +kernel
theorem dL_spell_20 : decode cL_spell 20 = .ok (.ireturn, 1) := by decide +kernel
theorem dL_spell_21 : decode cL_spell 21 = .ok (.iconst 0, 1) := by decide +kernel
theorem dL_spell_22 : decode cL_spell 22 = .ok (.ireturn, 1) := by decide +kernel
set_option maxRecDepth 20000 in
theorem ggL_law_X0_init : GoodIn wsL_law wsX0_init := goodIn_r _ [9, 10, 11, 12, 13, 14, 15, 16, 17, 18, 19, 20, 21, 22, 23, 414, 415, 416, 417, 418, 419, 420, 421] (by decide +kernel) (by decide +kernel)
set_option maxRecDepth 20000 in
theorem gL_law_X0_init : GoodIn wsL_law (wsX0_init) := ggL_law_X0_init
set_option maxRecDepth 20000 in
theorem ggL_law_X1_init : GoodIn wsL_law wsX1_init := goodIn_r _ [26, 27, 11, 12, 15, 28, 29, 22, 30, 422, 423, 424, 425, 426, 427] (by decide +kernel) (by decide +kernel)
set_option maxRecDepth 20000 in
theorem gL_law_X1_init : GoodIn wsL_law (wsX1_init) := ggL_law_X1_init
set_option maxRecDepth 20000 in
theorem ggL_law_L_count : GoodIn wsL_law wsL_count := goodIn_ca (goodIn_r _ [34, 35, 36, 37, 38, 2, 39, 40, 41, 13, 414, 415, 416, 417, 418, 419, 420, 421] (by decide +kernel) (by decide +kernel)) (goodIn_sub (fun _ h => List.mem_append_left _ (List.mem_append_left _ (List.mem_append_right _ h))) (by decide +kernel))
set_option maxRecDepth 20000 in
theorem gL_law_L_count : GoodIn wsL_law (va_wsS RL 70 yL_count wsL_count) := goodIn_app (goodIn_of _ (by decide +kernel)) ggL_law_L_count
set_option maxRecDepth 20000 in
theorem ggL_law_X1_count : GoodIn wsL_law wsX1_count := goodIn_r _ [45, 46, 47, 48, 49, 5, 50, 51, 52, 53, 54, 422, 423, 424, 425, 426, 427] (by decide +kernel) (by decide +kernel)
set_option maxRecDepth 20000 in
theorem gL_law_X1_count : GoodIn wsL_law (wsV RL 75 RX1 yX1_count wsX1_count) := goodIn_app (goodIn_of _ (by decide +kernel)) ggL_law_X1_count
set_option maxRecDepth 20000 in
theorem ggL_law_X1_thrown : GoodIn wsL_law wsX1_thrown := goodIn_r _ [58, 46, 422, 423, 424, 425, 426, 427] (by decide +kernel) (by decide +kernel)
set_option maxRecDepth 20000 in
theorem gL_law_X1_thrown : GoodIn wsL_law (wsV RL 76 RX1 yX1_thrown wsX1_thrown) := goodIn_app (goodIn_of _ (by decide +kernel)) ggL_law_X1_thrown
set_option maxRecDepth 20000 in
theorem ggL_law_L_letter : GoodIn wsL_law wsL_letter := goodIn_ca (goodIn_r _ [61, 35, 62, 63, 64, 2, 65, 40, 41, 66, 67, 68, 69, 13, 414, 415, 416, 417, 418, 419, 420, 421] (by decide +kernel) (by decide +kernel)) (goodIn_sub (fun _ h => List.mem_append_left _ (List.mem_append_left _ (List.mem_append_right _ h))) (by decide +kernel))
set_option maxRecDepth 20000 in
theorem gL_law_L_letter : GoodIn wsL_law (va_wsS RL 79 yL_letter wsL_letter) := goodIn_app (goodIn_of _ (by decide +kernel)) ggL_law_L_letter
set_option maxRecDepth 20000 in
theorem ggL_law_X1_letter : GoodIn wsL_law wsX1_letter := goodIn_r _ [73, 46, 48, 49, 5, 50, 74, 75, 76, 77, 47, 51, 52, 53, 54, 422, 423, 424, 425, 426, 427] (by decide +kernel) (by decide +kernel)
set_option maxRecDepth 20000 in
theorem gL_law_X1_letter : GoodIn wsL_law (wsV RL 81 RX1 yX1_letter wsX1_letter) := goodIn_app (goodIn_of _ (by decide +kernel)) ggL_law_X1_letter
set_option maxRecDepth 20000 in
theorem ggL_law_L_value : GoodIn wsL_law wsL_value := goodIn_ca (goodIn_r _ [80, 81, 82, 83, 84, 2, 85, 86, 87, 88, 89, 90, 91, 92, 93, 94, 95, 96, 97, 98, 99, 100, 101, 102, 103, 104, 66, 67, 68, 69, 13, 414, 415, 416, 417, 418, 419, 420, 421] (by decide +kernel) (by decide +kernel)) (goodIn_sub (fun _ h => List.mem_append_left _ (List.mem_append_right _ h)) (by decide +kernel))
set_option maxRecDepth 20000 in
theorem gL_law_L_value : GoodIn wsL_law (va_wsS RL 82 yL_value wsL_value) := goodIn_app (goodIn_of _ (by decide +kernel)) ggL_law_L_value
set_option maxRecDepth 20000 in
theorem ggL_law_X1_value : GoodIn wsL_law wsX1_value := goodIn_r _ [108, 46, 109, 110, 5, 111, 112, 113, 114, 115, 116, 117, 118, 119, 120, 121, 74, 75, 76, 77, 47, 51, 52, 53, 54, 422, 423, 424, 425, 426, 427] (by decide +kernel) (by decide +kernel)
set_option maxRecDepth 20000 in
theorem gL_law_X1_value : GoodIn wsL_law (wsV RL 84 RX1 yX1_value wsX1_value) := goodIn_app (goodIn_of _ (by decide +kernel)) ggL_law_X1_value
set_option maxRecDepth 20000 in
theorem ggL_law_L_alike : GoodIn wsL_law wsL_alike := goodIn_ca (goodIn_r _ [124, 81, 125, 126, 127, 2, 128, 86, 87, 88, 89, 90, 91, 92, 93, 94, 129, 130, 131] (by decide +kernel) (by decide +kernel)) (goodIn_sub (fun _ h => List.mem_append_left _ (List.mem_append_right _ h)) (by decide +kernel))
set_option maxRecDepth 20000 in
theorem gL_law_L_alike : GoodIn wsL_law (va_wsS RL 85 yL_alike wsL_alike) := goodIn_app (goodIn_of _ (by decide +kernel)) ggL_law_L_alike
set_option maxRecDepth 20000 in
theorem ggL_law_X1_alike : GoodIn wsL_law wsX1_alike := goodIn_r _ [135, 46, 109, 110, 5, 111, 112, 113, 114, 136, 137, 138, 119, 120, 121, 422, 423, 424, 425, 426, 427] (by decide +kernel) (by decide +kernel)
set_option maxRecDepth 20000 in
theorem gL_law_X1_alike : GoodIn wsL_law (wsV RL 88 RX1 yX1_alike wsX1_alike) := goodIn_app (goodIn_of _ (by decide +kernel)) ggL_law_X1_alike
set_option maxRecDepth 20000 in
theorem ggL_law_L_write : GoodIn wsL_law wsL_write := goodIn_ca (goodIn_r _ [141, 142, 143, 144, 145, 2, 146, 147, 148, 14, 414, 415, 416, 417, 418, 419, 420, 421] (by decide +kernel) (by decide +kernel)) (goodIn_sub (fun _ h => List.mem_append_right _ h) (by decide +kernel))
set_option maxRecDepth 20000 in
theorem gL_law_L_write : GoodIn wsL_law (va_wsS RL 89 yL_write wsL_write) := goodIn_app (goodIn_of _ (by decide +kernel)) ggL_law_L_write
set_option maxRecDepth 20000 in
theorem ggL_law_X1_write : GoodIn wsL_law wsX1_write := goodIn_r _ [152, 46, 153, 51, 52, 53, 5, 54, 422, 423, 424, 425, 426, 427] (by decide +kernel) (by decide +kernel)
set_option maxRecDepth 20000 in
theorem gL_law_X1_write : GoodIn wsL_law (wsV RL 92 RX1 yX1_write wsX1_write) := goodIn_app (goodIn_of _ (by decide +kernel)) ggL_law_X1_write
set_option maxRecDepth 20000 in
theorem ggL_law_L_add : GoodIn wsL_law wsL_add := goodIn_ca (goodIn_ca (goodIn_ca (goodIn_r _ [156, 35, 81, 142, 157, 158, 159, 2, 160, 147, 148, 16, 18, 19, 161, 162, 163, 164, 40, 41, 14, 86, 87, 88, 89, 90, 91, 92, 93, 94, 414, 415, 416, 417, 418, 419, 420, 421] (by decide +kernel) (by decide +kernel)) (goodIn_sub (fun _ h => List.mem_append_right _ h) (by decide +kernel))) (goodIn_sub (fun _ h => List.mem_append_left _ (List.mem_append_left _ (List.mem_append_right _ h))) (by decide +kernel))) (goodIn_sub (fun _ h => List.mem_append_left _ (List.mem_append_right _ h)) (by decide +kernel))
set_option maxRecDepth 20000 in
theorem gL_law_L_add : GoodIn wsL_law (va_wsS RL 93 yL_add wsL_add) := goodIn_app (goodIn_of _ (by decide +kernel)) ggL_law_L_add
set_option maxRecDepth 20000 in
theorem ggL_law_X1_add : GoodIn wsL_law wsX1_add := goodIn_r _ [168, 46, 28, 29, 30, 169, 170, 171, 5, 172, 153, 48, 49, 50, 51, 52, 53, 54, 109, 110, 111, 112, 113, 114, 173, 174, 175, 176, 422, 423, 424, 425, 426, 427] (by decide +kernel) (by decide +kernel)
set_option maxRecDepth 20000 in
theorem gL_law_X1_add : GoodIn wsL_law (wsV RL 95 RX1 yX1_add wsX1_add) := goodIn_app (goodIn_of _ (by decide +kernel)) ggL_law_X1_add
set_option maxRecDepth 20000 in
theorem ggL_law_L_cut : GoodIn wsL_law wsL_cut := goodIn_ca (goodIn_ca (goodIn_r _ [179, 35, 142, 180, 181, 182, 2, 183, 147, 148, 16, 18, 161, 162, 163, 164, 40, 41, 14, 414, 415, 416, 417, 418, 419, 420, 421] (by decide +kernel) (by decide +kernel)) (goodIn_sub (fun _ h => List.mem_append_right _ h) (by decide +kernel))) (goodIn_sub (fun _ h => List.mem_append_left _ (List.mem_append_left _ (List.mem_append_right _ h))) (by decide +kernel))
set_option maxRecDepth 20000 in
theorem gL_law_L_cut : GoodIn wsL_law (va_wsS RL 96 yL_cut wsL_cut) := goodIn_app (goodIn_of _ (by decide +kernel)) ggL_law_L_cut
set_option maxRecDepth 20000 in
theorem ggL_law_X1_cut : GoodIn wsL_law wsX1_cut := goodIn_r _ [187, 46, 28, 169, 170, 171, 5, 172, 153, 48, 49, 50, 51, 52, 53, 54, 188, 189, 190, 191, 29, 422, 423, 424, 425, 426, 427] (by decide +kernel) (by decide +kernel)
set_option maxRecDepth 20000 in
theorem gL_law_X1_cut : GoodIn wsL_law (wsV RL 98 RX1 yX1_cut wsX1_cut) := goodIn_app (goodIn_of _ (by decide +kernel)) ggL_law_X1_cut
set_option maxRecDepth 20000 in
theorem ggL_law_L_mark : GoodIn wsL_law wsL_mark := goodIn_ca (goodIn_r _ [194, 35, 195, 196, 197, 2, 198, 40, 41, 18, 19, 199, 200, 201, 202, 16, 161, 162, 163, 164, 14, 99, 100, 101, 102, 103, 104, 414, 415, 416, 417, 418, 419, 420, 421] (by decide +kernel) (by decide +kernel)) (goodIn_sub (fun _ h => List.mem_append_left _ (List.mem_append_left _ (List.mem_append_right _ h))) (by decide +kernel))
set_option maxRecDepth 20000 in
theorem gL_law_L_mark : GoodIn wsL_law (va_wsS RL 99 yL_mark wsL_mark) := goodIn_app (goodIn_of _ (by decide +kernel)) ggL_law_L_mark
set_option maxRecDepth 20000 in
theorem ggL_law_X1_mark : GoodIn wsL_law wsX1_mark := goodIn_r _ [206, 46, 30, 207, 208, 209, 5, 210, 28, 169, 170, 171, 172, 153, 48, 49, 50, 188, 189, 190, 191, 29, 112, 113, 114, 173, 174, 175, 176, 422, 423, 424, 425, 426, 427] (by decide +kernel) (by decide +kernel)
set_option maxRecDepth 20000 in
theorem gL_law_X1_mark : GoodIn wsL_law (wsV RL 102 RX1 yX1_mark wsX1_mark) := goodIn_app (goodIn_of _ (by decide +kernel)) ggL_law_X1_mark
set_option maxRecDepth 20000 in
theorem ggL_law_L_word : GoodIn wsL_law wsL_word := goodIn_ca (goodIn_r _ [213, 35, 214, 215, 216, 2, 217, 199, 200, 201, 202, 40, 41, 16, 161, 162, 163, 164, 14, 218, 219, 220, 221, 222, 223, 224, 18, 19, 99, 100, 101, 95, 96, 97, 98, 102, 103, 104, 66, 67, 68, 69, 13, 225, 226, 227, 228, 229, 230, 231, 414, 415, 416, 417, 418, 419, 420, 421] (by decide +kernel) (by decide +kernel)) (goodIn_sub (fun _ h => List.mem_append_left _ (List.mem_append_left _ (List.mem_append_right _ h))) (by decide +kernel))
set_option maxRecDepth 20000 in
theorem gL_law_L_word : GoodIn wsL_law (va_wsS RL 103 yL_word wsL_word) := goodIn_app (goodIn_of _ (by decide +kernel)) ggL_law_L_word
set_option maxRecDepth 20000 in
theorem ggL_law_X1_word : GoodIn wsL_law wsX1_word := goodIn_r _ [235, 46, 207, 208, 209, 5, 210, 28, 169, 170, 171, 172, 153, 48, 49, 50, 236, 237, 238, 239, 30, 188, 189, 190, 191, 29, 112, 113, 114, 115, 116, 117, 118, 119, 120, 121, 74, 75, 76, 77, 47, 173, 174, 175, 176, 51, 52, 53, 54, 422, 423, 424, 425, 426, 427] (by decide +kernel) (by decide +kernel)
set_option maxRecDepth 20000 in
theorem gL_law_X1_word : GoodIn wsL_law (wsV RL 105 RX1 yX1_word wsX1_word) := goodIn_app (goodIn_of _ (by decide +kernel)) ggL_law_X1_word
set_option maxRecDepth 20000 in
theorem ggL_law_L_line : GoodIn wsL_law wsL_line := goodIn_ca (goodIn_r _ [242, 35, 243, 244, 245, 2, 246, 161, 162, 163, 164, 40, 41, 14, 218, 219, 220, 247, 248, 249, 250, 16, 221, 222, 223, 224, 18, 19, 99, 100, 101, 95, 96, 97, 98, 102, 103, 104, 66, 67, 68, 69, 13, 225, 226, 227, 228, 229, 230, 231, 414, 415, 416, 417, 418, 419, 420, 421] (by decide +kernel) (by decide +kernel)) (goodIn_sub (fun _ h => List.mem_append_left _ (List.mem_append_left _ (List.mem_append_right _ h))) (by decide +kernel))
set_option maxRecDepth 20000 in
theorem gL_law_L_line : GoodIn wsL_law (va_wsS RL 106 yL_line wsL_line) := goodIn_app (goodIn_of _ (by decide +kernel)) ggL_law_L_line
set_option maxRecDepth 20000 in
theorem ggL_law_X1_line : GoodIn wsL_law wsX1_line := goodIn_r _ [254, 46, 169, 170, 171, 5, 172, 153, 48, 49, 50, 255, 256, 257, 258, 28, 236, 237, 238, 239, 30, 188, 189, 190, 191, 29, 112, 113, 114, 115, 116, 117, 118, 119, 120, 121, 74, 75, 76, 77, 47, 173, 174, 175, 176, 51, 52, 53, 54, 422, 423, 424, 425, 426, 427] (by decide +kernel) (by decide +kernel)
set_option maxRecDepth 20000 in
theorem gL_law_X1_line : GoodIn wsL_law (wsV RL 108 RX1 yX1_line wsX1_line) := goodIn_app (goodIn_of _ (by decide +kernel)) ggL_law_X1_line
set_option maxRecDepth 20000 in
theorem ggL_law_L_told : GoodIn wsL_law wsL_told := goodIn_ca (goodIn_r _ [261, 35, 262, 263, 264, 2, 265, 14, 218, 219, 220, 40, 41, 266, 267, 268, 269, 16, 18, 20, 95, 96, 97, 98, 99, 100, 101, 102, 103, 104, 66, 67, 68, 69, 13, 270, 271, 272, 273, 274, 275, 276, 277, 247, 248, 249, 250, 221, 222, 223, 224, 19, 225, 226, 227, 228, 229, 230, 231, 414, 415, 416, 417, 418, 419, 420, 421] (by decide +kernel) (by decide +kernel)) (goodIn_sub (fun _ h => List.mem_append_left _ (List.mem_append_left _ (List.mem_append_right _ h))) (by decide +kernel))
set_option maxRecDepth 20000 in
theorem gL_law_L_told : GoodIn wsL_law (va_wsS RL 109 yL_told wsL_told) := goodIn_app (goodIn_of _ (by decide +kernel)) ggL_law_L_told
set_option maxRecDepth 20000 in
theorem ggL_law_X1_told : GoodIn wsL_law wsX1_told := goodIn_r _ [281, 46, 48, 49, 5, 50, 282, 283, 284, 285, 153, 286, 287, 288, 289, 29, 207, 208, 209, 210, 28, 169, 170, 171, 172, 115, 116, 117, 118, 112, 113, 114, 119, 120, 121, 74, 75, 76, 77, 47, 290, 291, 292, 293, 255, 256, 257, 258, 236, 237, 238, 239, 30, 188, 189, 190, 191, 173, 174, 175, 176, 51, 52, 53, 54, 422, 423, 424, 425, 426, 427] (by decide +kernel) (by decide +kernel)
set_option maxRecDepth 20000 in
theorem gL_law_X1_told : GoodIn wsL_law (wsV RL 111 RX1 yX1_told wsX1_told) := goodIn_app (goodIn_of _ (by decide +kernel)) ggL_law_X1_told
set_option maxRecDepth 20000 in
theorem ggL_law_L_hidden : GoodIn wsL_law wsL_hidden := goodIn_ca (goodIn_r _ [296, 35, 297, 298, 299, 2, 300, 16, 161, 162, 163, 164, 40, 41, 14, 301, 302, 303, 304, 18, 95, 96, 97, 98, 99, 100, 101, 102, 103, 104, 66, 67, 68, 69, 13, 414, 415, 416, 417, 418, 419, 420, 421] (by decide +kernel) (by decide +kernel)) (goodIn_sub (fun _ h => List.mem_append_left _ (List.mem_append_left _ (List.mem_append_right _ h))) (by decide +kernel))
set_option maxRecDepth 20000 in
theorem gL_law_L_hidden : GoodIn wsL_law (va_wsS RL 112 yL_hidden wsL_hidden) := goodIn_app (goodIn_of _ (by decide +kernel)) ggL_law_L_hidden
set_option maxRecDepth 20000 in
theorem ggL_law_X1_hidden : GoodIn wsL_law wsX1_hidden := goodIn_r _ [308, 46, 28, 169, 170, 171, 5, 172, 153, 48, 49, 50, 51, 52, 53, 54, 309, 310, 311, 312, 188, 189, 190, 191, 29, 115, 116, 117, 118, 112, 113, 114, 119, 120, 121, 74, 75, 76, 77, 47, 422, 423, 424, 425, 426, 427] (by decide +kernel) (by decide +kernel)
set_option maxRecDepth 20000 in
theorem gL_law_X1_hidden : GoodIn wsL_law (wsV RL 114 RX1 yX1_hidden wsX1_hidden) := goodIn_app (goodIn_of _ (by decide +kernel)) ggL_law_X1_hidden
set_option maxRecDepth 20000 in
theorem ggL_law_X0_hides : GoodIn wsL_law wsX0_hides := goodIn_r _ [316, 14, 16, 301, 302, 303, 2, 304, 18, 95, 96, 97, 98, 99, 100, 101, 102, 103, 104, 66, 67, 68, 69, 13, 414, 415, 416, 417, 418, 419, 420, 421] (by decide +kernel) (by decide +kernel)
set_option maxRecDepth 20000 in
theorem gL_law_X0_hides : GoodIn wsL_law (wsV RL 115 RX0 yX0_hides wsX0_hides) := goodIn_app (goodIn_of _ (by decide +kernel)) ggL_law_X0_hides
set_option maxRecDepth 20000 in
theorem ggL_law_X1_hides : GoodIn wsL_law wsX1_hides := goodIn_r _ [320, 46, 153, 28, 309, 310, 311, 5, 312, 188, 189, 190, 191, 29, 115, 116, 117, 118, 112, 113, 114, 119, 120, 121, 74, 75, 76, 77, 47, 422, 423, 424, 425, 426, 427] (by decide +kernel) (by decide +kernel)
set_option maxRecDepth 20000 in
theorem gL_law_X1_hides : GoodIn wsL_law (wsV RL 118 RX1 yX1_hides wsX1_hides) := goodIn_app (goodIn_of _ (by decide +kernel)) ggL_law_X1_hides
set_option maxRecDepth 20000 in
theorem ggL_law_L_lacks : GoodIn wsL_law wsL_lacks := goodIn_ca (goodIn_r _ [323, 35, 324, 325, 326, 2, 327, 161, 162, 163, 164, 40, 41, 14, 247, 248, 249, 250, 16, 221, 222, 223, 224, 18, 19, 99, 100, 101, 95, 96, 97, 98, 102, 103, 104, 66, 67, 68, 69, 13, 225, 226, 227, 228, 229, 230, 231, 414, 415, 416, 417, 418, 419, 420, 421] (by decide +kernel) (by decide +kernel)) (goodIn_sub (fun _ h => List.mem_append_left _ (List.mem_append_left _ (List.mem_append_right _ h))) (by decide +kernel))
set_option maxRecDepth 20000 in
theorem gL_law_L_lacks : GoodIn wsL_law (va_wsS RL 119 yL_lacks wsL_lacks) := goodIn_app (goodIn_of _ (by decide +kernel)) ggL_law_L_lacks
set_option maxRecDepth 20000 in
theorem ggL_law_X1_lacks : GoodIn wsL_law wsX1_lacks := goodIn_r _ [331, 46, 169, 170, 171, 5, 172, 153, 48, 49, 50, 51, 52, 53, 54, 255, 256, 257, 258, 28, 236, 237, 238, 239, 30, 188, 189, 190, 191, 29, 112, 113, 114, 115, 116, 117, 118, 119, 120, 121, 74, 75, 76, 77, 47, 173, 174, 175, 176, 422, 423, 424, 425, 426, 427] (by decide +kernel) (by decide +kernel)
set_option maxRecDepth 20000 in
theorem gL_law_X1_lacks : GoodIn wsL_law (wsV RL 121 RX1 yX1_lacks wsX1_lacks) := goodIn_app (goodIn_of _ (by decide +kernel)) ggL_law_X1_lacks
set_option maxRecDepth 20000 in
theorem ggL_law_X0_nearest : GoodIn wsL_law wsX0_nearest := goodIn_r _ [335, 14, 336, 337, 338, 339, 247, 248, 249, 2, 250, 16, 221, 222, 223, 224, 18, 19, 99, 100, 101, 95, 96, 97, 98, 102, 103, 104, 66, 67, 68, 69, 13, 225, 226, 227, 228, 229, 230, 231, 414, 415, 416, 417, 418, 419, 420, 421] (by decide +kernel) (by decide +kernel)
set_option maxRecDepth 20000 in
theorem gL_law_X0_nearest : GoodIn wsL_law (wsV RL 122 RX0 yX0_nearest wsX0_nearest) := goodIn_app (goodIn_of _ (by decide +kernel)) ggL_law_X0_nearest
set_option maxRecDepth 20000 in
theorem ggL_law_X1_nearest : GoodIn wsL_law wsX1_nearest := goodIn_r _ [343, 46, 153, 344, 337, 338, 339, 255, 256, 257, 5, 258, 28, 236, 237, 238, 239, 30, 188, 189, 190, 191, 29, 112, 113, 114, 115, 116, 117, 118, 119, 120, 121, 74, 75, 76, 77, 47, 173, 174, 175, 176, 422, 423, 424, 425, 426, 427] (by decide +kernel) (by decide +kernel)
set_option maxRecDepth 20000 in
theorem gL_law_X1_nearest : GoodIn wsL_law (wsV RL 125 RX1 yX1_nearest wsX1_nearest) := goodIn_app (goodIn_of _ (by decide +kernel)) ggL_law_X1_nearest
set_option maxRecDepth 20000 in
theorem ggL_law_L_letters : GoodIn wsL_law wsL_letters := goodIn_ca (goodIn_r _ [347, 81, 348, 349, 350, 2, 351, 21, 13, 352, 353, 354, 89, 90, 355, 356, 357, 358, 23, 359, 360, 361, 362, 66, 67, 68, 69, 414, 415, 416, 417, 418, 419, 420, 421] (by decide +kernel) (by decide +kernel)) (goodIn_sub (fun _ h => List.mem_append_left _ (List.mem_append_right _ h)) (by decide +kernel))
set_option maxRecDepth 20000 in
theorem gL_law_L_letters : GoodIn wsL_law (va_wsS RL 126 yL_letters wsL_letters) := goodIn_app (goodIn_of _ (by decide +kernel)) ggL_law_L_letters
set_option maxRecDepth 20000 in
theorem ggL_law_X1_letters : GoodIn wsL_law wsX1_letters := goodIn_r _ [366, 46, 48, 49, 5, 50, 51, 52, 53, 54, 367, 368, 369, 370, 15, 371, 372, 338, 373, 74, 75, 76, 77, 47, 422, 423, 424, 425, 426, 427] (by decide +kernel) (by decide +kernel)
set_option maxRecDepth 20000 in
theorem gL_law_X1_letters : GoodIn wsL_law (wsV RL 128 RX1 yX1_letters wsX1_letters) := goodIn_app (goodIn_of _ (by decide +kernel)) ggL_law_X1_letters
set_option maxRecDepth 20000 in
theorem ggL_law_L_spell : GoodIn wsL_law wsL_spell := goodIn_ca (goodIn_ca (goodIn_r _ [376, 81, 35, 377, 378, 379, 2, 380, 40, 41, 21, 13, 352, 353, 354, 89, 90, 355, 356, 357, 358, 23, 359, 360, 361, 362, 66, 67, 68, 69, 381, 382, 383, 384, 414, 415, 416, 417, 418, 419, 420, 421] (by decide +kernel) (by decide +kernel)) (goodIn_sub (fun _ h => List.mem_append_left _ (List.mem_append_left _ (List.mem_append_right _ h))) (by decide +kernel))) (goodIn_sub (fun _ h => List.mem_append_left _ (List.mem_append_right _ h)) (by decide +kernel))
set_option maxRecDepth 20000 in
theorem gL_law_L_spell : GoodIn wsL_law (va_wsS RL 129 yL_spell wsL_spell) := goodIn_app (goodIn_of _ (by decide +kernel)) ggL_law_L_spell
set_option maxRecDepth 20000 in
theorem ggL_law_X1_spell : GoodIn wsL_law wsX1_spell := goodIn_r _ [388, 46, 48, 49, 5, 50, 51, 52, 53, 54, 367, 368, 369, 370, 15, 371, 372, 338, 373, 74, 75, 76, 77, 47, 422, 423, 424, 425, 426, 427] (by decide +kernel) (by decide +kernel)
set_option maxRecDepth 20000 in
theorem gL_law_X1_spell : GoodIn wsL_law (wsV RL 131 RX1 yX1_spell wsX1_spell) := goodIn_app (goodIn_of _ (by decide +kernel)) ggL_law_X1_spell
set_option maxRecDepth 20000 in
theorem ggL_law_X0_mean : GoodIn wsL_law wsX0_mean := goodIn_r _ [392, 274, 275, 276, 2, 277, 14, 247, 248, 249, 250, 16, 221, 222, 223, 224, 18, 19, 99, 100, 101, 95, 96, 97, 98, 102, 103, 104, 66, 67, 68, 69, 13, 225, 226, 227, 228, 229, 230, 231, 414, 415, 416, 417, 418, 419, 420, 421] (by decide +kernel) (by decide +kernel)
set_option maxRecDepth 20000 in
theorem gL_law_X0_mean : GoodIn wsL_law (wsV RL 132 RX0 yX0_mean wsX0_mean) := goodIn_app (goodIn_of _ (by decide +kernel)) ggL_law_X0_mean
set_option maxRecDepth 20000 in
theorem ggL_law_X1_mean : GoodIn wsL_law wsX1_mean := goodIn_r _ [396, 46, 290, 291, 292, 5, 293, 153, 255, 256, 257, 258, 28, 236, 237, 238, 239, 30, 188, 189, 190, 191, 29, 112, 113, 114, 115, 116, 117, 118, 119, 120, 121, 74, 75, 76, 77, 47, 173, 174, 175, 176, 422, 423, 424, 425, 426, 427] (by decide +kernel) (by decide +kernel)
set_option maxRecDepth 20000 in
theorem gL_law_X1_mean : GoodIn wsL_law (wsV RL 136 RX1 yX1_mean wsX1_mean) := goodIn_app (goodIn_of _ (by decide +kernel)) ggL_law_X1_mean
set_option maxRecDepth 20000 in
theorem ggL_law_X0_digest : GoodIn wsL_law wsX0_digest := goodIn_ca (goodIn_r _ [400, 401, 402, 13, 14, 403, 263, 264, 2, 265, 218, 219, 220, 40, 41, 266, 267, 268, 269, 16, 18, 20, 95, 96, 97, 98, 99, 100, 101, 102, 103, 104, 66, 67, 68, 69, 270, 271, 272, 273, 274, 275, 276, 277, 247, 248, 249, 250, 221, 222, 223, 224, 19, 225, 226, 227, 228, 229, 230, 231, 404, 405, 406, 407, 414, 415, 416, 417, 418, 419, 420, 421] (by decide +kernel) (by decide +kernel)) (goodIn_sub (fun _ h => List.mem_append_left _ (List.mem_append_left _ (List.mem_append_right _ h))) (by decide +kernel))
set_option maxRecDepth 20000 in
theorem gL_law_X0_digest : GoodIn wsL_law (wsV RL 137 RX0 yX0_digest wsX0_digest) := goodIn_app (goodIn_of _ (by decide +kernel)) ggL_law_X0_digest
set_option maxRecDepth 20000 in
theorem ggL_law_X1_digest : GoodIn wsL_law wsX1_digest := goodIn_r _ [411, 46, 412, 47, 413, 153, 28, 282, 283, 284, 5, 285, 286, 287, 288, 289, 29, 207, 208, 209, 210, 169, 170, 171, 172, 48, 49, 50, 115, 116, 117, 118, 112, 113, 114, 119, 120, 121, 74, 75, 76, 77, 290, 291, 292, 293, 255, 256, 257, 258, 236, 237, 238, 239, 30, 188, 189, 190, 191, 173, 174, 175, 176, 422, 423, 424, 425, 426, 427] (by decide +kernel) (by decide +kernel)
set_option maxRecDepth 20000 in
theorem gL_law_X1_digest : GoodIn wsL_law (wsV RL 141 RX1 yX1_digest wsX1_digest) := goodIn_app (goodIn_of _ (by decide +kernel)) ggL_law_X1_digest
theorem dL_law_0 : decode cL_law 0 = .ok (.new 8, 3) := by decide +kernel
theorem dL_law_3 : decode cL_law 3 = .ok (.dup, 1) := by decide +kernel
theorem dL_law_4 : decode cL_law 4 = .ok (.invokespecial 66, 3) := by decide +kernel
theorem dL_law_7 : decode cL_law 7 = .ok (.astore_n 1, 1) := by decide +kernel
theorem dL_law_8 : decode cL_law 8 = .ok (.new 67, 3) := by decide +kernel
theorem dL_law_11 : decode cL_law 11 = .ok (.dup, 1) := by decide +kernel
theorem dL_law_12 : decode cL_law 12 = .ok (.invokespecial 69, 3) := by decide +kernel
theorem dL_law_15 : decode cL_law 15 = .ok (.astore_n 2, 1) := by decide +kernel
theorem dL_law_16 : decode cL_law 16 = .ok (.iconst 1, 1) := by decide +kernel
theorem dL_law_17 : decode cL_law 17 = .ok (.newarray .long, 2) := by decide +kernel
theorem dL_law_19 : decode cL_law 19 = .ok (.astore_n 3, 1) := by decide +kernel
theorem dL_law_20 : decode cL_law 20 = .ok (.iconst 0, 1) := by decide +kernel
theorem dL_law_21 : decode cL_law 21 = .ok (.istore 4, 2) := by decide +kernel
theorem dL_law_23 : decode cL_law 23 = .ok (.iload 4, 2) := by decide +kernel
theorem dL_law_25 : decode cL_law 25 = .ok (.aload_n 0, 1) := by decide +kernel
theorem dL_law_26 : decode cL_law 26 = .ok (.arraylength, 1) := by decide +kernel
theorem dL_law_27 : decode cL_law 27 = .ok (.iconst 4, 1) := by decide +kernel
theorem dL_law_28 : decode cL_law 28 = .ok (.isub, 1) := by decide +kernel
theorem dL_law_29 : decode cL_law 29 = .ok (.if_icmp .gt 1172, 3) := by decide +kernel
theorem dL_law_32 : decode cL_law 32 = .ok (.aload_n 0, 1) := by decide +kernel
theorem dL_law_33 : decode cL_law 33 = .ok (.iload 4, 2) := by decide +kernel
theorem dL_law_35 : decode cL_law 35 = .ok (.iaload, 1) := by decide +kernel
theorem dL_law_36 : decode cL_law 36 = .ok (.bipush 31, 2) := by decide +kernel
theorem dL_law_38 : decode cL_law 38 = .ok (.iand, 1) := by decide +kernel
theorem dL_law_39 : decode cL_law 39 = .ok (.tableswitch 1156 0 18 #[89, 145, 201, 257, 332, 376, 444, 500, 587, 667, 735, 791, 859, 884, 952, 977, 1033, 1101, 1142], 89) := by decide +kernel
theorem dL_law_128 : decode cL_law 128 = .ok (.aload_n 1, 1) := by decide +kernel
theorem dL_law_129 : decode cL_law 129 = .ok (.aload_n 0, 1) := by decide +kernel
theorem dL_law_130 : decode cL_law 130 = .ok (.iload 4, 2) := by decide +kernel
theorem dL_law_132 : decode cL_law 132 = .ok (.iconst 1, 1) := by decide +kernel
theorem dL_law_133 : decode cL_law 133 = .ok (.iadd, 1) := by decide +kernel
theorem dL_law_134 : decode cL_law 134 = .ok (.iaload, 1) := by decide +kernel
theorem dL_law_135 : decode cL_law 135 = .ok (.aload_n 3, 1) := by decide +kernel
theorem dL_law_136 : decode cL_law 136 = .ok (.invokestatic 70, 3) := by decide +kernel
theorem dL_law_139 : decode cL_law 139 = .ok (.istore 5, 2) := by decide +kernel
theorem dL_law_141 : decode cL_law 141 = .ok (.aload_n 2, 1) := by decide +kernel
theorem dL_law_142 : decode cL_law 142 = .ok (.aload_n 0, 1) := by decide +kernel
theorem dL_law_143 : decode cL_law 143 = .ok (.iload 4, 2) := by decide +kernel
theorem dL_law_145 : decode cL_law 145 = .ok (.iconst 1, 1) := by decide +kernel
theorem dL_law_146 : decode cL_law 146 = .ok (.iadd, 1) := by decide +kernel
theorem dL_law_147 : decode cL_law 147 = .ok (.iaload, 1) := by decide +kernel
theorem dL_law_148 : decode cL_law 148 = .ok (.invokevirtual 75, 3) := by decide +kernel
theorem dL_law_151 : decode cL_law 151 = .ok (.istore 6, 2) := by decide +kernel
theorem dL_law_153 : decode cL_law 153 = .ok (.aload_n 2, 1) := by decide +kernel
theorem dL_law_154 : decode cL_law 154 = .ok (.invokevirtual 76, 3) := by decide +kernel
theorem dL_law_157 : decode cL_law 157 = .ok (.iload 5, 2) := by decide +kernel
theorem dL_law_159 : decode cL_law 159 = .ok (.if_icmp .eq 5, 3) := by decide +kernel
theorem dL_law_162 : decode cL_law 162 = .ok (.iconst 0, 1) := by decide +kernel
theorem dL_law_163 : decode cL_law 163 = .ok (.ireturn, 1) := by decide +kernel
theorem dL_law_164 : decode cL_law 164 = .ok (.iload 5, 2) := by decide +kernel
theorem dL_law_166 : decode cL_law 166 = .ok (.ifCond .ne 15, 3) := by decide +kernel
theorem dL_law_169 : decode cL_law 169 = .ok (.aload_n 3, 1) := by decide +kernel
theorem dL_law_170 : decode cL_law 170 = .ok (.iconst 0, 1) := by decide +kernel
theorem dL_law_171 : decode cL_law 171 = .ok (.laload, 1) := by decide +kernel
theorem dL_law_172 : decode cL_law 172 = .ok (.iload 6, 2) := by decide +kernel
theorem dL_law_174 : decode cL_law 174 = .ok (.i2l, 1) := by decide +kernel
theorem dL_law_175 : decode cL_law 175 = .ok (.lcmp, 1) := by decide +kernel
theorem dL_law_176 : decode cL_law 176 = .ok (.ifCond .eq 5, 3) := by decide +kernel
theorem dL_law_179 : decode cL_law 179 = .ok (.iconst 0, 1) := by decide +kernel
theorem dL_law_180 : decode cL_law 180 = .ok (.ireturn, 1) := by decide +kernel
theorem dL_law_181 : decode cL_law 181 = .ok (.goto 1014, 3) := by decide +kernel
theorem dL_law_184 : decode cL_law 184 = .ok (.aload_n 1, 1) := by decide +kernel
theorem dL_law_185 : decode cL_law 185 = .ok (.aload_n 0, 1) := by decide +kernel
theorem dL_law_186 : decode cL_law 186 = .ok (.iload 4, 2) := by decide +kernel
theorem dL_law_188 : decode cL_law 188 = .ok (.iconst 1, 1) := by decide +kernel
theorem dL_law_189 : decode cL_law 189 = .ok (.iadd, 1) := by decide +kernel
theorem dL_law_190 : decode cL_law 190 = .ok (.iaload, 1) := by decide +kernel
theorem dL_law_191 : decode cL_law 191 = .ok (.aload_n 3, 1) := by decide +kernel
theorem dL_law_192 : decode cL_law 192 = .ok (.invokestatic 79, 3) := by decide +kernel
theorem dL_law_195 : decode cL_law 195 = .ok (.istore 5, 2) := by decide +kernel
theorem dL_law_197 : decode cL_law 197 = .ok (.aload_n 2, 1) := by decide +kernel
theorem dL_law_198 : decode cL_law 198 = .ok (.aload_n 0, 1) := by decide +kernel
theorem dL_law_199 : decode cL_law 199 = .ok (.iload 4, 2) := by decide +kernel
theorem dL_law_201 : decode cL_law 201 = .ok (.iconst 1, 1) := by decide +kernel
theorem dL_law_202 : decode cL_law 202 = .ok (.iadd, 1) := by decide +kernel
theorem dL_law_203 : decode cL_law 203 = .ok (.iaload, 1) := by decide +kernel
theorem dL_law_204 : decode cL_law 204 = .ok (.invokevirtual 81, 3) := by decide +kernel
theorem dL_law_207 : decode cL_law 207 = .ok (.istore 6, 2) := by decide +kernel
theorem dL_law_209 : decode cL_law 209 = .ok (.aload_n 2, 1) := by decide +kernel
theorem dL_law_210 : decode cL_law 210 = .ok (.invokevirtual 76, 3) := by decide +kernel
theorem dL_law_213 : decode cL_law 213 = .ok (.iload 5, 2) := by decide +kernel
theorem dL_law_215 : decode cL_law 215 = .ok (.if_icmp .eq 5, 3) := by decide +kernel
theorem dL_law_218 : decode cL_law 218 = .ok (.iconst 0, 1) := by decide +kernel
theorem dL_law_219 : decode cL_law 219 = .ok (.ireturn, 1) := by decide +kernel
theorem dL_law_220 : decode cL_law 220 = .ok (.iload 5, 2) := by decide +kernel
theorem dL_law_222 : decode cL_law 222 = .ok (.ifCond .ne 15, 3) := by decide +kernel
theorem dL_law_225 : decode cL_law 225 = .ok (.aload_n 3, 1) := by decide +kernel
theorem dL_law_226 : decode cL_law 226 = .ok (.iconst 0, 1) := by decide +kernel
theorem dL_law_227 : decode cL_law 227 = .ok (.laload, 1) := by decide +kernel
theorem dL_law_228 : decode cL_law 228 = .ok (.iload 6, 2) := by decide +kernel
theorem dL_law_230 : decode cL_law 230 = .ok (.i2l, 1) := by decide +kernel
theorem dL_law_231 : decode cL_law 231 = .ok (.lcmp, 1) := by decide +kernel
theorem dL_law_232 : decode cL_law 232 = .ok (.ifCond .eq 5, 3) := by decide +kernel
theorem dL_law_235 : decode cL_law 235 = .ok (.iconst 0, 1) := by decide +kernel
theorem dL_law_236 : decode cL_law 236 = .ok (.ireturn, 1) := by decide +kernel
theorem dL_law_237 : decode cL_law 237 = .ok (.goto 958, 3) := by decide +kernel
theorem dL_law_240 : decode cL_law 240 = .ok (.aload_n 1, 1) := by decide +kernel
theorem dL_law_241 : decode cL_law 241 = .ok (.aload_n 0, 1) := by decide +kernel
theorem dL_law_242 : decode cL_law 242 = .ok (.iload 4, 2) := by decide +kernel
theorem dL_law_244 : decode cL_law 244 = .ok (.iconst 1, 1) := by decide +kernel
theorem dL_law_245 : decode cL_law 245 = .ok (.iadd, 1) := by decide +kernel
theorem dL_law_246 : decode cL_law 246 = .ok (.iaload, 1) := by decide +kernel
theorem dL_law_247 : decode cL_law 247 = .ok (.aload_n 3, 1) := by decide +kernel
theorem dL_law_248 : decode cL_law 248 = .ok (.invokestatic 82, 3) := by decide +kernel
theorem dL_law_251 : decode cL_law 251 = .ok (.istore 5, 2) := by decide +kernel
theorem dL_law_253 : decode cL_law 253 = .ok (.aload_n 2, 1) := by decide +kernel
theorem dL_law_254 : decode cL_law 254 = .ok (.aload_n 0, 1) := by decide +kernel
theorem dL_law_255 : decode cL_law 255 = .ok (.iload 4, 2) := by decide +kernel
theorem dL_law_257 : decode cL_law 257 = .ok (.iconst 1, 1) := by decide +kernel
theorem dL_law_258 : decode cL_law 258 = .ok (.iadd, 1) := by decide +kernel
theorem dL_law_259 : decode cL_law 259 = .ok (.iaload, 1) := by decide +kernel
theorem dL_law_260 : decode cL_law 260 = .ok (.invokevirtual 84, 3) := by decide +kernel
theorem dL_law_263 : decode cL_law 263 = .ok (.istore 6, 2) := by decide +kernel
theorem dL_law_265 : decode cL_law 265 = .ok (.aload_n 2, 1) := by decide +kernel
theorem dL_law_266 : decode cL_law 266 = .ok (.invokevirtual 76, 3) := by decide +kernel
theorem dL_law_269 : decode cL_law 269 = .ok (.iload 5, 2) := by decide +kernel
theorem dL_law_271 : decode cL_law 271 = .ok (.if_icmp .eq 5, 3) := by decide +kernel
theorem dL_law_274 : decode cL_law 274 = .ok (.iconst 0, 1) := by decide +kernel
theorem dL_law_275 : decode cL_law 275 = .ok (.ireturn, 1) := by decide +kernel
theorem dL_law_276 : decode cL_law 276 = .ok (.iload 5, 2) := by decide +kernel
theorem dL_law_278 : decode cL_law 278 = .ok (.ifCond .ne 15, 3) := by decide +kernel
theorem dL_law_281 : decode cL_law 281 = .ok (.aload_n 3, 1) := by decide +kernel
theorem dL_law_282 : decode cL_law 282 = .ok (.iconst 0, 1) := by decide +kernel
theorem dL_law_283 : decode cL_law 283 = .ok (.laload, 1) := by decide +kernel
theorem dL_law_284 : decode cL_law 284 = .ok (.iload 6, 2) := by decide +kernel
theorem dL_law_286 : decode cL_law 286 = .ok (.i2l, 1) := by decide +kernel
theorem dL_law_287 : decode cL_law 287 = .ok (.lcmp, 1) := by decide +kernel
theorem dL_law_288 : decode cL_law 288 = .ok (.ifCond .eq 5, 3) := by decide +kernel
theorem dL_law_291 : decode cL_law 291 = .ok (.iconst 0, 1) := by decide +kernel
theorem dL_law_292 : decode cL_law 292 = .ok (.ireturn, 1) := by decide +kernel
theorem dL_law_293 : decode cL_law 293 = .ok (.goto 902, 3) := by decide +kernel
theorem dL_law_296 : decode cL_law 296 = .ok (.aload_n 1, 1) := by decide +kernel
theorem dL_law_297 : decode cL_law 297 = .ok (.aload_n 0, 1) := by decide +kernel
theorem dL_law_298 : decode cL_law 298 = .ok (.iload 4, 2) := by decide +kernel
theorem dL_law_300 : decode cL_law 300 = .ok (.iconst 1, 1) := by decide +kernel
theorem dL_law_301 : decode cL_law 301 = .ok (.iadd, 1) := by decide +kernel
theorem dL_law_302 : decode cL_law 302 = .ok (.iaload, 1) := by decide +kernel
theorem dL_law_303 : decode cL_law 303 = .ok (.aload_n 0, 1) := by decide +kernel
theorem dL_law_304 : decode cL_law 304 = .ok (.iload 4, 2) := by decide +kernel
theorem dL_law_306 : decode cL_law 306 = .ok (.iconst 2, 1) := by decide +kernel
theorem dL_law_307 : decode cL_law 307 = .ok (.iadd, 1) := by decide +kernel
theorem dL_law_308 : decode cL_law 308 = .ok (.iaload, 1) := by decide +kernel
theorem dL_law_309 : decode cL_law 309 = .ok (.aload_n 3, 1) := by decide +kernel
theorem dL_law_310 : decode cL_law 310 = .ok (.invokestatic 85, 3) := by decide +kernel
theorem dL_law_313 : decode cL_law 313 = .ok (.istore 5, 2) := by decide +kernel
theorem dL_law_315 : decode cL_law 315 = .ok (.aload_n 2, 1) := by decide +kernel
theorem dL_law_316 : decode cL_law 316 = .ok (.aload_n 0, 1) := by decide +kernel
theorem dL_law_317 : decode cL_law 317 = .ok (.iload 4, 2) := by decide +kernel
theorem dL_law_319 : decode cL_law 319 = .ok (.iconst 1, 1) := by decide +kernel
theorem dL_law_320 : decode cL_law 320 = .ok (.iadd, 1) := by decide +kernel
theorem dL_law_321 : decode cL_law 321 = .ok (.iaload, 1) := by decide +kernel
theorem dL_law_322 : decode cL_law 322 = .ok (.aload_n 0, 1) := by decide +kernel
theorem dL_law_323 : decode cL_law 323 = .ok (.iload 4, 2) := by decide +kernel
theorem dL_law_325 : decode cL_law 325 = .ok (.iconst 2, 1) := by decide +kernel
theorem dL_law_326 : decode cL_law 326 = .ok (.iadd, 1) := by decide +kernel
theorem dL_law_327 : decode cL_law 327 = .ok (.iaload, 1) := by decide +kernel
theorem dL_law_328 : decode cL_law 328 = .ok (.invokevirtual 88, 3) := by decide +kernel
theorem dL_law_331 : decode cL_law 331 = .ok (.istore 6, 2) := by decide +kernel
theorem dL_law_333 : decode cL_law 333 = .ok (.aload_n 2, 1) := by decide +kernel
theorem dL_law_334 : decode cL_law 334 = .ok (.invokevirtual 76, 3) := by decide +kernel
theorem dL_law_337 : decode cL_law 337 = .ok (.iload 5, 2) := by decide +kernel
theorem dL_law_339 : decode cL_law 339 = .ok (.if_icmp .eq 5, 3) := by decide +kernel
theorem dL_law_342 : decode cL_law 342 = .ok (.iconst 0, 1) := by decide +kernel
theorem dL_law_343 : decode cL_law 343 = .ok (.ireturn, 1) := by decide +kernel
theorem dL_law_344 : decode cL_law 344 = .ok (.iload 5, 2) := by decide +kernel
theorem dL_law_346 : decode cL_law 346 = .ok (.ifCond .ne 22, 3) := by decide +kernel
theorem dL_law_349 : decode cL_law 349 = .ok (.aload_n 3, 1) := by decide +kernel
theorem dL_law_350 : decode cL_law 350 = .ok (.iconst 0, 1) := by decide +kernel
theorem dL_law_351 : decode cL_law 351 = .ok (.laload, 1) := by decide +kernel
theorem dL_law_352 : decode cL_law 352 = .ok (.iload 6, 2) := by decide +kernel
theorem dL_law_354 : decode cL_law 354 = .ok (.ifCond .eq 7, 3) := by decide +kernel
theorem dL_law_357 : decode cL_law 357 = .ok (.lconst 1, 1) := by decide +kernel
theorem dL_law_358 : decode cL_law 358 = .ok (.goto 4, 3) := by decide +kernel
theorem dL_law_361 : decode cL_law 361 = .ok (.lconst 0, 1) := by decide +kernel
theorem dL_law_362 : decode cL_law 362 = .ok (.lcmp, 1) := by decide +kernel
theorem dL_law_363 : decode cL_law 363 = .ok (.ifCond .eq 5, 3) := by decide +kernel
theorem dL_law_366 : decode cL_law 366 = .ok (.iconst 0, 1) := by decide +kernel
theorem dL_law_367 : decode cL_law 367 = .ok (.ireturn, 1) := by decide +kernel
theorem dL_law_368 : decode cL_law 368 = .ok (.goto 827, 3) := by decide +kernel
theorem dL_law_371 : decode cL_law 371 = .ok (.aload_n 1, 1) := by decide +kernel
theorem dL_law_372 : decode cL_law 372 = .ok (.aload_n 3, 1) := by decide +kernel
theorem dL_law_373 : decode cL_law 373 = .ok (.invokestatic 89, 3) := by decide +kernel
theorem dL_law_376 : decode cL_law 376 = .ok (.istore 5, 2) := by decide +kernel
theorem dL_law_378 : decode cL_law 378 = .ok (.aload_n 2, 1) := by decide +kernel
theorem dL_law_379 : decode cL_law 379 = .ok (.invokevirtual 92, 3) := by decide +kernel
theorem dL_law_382 : decode cL_law 382 = .ok (.istore 6, 2) := by decide +kernel
theorem dL_law_384 : decode cL_law 384 = .ok (.aload_n 2, 1) := by decide +kernel
theorem dL_law_385 : decode cL_law 385 = .ok (.invokevirtual 76, 3) := by decide +kernel
theorem dL_law_388 : decode cL_law 388 = .ok (.iload 5, 2) := by decide +kernel
theorem dL_law_390 : decode cL_law 390 = .ok (.if_icmp .eq 5, 3) := by decide +kernel
theorem dL_law_393 : decode cL_law 393 = .ok (.iconst 0, 1) := by decide +kernel
theorem dL_law_394 : decode cL_law 394 = .ok (.ireturn, 1) := by decide +kernel
theorem dL_law_395 : decode cL_law 395 = .ok (.iload 5, 2) := by decide +kernel
theorem dL_law_397 : decode cL_law 397 = .ok (.ifCond .ne 15, 3) := by decide +kernel
theorem dL_law_400 : decode cL_law 400 = .ok (.aload_n 3, 1) := by decide +kernel
theorem dL_law_401 : decode cL_law 401 = .ok (.iconst 0, 1) := by decide +kernel
theorem dL_law_402 : decode cL_law 402 = .ok (.laload, 1) := by decide +kernel
theorem dL_law_403 : decode cL_law 403 = .ok (.iload 6, 2) := by decide +kernel
theorem dL_law_405 : decode cL_law 405 = .ok (.i2l, 1) := by decide +kernel
theorem dL_law_406 : decode cL_law 406 = .ok (.lcmp, 1) := by decide +kernel
theorem dL_law_407 : decode cL_law 407 = .ok (.ifCond .eq 5, 3) := by decide +kernel
theorem dL_law_410 : decode cL_law 410 = .ok (.iconst 0, 1) := by decide +kernel
theorem dL_law_411 : decode cL_law 411 = .ok (.ireturn, 1) := by decide +kernel
theorem dL_law_412 : decode cL_law 412 = .ok (.goto 783, 3) := by decide +kernel
theorem dL_law_415 : decode cL_law 415 = .ok (.aload_n 1, 1) := by decide +kernel
theorem dL_law_416 : decode cL_law 416 = .ok (.aload_n 0, 1) := by decide +kernel
theorem dL_law_417 : decode cL_law 417 = .ok (.iload 4, 2) := by decide +kernel
theorem dL_law_419 : decode cL_law 419 = .ok (.iconst 1, 1) := by decide +kernel
theorem dL_law_420 : decode cL_law 420 = .ok (.iadd, 1) := by decide +kernel
theorem dL_law_421 : decode cL_law 421 = .ok (.iaload, 1) := by decide +kernel
theorem dL_law_422 : decode cL_law 422 = .ok (.aload_n 0, 1) := by decide +kernel
theorem dL_law_423 : decode cL_law 423 = .ok (.iload 4, 2) := by decide +kernel
theorem dL_law_425 : decode cL_law 425 = .ok (.iconst 2, 1) := by decide +kernel
theorem dL_law_426 : decode cL_law 426 = .ok (.iadd, 1) := by decide +kernel
theorem dL_law_427 : decode cL_law 427 = .ok (.iaload, 1) := by decide +kernel
theorem dL_law_428 : decode cL_law 428 = .ok (.aload_n 3, 1) := by decide +kernel
theorem dL_law_429 : decode cL_law 429 = .ok (.invokestatic 93, 3) := by decide +kernel
theorem dL_law_432 : decode cL_law 432 = .ok (.istore 5, 2) := by decide +kernel
theorem dL_law_434 : decode cL_law 434 = .ok (.aload_n 2, 1) := by decide +kernel
theorem dL_law_435 : decode cL_law 435 = .ok (.aload_n 0, 1) := by decide +kernel
theorem dL_law_436 : decode cL_law 436 = .ok (.iload 4, 2) := by decide +kernel
theorem dL_law_438 : decode cL_law 438 = .ok (.iconst 1, 1) := by decide +kernel
theorem dL_law_439 : decode cL_law 439 = .ok (.iadd, 1) := by decide +kernel
theorem dL_law_440 : decode cL_law 440 = .ok (.iaload, 1) := by decide +kernel
theorem dL_law_441 : decode cL_law 441 = .ok (.aload_n 0, 1) := by decide +kernel
theorem dL_law_442 : decode cL_law 442 = .ok (.iload 4, 2) := by decide +kernel
theorem dL_law_444 : decode cL_law 444 = .ok (.iconst 2, 1) := by decide +kernel
theorem dL_law_445 : decode cL_law 445 = .ok (.iadd, 1) := by decide +kernel
theorem dL_law_446 : decode cL_law 446 = .ok (.iaload, 1) := by decide +kernel
theorem dL_law_447 : decode cL_law 447 = .ok (.invokevirtual 95, 3) := by decide +kernel
theorem dL_law_450 : decode cL_law 450 = .ok (.istore 6, 2) := by decide +kernel
theorem dL_law_452 : decode cL_law 452 = .ok (.aload_n 2, 1) := by decide +kernel
theorem dL_law_453 : decode cL_law 453 = .ok (.invokevirtual 76, 3) := by decide +kernel
theorem dL_law_456 : decode cL_law 456 = .ok (.iload 5, 2) := by decide +kernel
theorem dL_law_458 : decode cL_law 458 = .ok (.if_icmp .eq 5, 3) := by decide +kernel
theorem dL_law_461 : decode cL_law 461 = .ok (.iconst 0, 1) := by decide +kernel
theorem dL_law_462 : decode cL_law 462 = .ok (.ireturn, 1) := by decide +kernel
theorem dL_law_463 : decode cL_law 463 = .ok (.iload 5, 2) := by decide +kernel
theorem dL_law_465 : decode cL_law 465 = .ok (.ifCond .ne 15, 3) := by decide +kernel
theorem dL_law_468 : decode cL_law 468 = .ok (.aload_n 3, 1) := by decide +kernel
theorem dL_law_469 : decode cL_law 469 = .ok (.iconst 0, 1) := by decide +kernel
theorem dL_law_470 : decode cL_law 470 = .ok (.laload, 1) := by decide +kernel
theorem dL_law_471 : decode cL_law 471 = .ok (.iload 6, 2) := by decide +kernel
theorem dL_law_473 : decode cL_law 473 = .ok (.i2l, 1) := by decide +kernel
theorem dL_law_474 : decode cL_law 474 = .ok (.lcmp, 1) := by decide +kernel
theorem dL_law_475 : decode cL_law 475 = .ok (.ifCond .eq 5, 3) := by decide +kernel
theorem dL_law_478 : decode cL_law 478 = .ok (.iconst 0, 1) := by decide +kernel
theorem dL_law_479 : decode cL_law 479 = .ok (.ireturn, 1) := by decide +kernel
theorem dL_law_480 : decode cL_law 480 = .ok (.goto 715, 3) := by decide +kernel
theorem dL_law_483 : decode cL_law 483 = .ok (.aload_n 1, 1) := by decide +kernel
theorem dL_law_484 : decode cL_law 484 = .ok (.aload_n 0, 1) := by decide +kernel
theorem dL_law_485 : decode cL_law 485 = .ok (.iload 4, 2) := by decide +kernel
theorem dL_law_487 : decode cL_law 487 = .ok (.iconst 1, 1) := by decide +kernel
theorem dL_law_488 : decode cL_law 488 = .ok (.iadd, 1) := by decide +kernel
theorem dL_law_489 : decode cL_law 489 = .ok (.iaload, 1) := by decide +kernel
theorem dL_law_490 : decode cL_law 490 = .ok (.aload_n 3, 1) := by decide +kernel
theorem dL_law_491 : decode cL_law 491 = .ok (.invokestatic 96, 3) := by decide +kernel
theorem dL_law_494 : decode cL_law 494 = .ok (.istore 5, 2) := by decide +kernel
theorem dL_law_496 : decode cL_law 496 = .ok (.aload_n 2, 1) := by decide +kernel
theorem dL_law_497 : decode cL_law 497 = .ok (.aload_n 0, 1) := by decide +kernel
theorem dL_law_498 : decode cL_law 498 = .ok (.iload 4, 2) := by decide +kernel
theorem dL_law_500 : decode cL_law 500 = .ok (.iconst 1, 1) := by decide +kernel
theorem dL_law_501 : decode cL_law 501 = .ok (.iadd, 1) := by decide +kernel
theorem dL_law_502 : decode cL_law 502 = .ok (.iaload, 1) := by decide +kernel
theorem dL_law_503 : decode cL_law 503 = .ok (.invokevirtual 98, 3) := by decide +kernel
theorem dL_law_506 : decode cL_law 506 = .ok (.istore 6, 2) := by decide +kernel
theorem dL_law_508 : decode cL_law 508 = .ok (.aload_n 2, 1) := by decide +kernel
theorem dL_law_509 : decode cL_law 509 = .ok (.invokevirtual 76, 3) := by decide +kernel
theorem dL_law_512 : decode cL_law 512 = .ok (.iload 5, 2) := by decide +kernel
theorem dL_law_514 : decode cL_law 514 = .ok (.if_icmp .eq 5, 3) := by decide +kernel
theorem dL_law_517 : decode cL_law 517 = .ok (.iconst 0, 1) := by decide +kernel
theorem dL_law_518 : decode cL_law 518 = .ok (.ireturn, 1) := by decide +kernel
theorem dL_law_519 : decode cL_law 519 = .ok (.iload 5, 2) := by decide +kernel
theorem dL_law_521 : decode cL_law 521 = .ok (.ifCond .ne 15, 3) := by decide +kernel
theorem dL_law_524 : decode cL_law 524 = .ok (.aload_n 3, 1) := by decide +kernel
theorem dL_law_525 : decode cL_law 525 = .ok (.iconst 0, 1) := by decide +kernel
theorem dL_law_526 : decode cL_law 526 = .ok (.laload, 1) := by decide +kernel
theorem dL_law_527 : decode cL_law 527 = .ok (.iload 6, 2) := by decide +kernel
theorem dL_law_529 : decode cL_law 529 = .ok (.i2l, 1) := by decide +kernel
theorem dL_law_530 : decode cL_law 530 = .ok (.lcmp, 1) := by decide +kernel
theorem dL_law_531 : decode cL_law 531 = .ok (.ifCond .eq 5, 3) := by decide +kernel
theorem dL_law_534 : decode cL_law 534 = .ok (.iconst 0, 1) := by decide +kernel
theorem dL_law_535 : decode cL_law 535 = .ok (.ireturn, 1) := by decide +kernel
theorem dL_law_536 : decode cL_law 536 = .ok (.goto 659, 3) := by decide +kernel
theorem dL_law_539 : decode cL_law 539 = .ok (.aload_n 1, 1) := by decide +kernel
theorem dL_law_540 : decode cL_law 540 = .ok (.aload_n 0, 1) := by decide +kernel
theorem dL_law_541 : decode cL_law 541 = .ok (.iload 4, 2) := by decide +kernel
theorem dL_law_543 : decode cL_law 543 = .ok (.iconst 1, 1) := by decide +kernel
theorem dL_law_544 : decode cL_law 544 = .ok (.iadd, 1) := by decide +kernel
theorem dL_law_545 : decode cL_law 545 = .ok (.iaload, 1) := by decide +kernel
theorem dL_law_546 : decode cL_law 546 = .ok (.aload_n 0, 1) := by decide +kernel
theorem dL_law_547 : decode cL_law 547 = .ok (.iload 4, 2) := by decide +kernel
theorem dL_law_549 : decode cL_law 549 = .ok (.iconst 2, 1) := by decide +kernel
theorem dL_law_550 : decode cL_law 550 = .ok (.iadd, 1) := by decide +kernel
theorem dL_law_551 : decode cL_law 551 = .ok (.iaload, 1) := by decide +kernel
theorem dL_law_552 : decode cL_law 552 = .ok (.aload_n 0, 1) := by decide +kernel
theorem dL_law_553 : decode cL_law 553 = .ok (.iload 4, 2) := by decide +kernel
theorem dL_law_555 : decode cL_law 555 = .ok (.iconst 3, 1) := by decide +kernel
theorem dL_law_556 : decode cL_law 556 = .ok (.iadd, 1) := by decide +kernel
theorem dL_law_557 : decode cL_law 557 = .ok (.iaload, 1) := by decide +kernel
theorem dL_law_558 : decode cL_law 558 = .ok (.aload_n 3, 1) := by decide +kernel
theorem dL_law_559 : decode cL_law 559 = .ok (.invokestatic 99, 3) := by decide +kernel
theorem dL_law_562 : decode cL_law 562 = .ok (.istore 5, 2) := by decide +kernel
theorem dL_law_564 : decode cL_law 564 = .ok (.aload_n 2, 1) := by decide +kernel
theorem dL_law_565 : decode cL_law 565 = .ok (.aload_n 0, 1) := by decide +kernel
theorem dL_law_566 : decode cL_law 566 = .ok (.iload 4, 2) := by decide +kernel
theorem dL_law_568 : decode cL_law 568 = .ok (.iconst 1, 1) := by decide +kernel
theorem dL_law_569 : decode cL_law 569 = .ok (.iadd, 1) := by decide +kernel
theorem dL_law_570 : decode cL_law 570 = .ok (.iaload, 1) := by decide +kernel
theorem dL_law_571 : decode cL_law 571 = .ok (.aload_n 0, 1) := by decide +kernel
theorem dL_law_572 : decode cL_law 572 = .ok (.iload 4, 2) := by decide +kernel
theorem dL_law_574 : decode cL_law 574 = .ok (.iconst 2, 1) := by decide +kernel
theorem dL_law_575 : decode cL_law 575 = .ok (.iadd, 1) := by decide +kernel
theorem dL_law_576 : decode cL_law 576 = .ok (.iaload, 1) := by decide +kernel
theorem dL_law_577 : decode cL_law 577 = .ok (.aload_n 0, 1) := by decide +kernel
theorem dL_law_578 : decode cL_law 578 = .ok (.iload 4, 2) := by decide +kernel
theorem dL_law_580 : decode cL_law 580 = .ok (.iconst 3, 1) := by decide +kernel
theorem dL_law_581 : decode cL_law 581 = .ok (.iadd, 1) := by decide +kernel
theorem dL_law_582 : decode cL_law 582 = .ok (.iaload, 1) := by decide +kernel
theorem dL_law_583 : decode cL_law 583 = .ok (.invokevirtual 102, 3) := by decide +kernel
theorem dL_law_586 : decode cL_law 586 = .ok (.istore 6, 2) := by decide +kernel
theorem dL_law_588 : decode cL_law 588 = .ok (.aload_n 2, 1) := by decide +kernel
theorem dL_law_589 : decode cL_law 589 = .ok (.invokevirtual 76, 3) := by decide +kernel
theorem dL_law_592 : decode cL_law 592 = .ok (.iload 5, 2) := by decide +kernel
theorem dL_law_594 : decode cL_law 594 = .ok (.if_icmp .eq 5, 3) := by decide +kernel
theorem dL_law_597 : decode cL_law 597 = .ok (.iconst 0, 1) := by decide +kernel
theorem dL_law_598 : decode cL_law 598 = .ok (.ireturn, 1) := by decide +kernel
theorem dL_law_599 : decode cL_law 599 = .ok (.iload 5, 2) := by decide +kernel
theorem dL_law_601 : decode cL_law 601 = .ok (.ifCond .ne 22, 3) := by decide +kernel
theorem dL_law_604 : decode cL_law 604 = .ok (.aload_n 3, 1) := by decide +kernel
theorem dL_law_605 : decode cL_law 605 = .ok (.iconst 0, 1) := by decide +kernel
theorem dL_law_606 : decode cL_law 606 = .ok (.laload, 1) := by decide +kernel
theorem dL_law_607 : decode cL_law 607 = .ok (.iload 6, 2) := by decide +kernel
theorem dL_law_609 : decode cL_law 609 = .ok (.ifCond .eq 7, 3) := by decide +kernel
theorem dL_law_612 : decode cL_law 612 = .ok (.lconst 1, 1) := by decide +kernel
theorem dL_law_613 : decode cL_law 613 = .ok (.goto 4, 3) := by decide +kernel
theorem dL_law_616 : decode cL_law 616 = .ok (.lconst 0, 1) := by decide +kernel
theorem dL_law_617 : decode cL_law 617 = .ok (.lcmp, 1) := by decide +kernel
theorem dL_law_618 : decode cL_law 618 = .ok (.ifCond .eq 5, 3) := by decide +kernel
theorem dL_law_621 : decode cL_law 621 = .ok (.iconst 0, 1) := by decide +kernel
theorem dL_law_622 : decode cL_law 622 = .ok (.ireturn, 1) := by decide +kernel
theorem dL_law_623 : decode cL_law 623 = .ok (.goto 572, 3) := by decide +kernel
theorem dL_law_626 : decode cL_law 626 = .ok (.aload_n 1, 1) := by decide +kernel
theorem dL_law_627 : decode cL_law 627 = .ok (.aload_n 0, 1) := by decide +kernel
theorem dL_law_628 : decode cL_law 628 = .ok (.iload 4, 2) := by decide +kernel
theorem dL_law_630 : decode cL_law 630 = .ok (.iconst 1, 1) := by decide +kernel
theorem dL_law_631 : decode cL_law 631 = .ok (.iadd, 1) := by decide +kernel
theorem dL_law_632 : decode cL_law 632 = .ok (.iaload, 1) := by decide +kernel
theorem dL_law_633 : decode cL_law 633 = .ok (.aload_n 0, 1) := by decide +kernel
theorem dL_law_634 : decode cL_law 634 = .ok (.iload 4, 2) := by decide +kernel
theorem dL_law_636 : decode cL_law 636 = .ok (.iconst 2, 1) := by decide +kernel
theorem dL_law_637 : decode cL_law 637 = .ok (.iadd, 1) := by decide +kernel
theorem dL_law_638 : decode cL_law 638 = .ok (.iaload, 1) := by decide +kernel
theorem dL_law_639 : decode cL_law 639 = .ok (.aload_n 0, 1) := by decide +kernel
theorem dL_law_640 : decode cL_law 640 = .ok (.iload 4, 2) := by decide +kernel
theorem dL_law_642 : decode cL_law 642 = .ok (.iconst 3, 1) := by decide +kernel
theorem dL_law_643 : decode cL_law 643 = .ok (.iadd, 1) := by decide +kernel
theorem dL_law_644 : decode cL_law 644 = .ok (.iaload, 1) := by decide +kernel
theorem dL_law_645 : decode cL_law 645 = .ok (.aload_n 3, 1) := by decide +kernel
theorem dL_law_646 : decode cL_law 646 = .ok (.invokestatic 103, 3) := by decide +kernel
theorem dL_law_649 : decode cL_law 649 = .ok (.istore 5, 2) := by decide +kernel
theorem dL_law_651 : decode cL_law 651 = .ok (.aload_n 2, 1) := by decide +kernel
theorem dL_law_652 : decode cL_law 652 = .ok (.aload_n 0, 1) := by decide +kernel
theorem dL_law_653 : decode cL_law 653 = .ok (.iload 4, 2) := by decide +kernel
theorem dL_law_655 : decode cL_law 655 = .ok (.iconst 1, 1) := by decide +kernel
theorem dL_law_656 : decode cL_law 656 = .ok (.iadd, 1) := by decide +kernel
theorem dL_law_657 : decode cL_law 657 = .ok (.iaload, 1) := by decide +kernel
theorem dL_law_658 : decode cL_law 658 = .ok (.aload_n 0, 1) := by decide +kernel
theorem dL_law_659 : decode cL_law 659 = .ok (.iload 4, 2) := by decide +kernel
theorem dL_law_661 : decode cL_law 661 = .ok (.iconst 2, 1) := by decide +kernel
theorem dL_law_662 : decode cL_law 662 = .ok (.iadd, 1) := by decide +kernel
theorem dL_law_663 : decode cL_law 663 = .ok (.iaload, 1) := by decide +kernel
theorem dL_law_664 : decode cL_law 664 = .ok (.aload_n 0, 1) := by decide +kernel
theorem dL_law_665 : decode cL_law 665 = .ok (.iload 4, 2) := by decide +kernel
theorem dL_law_667 : decode cL_law 667 = .ok (.iconst 3, 1) := by decide +kernel
theorem dL_law_668 : decode cL_law 668 = .ok (.iadd, 1) := by decide +kernel
theorem dL_law_669 : decode cL_law 669 = .ok (.iaload, 1) := by decide +kernel
theorem dL_law_670 : decode cL_law 670 = .ok (.invokevirtual 105, 3) := by decide +kernel
theorem dL_law_673 : decode cL_law 673 = .ok (.istore 6, 2) := by decide +kernel
theorem dL_law_675 : decode cL_law 675 = .ok (.aload_n 2, 1) := by decide +kernel
theorem dL_law_676 : decode cL_law 676 = .ok (.invokevirtual 76, 3) := by decide +kernel
theorem dL_law_679 : decode cL_law 679 = .ok (.iload 5, 2) := by decide +kernel
theorem dL_law_681 : decode cL_law 681 = .ok (.if_icmp .eq 5, 3) := by decide +kernel
theorem dL_law_684 : decode cL_law 684 = .ok (.iconst 0, 1) := by decide +kernel
theorem dL_law_685 : decode cL_law 685 = .ok (.ireturn, 1) := by decide +kernel
theorem dL_law_686 : decode cL_law 686 = .ok (.iload 5, 2) := by decide +kernel
theorem dL_law_688 : decode cL_law 688 = .ok (.ifCond .ne 15, 3) := by decide +kernel
theorem dL_law_691 : decode cL_law 691 = .ok (.aload_n 3, 1) := by decide +kernel
theorem dL_law_692 : decode cL_law 692 = .ok (.iconst 0, 1) := by decide +kernel
theorem dL_law_693 : decode cL_law 693 = .ok (.laload, 1) := by decide +kernel
theorem dL_law_694 : decode cL_law 694 = .ok (.iload 6, 2) := by decide +kernel
theorem dL_law_696 : decode cL_law 696 = .ok (.i2l, 1) := by decide +kernel
theorem dL_law_697 : decode cL_law 697 = .ok (.lcmp, 1) := by decide +kernel
theorem dL_law_698 : decode cL_law 698 = .ok (.ifCond .eq 5, 3) := by decide +kernel
theorem dL_law_701 : decode cL_law 701 = .ok (.iconst 0, 1) := by decide +kernel
theorem dL_law_702 : decode cL_law 702 = .ok (.ireturn, 1) := by decide +kernel
theorem dL_law_703 : decode cL_law 703 = .ok (.goto 492, 3) := by decide +kernel
theorem dL_law_706 : decode cL_law 706 = .ok (.aload_n 1, 1) := by decide +kernel
theorem dL_law_707 : decode cL_law 707 = .ok (.aload_n 0, 1) := by decide +kernel
theorem dL_law_708 : decode cL_law 708 = .ok (.iload 4, 2) := by decide +kernel
theorem dL_law_710 : decode cL_law 710 = .ok (.iconst 1, 1) := by decide +kernel
theorem dL_law_711 : decode cL_law 711 = .ok (.iadd, 1) := by decide +kernel
theorem dL_law_712 : decode cL_law 712 = .ok (.iaload, 1) := by decide +kernel
theorem dL_law_713 : decode cL_law 713 = .ok (.aload_n 0, 1) := by decide +kernel
theorem dL_law_714 : decode cL_law 714 = .ok (.iload 4, 2) := by decide +kernel
theorem dL_law_716 : decode cL_law 716 = .ok (.iconst 2, 1) := by decide +kernel
theorem dL_law_717 : decode cL_law 717 = .ok (.iadd, 1) := by decide +kernel
theorem dL_law_718 : decode cL_law 718 = .ok (.iaload, 1) := by decide +kernel
theorem dL_law_719 : decode cL_law 719 = .ok (.aload_n 3, 1) := by decide +kernel
theorem dL_law_720 : decode cL_law 720 = .ok (.invokestatic 106, 3) := by decide +kernel
theorem dL_law_723 : decode cL_law 723 = .ok (.istore 5, 2) := by decide +kernel
theorem dL_law_725 : decode cL_law 725 = .ok (.aload_n 2, 1) := by decide +kernel
theorem dL_law_726 : decode cL_law 726 = .ok (.aload_n 0, 1) := by decide +kernel
theorem dL_law_727 : decode cL_law 727 = .ok (.iload 4, 2) := by decide +kernel
theorem dL_law_729 : decode cL_law 729 = .ok (.iconst 1, 1) := by decide +kernel
theorem dL_law_730 : decode cL_law 730 = .ok (.iadd, 1) := by decide +kernel
theorem dL_law_731 : decode cL_law 731 = .ok (.iaload, 1) := by decide +kernel
theorem dL_law_732 : decode cL_law 732 = .ok (.aload_n 0, 1) := by decide +kernel
theorem dL_law_733 : decode cL_law 733 = .ok (.iload 4, 2) := by decide +kernel
theorem dL_law_735 : decode cL_law 735 = .ok (.iconst 2, 1) := by decide +kernel
theorem dL_law_736 : decode cL_law 736 = .ok (.iadd, 1) := by decide +kernel
theorem dL_law_737 : decode cL_law 737 = .ok (.iaload, 1) := by decide +kernel
theorem dL_law_738 : decode cL_law 738 = .ok (.invokevirtual 108, 3) := by decide +kernel
theorem dL_law_741 : decode cL_law 741 = .ok (.istore 6, 2) := by decide +kernel
theorem dL_law_743 : decode cL_law 743 = .ok (.aload_n 2, 1) := by decide +kernel
theorem dL_law_744 : decode cL_law 744 = .ok (.invokevirtual 76, 3) := by decide +kernel
theorem dL_law_747 : decode cL_law 747 = .ok (.iload 5, 2) := by decide +kernel
theorem dL_law_749 : decode cL_law 749 = .ok (.if_icmp .eq 5, 3) := by decide +kernel
theorem dL_law_752 : decode cL_law 752 = .ok (.iconst 0, 1) := by decide +kernel
theorem dL_law_753 : decode cL_law 753 = .ok (.ireturn, 1) := by decide +kernel
theorem dL_law_754 : decode cL_law 754 = .ok (.iload 5, 2) := by decide +kernel
theorem dL_law_756 : decode cL_law 756 = .ok (.ifCond .ne 15, 3) := by decide +kernel
theorem dL_law_759 : decode cL_law 759 = .ok (.aload_n 3, 1) := by decide +kernel
theorem dL_law_760 : decode cL_law 760 = .ok (.iconst 0, 1) := by decide +kernel
theorem dL_law_761 : decode cL_law 761 = .ok (.laload, 1) := by decide +kernel
theorem dL_law_762 : decode cL_law 762 = .ok (.iload 6, 2) := by decide +kernel
theorem dL_law_764 : decode cL_law 764 = .ok (.i2l, 1) := by decide +kernel
theorem dL_law_765 : decode cL_law 765 = .ok (.lcmp, 1) := by decide +kernel
theorem dL_law_766 : decode cL_law 766 = .ok (.ifCond .eq 5, 3) := by decide +kernel
theorem dL_law_769 : decode cL_law 769 = .ok (.iconst 0, 1) := by decide +kernel
theorem dL_law_770 : decode cL_law 770 = .ok (.ireturn, 1) := by decide +kernel
theorem dL_law_771 : decode cL_law 771 = .ok (.goto 424, 3) := by decide +kernel
theorem dL_law_774 : decode cL_law 774 = .ok (.aload_n 1, 1) := by decide +kernel
theorem dL_law_775 : decode cL_law 775 = .ok (.aload_n 0, 1) := by decide +kernel
theorem dL_law_776 : decode cL_law 776 = .ok (.iload 4, 2) := by decide +kernel
theorem dL_law_778 : decode cL_law 778 = .ok (.iconst 1, 1) := by decide +kernel
theorem dL_law_779 : decode cL_law 779 = .ok (.iadd, 1) := by decide +kernel
theorem dL_law_780 : decode cL_law 780 = .ok (.iaload, 1) := by decide +kernel
theorem dL_law_781 : decode cL_law 781 = .ok (.aload_n 3, 1) := by decide +kernel
theorem dL_law_782 : decode cL_law 782 = .ok (.invokestatic 109, 3) := by decide +kernel
theorem dL_law_785 : decode cL_law 785 = .ok (.istore 5, 2) := by decide +kernel
theorem dL_law_787 : decode cL_law 787 = .ok (.aload_n 2, 1) := by decide +kernel
theorem dL_law_788 : decode cL_law 788 = .ok (.aload_n 0, 1) := by decide +kernel
theorem dL_law_789 : decode cL_law 789 = .ok (.iload 4, 2) := by decide +kernel
theorem dL_law_791 : decode cL_law 791 = .ok (.iconst 1, 1) := by decide +kernel
theorem dL_law_792 : decode cL_law 792 = .ok (.iadd, 1) := by decide +kernel
theorem dL_law_793 : decode cL_law 793 = .ok (.iaload, 1) := by decide +kernel
theorem dL_law_794 : decode cL_law 794 = .ok (.invokevirtual 111, 3) := by decide +kernel
theorem dL_law_797 : decode cL_law 797 = .ok (.istore 6, 2) := by decide +kernel
theorem dL_law_799 : decode cL_law 799 = .ok (.aload_n 2, 1) := by decide +kernel
theorem dL_law_800 : decode cL_law 800 = .ok (.invokevirtual 76, 3) := by decide +kernel
theorem dL_law_803 : decode cL_law 803 = .ok (.iload 5, 2) := by decide +kernel
theorem dL_law_805 : decode cL_law 805 = .ok (.if_icmp .eq 5, 3) := by decide +kernel
theorem dL_law_808 : decode cL_law 808 = .ok (.iconst 0, 1) := by decide +kernel
theorem dL_law_809 : decode cL_law 809 = .ok (.ireturn, 1) := by decide +kernel
theorem dL_law_810 : decode cL_law 810 = .ok (.iload 5, 2) := by decide +kernel
theorem dL_law_812 : decode cL_law 812 = .ok (.ifCond .ne 15, 3) := by decide +kernel
theorem dL_law_815 : decode cL_law 815 = .ok (.aload_n 3, 1) := by decide +kernel
theorem dL_law_816 : decode cL_law 816 = .ok (.iconst 0, 1) := by decide +kernel
theorem dL_law_817 : decode cL_law 817 = .ok (.laload, 1) := by decide +kernel
theorem dL_law_818 : decode cL_law 818 = .ok (.iload 6, 2) := by decide +kernel
theorem dL_law_820 : decode cL_law 820 = .ok (.i2l, 1) := by decide +kernel
theorem dL_law_821 : decode cL_law 821 = .ok (.lcmp, 1) := by decide +kernel
theorem dL_law_822 : decode cL_law 822 = .ok (.ifCond .eq 5, 3) := by decide +kernel
theorem dL_law_825 : decode cL_law 825 = .ok (.iconst 0, 1) := by decide +kernel
theorem dL_law_826 : decode cL_law 826 = .ok (.ireturn, 1) := by decide +kernel
theorem dL_law_827 : decode cL_law 827 = .ok (.goto 368, 3) := by decide +kernel
theorem dL_law_830 : decode cL_law 830 = .ok (.aload_n 1, 1) := by decide +kernel
theorem dL_law_831 : decode cL_law 831 = .ok (.aload_n 0, 1) := by decide +kernel
theorem dL_law_832 : decode cL_law 832 = .ok (.iload 4, 2) := by decide +kernel
theorem dL_law_834 : decode cL_law 834 = .ok (.iconst 1, 1) := by decide +kernel
theorem dL_law_835 : decode cL_law 835 = .ok (.iadd, 1) := by decide +kernel
theorem dL_law_836 : decode cL_law 836 = .ok (.iaload, 1) := by decide +kernel
theorem dL_law_837 : decode cL_law 837 = .ok (.aload_n 0, 1) := by decide +kernel
theorem dL_law_838 : decode cL_law 838 = .ok (.iload 4, 2) := by decide +kernel
theorem dL_law_840 : decode cL_law 840 = .ok (.iconst 2, 1) := by decide +kernel
theorem dL_law_841 : decode cL_law 841 = .ok (.iadd, 1) := by decide +kernel
theorem dL_law_842 : decode cL_law 842 = .ok (.iaload, 1) := by decide +kernel
theorem dL_law_843 : decode cL_law 843 = .ok (.aload_n 3, 1) := by decide +kernel
theorem dL_law_844 : decode cL_law 844 = .ok (.invokestatic 112, 3) := by decide +kernel
theorem dL_law_847 : decode cL_law 847 = .ok (.istore 5, 2) := by decide +kernel
theorem dL_law_849 : decode cL_law 849 = .ok (.aload_n 2, 1) := by decide +kernel
theorem dL_law_850 : decode cL_law 850 = .ok (.aload_n 0, 1) := by decide +kernel
theorem dL_law_851 : decode cL_law 851 = .ok (.iload 4, 2) := by decide +kernel
theorem dL_law_853 : decode cL_law 853 = .ok (.iconst 1, 1) := by decide +kernel
theorem dL_law_854 : decode cL_law 854 = .ok (.iadd, 1) := by decide +kernel
theorem dL_law_855 : decode cL_law 855 = .ok (.iaload, 1) := by decide +kernel
theorem dL_law_856 : decode cL_law 856 = .ok (.aload_n 0, 1) := by decide +kernel
theorem dL_law_857 : decode cL_law 857 = .ok (.iload 4, 2) := by decide +kernel
theorem dL_law_859 : decode cL_law 859 = .ok (.iconst 2, 1) := by decide +kernel
theorem dL_law_860 : decode cL_law 860 = .ok (.iadd, 1) := by decide +kernel
theorem dL_law_861 : decode cL_law 861 = .ok (.iaload, 1) := by decide +kernel
theorem dL_law_862 : decode cL_law 862 = .ok (.invokevirtual 114, 3) := by decide +kernel
theorem dL_law_865 : decode cL_law 865 = .ok (.istore 6, 2) := by decide +kernel
theorem dL_law_867 : decode cL_law 867 = .ok (.aload_n 2, 1) := by decide +kernel
theorem dL_law_868 : decode cL_law 868 = .ok (.invokevirtual 76, 3) := by decide +kernel
theorem dL_law_871 : decode cL_law 871 = .ok (.iload 5, 2) := by decide +kernel
theorem dL_law_873 : decode cL_law 873 = .ok (.if_icmp .eq 5, 3) := by decide +kernel
theorem dL_law_876 : decode cL_law 876 = .ok (.iconst 0, 1) := by decide +kernel
theorem dL_law_877 : decode cL_law 877 = .ok (.ireturn, 1) := by decide +kernel
theorem dL_law_878 : decode cL_law 878 = .ok (.iload 5, 2) := by decide +kernel
theorem dL_law_880 : decode cL_law 880 = .ok (.ifCond .ne 15, 3) := by decide +kernel
theorem dL_law_883 : decode cL_law 883 = .ok (.aload_n 3, 1) := by decide +kernel
theorem dL_law_884 : decode cL_law 884 = .ok (.iconst 0, 1) := by decide +kernel
theorem dL_law_885 : decode cL_law 885 = .ok (.laload, 1) := by decide +kernel
theorem dL_law_886 : decode cL_law 886 = .ok (.iload 6, 2) := by decide +kernel
theorem dL_law_888 : decode cL_law 888 = .ok (.i2l, 1) := by decide +kernel
theorem dL_law_889 : decode cL_law 889 = .ok (.lcmp, 1) := by decide +kernel
theorem dL_law_890 : decode cL_law 890 = .ok (.ifCond .eq 5, 3) := by decide +kernel
theorem dL_law_893 : decode cL_law 893 = .ok (.iconst 0, 1) := by decide +kernel
theorem dL_law_894 : decode cL_law 894 = .ok (.ireturn, 1) := by decide +kernel
theorem dL_law_895 : decode cL_law 895 = .ok (.goto 300, 3) := by decide +kernel
theorem dL_law_898 : decode cL_law 898 = .ok (.aload_n 1, 1) := by decide +kernel
theorem dL_law_899 : decode cL_law 899 = .ok (.aload_n 0, 1) := by decide +kernel
theorem dL_law_900 : decode cL_law 900 = .ok (.iload 4, 2) := by decide +kernel
theorem dL_law_902 : decode cL_law 902 = .ok (.iconst 1, 1) := by decide +kernel
theorem dL_law_903 : decode cL_law 903 = .ok (.iadd, 1) := by decide +kernel
theorem dL_law_904 : decode cL_law 904 = .ok (.iaload, 1) := by decide +kernel
theorem dL_law_905 : decode cL_law 905 = .ok (.invokevirtual 115, 3) := by decide +kernel
theorem dL_law_908 : decode cL_law 908 = .ok (.aload_n 2, 1) := by decide +kernel
theorem dL_law_909 : decode cL_law 909 = .ok (.aload_n 0, 1) := by decide +kernel
theorem dL_law_910 : decode cL_law 910 = .ok (.iload 4, 2) := by decide +kernel
theorem dL_law_912 : decode cL_law 912 = .ok (.iconst 1, 1) := by decide +kernel
theorem dL_law_913 : decode cL_law 913 = .ok (.iadd, 1) := by decide +kernel
theorem dL_law_914 : decode cL_law 914 = .ok (.iaload, 1) := by decide +kernel
theorem dL_law_915 : decode cL_law 915 = .ok (.invokevirtual 118, 3) := by decide +kernel
theorem dL_law_918 : decode cL_law 918 = .ok (.if_icmp .eq 277, 3) := by decide +kernel
theorem dL_law_921 : decode cL_law 921 = .ok (.iconst 0, 1) := by decide +kernel
theorem dL_law_922 : decode cL_law 922 = .ok (.ireturn, 1) := by decide +kernel
theorem dL_law_923 : decode cL_law 923 = .ok (.aload_n 1, 1) := by decide +kernel
theorem dL_law_924 : decode cL_law 924 = .ok (.aload_n 0, 1) := by decide +kernel
theorem dL_law_925 : decode cL_law 925 = .ok (.iload 4, 2) := by decide +kernel
theorem dL_law_927 : decode cL_law 927 = .ok (.iconst 1, 1) := by decide +kernel
theorem dL_law_928 : decode cL_law 928 = .ok (.iadd, 1) := by decide +kernel
theorem dL_law_929 : decode cL_law 929 = .ok (.iaload, 1) := by decide +kernel
theorem dL_law_930 : decode cL_law 930 = .ok (.aload_n 0, 1) := by decide +kernel
theorem dL_law_931 : decode cL_law 931 = .ok (.iload 4, 2) := by decide +kernel
theorem dL_law_933 : decode cL_law 933 = .ok (.iconst 2, 1) := by decide +kernel
theorem dL_law_934 : decode cL_law 934 = .ok (.iadd, 1) := by decide +kernel
theorem dL_law_935 : decode cL_law 935 = .ok (.iaload, 1) := by decide +kernel
theorem dL_law_936 : decode cL_law 936 = .ok (.aload_n 3, 1) := by decide +kernel
theorem dL_law_937 : decode cL_law 937 = .ok (.invokestatic 119, 3) := by decide +kernel
theorem dL_law_940 : decode cL_law 940 = .ok (.istore 5, 2) := by decide +kernel
theorem dL_law_942 : decode cL_law 942 = .ok (.aload_n 2, 1) := by decide +kernel
theorem dL_law_943 : decode cL_law 943 = .ok (.aload_n 0, 1) := by decide +kernel
theorem dL_law_944 : decode cL_law 944 = .ok (.iload 4, 2) := by decide +kernel
theorem dL_law_946 : decode cL_law 946 = .ok (.iconst 1, 1) := by decide +kernel
theorem dL_law_947 : decode cL_law 947 = .ok (.iadd, 1) := by decide +kernel
theorem dL_law_948 : decode cL_law 948 = .ok (.iaload, 1) := by decide +kernel
theorem dL_law_949 : decode cL_law 949 = .ok (.aload_n 0, 1) := by decide +kernel
theorem dL_law_950 : decode cL_law 950 = .ok (.iload 4, 2) := by decide +kernel
theorem dL_law_952 : decode cL_law 952 = .ok (.iconst 2, 1) := by decide +kernel
theorem dL_law_953 : decode cL_law 953 = .ok (.iadd, 1) := by decide +kernel
theorem dL_law_954 : decode cL_law 954 = .ok (.iaload, 1) := by decide +kernel
theorem dL_law_955 : decode cL_law 955 = .ok (.invokevirtual 121, 3) := by decide +kernel
theorem dL_law_958 : decode cL_law 958 = .ok (.istore 6, 2) := by decide +kernel
theorem dL_law_960 : decode cL_law 960 = .ok (.aload_n 2, 1) := by decide +kernel
theorem dL_law_961 : decode cL_law 961 = .ok (.invokevirtual 76, 3) := by decide +kernel
theorem dL_law_964 : decode cL_law 964 = .ok (.iload 5, 2) := by decide +kernel
theorem dL_law_966 : decode cL_law 966 = .ok (.if_icmp .eq 5, 3) := by decide +kernel
theorem dL_law_969 : decode cL_law 969 = .ok (.iconst 0, 1) := by decide +kernel
theorem dL_law_970 : decode cL_law 970 = .ok (.ireturn, 1) := by decide +kernel
theorem dL_law_971 : decode cL_law 971 = .ok (.iload 5, 2) := by decide +kernel
theorem dL_law_973 : decode cL_law 973 = .ok (.ifCond .ne 15, 3) := by decide +kernel
theorem dL_law_976 : decode cL_law 976 = .ok (.aload_n 3, 1) := by decide +kernel
theorem dL_law_977 : decode cL_law 977 = .ok (.iconst 0, 1) := by decide +kernel
theorem dL_law_978 : decode cL_law 978 = .ok (.laload, 1) := by decide +kernel
theorem dL_law_979 : decode cL_law 979 = .ok (.iload 6, 2) := by decide +kernel
theorem dL_law_981 : decode cL_law 981 = .ok (.i2l, 1) := by decide +kernel
theorem dL_law_982 : decode cL_law 982 = .ok (.lcmp, 1) := by decide +kernel
theorem dL_law_983 : decode cL_law 983 = .ok (.ifCond .eq 5, 3) := by decide +kernel
theorem dL_law_986 : decode cL_law 986 = .ok (.iconst 0, 1) := by decide +kernel
theorem dL_law_987 : decode cL_law 987 = .ok (.ireturn, 1) := by decide +kernel
theorem dL_law_988 : decode cL_law 988 = .ok (.goto 207, 3) := by decide +kernel
theorem dL_law_991 : decode cL_law 991 = .ok (.aload_n 1, 1) := by decide +kernel
theorem dL_law_992 : decode cL_law 992 = .ok (.aload_n 0, 1) := by decide +kernel
theorem dL_law_993 : decode cL_law 993 = .ok (.iload 4, 2) := by decide +kernel
theorem dL_law_995 : decode cL_law 995 = .ok (.iconst 1, 1) := by decide +kernel
theorem dL_law_996 : decode cL_law 996 = .ok (.iadd, 1) := by decide +kernel
theorem dL_law_997 : decode cL_law 997 = .ok (.iaload, 1) := by decide +kernel
theorem dL_law_998 : decode cL_law 998 = .ok (.invokevirtual 122, 3) := by decide +kernel
theorem dL_law_1001 : decode cL_law 1001 = .ok (.aload_n 2, 1) := by decide +kernel
theorem dL_law_1002 : decode cL_law 1002 = .ok (.aload_n 0, 1) := by decide +kernel
theorem dL_law_1003 : decode cL_law 1003 = .ok (.iload 4, 2) := by decide +kernel
theorem dL_law_1005 : decode cL_law 1005 = .ok (.iconst 1, 1) := by decide +kernel
theorem dL_law_1006 : decode cL_law 1006 = .ok (.iadd, 1) := by decide +kernel
theorem dL_law_1007 : decode cL_law 1007 = .ok (.iaload, 1) := by decide +kernel
theorem dL_law_1008 : decode cL_law 1008 = .ok (.invokevirtual 125, 3) := by decide +kernel
theorem dL_law_1011 : decode cL_law 1011 = .ok (.if_icmp .eq 184, 3) := by decide +kernel
theorem dL_law_1014 : decode cL_law 1014 = .ok (.iconst 0, 1) := by decide +kernel
theorem dL_law_1015 : decode cL_law 1015 = .ok (.ireturn, 1) := by decide +kernel
theorem dL_law_1016 : decode cL_law 1016 = .ok (.aload_n 1, 1) := by decide +kernel
theorem dL_law_1017 : decode cL_law 1017 = .ok (.aload_n 0, 1) := by decide +kernel
theorem dL_law_1018 : decode cL_law 1018 = .ok (.iload 4, 2) := by decide +kernel
theorem dL_law_1020 : decode cL_law 1020 = .ok (.iconst 1, 1) := by decide +kernel
theorem dL_law_1021 : decode cL_law 1021 = .ok (.iadd, 1) := by decide +kernel
theorem dL_law_1022 : decode cL_law 1022 = .ok (.iaload, 1) := by decide +kernel
theorem dL_law_1023 : decode cL_law 1023 = .ok (.aload_n 3, 1) := by decide +kernel
theorem dL_law_1024 : decode cL_law 1024 = .ok (.invokestatic 126, 3) := by decide +kernel
theorem dL_law_1027 : decode cL_law 1027 = .ok (.istore 5, 2) := by decide +kernel
theorem dL_law_1029 : decode cL_law 1029 = .ok (.aload_n 2, 1) := by decide +kernel
theorem dL_law_1030 : decode cL_law 1030 = .ok (.aload_n 0, 1) := by decide +kernel
theorem dL_law_1031 : decode cL_law 1031 = .ok (.iload 4, 2) := by decide +kernel
theorem dL_law_1033 : decode cL_law 1033 = .ok (.iconst 1, 1) := by decide +kernel
theorem dL_law_1034 : decode cL_law 1034 = .ok (.iadd, 1) := by decide +kernel
theorem dL_law_1035 : decode cL_law 1035 = .ok (.iaload, 1) := by decide +kernel
theorem dL_law_1036 : decode cL_law 1036 = .ok (.invokevirtual 128, 3) := by decide +kernel
theorem dL_law_1039 : decode cL_law 1039 = .ok (.istore 6, 2) := by decide +kernel
theorem dL_law_1041 : decode cL_law 1041 = .ok (.aload_n 2, 1) := by decide +kernel
theorem dL_law_1042 : decode cL_law 1042 = .ok (.invokevirtual 76, 3) := by decide +kernel
theorem dL_law_1045 : decode cL_law 1045 = .ok (.iload 5, 2) := by decide +kernel
theorem dL_law_1047 : decode cL_law 1047 = .ok (.if_icmp .eq 5, 3) := by decide +kernel
theorem dL_law_1050 : decode cL_law 1050 = .ok (.iconst 0, 1) := by decide +kernel
theorem dL_law_1051 : decode cL_law 1051 = .ok (.ireturn, 1) := by decide +kernel
theorem dL_law_1052 : decode cL_law 1052 = .ok (.iload 5, 2) := by decide +kernel
theorem dL_law_1054 : decode cL_law 1054 = .ok (.ifCond .ne 15, 3) := by decide +kernel
theorem dL_law_1057 : decode cL_law 1057 = .ok (.aload_n 3, 1) := by decide +kernel
theorem dL_law_1058 : decode cL_law 1058 = .ok (.iconst 0, 1) := by decide +kernel
theorem dL_law_1059 : decode cL_law 1059 = .ok (.laload, 1) := by decide +kernel
theorem dL_law_1060 : decode cL_law 1060 = .ok (.iload 6, 2) := by decide +kernel
theorem dL_law_1062 : decode cL_law 1062 = .ok (.i2l, 1) := by decide +kernel
theorem dL_law_1063 : decode cL_law 1063 = .ok (.lcmp, 1) := by decide +kernel
theorem dL_law_1064 : decode cL_law 1064 = .ok (.ifCond .eq 5, 3) := by decide +kernel
theorem dL_law_1067 : decode cL_law 1067 = .ok (.iconst 0, 1) := by decide +kernel
theorem dL_law_1068 : decode cL_law 1068 = .ok (.ireturn, 1) := by decide +kernel
theorem dL_law_1069 : decode cL_law 1069 = .ok (.goto 126, 3) := by decide +kernel
theorem dL_law_1072 : decode cL_law 1072 = .ok (.aload_n 1, 1) := by decide +kernel
theorem dL_law_1073 : decode cL_law 1073 = .ok (.aload_n 0, 1) := by decide +kernel
theorem dL_law_1074 : decode cL_law 1074 = .ok (.iload 4, 2) := by decide +kernel
theorem dL_law_1076 : decode cL_law 1076 = .ok (.iconst 1, 1) := by decide +kernel
theorem dL_law_1077 : decode cL_law 1077 = .ok (.iadd, 1) := by decide +kernel
theorem dL_law_1078 : decode cL_law 1078 = .ok (.iaload, 1) := by decide +kernel
theorem dL_law_1079 : decode cL_law 1079 = .ok (.aload_n 0, 1) := by decide +kernel
theorem dL_law_1080 : decode cL_law 1080 = .ok (.iload 4, 2) := by decide +kernel
theorem dL_law_1082 : decode cL_law 1082 = .ok (.iconst 2, 1) := by decide +kernel
theorem dL_law_1083 : decode cL_law 1083 = .ok (.iadd, 1) := by decide +kernel
theorem dL_law_1084 : decode cL_law 1084 = .ok (.iaload, 1) := by decide +kernel
theorem dL_law_1085 : decode cL_law 1085 = .ok (.aload_n 3, 1) := by decide +kernel
theorem dL_law_1086 : decode cL_law 1086 = .ok (.invokestatic 129, 3) := by decide +kernel
theorem dL_law_1089 : decode cL_law 1089 = .ok (.istore 5, 2) := by decide +kernel
theorem dL_law_1091 : decode cL_law 1091 = .ok (.aload_n 2, 1) := by decide +kernel
theorem dL_law_1092 : decode cL_law 1092 = .ok (.aload_n 0, 1) := by decide +kernel
theorem dL_law_1093 : decode cL_law 1093 = .ok (.iload 4, 2) := by decide +kernel
theorem dL_law_1095 : decode cL_law 1095 = .ok (.iconst 1, 1) := by decide +kernel
theorem dL_law_1096 : decode cL_law 1096 = .ok (.iadd, 1) := by decide +kernel
theorem dL_law_1097 : decode cL_law 1097 = .ok (.iaload, 1) := by decide +kernel
theorem dL_law_1098 : decode cL_law 1098 = .ok (.aload_n 0, 1) := by decide +kernel
theorem dL_law_1099 : decode cL_law 1099 = .ok (.iload 4, 2) := by decide +kernel
theorem dL_law_1101 : decode cL_law 1101 = .ok (.iconst 2, 1) := by decide +kernel
theorem dL_law_1102 : decode cL_law 1102 = .ok (.iadd, 1) := by decide +kernel
theorem dL_law_1103 : decode cL_law 1103 = .ok (.iaload, 1) := by decide +kernel
theorem dL_law_1104 : decode cL_law 1104 = .ok (.invokevirtual 131, 3) := by decide +kernel
theorem dL_law_1107 : decode cL_law 1107 = .ok (.istore 6, 2) := by decide +kernel
theorem dL_law_1109 : decode cL_law 1109 = .ok (.aload_n 2, 1) := by decide +kernel
theorem dL_law_1110 : decode cL_law 1110 = .ok (.invokevirtual 76, 3) := by decide +kernel
theorem dL_law_1113 : decode cL_law 1113 = .ok (.iload 5, 2) := by decide +kernel
theorem dL_law_1115 : decode cL_law 1115 = .ok (.if_icmp .eq 5, 3) := by decide +kernel
theorem dL_law_1118 : decode cL_law 1118 = .ok (.iconst 0, 1) := by decide +kernel
theorem dL_law_1119 : decode cL_law 1119 = .ok (.ireturn, 1) := by decide +kernel
theorem dL_law_1120 : decode cL_law 1120 = .ok (.iload 5, 2) := by decide +kernel
theorem dL_law_1122 : decode cL_law 1122 = .ok (.ifCond .ne 15, 3) := by decide +kernel
theorem dL_law_1125 : decode cL_law 1125 = .ok (.aload_n 3, 1) := by decide +kernel
theorem dL_law_1126 : decode cL_law 1126 = .ok (.iconst 0, 1) := by decide +kernel
theorem dL_law_1127 : decode cL_law 1127 = .ok (.laload, 1) := by decide +kernel
theorem dL_law_1128 : decode cL_law 1128 = .ok (.iload 6, 2) := by decide +kernel
theorem dL_law_1130 : decode cL_law 1130 = .ok (.i2l, 1) := by decide +kernel
theorem dL_law_1131 : decode cL_law 1131 = .ok (.lcmp, 1) := by decide +kernel
theorem dL_law_1132 : decode cL_law 1132 = .ok (.ifCond .eq 5, 3) := by decide +kernel
theorem dL_law_1135 : decode cL_law 1135 = .ok (.iconst 0, 1) := by decide +kernel
theorem dL_law_1136 : decode cL_law 1136 = .ok (.ireturn, 1) := by decide +kernel
theorem dL_law_1137 : decode cL_law 1137 = .ok (.goto 58, 3) := by decide +kernel
theorem dL_law_1140 : decode cL_law 1140 = .ok (.aload_n 1, 1) := by decide +kernel
theorem dL_law_1141 : decode cL_law 1141 = .ok (.invokevirtual 132, 3) := by decide +kernel
theorem dL_law_1144 : decode cL_law 1144 = .ok (.dstore 5, 2) := by decide +kernel
theorem dL_law_1146 : decode cL_law 1146 = .ok (.aload_n 2, 1) := by decide +kernel
theorem dL_law_1147 : decode cL_law 1147 = .ok (.invokevirtual 136, 3) := by decide +kernel
theorem dL_law_1150 : decode cL_law 1150 = .ok (.dstore 7, 2) := by decide +kernel
theorem dL_law_1152 : decode cL_law 1152 = .ok (.dload 5, 2) := by decide +kernel
theorem dL_law_1154 : decode cL_law 1154 = .ok (.dload 7, 2) := by decide +kernel
theorem dL_law_1156 : decode cL_law 1156 = .ok (.dcmp .l, 1) := by decide +kernel
theorem dL_law_1157 : decode cL_law 1157 = .ok (.ifCond .eq 21, 3) := by decide +kernel
theorem dL_law_1160 : decode cL_law 1160 = .ok (.dload 5, 2) := by decide +kernel
theorem dL_law_1162 : decode cL_law 1162 = .ok (.dload 5, 2) := by decide +kernel
theorem dL_law_1164 : decode cL_law 1164 = .ok (.dcmp .l, 1) := by decide +kernel
theorem dL_law_1165 : decode cL_law 1165 = .ok (.ifCond .eq 11, 3) := by decide +kernel
theorem dL_law_1168 : decode cL_law 1168 = .ok (.dload 7, 2) := by decide +kernel
theorem dL_law_1170 : decode cL_law 1170 = .ok (.dload 7, 2) := by decide +kernel
theorem dL_law_1172 : decode cL_law 1172 = .ok (.dcmp .l, 1) := by decide +kernel
theorem dL_law_1173 : decode cL_law 1173 = .ok (.ifCond .ne 5, 3) := by decide +kernel
theorem dL_law_1176 : decode cL_law 1176 = .ok (.iconst 0, 1) := by decide +kernel
theorem dL_law_1177 : decode cL_law 1177 = .ok (.ireturn, 1) := by decide +kernel
theorem dL_law_1178 : decode cL_law 1178 = .ok (.goto 17, 3) := by decide +kernel
theorem dL_law_1181 : decode cL_law 1181 = .ok (.aload_n 1, 1) := by decide +kernel
theorem dL_law_1182 : decode cL_law 1182 = .ok (.invokevirtual 137, 3) := by decide +kernel
theorem dL_law_1185 : decode cL_law 1185 = .ok (.aload_n 2, 1) := by decide +kernel
theorem dL_law_1186 : decode cL_law 1186 = .ok (.invokevirtual 141, 3) := by decide +kernel
theorem dL_law_1189 : decode cL_law 1189 = .ok (.lcmp, 1) := by decide +kernel
theorem dL_law_1190 : decode cL_law 1190 = .ok (.ifCond .eq 5, 3) := by decide +kernel
theorem dL_law_1193 : decode cL_law 1193 = .ok (.iconst 0, 1) := by decide +kernel
theorem dL_law_1194 : decode cL_law 1194 = .ok (.ireturn, 1) := by decide +kernel
theorem dL_law_1195 : decode cL_law 1195 = .ok (.iinc 4 4, 3) := by decide +kernel
theorem dL_law_1198 : decode cL_law 1198 = .ok (.goto (-1175), 3) := by decide +kernel
theorem dL_law_1201 : decode cL_law 1201 = .ok (.iconst 1, 1) := by decide +kernel
theorem dL_law_1202 : decode cL_law 1202 = .ok (.ireturn, 1) := by decide +kernel
abbrev vwCl : List vw_C := [(RX0, TX0, 8), (RX1, TX1, 6)]
end
section
/-! ===== the numbers of a poem ===== -/
def qs_ (f : Nat → Nat) : Nat → Nat
  | 0 => 0
  | n + 1 => qs_ f n + f n
theorem qs_s (f : Nat → Nat) (n : Nat) : qs_ f (n + 1) = qs_ f n + f n := rfl
theorem qs_c {f g : Nat → Nat} : ∀ {n : Nat}, (∀ k, k < n → f k = g k) → qs_ f n = qs_ g n
  | 0, _ => rfl
  | n + 1, h => by rw [qs_s, qs_s, qs_c (fun k hk => h k (by omega)), h n (by omega)]
theorem qs_f (f : Nat → Nat) : ∀ n, qs_ f (n + 1) = f 0 + qs_ (fun k => f (k + 1)) n
  | 0 => by simp [qs_]
  | n + 1 => by rw [qs_s, qs_f f n, qs_s]; omega
theorem qs_r (f : Nat → Nat) : ∀ n, qs_ (fun k => f (n - 1 - k)) n = qs_ f n
  | 0 => rfl
  | n + 1 => by
    rw [qs_f, qs_s, qs_c (g := fun k => f (n - 1 - k)) (fun k hk => by show f (n + 1 - 1 - (k + 1)) = f (n - 1 - k); congr 1; omega), qs_r f n]
    show f (n + 1 - 1 - 0) + _ = _
    rw [show n + 1 - 1 - 0 = n by omega]; omega
theorem qs_z {f : Nat → Nat} {n : Nat} : ∀ {N : Nat}, n ≤ N → (∀ k, n ≤ k → k < N → f k = 0) → qs_ f N = qs_ f n
  | 0, h, _ => by rw [show n = 0 by omega]
  | N + 1, h, hz => by
    by_cases e : n = N + 1
    · rw [e]
    · rw [qs_s, qs_z (by omega) (fun k h1 h2 => hz k h1 (by omega)), hz N (by omega) (by omega)]; omega
theorem qs_b {f : Nat → Nat} {b : Nat} : ∀ {n : Nat}, (∀ k, k < n → f k ≤ b) → qs_ f n ≤ n * b
  | 0, _ => by simp [qs_]
  | n + 1, h => by
    rw [qs_s, Nat.succ_mul]
    exact Nat.add_le_add (qs_b (fun k hk => h k (by omega))) (h n (by omega))
/-- order, lines, sizes, words, marks (a word of a line at 10 * line + word) -/
abbrev St_ : Type := Nat × Nat × (Nat → Nat) × (Nat → Nat) × (Nat → Nat)
def so (c : St_) : Nat := c.1
def sn (c : St_) : Nat := c.2.1
def ss (c : St_) : Nat → Nat := c.2.2.1
def sw (c : St_) : Nat → Nat := c.2.2.2.1
def sk (c : St_) : Nat → Nat := c.2.2.2.2
def up_ (f : Nat → Nat) (k v : Nat) : Nat → Nat := fun j => if j = k then v else f j
theorem up_s {f : Nat → Nat} {k v : Nat} : up_ f k v k = v := by simp [up_]
theorem up_n {f : Nat → Nat} {k v j : Nat} (h : j ≠ k) : up_ f k v j = f j := by simp [up_, h]
def st_count (c : St_) (o : Nat) : St_ := (o, sn c, ss c, sw c, sk c)
def st_write (c : St_) : St_ := (so c, sn c + 1, ss c, sw c, sk c)
def st_add (c : St_) (l w : Nat) : St_ := (so c, sn c, up_ (ss c) l (ss c l + 1), up_ (sw c) (10 * l + ss c l) w, up_ (sk c) (10 * l + ss c l) 0)
def st_cut (c : St_) (l : Nat) : St_ := (so c, sn c, up_ (ss c) l (ss c l - 1), sw c, sk c)
def st_mark (c : St_) (i p : Nat) : St_ := (so c, sn c, ss c, sw c, up_ (sk c) i (sk c i ^^^ 2 ^ p))
/-- a letter's value -/
def vl_ (o k : Nat) : Nat := if o = 2 then k * k * 7 % 101 + 1 else if o = 1 then k else if k ≤ 9 then k else if k ≤ 18 then (k - 9) * 10 else (k - 18) * 100
/-- a word's letters -/
def lnf : Nat → Nat → Nat
  | 0, _ => 0
  | f + 1, w => if w = 0 then 0 else lnf f (w / 27) + 1
def ln_ (w : Nat) : Nat := lnf 7 w
theorem lnf_0 (f : Nat) : lnf f 0 = 0 := by cases f <;> simp [lnf]
theorem lnf_s {f w : Nat} (h : ¬ w = 0) : lnf (f + 1) w = lnf f (w / 27) + 1 := by rw [lnf, if_neg h]
theorem lnf_up : ∀ (f w : Nat), w < 27 ^ f → lnf (f + 1) w = lnf f w
  | 0, w, h => by
    have : w = 0 := by simpa using h
    subst this; rfl
  | f + 1, w, h => by
    by_cases e : w = 0
    · subst e; rw [lnf_0, lnf_0]
    · rw [lnf_s e, lnf_s (f := f) e, lnf_up f (w / 27) (by rw [Nat.pow_succ] at h; omega)]
theorem lnf_le : ∀ (f w : Nat), lnf f w ≤ f
  | 0, _ => Nat.le_refl _
  | f + 1, w => by
    rw [lnf]
    by_cases e : w = 0
    · simp [e]
    · rw [if_neg e]; have := lnf_le f (w / 27); omega
theorem ln_6 {w : Nat} (h : w < 387420489) : ln_ w = lnf 6 w := lnf_up 6 w (by simpa using h)
theorem ln_le {w : Nat} (h : w < 387420489) : ln_ w ≤ 6 := by rw [ln_6 h]; exact lnf_le 6 w
theorem lnf_lt : ∀ (f w : Nat), w < 27 ^ f → w < 27 ^ lnf f w
  | 0, w, h => h
  | f + 1, w, h => by
    rw [lnf]
    by_cases e : w = 0
    · simp [e]
    · rw [if_neg e, Nat.pow_succ]
      have := lnf_lt f (w / 27) (by rw [Nat.pow_succ] at h; omega)
      omega
theorem lnf_gt : ∀ (f w n : Nat), w < 27 ^ f → n ≤ f → 27 ^ n ≤ w → n < lnf f w
  | 0, w, n, h, hn, hw => by
    have : n = 0 := by omega
    subst this
    have : w = 0 := by simpa using h
    subst this; simp at hw
  | f + 1, w, 0, h, hn, hw => by
    rw [lnf, if_neg (by intro e; subst e; simp at hw)]; omega
  | f + 1, w, n + 1, h, hn, hw => by
    have h0 : w ≠ 0 := by intro e; subst e; have h27 : 0 < 27 ^ (n + 1) := Nat.pow_pos (by omega); omega
    rw [lnf, if_neg h0]
    have := lnf_gt f (w / 27) n (by rw [Nat.pow_succ] at h; omega) (by omega) (by rw [Nat.pow_succ] at hw; omega)
    omega
/-- the letter at a place, from the first one -/
def at_ (w p : Nat) : Nat := w / 27 ^ (ln_ w - 1 - p) % 27
theorem at_lt (w p : Nat) : at_ w p < 27 := Nat.mod_lt _ (by omega)
/-- a word's value; the value of its marked letters; how many they are -/
def ws0 (o w : Nat) : Nat := qs_ (fun p => vl_ o (at_ w p)) (ln_ w)
def wm_ (o w m : Nat) : Nat := qs_ (fun p => if m.testBit p then vl_ o (at_ w p) else 0) (ln_ w)
def wc_ (w m : Nat) : Nat := qs_ (fun p => if m.testBit p then 1 else 0) (ln_ w)
def wt_ (c : St_) (l w what : Nat) : Nat := if what = 0 then sw c (10 * l + w) else if what = 1 then ln_ (sw c (10 * l + w)) else if what = 2 then ws0 (so c) (sw c (10 * l + w)) else if what = 3 then wc_ (sw c (10 * l + w)) (sk c (10 * l + w)) else wm_ (so c) (sw c (10 * l + w)) (sk c (10 * l + w))
def lt_ (c : St_) (l what : Nat) : Nat := if what = 0 then ss c l else qs_ (fun w => wt_ c l w what) (ss c l)
def al_ (c : St_) (what : Nat) : Nat := qs_ (fun l => lt_ c l what) (sn c)
def on_ (c : St_) (i : Nat) : Bool := decide (i / 10 < sn c) && decide (i % 10 < ss c (i / 10))
def eq_ (c : St_) (a b : Nat) : Nat := if on_ c b && decide (ws0 (so c) (sw c a) = ws0 (so c) (sw c b)) then 1 else 0
def pr_ (c : St_) : Nat := qs_ (fun a => if on_ c a then qs_ (fun b => eq_ c a b) a else 0) (10 * sn c)
def to_ (c : St_) (what : Nat) : Nat := if what = 0 then sn c else if what = 6 then pr_ c else al_ c (what - 1)
/-- the last word of a run that comes to y, from w on with x so far, n words to go; -1 -/
def rn_ (c : St_) (l : Nat) (y : Int32) : Nat → Nat → Nat → Int32
  | 0, _, _ => -1
  | n + 1, w, x => if nI (x + ws0 (so c) (sw c (10 * l + w))) = y then nI w else rn_ c l y n (w + 1) (x + ws0 (so c) (sw c (10 * l + w)))
def ru_ (c : St_) (l : Nat) (y : Int32) (w : Nat) : Int32 := rn_ c l y (ss c l - w) w 0
def hd_ (c : St_) (l : Nat) (y : Int32) : Nat → Nat → Int32
  | 0, _ => -1
  | n + 1, w => if ru_ c l y w = -1 then hd_ c l y n (w + 1) else nI (10 * w) + ru_ c l y w
def hl_ (c : St_) (y : Int32) (l : Nat) : Nat := qs_ (fun w => if ru_ c l y w = -1 then 0 else 1) (ss c l)
def hs_ (c : St_) (y : Int32) : Nat := qs_ (fun l => hl_ c y l) (sn c)
def lk_ (c : St_) (l : Nat) (y : Int32) : Nat → Nat → Int32
  | 0, _ => -1
  | n + 1, k => if nI (lt_ c l 2 + vl_ (so c) k) = y then nI k else lk_ c l y n (k + 1)
def gp_ (c : St_) (y : Int32) (l : Nat) : Int64 := if 0 < (nI (lt_ c l 2)).toInt64 - y.toInt64 then (nI (lt_ c l 2)).toInt64 - y.toInt64 else -((nI (lt_ c l 2)).toInt64 - y.toInt64)
def nr_ (c : St_) (y : Int32) : Nat → Option Nat
  | 0 => none
  | n + 1 => match nr_ c y n with
    | none => some n
    | some b => if gp_ c y n < gp_ c y b then some n else some b
def ni_ (b : Option Nat) : Int32 := match b with
  | none => -1
  | some k => nI k
/-- the fewest letters for years -/
def bs_ (o : Nat) (t : Nat → Nat) (y : Nat) : Nat → Nat
  | 0 => 9999
  | n + 1 => if vl_ o (n + 1) ≤ y then Nat.min (bs_ o t y n) (t (y - vl_ o (n + 1)) + 1) else bs_ o t y n
def tb_ (o : Nat) : Nat → Nat → Nat
  | 0 => fun _ => 0
  | n + 1 => fun j => if j = n + 1 then bs_ o (tb_ o n) (n + 1) 26 else tb_ o n j
def fe_ (o y : Nat) : Nat := tb_ o y y
def en_ (g : Nat) : Int32 := if g < 9999 then nI g else -1
def gs_ (o y : Nat) : Nat → Nat
  | 0 => 0
  | n + 1 => if vl_ o (n + 1) ≤ y ∧ fe_ o (y - vl_ o (n + 1)) + 1 = fe_ o y then n + 1 else gs_ o y n
def gf_ (o y : Nat) : Nat := gs_ o y 26
def sp_ (o y : Nat) : Nat → Nat
  | 0 => y
  | k + 1 => sp_ o y k - vl_ o (gf_ o (sp_ o y k))
def sl_ (o y p : Nat) : Nat := if fe_ o y < 9999 ∧ p < fe_ o y then gf_ o (sp_ o y p) else 0
/-- the checksum -/
def df_ (f : Nat → Nat) : Nat → Int64 → Int64
  | 0, d => d
  | n + 1, d => df_ f n d * 31 + (nI (f n)).toInt64
def dw_ (c : St_) (l : Nat) : Nat → Int64 → Int64
  | 0, d => d
  | n + 1, d => df_ (fun what => wt_ c l n what) 5 (dw_ c l n d)
def dl_ (c : St_) : Nat → Int64 → Int64
  | 0, d => d
  | n + 1, d => dw_ c n (ss c n) (df_ (fun what => lt_ c n what) 5 (dl_ c n d))
def dg_ (c : St_) : Int64 := dl_ c (sn c) (df_ (fun what => to_ c what) 7 (40207 + (nI (so c)).toInt64))
/-- no letter is 0 -/
def nz_ : Nat → Nat → Bool
  | 0, _ => true
  | f + 1, n => if n = 0 then true else if n % 27 = 0 then false else nz_ f (n / 27)
def iw_ (n : Nat) : Bool := decide (0 < n) && decide (n < 387420489) && nz_ 7 n
def oc_ (w x : Nat) : Nat := qs_ (fun k => if w / 27 ^ k % 27 = x then 1 else 0) 6
/-- both have the letters k, k + 1 .. (n of them) as often -/
def ak_ (a b : Nat) : Nat → Nat → Bool
  | 0, _ => true
  | n + 1, k => decide (oc_ a k = oc_ b k) && ak_ a b n (k + 1)
/-- what always holds of a poem -/
def Iv_ (c : St_) : Prop := so c < 3 ∧ sn c ≤ 12 ∧ (∀ l, ss c l ≤ 10) ∧ (∀ i, sw c i < 387420489) ∧ (∀ i, sk c i < 64) ∧ ∀ l w, w < ss c l → sk c (10 * l + w) < 2 ^ ln_ (sw c (10 * l + w))
end
section
/-! ===== plain facts ===== -/
theorem eq0_ {a : Nat} (h : a < 2 ^ 31) : nI a = 0 ↔ a = 0 := by rw [← nI_0]; exact nI_eq h (by omega)
theorem gt0_ {a : Nat} (h : a < 2 ^ 31) : 0 < nI a ↔ 0 < a := by rw [← nI_0]; exact nI_ltI (by omega) h
theorem nle0_ {a : Nat} (h : a < 2 ^ 31) : nI a ≤ 0 ↔ a = 0 := by
  rw [← nI_0, nI_leI h (by omega)]; omega
theorem le0_ {a : Nat} (h : a < 2 ^ 31) (q : ¬ 0 < nI a) : a = 0 := by rw [gt0_ h] at q; omega
def b2_ (b : Bool) : Int32 := if b then 1 else 0
theorem b2_t : b2_ true = 1 := rfl
theorem b2_f : b2_ false = 0 := rfl
theorem b2_0 {b : Bool} : b2_ b = 0 ↔ b = false := by cases b <;> decide
theorem b2_n {b : Bool} : narrow .boolean (.int (b2_ b)) = .int (b2_ b) := by cases b <;> rfl
theorem nI1 : nI 1 = 1 := rfl
theorem nI0 : nI 0 = 0 := rfl
/-- letters' values -/
theorem vl_pos : ∀ o, o < 3 → ∀ k, k < 27 → 0 < k → 0 < vl_ o k := by decide +kernel
theorem vl_le : ∀ o, o < 3 → ∀ k, k < 27 → vl_ o k ≤ 900 := by decide +kernel
theorem vA1 : ∀ o, o < 3 → ∀ k, k < 27 → o = 2 → k * k * 7 % 101 + 1 = vl_ o k := by decide +kernel
theorem vA2 : ∀ o, o < 3 → ∀ k, k < 27 → ¬ o = 2 → o = 1 → k = vl_ o k := by decide +kernel
theorem vA3 : ∀ o, o < 3 → ∀ k, k < 27 → ¬ o = 2 → ¬ o = 1 → k ≤ 9 → k = vl_ o k := by intro o _ k _ h1 h2 h3; unfold vl_; rw [if_neg h1, if_neg h2, if_pos h3]
theorem vA4 : ∀ o, o < 3 → ∀ k, k < 27 → ¬ o = 2 → ¬ o = 1 → ¬ k ≤ 9 → k ≤ 18 → (k - 9) * 10 = vl_ o k := by intro o _ k _ h1 h2 h3 h4; unfold vl_; rw [if_neg h1, if_neg h2, if_neg h3, if_pos h4]
theorem vA5 : ∀ o, o < 3 → ∀ k, k < 27 → ¬ o = 2 → ¬ o = 1 → ¬ k ≤ 9 → ¬ k ≤ 18 → (k - 18) * 100 = vl_ o k := by intro o _ k _ h1 h2 h3 h4; unfold vl_; rw [if_neg h1, if_neg h2, if_neg h3, if_neg h4]
theorem im_ : ∀ m, m < 64 → ∀ p, p < 6 → ((nI m >>> (nI p &&& 31)) &&& nI 1 = nI 1 ↔ m.testBit p = true) := by decide +kernel
theorem xm_ : ∀ m, m < 64 → ∀ p, p < 6 → (nI m ^^^ (nI 1 <<< (nI p &&& 31))) = nI (m ^^^ 2 ^ p) := by decide +kernel
theorem xl_ : ∀ m, m < 64 → ∀ p, p < 6 → m ^^^ 2 ^ p < 64 := by decide +kernel
theorem dv_ (w k : Nat) : w / 27 ^ k / 27 = w / 27 ^ (k + 1) := by rw [Nat.div_div_eq_div_mul, Nat.pow_succ]
theorem wm_63 {o w : Nat} (h : w < 387420489) : wm_ o w 63 = ws0 o w := by
  unfold wm_ ws0
  refine qs_c (fun k hk => ?_)
  have h6 := ln_le h
  have : ∀ p, p < 6 → (63 : Nat).testBit p = true := by decide
  rw [this k (by omega)]; rfl
theorem oc_b (w x : Nat) : oc_ w x ≤ 6 := by
  unfold oc_
  have := qs_b (f := fun k => if w / 27 ^ k % 27 = x then 1 else 0) (b := 1) (n := 6) (fun k _ => by show (if _ then 1 else 0) ≤ 1; split <;> omega)
  omega
theorem b2_ne {b : Bool} (h : ¬ b2_ b = 0) : b = true := by cases b with
  | false => exact absurd rfl h
  | true => rfl
theorem pm_ {p : Nat} (h : p < 2 ^ 31) : nI p - nI 1 < 0 ↔ p = 0 := by
  constructor
  · intro q
    by_cases e : p = 0
    · exact e
    · rw [pk_sub (show 1 ≤ p by omega)] at q
      exact absurd q (nI_pos (by omega))
  · intro e; subst e; decide
theorem im1_ (x : Int32) : x + Int32.ofInt (-1) = x - nI 1 := by
  rw [Int32.sub_eq_add_neg]; rfl
theorem im2_ {p : Nat} (h : 0 < p) : nI p + Int32.ofInt (-1) = nI (p - 1) := by
  rw [im1_, pk_sub h]
def wq_ (o w m n : Nat) : Nat := qs_ (fun p => if m.testBit p then vl_ o (at_ w p) else 0) n
theorem wq_t {o w m p : Nat} (h : 0 < p) (hb : m.testBit (p - 1) = true) : wq_ o w m p = wq_ o w m (p - 1) + vl_ o (at_ w (p - 1)) := by
  obtain ⟨q, rfl⟩ : ∃ q, p = q + 1 := ⟨p - 1, by omega⟩
  simp only [Nat.add_sub_cancel] at hb ⊢
  show qs_ _ (q + 1) = _
  rw [qs_s]
  simp only [hb, if_true]
  rfl
theorem wq_f {o w m p : Nat} (h : 0 < p) (hb : m.testBit (p - 1) = false) : wq_ o w m p = wq_ o w m (p - 1) := by
  obtain ⟨q, rfl⟩ : ∃ q, p = q + 1 := ⟨p - 1, by omega⟩
  simp only [Nat.add_sub_cancel] at hb ⊢
  show qs_ _ (q + 1) = _
  rw [qs_s]
  simp only [hb]
  rfl
theorem rn_s {c : St_} {l w x : Nat} {y : Int32} (h : w < ss c l) : rn_ c l y (ss c l - w) w x = if nI (x + ws0 (so c) (sw c (10 * l + w))) = y then nI w else rn_ c l y (ss c l - (w + 1)) (w + 1) (x + ws0 (so c) (sw c (10 * l + w))) := by
  obtain ⟨n, hn⟩ : ∃ n, ss c l - w = n + 1 := ⟨ss c l - w - 1, by omega⟩
  rw [hn, rn_, show ss c l - (w + 1) = n by omega]
theorem rn_e {c : St_} {l w x : Nat} {y : Int32} (h : ¬ w < ss c l) : rn_ c l y (ss c l - w) w x = -1 := by
  rw [show ss c l - w = 0 by omega]; rfl
theorem rn_r (c : St_) (l : Nat) (y : Int32) : ∀ (n w x : Nat), rn_ c l y n w x = -1 ∨ ∃ k, k < w + n ∧ rn_ c l y n w x = nI k
  | 0, _, _ => Or.inl rfl
  | n + 1, w, x => by
    rw [rn_]
    split
    · exact Or.inr ⟨w, by omega, rfl⟩
    · rcases rn_r c l y n (w + 1) _ with h | ⟨k, h1, h2⟩
      · exact Or.inl h
      · exact Or.inr ⟨k, by omega, h2⟩
theorem ru_r {c : St_} {l w : Nat} {y : Int32} (h : w < ss c l) : ru_ c l y w = -1 ∨ ∃ k, k < ss c l ∧ ru_ c l y w = nI k := by
  rcases rn_r c l y (ss c l - w) w 0 with h1 | ⟨k, h1, h2⟩
  · exact Or.inl h1
  · exact Or.inr ⟨k, by omega, h2⟩
theorem ru_i {c : St_} (hs : ∀ l, ss c l ≤ 10) {l w : Nat} {y : Int32} (h : w < ss c l) : ru_ c l y w < 0 ↔ ru_ c l y w = -1 := by
  rcases ru_r (y := y) h with h1 | ⟨k, h1, h2⟩
  · rw [h1]; decide
  · rw [h2]
    have := hs l
    constructor
    · intro q; exact absurd q (nI_pos (by omega))
    · intro q
      have h3 : nI k < 0 := by rw [q]; decide
      exact absurd h3 (nI_pos (by omega))
end
section
/-! ===== the world: the poem, the model, the law's row of one long, in one list ===== -/
/-- worths, rows of fewest letters, which are filled, what the model threw, the law's long -/
abbrev Ax_ : Type := (Nat → Int32) × (Nat → Nat → Int32) × (Nat → Int32) × Int32 × (Nat → Int64)
def xw (x : Ax_) : Nat → Int32 := x.1
def xf (x : Ax_) : Nat → Nat → Int32 := x.2.1
def xg (x : Ax_) : Nat → Int32 := x.2.2.1
def xh (x : Ax_) : Int32 := x.2.2.2.1
def xo (x : Ax_) : Nat → Int64 := x.2.2.2.2
def ax_h (x : Ax_) (v : Int32) : Ax_ := (xw x, xf x, xg x, v, xo x)
def ax_o (x : Ax_) (v : Int64) : Ax_ := (xw x, xf x, xg x, xh x, vp_updL (xo x) 0 v)
def ax_w (x : Ax_) (v : Nat → Int32) : Ax_ := (v, xf x, xg x, xh x, xo x)
def ax_f (x : Ax_) (f : Nat → Nat → Int32) : Ax_ := (xw x, f, xg x, xh x, xo x)
def ax_g (x : Ax_) (f : Nat → Int32) : Ax_ := (xw x, xf x, f, xh x, xo x)
/-- a filled row holds the fewest letters -/
def FI_ (x : Ax_) : Prop := ∀ o, o < 3 → ¬ xg x o = 0 → ∀ y, y ≤ 3000 → xf x o y = en_ (fe_ o y)
/-- a mark's bit, as the model holds it -/
def mb_ (f : Nat → Nat) (j : Nat) : Int32 := if (f (j / 6)).testBit (j % 6) then 1 else 0
def e_q (ct : Nat → Nat) (n : Nat) (f : Nat → Nat) : va_E := .inl (ct 1, n, .inr (.inr (.inr (.inr (fun i => some (f i))))))
def e_i (ct : Nat → Nat) (n : Nat) (f : Nat → Int32) : va_E := .inl (ct 0, n, .inl f)
def e_z (ct : Nat → Nat) (n : Nat) (f : Nat → Int32) : va_E := .inl (ct 2, n, .inl f)
def wl_a (ct ad : Nat → Nat) (c m : St_) (x : Ax_) : va_W :=
  [(ad 0, .inr (0, [.int (nI (so c)), .int (nI (sn c)), .ref (ad 1), .ref (ad 2), .ref (ad 3), .ref (ad 4), .ref (ad 5), .ref (ad 6)])),
   (ad 1, e_i ct 12 (fun l => nI (ss c l))),
   (ad 2, e_q ct 12 (fun i => ad (12 + i))),
   (ad 3, e_q ct 12 (fun i => ad (24 + i))),
   (ad 4, e_i ct 120 (xw x)),
   (ad 5, e_q ct 3 (fun i => ad (36 + i))),
   (ad 6, e_z ct 3 (xg x)),
   (ad 7, .inr (1, [.int (xh x), .int (nI (so m)), .int (nI (sn m)), .ref (ad 8), .ref (ad 9), .ref (ad 10)])),
   (ad 8, e_i ct 12 (fun l => nI (ss m l))),
   (ad 9, e_i ct 120 (fun i => nI (sw m i))),
   (ad 10, e_z ct 720 (mb_ (sk m))),
   (ad 11, .inl (ct 3, 1, .inr (.inl (xo x))))]
def gd_ (f : Nat → Nat) (i w : Nat) : Nat := if w < 10 then f (10 * i + w) else 0
theorem gd_t {f : Nat → Nat} {i w : Nat} (h : w < 10) : gd_ f i w = f (10 * i + w) := if_pos h
def wl_w (ct ad : Nat → Nat) (c : St_) : va_W := (List.range 12).map (fun i => (ad (12 + i), e_i ct 10 (fun w => nI (gd_ (sw c) i w))))
def wl_k (ct ad : Nat → Nat) (c : St_) : va_W := (List.range 12).map (fun i => (ad (24 + i), e_i ct 10 (fun w => nI (gd_ (sk c) i w))))
def wl_f (ct ad : Nat → Nat) (x : Ax_) : va_W := (List.range 3).map (fun i => (ad (36 + i), e_i ct 3001 (xf x i)))
def wl_ (ct ad : Nat → Nat) (c m : St_) (x : Ax_) : va_W := wl_a ct ad c m x ++ (wl_w ct ad c ++ (wl_k ct ad c ++ wl_f ct ad x))
theorem wl_0 {ct ad : Nat → Nat} {c m : St_} {x : Ax_} {k : Nat} (h : k < 12) : (wl_ ct ad c m x)[k]? = (wl_a ct ad c m x)[k]? := List.getElem?_append_left h
theorem wl_1 {ct ad : Nat → Nat} {c m : St_} {x : Ax_} {i : Nat} (h : i < 12) : (wl_ ct ad c m x)[12 + i]? = some (ad (12 + i), e_i ct 10 (fun w => nI (gd_ (sw c) i w))) := by
  unfold wl_
  rw [List.getElem?_append_right (by show 12 ≤ 12 + i; omega)]
  show (wl_w ct ad c ++ _)[12 + i - 12]? = _
  rw [show 12 + i - 12 = i by omega, List.getElem?_append_left (by simp [wl_w]; omega)]
  simp [wl_w, h]
theorem wl_2 {ct ad : Nat → Nat} {c m : St_} {x : Ax_} {i : Nat} (h : i < 12) : (wl_ ct ad c m x)[24 + i]? = some (ad (24 + i), e_i ct 10 (fun w => nI (gd_ (sk c) i w))) := by
  unfold wl_
  rw [List.getElem?_append_right (by show 12 ≤ 24 + i; omega)]
  show (wl_w ct ad c ++ _)[24 + i - 12]? = _
  rw [List.getElem?_append_right (by simp [wl_w]; omega), show 24 + i - 12 - (wl_w ct ad c).length = i by simp [wl_w]; omega, List.getElem?_append_left (by simp [wl_k]; omega)]
  simp [wl_k, h]
theorem wl_3 {ct ad : Nat → Nat} {c m : St_} {x : Ax_} {i : Nat} (h : i < 3) : (wl_ ct ad c m x)[36 + i]? = some (ad (36 + i), e_i ct 3001 (xf x i)) := by
  unfold wl_
  rw [List.getElem?_append_right (by show 12 ≤ 36 + i; omega)]
  show (wl_w ct ad c ++ _)[36 + i - 12]? = _
  rw [List.getElem?_append_right (by simp [wl_w]; omega), show 36 + i - 12 - (wl_w ct ad c).length = 12 + i by simp [wl_w]; omega, List.getElem?_append_right (by simp [wl_k]), show 12 + i - (wl_k ct ad c).length = i by simp [wl_k]]
  simp [wl_f, h]
theorem mp_set {α : Type} (n l : Nat) (f f' : Nat → α) (h : ∀ i, i < n → i ≠ l → f i = f' i) : ((List.range n).map f).set l (f' l) = (List.range n).map f' := by
  apply List.ext_getElem?
  intro i
  rw [List.getElem?_set]
  by_cases hi : i < n
  · by_cases e : l = i
    · subst e; simp [hi]
    · simp [e, hi, h i hi (Ne.symm e)]
  · have h1 : ((List.range n).map f)[i]? = none := List.getElem?_eq_none (by simp; omega)
    have h2 : ((List.range n).map f')[i]? = none := List.getElem?_eq_none (by simp; omega)
    rw [h1, h2]
    by_cases e : l = i
    · rw [if_pos e, if_neg (by simp; omega)]
    · rw [if_neg e]
theorem wl_s1 {ct ad : Nat → Nat} {c c' m : St_} {x : Ax_} {l : Nat} (hl : l < 12) (ha : wl_a ct ad c m x = wl_a ct ad c' m x) (hk : sk c = sk c') (h : ∀ i w, i ≠ l → w < 10 → sw c (10 * i + w) = sw c' (10 * i + w)) {e : va_E} (he : e = e_i ct 10 (fun w => nI (gd_ (sw c') l w))) : (wl_ ct ad c m x).set (12 + l) (ad (12 + l), e) = wl_ ct ad c' m x := by
  subst he
  unfold wl_
  rw [List.set_append_right _ _ (by show 12 ≤ 12 + l; omega), ha]
  show _ ++ (wl_w ct ad c ++ _).set (12 + l - 12) _ = _
  rw [show 12 + l - 12 = l by omega, List.set_append_left _ _ (by simp [wl_w]; omega)]
  have hw : (wl_w ct ad c).set l (ad (12 + l), e_i ct 10 (fun w => nI (gd_ (sw c') l w))) = wl_w ct ad c' := mp_set 12 l _ (fun i => (ad (12 + i), e_i ct 10 (fun w => nI (gd_ (sw c') i w)))) (fun i _ hne => by
    have : (fun w => nI (gd_ (sw c) i w)) = (fun w => nI (gd_ (sw c') i w)) := funext fun w => by
      unfold gd_
      by_cases hw9 : w < 10
      · rw [if_pos hw9, if_pos hw9, h i w hne hw9]
      · rw [if_neg hw9, if_neg hw9]
    simp only [this])
  rw [hw]
  simp only [wl_k, hk]
theorem wl_s2 {ct ad : Nat → Nat} {c c' m : St_} {x : Ax_} {l : Nat} (hl : l < 12) (ha : wl_a ct ad c m x = wl_a ct ad c' m x) (hw : sw c = sw c') (h : ∀ i w, i ≠ l → w < 10 → sk c (10 * i + w) = sk c' (10 * i + w)) {e : va_E} (he : e = e_i ct 10 (fun w => nI (gd_ (sk c') l w))) : (wl_ ct ad c m x).set (24 + l) (ad (24 + l), e) = wl_ ct ad c' m x := by
  subst he
  unfold wl_
  rw [List.set_append_right _ _ (by show 12 ≤ 24 + l; omega), ha]
  show _ ++ (wl_w ct ad c ++ _).set (24 + l - 12) _ = _
  rw [List.set_append_right _ _ (by simp [wl_w]; omega), show 24 + l - 12 - (wl_w ct ad c).length = l by simp [wl_w]; omega, List.set_append_left _ _ (by simp [wl_k]; omega)]
  have hk : (wl_k ct ad c).set l (ad (24 + l), e_i ct 10 (fun w => nI (gd_ (sk c') l w))) = wl_k ct ad c' := mp_set 12 l _ (fun i => (ad (24 + i), e_i ct 10 (fun w => nI (gd_ (sk c') i w)))) (fun i _ hne => by
    have : (fun w => nI (gd_ (sk c) i w)) = (fun w => nI (gd_ (sk c') i w)) := funext fun w => by
      unfold gd_
      by_cases hw9 : w < 10
      · rw [if_pos hw9, if_pos hw9, h i w hne hw9]
      · rw [if_neg hw9, if_neg hw9]
    simp only [this])
  rw [hk]
  simp only [wl_w, hw]
theorem wl_s3 {ct ad : Nat → Nat} {c m : St_} {x : Ax_} {o : Nat} (ho : o < 3) {f : Nat → Int32} {e : va_E} (he : e = e_i ct 3001 f) : (wl_ ct ad c m x).set (36 + o) (ad (36 + o), e) = wl_ ct ad c m (ax_f x (fun i => if i = o then f else xf x i)) := by
  subst he
  unfold wl_
  rw [List.set_append_right _ _ (by show 12 ≤ 36 + o; omega)]
  show wl_a ct ad c m x ++ (wl_w ct ad c ++ _).set (36 + o - 12) _ = _
  rw [List.set_append_right _ _ (by simp [wl_w]; omega), show 36 + o - 12 - (wl_w ct ad c).length = 12 + o by simp [wl_w]; omega, List.set_append_right _ _ (by simp [wl_k]), show 12 + o - (wl_k ct ad c).length = o by simp [wl_k]]
  have hf : (wl_f ct ad x).set o (ad (36 + o), e_i ct 3001 f) = wl_f ct ad (ax_f x (fun i => if i = o then f else xf x i)) := by
    have := mp_set 3 o (fun i => (ad (36 + i), e_i ct 3001 (xf x i))) (fun i => (ad (36 + i), e_i ct 3001 (if i = o then f else xf x i))) (fun i _ hne => by simp only [if_neg hne])
    simp only [if_true] at this
    exact this
  rw [hf]
  rfl
/-- cells of the world lie from B0 on -/
def AA (B0 : Nat) : Nat → Prop := fun q => B0 ≤ q
def ty_ (ct : Nat → Nat) : List (ClassId × FieldType) := [(ct 0, .int), (ct 1, .array .int), (ct 2, .boolean), (ct 3, .long)]
/-- the heap's part -/
def CW (B0 : Nat) (g : va_G) (ct ad : Nat → Nat) (c m : St_) (x : Ax_) (H : Heap) : Prop :=
  va_P g vwCl (wl_ ct ad c m x) H ∧ va_D (AA B0) (wl_ ct ad c m x) ∧ B0 ≤ H.size ∧ Iv_ c ∧ Iv_ m ∧ FI_ x
def KS (s : State) : Prop := ∀ q ∈ ([(40, "no such order"), (45, "no such letter"), (64, "the poem is full"), (70, "the line is full"), (72, "the line has no word"), (81, "no such place"), (133, "no such line"), (135, "no such word"), (137, "nothing such is told"), (145, "no word"), (148, "no year that can be spelled")] : List (Nat × String)), ∃ a, vk_R RX0 q.1 q.2 a s
abbrev EI_ : String := "java/lang/IndexOutOfBoundsException"
abbrev ES_ : String := "java/lang/IllegalStateException"
abbrev EA_ : String := "java/lang/IllegalArgumentException"
/-- what the tables say of the exceptions beside good words -/
def KX (s : State) : Prop := (∀ E ∈ [EI_, ES_, EA_], va_Nw (.castable E E) s) ∧ (∀ C ∈ ["java/lang/RuntimeException", "java/lang/Exception", "java/lang/Throwable"], va_Nw (.declares (Bundle.initS C)) s) ∧ ∀ E ∈ [EI_, ES_, EA_], ∀ F ∈ [EI_, ES_, EA_], E ≠ F → va_Nc E F s
theorem KX.warm {s U : State} (hW : s.WarmedH U.vm) (h : KX s) : KX U := ⟨fun E hE => va_Nw.warmC hW (h.1 E hE), fun C hC => va_Nw.warmD hW (h.2.1 C hC), fun E hE F hF ne => va_Nc.moved hW.alike (h.2.2 E hE F hF ne)⟩
theorem KX.same {u U : State} (hv : u.vm = U.vm) (h : KX u) : KX U := ⟨fun E hE => va_Nw.same rfl hv (h.1 E hE), fun C hC => va_Nw.same rfl hv (h.2.1 C hC), fun E hE F hF ne => va_Nc.moved (by rw [hv]; exact Vm.Alike.refl _) (h.2.2 E hE F hF ne)⟩
/-- the tables' part -/
def CK (B0 : Nat) (g : va_G) (ct : Nat → Nat) (s : State) (H : Heap) : Prop :=
  va_K g vwCl (ty_ ct) s ∧ vx_Zq Bundle.tN "UNASSIGNED_STACK" Bundle.steD (AA B0) s H ∧ vx_Zq Bundle.tN "SUPPRESSED_SENTINEL" Bundle.listD (AA B0) s H ∧ KS s ∧ KX s
def CX (B0 : Nat) (g : va_G) (ct ad : Nat → Nat) (c m : St_) (x : Ax_) (s : State) (H : Heap) : Prop := CW B0 g ct ad c m x H ∧ CK B0 g ct s H
theorem CK.warm {B0 : Nat} {g : va_G} {ct : Nat → Nat} {s U : State} {H : Heap} (hW : s.WarmedH U.vm) (h : CK B0 g ct s H) : CK B0 g ct U H :=
  ⟨va_K.moved hW.alike h.1, vx_Zq.moved hW.alike h.2.1, vx_Zq.moved hW.alike h.2.2.1, fun q hq => by
    obtain ⟨a, ha⟩ := h.2.2.2.1 q hq
    exact ⟨a, vk_R.warm hW ha⟩, h.2.2.2.2.warm hW⟩
theorem CK.kept {B0 : Nat} {g : va_G} {ct : Nat → Nat} {s : State} {H H1 : Heap} (hq : ∀ a : Nat, a < H.size → ¬ AA B0 a → H1[a]? = H[a]?) (h : CK B0 g ct s H) : CK B0 g ct s H1 :=
  ⟨h.1, vx_Zq.kept h.2.1 hq, vx_Zq.kept h.2.2.1 hq, h.2.2.2⟩
theorem CX.warm {B0 : Nat} {g : va_G} {ct ad : Nat → Nat} {c m : St_} {x : Ax_} {s U : State} {H : Heap} (h : CX B0 g ct ad c m x s H) (hU : U.heap = H) (hW : s.WarmedH U.vm) : CX B0 g ct ad c m x U U.heap := by
  rw [hU]
  exact ⟨h.1, CK.warm hW h.2⟩
theorem KS.same {u U : State} (hv : U.vm = u.vm) (h : KS u) : KS U := fun q hq => by
  obtain ⟨a, ha⟩ := h q hq
  exact ⟨a, vk_R.same hv ha⟩
theorem CX.blind {B0 : Nat} {g : va_G} {ct ad : Nat → Nat} {c m : St_} {x : Ax_} {av : List Value} : FrameBlind (va_Pc av (fun U => CX B0 g ct ad c m x U U.heap)) := by
  intro a U f mk h
  obtain ⟨h1, h2, h3, h4, h5, h6, h7⟩ := h
  exact ⟨h1, h2, va_K.moved (u := U) (U := U.calling f mk a) (Vm.Alike.refl U.vm) h3, vx_Zq.moved (u := U) (U := U.calling f mk a) (Vm.Alike.refl U.vm) h4, vx_Zq.moved (u := U) (U := U.calling f mk a) (Vm.Alike.refl U.vm) h5, KS.same (u := U) (U := U.calling f mk a) rfl h6, KX.same (u := U) (U := U.calling f mk a) rfl h7⟩
theorem tr_blind {av : List Value} : FrameBlind (va_Pc av (fun _ => True)) := fun _ _ _ _ h => h
end
section
/-! ===== rows over the world: reads, writes, calls, throws ===== -/
abbrev rm_ (d k n : Nat) : Room := { frames := d, cells := k, slots := n, locals := 36 * d }
def f0_ (ad : Nat → Nat) (c : St_) : List Value := [.int (nI (so c)), .int (nI (sn c)), .ref (ad 1), .ref (ad 2), .ref (ad 3), .ref (ad 4), .ref (ad 5), .ref (ad 6)]
def f1_ (ad : Nat → Nat) (c : St_) (x : Ax_) : List Value := [.int (xh x), .int (nI (so c)), .int (nI (sn c)), .ref (ad 8), .ref (ad 9), .ref (ad 10)]
theorem tx0_own (k : Nat) : (TX0 k).1 = RX0 := by unfold TX0; split <;> rfl
theorem tx1_own (k : Nat) : (TX1 k).1 = RX1 := by unfold TX1; split <;> rfl
abbrev PX (B0 : Nat) (g : va_G) (ct ad : Nat → Nat) (c m : St_) (x : Ax_) (av : List Value) : Array Value → State → Prop := va_Pc av (fun U => CX B0 g ct ad c m x U U.heap)
/-- a method that reads: an int, a long, nothing -/
abbrev RI (l : Launch) (y : MethodName) (ws : List Cond) (d : Nat) (P : Array Value → State → Prop) (v : Int32) : Prop := Met l y ws (rm_ d 0 0) P (vp_Si (fun r => r = v)) 0 0 (fun _ => False)
abbrev RL_ (l : Launch) (y : MethodName) (ws : List Cond) (d : Nat) (P : Array Value → State → Prop) (v : Int64) : Prop := Met l y ws (rm_ d 0 0) P (vp_Sl (fun r => r = v)) 0 0 (fun _ => False)
abbrev RV (l : Launch) (y : MethodName) (ws : List Cond) (d : Nat) (P : Array Value → State → Prop) : Prop := Met l y ws (rm_ d 0 0) P (va_Sv (fun _ => True)) 0 0 (fun _ => False)
/-- a method that writes the world, and answers -/
abbrev WI (l : Launch) (y : MethodName) (ws : List Cond) (d k n : Nat) (B0 : Nat) (g : va_G) (ct ad : Nat → Nat) (c m : St_) (x : Ax_) (av : List Value) (v : Int32) (c' m' : St_) (px : Ax_ → Prop) : Prop := Met l y ws (rm_ d k n) (PX B0 g ct ad c m x av) (va_Qi (fun r (u : Ax_) => r = v ∧ px u) (fun u t => CW B0 g ct ad c' m' u t.heap) (AA B0)) k n (AA B0)
abbrev WL (l : Launch) (y : MethodName) (ws : List Cond) (d k n : Nat) (B0 : Nat) (g : va_G) (ct ad : Nat → Nat) (c m : St_) (x : Ax_) (av : List Value) (v : Int64) (c' m' : St_) (px : Ax_ → Prop) : Prop := Met l y ws (rm_ d k n) (PX B0 g ct ad c m x av) (va_Ql (fun r (u : Ax_) => r = v ∧ px u) (fun u t => CW B0 g ct ad c' m' u t.heap) (AA B0)) k n (AA B0)
abbrev WV (l : Launch) (y : MethodName) (ws : List Cond) (d k n : Nat) (B0 : Nat) (g : va_G) (ct ad : Nat → Nat) (c m : St_) (x : Ax_) (av : List Value) (c' m' : St_) (px : Ax_ → Prop) : Prop := Met l y ws (rm_ d k n) (PX B0 g ct ad c m x av) (va_Qv (fun (u : Ax_) => px u) (fun u t => CW B0 g ct ad c' m' u t.heap) (AA B0)) k n (AA B0)
/-- a method that throws E for sure, the world unchanged -/
abbrev XB (E : String) (B0 : Nat) (g : va_G) (ct ad : Nat → Nat) (c m : St_) (x : Ax_) : String → State → State → Prop := vx_X (fun _ : Unit => True) (fun E' _ t => E' = E ∧ CW B0 g ct ad c m x t.heap) (AA B0)
abbrev QF : Array Value → State → Outcome → State → Prop := fun _ _ _ _ => False
abbrev TX (l : Launch) (y : MethodName) (ws : List Cond) (d : Nat) (B0 : Nat) (g : va_G) (ct ad : Nat → Nat) (c m : St_) (x : Ax_) (av : List Value) (E : String) : Prop := vx_Met l y ws (rm_ d 1 6) (PX B0 g ct ad c m x av) QF (XB E B0 g ct ad c m x) 1 6 (AA B0)
section RW1
variable {p : Program} {l : Launch} {e : Env} {R : Room} {s : State} {m : MethodId} {args : Array Value} {below : List Frame} {meth : Method} {c : Code} {H : Heap} {locs : List Loc} {cells slots : Nat} {Q : State → Prop}
variable {cc : ByteArray} {pc : Nat} {ls : Array Slot} {rest : List Value} {B0 : Nat} {g : va_G} {ct ad : Nat → Nat} {cS mS : St_} {x : Ax_} {Ts : List Cond}
theorem lv_tn {v w : Int32} (h : v = w) (kk : W p l e R s m args below meth c H locs cells slots Q (F0 m pc ls (.int w :: rest))) : W p l e R s m args below meth c H locs cells slots Q (F0 m pc ls (.int v :: rest)) := h ▸ kk
theorem lv_tl {v w : Int64} (h : v = w) (kk : W p l e R s m args below meth c H locs cells slots Q (F0 m pc ls (.long w :: rest))) : W p l e R s m args below meth c H locs cells slots Q (F0 m pc ls (.long v :: rest)) := h ▸ kk
theorem r_g0 (hC : CX B0 g ct ad cS mS x s H) (hexec : p.tables.exec = Jvm.exec) (hb : c.code = cc) (hts : ∀ w ∈ Ts, w.before args s = true) (hin : ∀ w ∈ wsX00, w ∈ Ts) (hown : s.vm.findClass RX0 = some m.cls) {index : Nat} (k : Nat) (hk : k < 8) (hlink : (Cond.fieldLink RX0 index RX0 (TX0 k).2.1 (TX0 k).2.2.1).before args s = true) {v : Value} (hv : (f0_ ad cS)[k]? = some v) (hdg : decode cc pc = .ok (.getfield index, 3))
    (kk : W p l e R s m args below meth c H locs cells slots Q (F0 m (pc + 3) ls (v :: rest))) : W p l e R s m args below meth c H locs cells slots Q (F0 m pc ls (.ref (ad 0) :: rest)) :=
  va_get (D := g) (ci := 0) (C := RX0) (T := TX0) (N := 8) (ref := RX0) (fs := f0_ ad cS) hexec hb hts hin hown hC.2.1 hC.1.1 0 ((wl_0 (k := 0) (by omega)).trans rfl) rfl k hk hlink (fun y h => by rw [tx0_own] at h; exact h) hv hdg kk
theorem r_g1 (hC : CX B0 g ct ad cS mS x s H) (hexec : p.tables.exec = Jvm.exec) (hb : c.code = cc) (hts : ∀ w ∈ Ts, w.before args s = true) (hin : ∀ w ∈ wsX10, w ∈ Ts) (hown : s.vm.findClass RX1 = some m.cls) {index : Nat} (k : Nat) (hk : k < 6) (hlink : (Cond.fieldLink RX1 index RX1 (TX1 k).2.1 (TX1 k).2.2.1).before args s = true) {v : Value} (hv : (f1_ ad mS x)[k]? = some v) (hdg : decode cc pc = .ok (.getfield index, 3))
    (kk : W p l e R s m args below meth c H locs cells slots Q (F0 m (pc + 3) ls (v :: rest))) : W p l e R s m args below meth c H locs cells slots Q (F0 m pc ls (.ref (ad 7) :: rest)) :=
  va_get (D := g) (ci := 1) (C := RX1) (T := TX1) (N := 6) (ref := RX1) (fs := f1_ ad mS x) hexec hb hts hin hown hC.2.1 hC.1.1 7 ((wl_0 (k := 7) (by omega)).trans rfl) rfl k hk hlink (fun y h => by rw [tx1_own] at h; exact h) hv hdg kk
theorem r_ia (hC : CX B0 g ct ad cS mS x s H) (hexec : p.tables.exec = Jvm.exec) (hb : c.code = cc) (q : Nat) {a n : Nat} {f : Nat → Int32} (hq : (wl_ ct ad cS mS x)[q]? = some (a, e_i ct n f)) (hdg : decode cc pc = .ok (.iaload, 1)) {j : Nat} (hj : j < n) (hn : n < 2 ^ 31)
    (kk : W p l e R s m args below meth c H locs cells slots Q (F0 m (pc + 1) ls (.int (f j) :: rest))) : W p l e R s m args below meth c H locs cells slots Q (F0 m pc ls (.int (nI j) :: .ref a :: rest)) := by
  refine va_iald hexec hb hC.2.1 hC.1.1 q 0 hq rfl (vp_in_nI hj hn) hdg ?_
  rw [nI_clamp (by omega)]
  exact kk
theorem r_za (hC : CX B0 g ct ad cS mS x s H) (hexec : p.tables.exec = Jvm.exec) (hb : c.code = cc) (q : Nat) {a n : Nat} {f : Nat → Int32} (hq : (wl_ ct ad cS mS x)[q]? = some (a, e_z ct n f)) (hdg : decode cc pc = .ok (.baload, 1)) {j : Nat} (hj : j < n) (hn : n < 2 ^ 31)
    (kk : W p l e R s m args below meth c H locs cells slots Q (F0 m (pc + 1) ls (.int (f j) :: rest))) : W p l e R s m args below meth c H locs cells slots Q (F0 m pc ls (.int (nI j) :: .ref a :: rest)) := by
  refine va_zald hexec hb hC.2.1 hC.1.1 q 2 hq rfl (vp_in_nI hj hn) hdg ?_
  rw [nI_clamp (by omega)]
  exact kk
theorem r_qa (hC : CX B0 g ct ad cS mS x s H) (hexec : p.tables.exec = Jvm.exec) (hb : c.code = cc) (q : Nat) {a n : Nat} {f : Nat → Nat} (hq : (wl_ ct ad cS mS x)[q]? = some (a, e_q ct n f)) (hdg : decode cc pc = .ok (.aaload, 1)) {j : Nat} (hj : j < n) (hn : n < 2 ^ 31)
    (kk : W p l e R s m args below meth c H locs cells slots Q (F0 m (pc + 1) ls (.ref (f j) :: rest))) : W p l e R s m args below meth c H locs cells slots Q (F0 m pc ls (.int (nI j) :: .ref a :: rest)) := by
  have hc : (nI j).toNatClampNeg = j := nI_clamp (by omega)
  refine W.aald (v := .ref (f j)) (ty := .array .int) hexec hb (hC.1.1 q _ hq) ((hC.2.1.2 1 _ rfl).1 n (fun j => va_rf (some (f j)))) rfl (fun q => by cases q) (by show ¬ (nI j < 0 ∨ (arrV _ _ _).slots.size ≤ _); rw [arrV_size]; exact vp_in_nI hj hn) (by show (arrV _ _ _).slots[_]? = _; rw [arrV_read _ _ (by rw [hc]; exact hj), hc]; rfl) rfl rfl hdg kk
/-- the class's arrays -/
theorem r_sz (hC : CX B0 g ct ad cS mS x s H) (hexec : p.tables.exec = Jvm.exec) (hb : c.code = cc) (hdg : decode cc pc = .ok (.iaload, 1)) {j : Nat} (hj : j < 12) (kk : W p l e R s m args below meth c H locs cells slots Q (F0 m (pc + 1) ls (.int (nI (ss cS j)) :: rest))) : W p l e R s m args below meth c H locs cells slots Q (F0 m pc ls (.int (nI j) :: .ref (ad 1) :: rest)) :=
  r_ia hC hexec hb 1 ((wl_0 (k := 1) (by omega)).trans rfl) hdg hj (by omega) kk
theorem r_wo (hC : CX B0 g ct ad cS mS x s H) (hexec : p.tables.exec = Jvm.exec) (hb : c.code = cc) (hdg : decode cc pc = .ok (.aaload, 1)) {j : Nat} (hj : j < 12) (kk : W p l e R s m args below meth c H locs cells slots Q (F0 m (pc + 1) ls (.ref (ad (12 + j)) :: rest))) : W p l e R s m args below meth c H locs cells slots Q (F0 m pc ls (.int (nI j) :: .ref (ad 2) :: rest)) :=
  r_qa hC hexec hb 2 ((wl_0 (k := 2) (by omega)).trans rfl) hdg hj (by omega) kk
theorem r_ko (hC : CX B0 g ct ad cS mS x s H) (hexec : p.tables.exec = Jvm.exec) (hb : c.code = cc) (hdg : decode cc pc = .ok (.aaload, 1)) {j : Nat} (hj : j < 12) (kk : W p l e R s m args below meth c H locs cells slots Q (F0 m (pc + 1) ls (.ref (ad (24 + j)) :: rest))) : W p l e R s m args below meth c H locs cells slots Q (F0 m pc ls (.int (nI j) :: .ref (ad 3) :: rest)) :=
  r_qa hC hexec hb 3 ((wl_0 (k := 3) (by omega)).trans rfl) hdg hj (by omega) kk
theorem r_fo (hC : CX B0 g ct ad cS mS x s H) (hexec : p.tables.exec = Jvm.exec) (hb : c.code = cc) (hdg : decode cc pc = .ok (.aaload, 1)) {j : Nat} (hj : j < 3) (kk : W p l e R s m args below meth c H locs cells slots Q (F0 m (pc + 1) ls (.ref (ad (36 + j)) :: rest))) : W p l e R s m args below meth c H locs cells slots Q (F0 m pc ls (.int (nI j) :: .ref (ad 5) :: rest)) :=
  r_qa hC hexec hb 5 ((wl_0 (k := 5) (by omega)).trans rfl) hdg hj (by omega) kk
theorem r_wr (hC : CX B0 g ct ad cS mS x s H) (hexec : p.tables.exec = Jvm.exec) (hb : c.code = cc) (hdg : decode cc pc = .ok (.iaload, 1)) {i j : Nat} (hi : i < 12) (hj : j < 10) (kk : W p l e R s m args below meth c H locs cells slots Q (F0 m (pc + 1) ls (.int (nI (sw cS (10 * i + j))) :: rest))) : W p l e R s m args below meth c H locs cells slots Q (F0 m pc ls (.int (nI j) :: .ref (ad (12 + i)) :: rest)) :=
  r_ia hC hexec hb (12 + i) (wl_1 hi) hdg hj (by omega) (by simp only [gd_t hj]; exact kk)
theorem r_kr (hC : CX B0 g ct ad cS mS x s H) (hexec : p.tables.exec = Jvm.exec) (hb : c.code = cc) (hdg : decode cc pc = .ok (.iaload, 1)) {i j : Nat} (hi : i < 12) (hj : j < 10) (kk : W p l e R s m args below meth c H locs cells slots Q (F0 m (pc + 1) ls (.int (nI (sk cS (10 * i + j))) :: rest))) : W p l e R s m args below meth c H locs cells slots Q (F0 m pc ls (.int (nI j) :: .ref (ad (24 + i)) :: rest)) :=
  r_ia hC hexec hb (24 + i) (wl_2 hi) hdg hj (by omega) (by simp only [gd_t hj]; exact kk)
theorem r_fr (hC : CX B0 g ct ad cS mS x s H) (hexec : p.tables.exec = Jvm.exec) (hb : c.code = cc) (hdg : decode cc pc = .ok (.iaload, 1)) {i j : Nat} (hi : i < 3) (hj : j < 3001) (kk : W p l e R s m args below meth c H locs cells slots Q (F0 m (pc + 1) ls (.int (xf x i j) :: rest))) : W p l e R s m args below meth c H locs cells slots Q (F0 m pc ls (.int (nI j) :: .ref (ad (36 + i)) :: rest)) :=
  r_ia hC hexec hb (36 + i) (wl_3 hi) hdg hj (by omega) kk
theorem r_wt (hC : CX B0 g ct ad cS mS x s H) (hexec : p.tables.exec = Jvm.exec) (hb : c.code = cc) (hdg : decode cc pc = .ok (.iaload, 1)) {j : Nat} (hj : j < 120) (kk : W p l e R s m args below meth c H locs cells slots Q (F0 m (pc + 1) ls (.int (xw x j) :: rest))) : W p l e R s m args below meth c H locs cells slots Q (F0 m pc ls (.int (nI j) :: .ref (ad 4) :: rest)) :=
  r_ia hC hexec hb 4 ((wl_0 (k := 4) (by omega)).trans rfl) hdg hj (by omega) kk
theorem r_fl (hC : CX B0 g ct ad cS mS x s H) (hexec : p.tables.exec = Jvm.exec) (hb : c.code = cc) (hdg : decode cc pc = .ok (.baload, 1)) {j : Nat} (hj : j < 3) (kk : W p l e R s m args below meth c H locs cells slots Q (F0 m (pc + 1) ls (.int (xg x j) :: rest))) : W p l e R s m args below meth c H locs cells slots Q (F0 m pc ls (.int (nI j) :: .ref (ad 6) :: rest)) :=
  r_za hC hexec hb 6 ((wl_0 (k := 6) (by omega)).trans rfl) hdg hj (by omega) kk
/-- the model's arrays -/
theorem r_lg (hC : CX B0 g ct ad cS mS x s H) (hexec : p.tables.exec = Jvm.exec) (hb : c.code = cc) (hdg : decode cc pc = .ok (.iaload, 1)) {j : Nat} (hj : j < 12) (kk : W p l e R s m args below meth c H locs cells slots Q (F0 m (pc + 1) ls (.int (nI (ss mS j)) :: rest))) : W p l e R s m args below meth c H locs cells slots Q (F0 m pc ls (.int (nI j) :: .ref (ad 8) :: rest)) :=
  r_ia hC hexec hb 8 ((wl_0 (k := 8) (by omega)).trans rfl) hdg hj (by omega) kk
theorem r_mw (hC : CX B0 g ct ad cS mS x s H) (hexec : p.tables.exec = Jvm.exec) (hb : c.code = cc) (hdg : decode cc pc = .ok (.iaload, 1)) {j : Nat} (hj : j < 120) (kk : W p l e R s m args below meth c H locs cells slots Q (F0 m (pc + 1) ls (.int (nI (sw mS j)) :: rest))) : W p l e R s m args below meth c H locs cells slots Q (F0 m pc ls (.int (nI j) :: .ref (ad 9) :: rest)) :=
  r_ia hC hexec hb 9 ((wl_0 (k := 9) (by omega)).trans rfl) hdg hj (by omega) kk
theorem r_mk (hC : CX B0 g ct ad cS mS x s H) (hexec : p.tables.exec = Jvm.exec) (hb : c.code = cc) (hdg : decode cc pc = .ok (.baload, 1)) {j : Nat} (hj : j < 720) (kk : W p l e R s m args below meth c H locs cells slots Q (F0 m (pc + 1) ls (.int (mb_ (sk mS) j) :: rest))) : W p l e R s m args below meth c H locs cells slots Q (F0 m pc ls (.int (nI j) :: .ref (ad 10) :: rest)) :=
  r_za hC hexec hb 10 ((wl_0 (k := 10) (by omega)).trans rfl) hdg hj (by omega) kk
/-- the receivers -/
theorem rc0 (hC : CX B0 g ct ad cS mS x s H) : ∃ cell : Cell, H[ad 0]? = some cell ∧ cell.vm.isStatics = false ∧ s.vm.findClass RX0 = some cell.cls := va_recv hC.2.1 hC.1.1 (ci := 0) (q0 := 0) rfl ((wl_0 (k := 0) (by omega)).trans rfl)
theorem rc1 (hC : CX B0 g ct ad cS mS x s H) : ∃ cell : Cell, H[ad 7]? = some cell ∧ cell.vm.isStatics = false ∧ s.vm.findClass RX1 = some cell.cls := va_recv hC.2.1 hC.1.1 (ci := 1) (q0 := 7) rfl ((wl_0 (k := 7) (by omega)).trans rfl)
/-- calls of readers -/
theorem k_rV {own C : String} {y : MethodName} {bytes : ByteArray} {maxL nL n index d : Nat} {ret : Option FieldType} {ws : List Cond} {a : Nat} {As st : List Value} {v : Int32} (hM : RI l y ws d (PX B0 g ct ad cS mS x (.ref a :: As)) v) (hC : CX B0 g ct ad cS mS x s H) (S : CallFix p m c cc nL s args Ts own) (cw : CallW R s args own C index y bytes maxL ret ws (rm_ d 0 0) 0 0 n) (hrec : ∃ cellB : Cell, H[a]? = some cellB ∧ cellB.vm.isStatics = false ∧ s.vm.findClass C = some cellB.cls) (hn : As.length = n) (hsize : ls.size = nL) (hst : st = As.reverse ++ .ref a :: rest) (hW : (rest.map fun v => v.category).sum ≤ 8) (hdg : decode cc pc = .ok (.invokevirtual index, 3)) (hf : cells ≤ R.cells ∧ slots ≤ R.slots)
    (kk : W p l e R s m args below meth c H locs cells slots Q (F0 m (pc + 3) ls (.int v :: rest))) : W p l e R s m args below meth c H locs cells slots Q (F0 m pc ls st) :=
  vp_callSi (W.runV S hM cw ⟨CX.blind, hrec, fun U hU hW => ⟨rfl, hC.warm hU hW⟩⟩ rfl hn hsize hst (lv_room hW) hdg ⟨hf.1, hf.2⟩) (fun r hr => by rw [hr]; exact kk)
theorem k_lV {own C : String} {y : MethodName} {bytes : ByteArray} {maxL nL n index d : Nat} {ret : Option FieldType} {ws : List Cond} {a : Nat} {As st : List Value} {v : Int64} (hM : RL_ l y ws d (PX B0 g ct ad cS mS x (.ref a :: As)) v) (hC : CX B0 g ct ad cS mS x s H) (S : CallFix p m c cc nL s args Ts own) (cw : CallW R s args own C index y bytes maxL ret ws (rm_ d 0 0) 0 0 n) (hrec : ∃ cellB : Cell, H[a]? = some cellB ∧ cellB.vm.isStatics = false ∧ s.vm.findClass C = some cellB.cls) (hn : As.length = n) (hsize : ls.size = nL) (hst : st = As.reverse ++ .ref a :: rest) (hW : (rest.map fun v => v.category).sum ≤ 8) (hdg : decode cc pc = .ok (.invokevirtual index, 3)) (hf : cells ≤ R.cells ∧ slots ≤ R.slots)
    (kk : W p l e R s m args below meth c H locs cells slots Q (F0 m (pc + 3) ls (.long v :: rest))) : W p l e R s m args below meth c H locs cells slots Q (F0 m pc ls st) :=
  vp_callSl (W.runV S hM cw ⟨CX.blind, hrec, fun U hU hW => ⟨rfl, hC.warm hU hW⟩⟩ rfl hn hsize hst (lv_room hW) hdg ⟨hf.1, hf.2⟩) (fun r hr => by rw [hr]; exact kk)
theorem k_vV {own C : String} {y : MethodName} {bytes : ByteArray} {maxL nL n index d : Nat} {ret : Option FieldType} {ws : List Cond} {a : Nat} {As st : List Value} (hM : RV l y ws d (PX B0 g ct ad cS mS x (.ref a :: As))) (hC : CX B0 g ct ad cS mS x s H) (S : CallFix p m c cc nL s args Ts own) (cw : CallW R s args own C index y bytes maxL ret ws (rm_ d 0 0) 0 0 n) (hrec : ∃ cellB : Cell, H[a]? = some cellB ∧ cellB.vm.isStatics = false ∧ s.vm.findClass C = some cellB.cls) (hn : As.length = n) (hsize : ls.size = nL) (hst : st = As.reverse ++ .ref a :: rest) (hW : (rest.map fun v => v.category).sum ≤ 8) (hdg : decode cc pc = .ok (.invokevirtual index, 3)) (hf : cells ≤ R.cells ∧ slots ≤ R.slots)
    (kk : W p l e R s m args below meth c H locs cells slots Q (F0 m (pc + 3) ls rest)) : W p l e R s m args below meth c H locs cells slots Q (F0 m pc ls st) :=
  va_csv (W.runV S hM cw ⟨CX.blind, hrec, fun U hU hW => ⟨rfl, hC.warm hU hW⟩⟩ rfl hn hsize hst (lv_room hW) hdg ⟨hf.1, hf.2⟩) (fun _ => kk)
theorem k_vS {own : String} {y : MethodName} {bytes : ByteArray} {maxL nL n index d : Nat} {ret : Option FieldType} {ws : List Cond} {As st : List Value} (hM : RV l y ws d (PX B0 g ct ad cS mS x As)) (hC : CX B0 g ct ad cS mS x s H) (S : CallFix p m c cc nL s args Ts own) (cw : CallB R s args own index y bytes maxL ret ws (rm_ d 0 0) 0 0 n ∧ (Cond.static y).before args s = true) (hn : As.length = n) (hsize : ls.size = nL) (hst : st = As.reverse ++ rest) (hW : (rest.map fun v => v.category).sum ≤ 8) (hdg : decode cc pc = .ok (.invokestatic index, 3)) (hf : cells ≤ R.cells ∧ slots ≤ R.slots)
    (kk : W p l e R s m args below meth c H locs cells slots Q (F0 m (pc + 3) ls rest)) : W p l e R s m args below meth c H locs cells slots Q (F0 m pc ls st) :=
  va_csv (W.runS S hM cw ⟨CX.blind, fun U hU hW => ⟨rfl, hC.warm hU hW⟩⟩ rfl hn hsize hst (lv_room hW) hdg ⟨hf.1, hf.2⟩) (fun _ => kk)
/-- .. of a function of its arguments alone -/
theorem k_pS {own : String} {y : MethodName} {bytes : ByteArray} {maxL nL n index d : Nat} {ret : Option FieldType} {ws : List Cond} {As st : List Value} {v : Int32} (hM : RI l y ws d (va_Pc As (fun _ => True)) v) (S : CallFix p m c cc nL s args Ts own) (cw : CallB R s args own index y bytes maxL ret ws (rm_ d 0 0) 0 0 n ∧ (Cond.static y).before args s = true) (hn : As.length = n) (hsize : ls.size = nL) (hst : st = As.reverse ++ rest) (hW : (rest.map fun v => v.category).sum ≤ 8) (hdg : decode cc pc = .ok (.invokestatic index, 3)) (hf : cells ≤ R.cells ∧ slots ≤ R.slots)
    (kk : W p l e R s m args below meth c H locs cells slots Q (F0 m (pc + 3) ls (.int v :: rest))) : W p l e R s m args below meth c H locs cells slots Q (F0 m pc ls st) :=
  vp_callSi (W.runS S hM cw ⟨tr_blind, fun U hU hW => ⟨rfl, trivial⟩⟩ rfl hn hsize hst (lv_room hW) hdg ⟨hf.1, hf.2⟩) (fun r hr => by rw [hr]; exact kk)
end RW1
end
section
/-! ===== rows that change the heap: writes, calls of writers, throws ===== -/
section RW2
variable {p : Program} {l : Launch} {e : Env} {R : Room} {s : State} {m : MethodId} {args : Array Value} {below : List Frame} {meth : Method} {c : Code} {H : Heap} {locs : List Loc} {cells slots : Nat} {Q : State → Prop}
variable {cc : ByteArray} {pc : Nat} {ls : Array Slot} {rest : List Value} {B0 : Nat} {g : va_G} {ct ad : Nat → Nat} {cS mS : St_} {x : Ax_} {Ts : List Cond}
theorem CK.next {H1 : Heap} {l0 l1 : List Loc} (h : CK B0 g ct s H) (hB : B0 ≤ s.heap.size) (hS : va_S (AA B0) s.heap H l0) (hS1 : va_S (AA B0) s.heap H1 l1) : CK B0 g ct s H1 :=
  CK.kept (fun a _ ha => by
    have h1 : a < s.heap.size := Nat.lt_of_lt_of_le (Nat.lt_of_not_le ha) hB
    rw [hS1.2.1 a h1 ha, hS.2.1 a h1 ha]) h
theorem CX.next {H1 : Heap} {l0 l1 : List Loc} {c' m' : St_} {x' : Ax_} {ws : va_W} (h : CX B0 g ct ad cS mS x s H) (hB : B0 ≤ s.heap.size) (hS : va_S (AA B0) s.heap H l0) (hS1 : va_S (AA B0) s.heap H1 l1) (hP : va_P g vwCl ws H1) (hD : va_D (AA B0) ws) (e : ws = wl_ ct ad c' m' x') (I1 : Iv_ c') (I2 : Iv_ m') (I3 : FI_ x') : CX B0 g ct ad c' m' x' s H1 := by
  subst e
  exact ⟨⟨hP, hD, Nat.le_trans hB hS1.1, I1, I2, I3⟩, CK.next h.2 hB hS hS1⟩
theorem CX.nextW {H1 : Heap} {l0 l1 : List Loc} {c' m' : St_} {x' : Ax_} (h : CX B0 g ct ad cS mS x s H) (hB : B0 ≤ s.heap.size) (hS : va_S (AA B0) s.heap H l0) (hS1 : va_S (AA B0) s.heap H1 l1) (hW : CW B0 g ct ad c' m' x' H1) : CX B0 g ct ad c' m' x' s H1 := ⟨hW, CK.next h.2 hB hS hS1⟩
/-- field writes -/
theorem w_f0 {c' : St_} (hC : CX B0 g ct ad cS mS x s H) (hB : B0 ≤ s.heap.size) (hS : va_S (AA B0) s.heap H locs) (hexec : p.tables.exec = Jvm.exec) (hb : c.code = cc) (hts : ∀ w ∈ Ts, w.before args s = true) (hin : ∀ w ∈ wsX00, w ∈ Ts) (hown : s.vm.findClass RX0 = some m.cls) {index : Nat} (k : Nat) (hk : k < 2) (hlink : (Cond.fieldLink RX0 index RX0 (TX0 k).2.1 (TX0 k).2.2.1).before args s = true) {v : Int32} (hv : (f0_ ad cS).set k (.int v) = f0_ ad c') (hss : c'.2.2 = cS.2.2) (I1 : Iv_ c') (hdg : decode cc pc = .ok (.putfield index, 3))
    (kk : ∀ (H1 : Heap) (locs1 : List Loc), CX B0 g ct ad c' mS x s H1 → va_S (AA B0) s.heap H1 locs1 → W p l e R s m args below meth c H1 locs1 cells slots Q (F0 m (pc + 3) ls rest)) : W p l e R s m args below meth c H locs cells slots Q (F0 m pc ls (.int v :: .ref (ad 0) :: rest)) := by
  have hd : parseFieldDescriptor (TX0 k).2.2.1 = some .int := by
    rcases (show k = 0 ∨ k = 1 by omega) with rfl | rfl <;> decide +kernel
  have hf : (TX0 k).2.2.2 = false := by rcases (show k = 0 ∨ k = 1 by omega) with rfl | rfl <;> rfl
  refine va_put (D := g) (ci := 0) (C := RX0) (T := TX0) (N := 8) (ref := RX0) (fs := f0_ ad cS) hexec hb hts hin tyX0 tyX0_ok nmX0 hown hC.2.1 hC.1.1 hC.1.2.1 hS 0 ((wl_0 (k := 0) (by omega)).trans rfl) rfl k (by omega) hlink (fun y h => by rw [tx0_own] at h; exact h) hf hd rfl rfl (by show k < 8; omega) hdg (fun H1 locs1 hP hD hS1 => kk H1 locs1 (CX.next hC hB hS hS1 hP hD ?_ I1 hC.1.2.2.2.2.1 hC.1.2.2.2.2.2) hS1)
  rw [hv]
  obtain ⟨o, n, z⟩ := cS
  obtain ⟨o', n', z'⟩ := c'
  simp only at hss
  subst hss
  rfl
theorem w_f1 {m' : St_} {x' : Ax_} (hC : CX B0 g ct ad cS mS x s H) (hB : B0 ≤ s.heap.size) (hS : va_S (AA B0) s.heap H locs) (hexec : p.tables.exec = Jvm.exec) (hb : c.code = cc) (hts : ∀ w ∈ Ts, w.before args s = true) (hin : ∀ w ∈ wsX10, w ∈ Ts) (hown : s.vm.findClass RX1 = some m.cls) {index : Nat} (k : Nat) (hk : k < 3) (hlink : (Cond.fieldLink RX1 index RX1 (TX1 k).2.1 (TX1 k).2.2.1).before args s = true) {v : Int32} (hv : (f1_ ad mS x).set k (.int v) = f1_ ad m' x') (hss : m'.2.2 = mS.2.2) (hx1 : (xw x', xf x', xg x', xo x') = (xw x, xf x, xg x, xo x)) (I2 : Iv_ m') (hdg : decode cc pc = .ok (.putfield index, 3))
    (kk : ∀ (H1 : Heap) (locs1 : List Loc), CX B0 g ct ad cS m' x' s H1 → va_S (AA B0) s.heap H1 locs1 → W p l e R s m args below meth c H1 locs1 cells slots Q (F0 m (pc + 3) ls rest)) : W p l e R s m args below meth c H locs cells slots Q (F0 m pc ls (.int v :: .ref (ad 7) :: rest)) := by
  have hd : parseFieldDescriptor (TX1 k).2.2.1 = some .int := by
    rcases (show k = 0 ∨ k = 1 ∨ k = 2 by omega) with rfl | rfl | rfl <;> decide +kernel
  have hf : (TX1 k).2.2.2 = false := by rcases (show k = 0 ∨ k = 1 ∨ k = 2 by omega) with rfl | rfl | rfl <;> rfl
  obtain ⟨a1, a2, a3, a4, a5⟩ := x
  obtain ⟨b1, b2, b3, b4, b5⟩ := x'
  simp only [xw, xf, xg, xo, Prod.mk.injEq] at hx1
  obtain ⟨rfl, rfl, rfl, rfl⟩ := hx1
  refine va_put (D := g) (ci := 1) (C := RX1) (T := TX1) (N := 6) (ref := RX1) (fs := f1_ ad mS _) hexec hb hts hin tyX1 tyX1_ok nmX1 hown hC.2.1 hC.1.1 hC.1.2.1 hS 7 ((wl_0 (k := 7) (by omega)).trans rfl) rfl k (by omega) hlink (fun y h => by rw [tx1_own] at h; exact h) hf hd rfl rfl (by show k < 6; omega) hdg (fun H1 locs1 hP hD hS1 => kk H1 locs1 (CX.next hC hB hS hS1 hP hD ?_ hC.1.2.2.2.1 I2 hC.1.2.2.2.2.2) hS1)
  rw [hv]
  obtain ⟨o, n, z⟩ := mS
  obtain ⟨o', n', z'⟩ := m'
  simp only at hss
  subst hss
  rfl
theorem w_ia {c' m' : St_} {x' : Ax_} (hC : CX B0 g ct ad cS mS x s H) (hB : B0 ≤ s.heap.size) (hS : va_S (AA B0) s.heap H locs) (hexec : p.tables.exec = Jvm.exec) (hb : c.code = cc) (q : Nat) {a n : Nat} {f : Nat → Int32} (hq : (wl_ ct ad cS mS x)[q]? = some (a, e_i ct n f)) (hdg : decode cc pc = .ok (.iastore, 1)) {j : Nat} {v : Int32} (hj : j < n) (hn : n < 2 ^ 31)
    (he : (wl_ ct ad cS mS x).set q (a, e_i ct n (upd f j v)) = wl_ ct ad c' m' x') (I1 : Iv_ c') (I2 : Iv_ m') (I3 : FI_ x')
    (kk : ∀ (H1 : Heap) (locs1 : List Loc), CX B0 g ct ad c' m' x' s H1 → va_S (AA B0) s.heap H1 locs1 → W p l e R s m args below meth c H1 locs1 cells slots Q (F0 m (pc + 1) ls rest)) : W p l e R s m args below meth c H locs cells slots Q (F0 m pc ls (.int v :: .int (nI j) :: .ref a :: rest)) := by
  refine va_iast hexec hb hC.2.1 hC.1.1 hC.1.2.1 hS q 0 hq rfl (vp_in_nI hj hn) hdg (fun H1 locs1 hP hD hS1 => kk H1 locs1 (CX.next hC hB hS hS1 hP hD ?_ I1 I2 I3) hS1)
  rw [nI_clamp (by omega)]
  exact he
theorem w_za {c' m' : St_} {x' : Ax_} (hC : CX B0 g ct ad cS mS x s H) (hB : B0 ≤ s.heap.size) (hS : va_S (AA B0) s.heap H locs) (hexec : p.tables.exec = Jvm.exec) (hb : c.code = cc) (q : Nat) {a n : Nat} {f : Nat → Int32} (hq : (wl_ ct ad cS mS x)[q]? = some (a, e_z ct n f)) (hdg : decode cc pc = .ok (.bastore, 1)) {j : Nat} {v : Int32} (hj : j < n) (hn : n < 2 ^ 31)
    (he : (wl_ ct ad cS mS x).set q (a, e_z ct n (upd f j (vp_nar .boolean v))) = wl_ ct ad c' m' x') (I1 : Iv_ c') (I2 : Iv_ m') (I3 : FI_ x')
    (kk : ∀ (H1 : Heap) (locs1 : List Loc), CX B0 g ct ad c' m' x' s H1 → va_S (AA B0) s.heap H1 locs1 → W p l e R s m args below meth c H1 locs1 cells slots Q (F0 m (pc + 1) ls rest)) : W p l e R s m args below meth c H locs cells slots Q (F0 m pc ls (.int v :: .int (nI j) :: .ref a :: rest)) := by
  refine va_zast hexec hb hC.2.1 hC.1.1 hC.1.2.1 hS q 2 hq rfl (vp_in_nI hj hn) hdg (fun H1 locs1 hP hD hS1 => kk H1 locs1 (CX.next hC hB hS hS1 hP hD ?_ I1 I2 I3) hS1)
  rw [nI_clamp (by omega)]
  exact he
theorem w_lo (hC : CX B0 g ct ad cS mS x s H) (hB : B0 ≤ s.heap.size) (hS : va_S (AA B0) s.heap H locs) (hexec : p.tables.exec = Jvm.exec) (hb : c.code = cc) (hdg : decode cc pc = .ok (.lastore, 1)) {v : Int64}
    (kk : ∀ (H1 : Heap) (locs1 : List Loc), CX B0 g ct ad cS mS (ax_o x v) s H1 → va_S (AA B0) s.heap H1 locs1 → W p l e R s m args below meth c H1 locs1 cells slots Q (F0 m (pc + 1) ls rest)) : W p l e R s m args below meth c H locs cells slots Q (F0 m pc ls (.long v :: .int (nI 0) :: .ref (ad 11) :: rest)) := by
  refine va_last hexec hb hC.2.1 hC.1.1 hC.1.2.1 hS 11 3 (cA := ct 3) (n := 1) (f := xo x) ((wl_0 (k := 11) (by omega)).trans rfl) rfl (vp_in_nI (by omega) (by omega)) hdg (fun H1 locs1 hP hD hS1 => kk H1 locs1 (CX.next hC hB hS hS1 hP hD ?_ hC.1.2.2.2.1 hC.1.2.2.2.2.1 hC.1.2.2.2.2.2) hS1)
  rw [nI_clamp (by omega)]
  rfl
end RW2
end
section
section RW3
variable {p : Program} {l : Launch} {e : Env} {R : Room} {s : State} {m : MethodId} {args : Array Value} {below : List Frame} {meth : Method} {c : Code} {H : Heap} {locs : List Loc} {cells slots : Nat} {Q : State → Prop}
variable {cc : ByteArray} {pc : Nat} {ls : Array Slot} {rest : List Value} {B0 : Nat} {g : va_G} {ct ad : Nat → Nat} {cS mS c' m' : St_} {x : Ax_} {Ts : List Cond}
variable {own C : String} {y : MethodName} {bytes : ByteArray} {maxL nL n index d k0 n0 : Nat} {ret : Option FieldType} {ws : List Cond} {a : Nat} {As st : List Value} {px : Ax_ → Prop}
/-- calls of writers -/
theorem k_wV {v : Int32} (hM : WI l y ws d k0 n0 B0 g ct ad cS mS x (.ref a :: As) v c' m' px) (hC : CX B0 g ct ad cS mS x s H) (hB : B0 ≤ s.heap.size) (hS : va_S (AA B0) s.heap H locs) (S : CallFix p m c cc nL s args Ts own) (cw : CallW R s args own C index y bytes maxL ret ws (rm_ d k0 n0) k0 n0 n) (hrec : ∃ cellB : Cell, H[a]? = some cellB ∧ cellB.vm.isStatics = false ∧ s.vm.findClass C = some cellB.cls) (hn : As.length = n) (hsize : ls.size = nL) (hst : st = As.reverse ++ .ref a :: rest) (hW : (rest.map fun v => v.category).sum ≤ 8) (hdg : decode cc pc = .ok (.invokevirtual index, 3)) (hf : cells + k0 ≤ R.cells ∧ slots + n0 ≤ R.slots)
    (kk : ∀ (u : Ax_) (H1 : Heap) (locs1 : List Loc), px u → CX B0 g ct ad c' m' u s H1 → va_S (AA B0) s.heap H1 locs1 → W p l e R s m args below meth c H1 locs1 (cells + k0) (slots + n0) Q (F0 m (pc + 3) ls (.int v :: rest))) : W p l e R s m args below meth c H locs cells slots Q (F0 m pc ls st) :=
  va_calli (va_runV S hM cw ⟨CX.blind, hrec, fun U hU hW => ⟨rfl, hC.warm hU hW⟩⟩ rfl hn hsize hst (lv_room hW) hdg hf) hS (fun q _ h => h) (fun q h => h) (fun r u t H1 locs1 ht hvm hw hB1 hz hk hS1 => by
    obtain ⟨rfl, hp⟩ := hw
    rw [ht] at hB1
    exact kk u H1 locs1 hp (CX.nextW hC hB hS hS1 hB1) hS1)
theorem k_wL {v : Int64} (hM : WL l y ws d k0 n0 B0 g ct ad cS mS x (.ref a :: As) v c' m' px) (hC : CX B0 g ct ad cS mS x s H) (hB : B0 ≤ s.heap.size) (hS : va_S (AA B0) s.heap H locs) (S : CallFix p m c cc nL s args Ts own) (cw : CallW R s args own C index y bytes maxL ret ws (rm_ d k0 n0) k0 n0 n) (hrec : ∃ cellB : Cell, H[a]? = some cellB ∧ cellB.vm.isStatics = false ∧ s.vm.findClass C = some cellB.cls) (hn : As.length = n) (hsize : ls.size = nL) (hst : st = As.reverse ++ .ref a :: rest) (hW : (rest.map fun v => v.category).sum ≤ 8) (hdg : decode cc pc = .ok (.invokevirtual index, 3)) (hf : cells + k0 ≤ R.cells ∧ slots + n0 ≤ R.slots)
    (kk : ∀ (u : Ax_) (H1 : Heap) (locs1 : List Loc), px u → CX B0 g ct ad c' m' u s H1 → va_S (AA B0) s.heap H1 locs1 → W p l e R s m args below meth c H1 locs1 (cells + k0) (slots + n0) Q (F0 m (pc + 3) ls (.long v :: rest))) : W p l e R s m args below meth c H locs cells slots Q (F0 m pc ls st) :=
  va_calll (va_runV S hM cw ⟨CX.blind, hrec, fun U hU hW => ⟨rfl, hC.warm hU hW⟩⟩ rfl hn hsize hst (lv_room hW) hdg hf) hS (fun q _ h => h) (fun q h => h) (fun r u t H1 locs1 ht hvm hw hB1 hz hk hS1 => by
    obtain ⟨rfl, hp⟩ := hw
    rw [ht] at hB1
    exact kk u H1 locs1 hp (CX.nextW hC hB hS hS1 hB1) hS1)
theorem k_wVv (hM : WV l y ws d k0 n0 B0 g ct ad cS mS x (.ref a :: As) c' m' px) (hC : CX B0 g ct ad cS mS x s H) (hB : B0 ≤ s.heap.size) (hS : va_S (AA B0) s.heap H locs) (S : CallFix p m c cc nL s args Ts own) (cw : CallW R s args own C index y bytes maxL ret ws (rm_ d k0 n0) k0 n0 n) (hrec : ∃ cellB : Cell, H[a]? = some cellB ∧ cellB.vm.isStatics = false ∧ s.vm.findClass C = some cellB.cls) (hn : As.length = n) (hsize : ls.size = nL) (hst : st = As.reverse ++ .ref a :: rest) (hW : (rest.map fun v => v.category).sum ≤ 8) (hdg : decode cc pc = .ok (.invokevirtual index, 3)) (hf : cells + k0 ≤ R.cells ∧ slots + n0 ≤ R.slots)
    (kk : ∀ (u : Ax_) (H1 : Heap) (locs1 : List Loc), px u → CX B0 g ct ad c' m' u s H1 → va_S (AA B0) s.heap H1 locs1 → W p l e R s m args below meth c H1 locs1 (cells + k0) (slots + n0) Q (F0 m (pc + 3) ls rest)) : W p l e R s m args below meth c H locs cells slots Q (F0 m pc ls st) :=
  va_callv (va_runV S hM cw ⟨CX.blind, hrec, fun U hU hW => ⟨rfl, hC.warm hU hW⟩⟩ rfl hn hsize hst (lv_room hW) hdg hf) hS (fun q _ h => h) (fun q h => h) (fun u t H1 locs1 ht hvm hw hB1 hz hk hS1 => by
    rw [ht] at hB1
    exact kk u H1 locs1 hw (CX.nextW hC hB hS hS1 hB1) hS1)
/-- calls that throw for sure -/
theorem k_tq {st0 : List Value} {aa : Array Value} {E : String} (hr : vx_Run p l e R s m args below meth c H locs cells slots 1 6 (F0 m pc ls st0) rest (QF aa) (XB E B0 g ct ad cS mS x) (AA B0)) (hC : CX B0 g ct ad cS mS x s H) (hB : B0 ≤ s.heap.size) (hS : va_S (AA B0) s.heap H locs)
    (kx : ∀ (ce : Cell) (q9 : Addr) (H1 : Heap) (locs1 : List Loc), CX B0 g ct ad cS mS x s H1 → va_S (AA B0) s.heap H1 locs1 → H1[q9]? = some ce → ce.vm = .none → s.vm.findClass E = some ce.cls → vx_W p l e R s m args below meth c H1 locs1 (cells + 1) (slots + 6) Q (F0 m pc ls rest) q9) : W p l e R s m args below meth c H locs cells slots Q (F0 m pc ls st0) := by
  intro T hT X
  rcases hr T hT X with ⟨v, st₀, t, T', L, h0, X', hL, e1, e2, hq, st⟩ | ⟨q, st₀, t, T', L, E', ce, h0, X', hL, e1, e2, ⟨u, hp, ⟨rfl, hb⟩, hF⟩, hce, hcv, hcl, st⟩
  · exact hq.elim
  · obtain ⟨k1, k2, k3⟩ := vx_keep h0 e1 hS (fun q _ h => h) (fun q h => h) hL hF
    rw [← e1] at hb hce
    obtain ⟨t2, a1, b1⟩ := kx ce q T'.heap (locs ++ L) (CX.nextW hC hB hS k3 hb) k3 hce hcv hcl T' rfl X'
    exact ⟨t2, st.trans a1, b1⟩
theorem k_tV {E : String} (hM : TX l y ws d B0 g ct ad cS mS x (.ref a :: As) E) (hC : CX B0 g ct ad cS mS x s H) (hB : B0 ≤ s.heap.size) (hS : va_S (AA B0) s.heap H locs) (S : CallFix p m c cc nL s args Ts own) (cw : CallW R s args own C index y bytes maxL ret ws (rm_ d 1 6) 1 6 n) (hrec : ∃ cellB : Cell, H[a]? = some cellB ∧ cellB.vm.isStatics = false ∧ s.vm.findClass C = some cellB.cls) (hn : As.length = n) (hsize : ls.size = nL) (hst : st = As.reverse ++ .ref a :: rest) (hW : (rest.map fun v => v.category).sum ≤ 8) (hdg : decode cc pc = .ok (.invokevirtual index, 3)) (hf : cells + 1 ≤ R.cells ∧ slots + 6 ≤ R.slots)
    (kx : ∀ (ce : Cell) (q9 : Addr) (H1 : Heap) (locs1 : List Loc), CX B0 g ct ad cS mS x s H1 → va_S (AA B0) s.heap H1 locs1 → H1[q9]? = some ce → ce.vm = .none → s.vm.findClass E = some ce.cls → vx_W p l e R s m args below meth c H1 locs1 (cells + 1) (slots + 6) Q (F0 m pc ls rest) q9) : W p l e R s m args below meth c H locs cells slots Q (F0 m pc ls st) :=
  k_tq (vx_runV S hM cw ⟨CX.blind, hrec, fun U hU hW => ⟨rfl, hC.warm hU hW⟩⟩ rfl hn hsize hst (lv_room hW) hdg hf) hC hB hS kx
theorem k_tS {E : String} (hM : TX l y ws d B0 g ct ad cS mS x As E) (hC : CX B0 g ct ad cS mS x s H) (hB : B0 ≤ s.heap.size) (hS : va_S (AA B0) s.heap H locs) (S : CallFix p m c cc nL s args Ts own) (cw : CallB R s args own index y bytes maxL ret ws (rm_ d 1 6) 1 6 n ∧ (Cond.static y).before args s = true) (hn : As.length = n) (hsize : ls.size = nL) (hst : st = As.reverse ++ rest) (hW : (rest.map fun v => v.category).sum ≤ 8) (hdg : decode cc pc = .ok (.invokestatic index, 3)) (hf : cells + 1 ≤ R.cells ∧ slots + 6 ≤ R.slots)
    (kx : ∀ (ce : Cell) (q9 : Addr) (H1 : Heap) (locs1 : List Loc), CX B0 g ct ad cS mS x s H1 → va_S (AA B0) s.heap H1 locs1 → H1[q9]? = some ce → ce.vm = .none → s.vm.findClass E = some ce.cls → vx_W p l e R s m args below meth c H1 locs1 (cells + 1) (slots + 6) Q (F0 m pc ls rest) q9) : W p l e R s m args below meth c H locs cells slots Q (F0 m pc ls st) :=
  k_tq (vx_runS S hM cw ⟨CX.blind, fun U hU hW => ⟨rfl, hC.warm hU hW⟩⟩ rfl hn hsize hst (lv_room hW) hdg hf) hC hB hS kx
end RW3
abbrev NM_ : List String := ["java/lang/RuntimeException", "java/lang/Exception"]
def BW_ (E : String) : List Cond := [.castable E E, .declares (Bundle.initS "java/lang/RuntimeException"), .declares (Bundle.initS "java/lang/Exception"), .declares (Bundle.initS "java/lang/Throwable")]
theorem gb_42 : ∀ w ∈ (vx_atS RX0 42 EI_ NM_).filter (fun w => !goodWord w), w ∈ BW_ EI_ := by decide +kernel
theorem go_42 : ∀ w ∈ Cond.classLink RX0 38 EI_ :: Cond.initialized EI_ :: vx_atS RX0 42 EI_ NM_, vx_ot w = true := List.all_eq_true.mp (by decide +kernel)
theorem gb_66 : ∀ w ∈ (vx_atS RX0 66 ES_ NM_).filter (fun w => !goodWord w), w ∈ BW_ ES_ := by decide +kernel
theorem go_66 : ∀ w ∈ Cond.classLink RX0 62 ES_ :: Cond.initialized ES_ :: vx_atS RX0 66 ES_ NM_, vx_ot w = true := List.all_eq_true.mp (by decide +kernel)
theorem gb_147 : ∀ w ∈ (vx_atS RX0 147 EA_ NM_).filter (fun w => !goodWord w), w ∈ BW_ EA_ := by decide +kernel
theorem go_147 : ∀ w ∈ Cond.classLink RX0 143 EA_ :: Cond.initialized EA_ :: vx_atS RX0 147 EA_ NM_, vx_ot w = true := List.all_eq_true.mp (by decide +kernel)
theorem bw_h {E : String} {args : Array Value} {s : State} (h : KX s) (hE : E ∈ [EI_, ES_, EA_]) : ∀ w ∈ BW_ E, w.before args s = true := by
  intro w hw
  simp only [BW_, List.mem_cons, List.not_mem_nil, or_false] at hw
  rcases hw with rfl | rfl | rfl | rfl
  · exact va_Nw.use rfl (h.1 E hE)
  · exact va_Nw.use rfl (h.2.1 _ (by decide))
  · exact va_Nw.use rfl (h.2.1 _ (by decide))
  · exact va_Nw.use rfl (h.2.1 _ (by decide))
section RW4
variable {p : Program} {l : Launch} {e : Env} {R : Room} {s : State} {m : MethodId} {args : Array Value} {below : List Frame} {meth : Method} {c : Code} {H : Heap} {locs : List Loc} {cells slots : Nat} {Q : State → Prop}
variable {cc : ByteArray} {pc : Nat} {ls : Array Slot} {rest : List Value} {B0 : Nat} {g : va_G} {ct ad : Nat → Nat} {cS mS c' m' : St_} {x : Ax_} {Ts : List Cond}
/-- 'throw new E("..")' at the end of a walk -/
theorem x_thr {E text : String} {ik ic is : Nat} (hC : CX B0 g ct ad cS mS x s H) (hS : va_S (AA B0) s.heap H locs) (h0 : CK B0 g ct s s.heap) (hexec : p.tables.exec = Jvm.exec) (hb : c.code = cc) (hl : l.stackTraces = false) (hown : s.vm.findClass RX0 = some m.cls) (hfit : Bundle.fit E = true) (hts : ∀ w ∈ Ts, w.before args s = true) (hk : Cond.classLink RX0 ik E ∈ Ts) (hini : Cond.initialized E ∈ Ts) (hE : E ∈ [EI_, ES_, EA_]) (hat : ∀ w ∈ (vx_atS RX0 ic E NM_).filter goodWord, w ∈ Ts) (hbad : ∀ w ∈ (vx_atS RX0 ic E NM_).filter (fun w => !goodWord w), w ∈ BW_ E) (hgood : ∀ w ∈ Cond.classLink RX0 ik E :: Cond.initialized E :: vx_atS RX0 ic E NM_, vx_ot w = true) (hstr : (is, text) ∈ ([(40, "no such order"), (45, "no such letter"), (64, "the poem is full"), (70, "the line is full"), (72, "the line has no word"), (81, "no such place"), (133, "no such line"), (135, "no such word"), (137, "nothing such is told"), (145, "no word"), (148, "no year that can be spelled")] : List (Nat × String)))
    (hsize : ls.size = c.maxLocals) (d0 : decode cc pc = .ok (.new ik, 3)) (d3 : decode cc (pc + 3) = .ok (.dup, 1)) (d4 : decode cc (pc + 4) = .ok (.ldc is, 2)) (d6 : decode cc (pc + 6) = .ok (.invokespecial ic, 3)) (d9 : decode cc (pc + 9) = .ok (.athrow, 1))
    (hxt : ∀ x ∈ c.exceptionTable.toList, False) (hRf : 5 < R.frames) (hRl : (rest.map fun v => v.category).sum + 82 ≤ R.locals) (hRc : cells + 1 ≤ R.cells) (hRs : slots + 6 ≤ R.slots) (hlocks : meth.locks = false) (hc : cells + 1 ≤ 1) (hs : slots + 6 ≤ 6) :
    W p l e R s m args below meth c H locs cells slots (vx_MQ below QF (XB E B0 g ct ad cS mS x) args s 1 6 (AA B0)) (F0 m pc ls rest) := by
  obtain ⟨sa, hsa⟩ := h0.2.2.2.1 (is, text) hstr
  refine vx_throwS hexec hb hl hown hfit (by decide) (hts _ hk) (hts _ hini) hsa (vx_hat (fun w h => hts w (hat w h)) hbad (bw_h h0.2.2.2.2 hE)) hgood h0.2.1 h0.2.2.1 hS hsize d0 d3 d4 d6 d9 (fun x hx => (hxt x hx).elim) hRf hRl hRc hRs hlocks (fun t hA hz hq => ⟨(), trivial, ⟨rfl, ?_⟩, ?_⟩) hS.2.2 hc hs
  · obtain ⟨p1, p2, p3, p4⟩ := hC.1
    exact ⟨p1.kept (fun k q hk => hq q.1 (p1 k q hk).lt), p2, Nat.le_trans p3 hz, p4⟩
  · refine ⟨Nat.le_trans hS.1 hz, fun q h1 h2 => ?_⟩
    rw [hq q (Nat.lt_of_lt_of_le h1 hS.1)]
    exact hS.2.1 q h1 h2
end RW4
end
section
/-! ===== facts for the readers' walks ===== -/
theorem qs_1 {f : Nat → Nat} {k v : Nat} (h : f k = v) : qs_ f (k + 1) = qs_ f k + v := by rw [qs_s, h]
def of_ (w x j : Nat) : Nat := if w / 27 ^ j % 27 = x then 1 else 0
theorem of_t {w x k : Nat} (h : w / 27 ^ k % 27 = x) : qs_ (of_ w x) (k + 1) = qs_ (of_ w x) k + 1 := qs_1 (f := of_ w x) (if_pos h)
theorem of_f {w x k : Nat} (h : ¬ w / 27 ^ k % 27 = x) : qs_ (of_ w x) (k + 1) = qs_ (of_ w x) k := qs_1 (f := of_ w x) (v := 0) (if_neg h)
theorem nz_0 (f : Nat) : nz_ f 0 = true := by cases f <;> simp [nz_]
theorem nz_n {f r : Nat} (h : ¬ r = 0) (h2 : r % 27 = 0) : nz_ (f + 1) r = false := by rw [nz_, if_neg h, if_pos h2]
theorem nz_y {f r : Nat} (h : ¬ r = 0) (h2 : ¬ r % 27 = 0) : nz_ (f + 1) r = nz_ f (r / 27) := by rw [nz_, if_neg h, if_neg h2]
theorem iw_b {n : Nat} (h : ¬ n < 387420489) : iw_ n = false := by simp [iw_, h]
theorem iw_y {n : Nat} (h0 : 0 < n) (h : n < 387420489) (h2 : nz_ 7 n = true) : iw_ n = true := by simp [iw_, h0, h, h2]
theorem iw_n {n : Nat} (h2 : nz_ 7 n = false) : iw_ n = false := by simp [iw_, h2]
theorem iw_lt {n : Nat} (h : iw_ n = true) : n < 387420489 := by
  simp only [iw_, Bool.and_eq_true, decide_eq_true_eq] at h
  exact h.1.2
theorem pw_ {k r : Nat} (h : k < 6) (h2 : r < 27 ^ (6 - k)) : r / 27 < 27 ^ (6 - (k + 1)) := by
  rw [show 6 - k = (6 - (k + 1)) + 1 by omega, Nat.pow_succ] at h2
  omega
def wd_ (w : Int32) : Bool := decide (0 < w) && iw_ w.toNatClampNeg
theorem wd_n {n : Nat} (h : n < 2 ^ 31) : wd_ (nI n) = iw_ n := by
  unfold wd_
  rw [nI_clamp h]
  by_cases e : n = 0
  · subst e; rfl
  · rw [decide_eq_true ((gt0_ h).mpr (by omega)), Bool.true_and]
theorem gt_i {w : Int32} (h : ¬ w ≤ 0) : 0 < w := Int32.not_le.mp h
theorem wd_0 {w : Int32} (h : w ≤ 0) : wd_ w = false := by
  unfold wd_
  rw [decide_eq_false (fun q => Int32.not_le.mpr q h), Bool.false_and]
theorem wd_of {w : Int32} (h : wd_ w = true) : ∃ n, n < 387420489 ∧ iw_ n = true ∧ w = nI n := by
  by_cases q : w ≤ 0
  · rw [wd_0 q] at h; cases h
  · obtain ⟨n, hn, rfl⟩ := nI_of (x := w) (fun z => q (Int32.le_of_lt z))
    rw [wd_n hn] at h
    exact ⟨n, iw_lt h, h, rfl⟩
theorem lt_n {c : St_} {l what : Nat} (h : ¬ what = 0) : lt_ c l what = qs_ (fun w => wt_ c l w what) (ss c l) := if_neg h
theorem wc_6 {w m : Nat} (h : w < 387420489) (h2 : m < 2 ^ ln_ w) : qs_ (fun p => if m.testBit p then 1 else 0) 6 = wc_ w m := by
  unfold wc_
  refine qs_z (ln_le h) (fun k h3 _ => ?_)
  rw [Nat.testBit_lt_two_pow (Nat.lt_of_lt_of_le h2 (Nat.pow_le_pow_right (by omega) h3))]
  rfl
end
section
theorem ak_e {a b n k : Nat} (h : oc_ a k = oc_ b k) : ak_ a b (n + 1) k = ak_ a b n (k + 1) := by rw [ak_, decide_eq_true h, Bool.true_and]
theorem ak_n {a b n k : Nat} (h : ¬ oc_ a k = oc_ b k) : ak_ a b (n + 1) k = false := by rw [ak_, decide_eq_false h, Bool.false_and]
theorem hd_s {c : St_} {l w : Nat} {y : Int32} (h : w < ss c l) : hd_ c l y (ss c l - w) w = if ru_ c l y w = -1 then hd_ c l y (ss c l - (w + 1)) (w + 1) else nI (10 * w) + ru_ c l y w := by
  obtain ⟨n, hn⟩ : ∃ n, ss c l - w = n + 1 := ⟨ss c l - w - 1, by omega⟩
  rw [hn, hd_, show ss c l - (w + 1) = n by omega]
theorem hd_e {c : St_} {l w : Nat} {y : Int32} (h : ¬ w < ss c l) : hd_ c l y (ss c l - w) w = -1 := by
  rw [show ss c l - w = 0 by omega]; rfl
def hf_ (c : St_) (y : Int32) (l w : Nat) : Nat := if ru_ c l y w = -1 then 0 else 1
theorem hf_t {c : St_} {y : Int32} {l w : Nat} (h : ru_ c l y w = -1) : qs_ (hf_ c y l) (w + 1) = qs_ (hf_ c y l) w := qs_1 (f := hf_ c y l) (v := 0) (if_pos h)
theorem hf_f {c : St_} {y : Int32} {l w : Nat} (h : ¬ ru_ c l y w = -1) : qs_ (hf_ c y l) (w + 1) = qs_ (hf_ c y l) w + 1 := qs_1 (f := hf_ c y l) (if_neg h)
theorem lk_s {c : St_} {l k : Nat} {y : Int32} (h : k < 27) : lk_ c l y (27 - k) k = if nI (lt_ c l 2 + vl_ (so c) k) = y then nI k else lk_ c l y (27 - (k + 1)) (k + 1) := by
  obtain ⟨n, hn⟩ : ∃ n, 27 - k = n + 1 := ⟨27 - k - 1, by omega⟩
  rw [hn, lk_, show 27 - (k + 1) = n by omega]
theorem lc_ (x y : Int64) : 0 ≤ lg_cmp x y ↔ ¬ x < y := by
  by_cases h1 : y < x
  · have e1 : lg_cmp x y = 1 := by simp [lg_cmp, h1]
    rw [e1]
    exact ⟨fun _ q => Int64.lt_irrefl (Int64.lt_trans h1 q), fun _ => by decide⟩
  · by_cases h2 : x = y
    · subst h2
      have e1 : lg_cmp x x = 0 := by simp [lg_cmp]
      rw [e1]
      exact ⟨fun _ => Int64.lt_irrefl, fun _ => by decide⟩
    · have e1 : lg_cmp x y = -1 := by simp [lg_cmp, h1, h2]
      rw [e1]
      refine ⟨fun q => absurd q (by decide), fun q => absurd ?_ q⟩
      exact Int64.lt_of_le_of_ne (Int64.not_lt.mp h1) h2
theorem nr_lt {c : St_} {y : Int32} : ∀ {n b : Nat}, nr_ c y n = some b → b < n
  | 0, b, h => by cases h
  | n + 1, b, h => by
    rw [nr_] at h
    cases e : nr_ c y n with
    | none => rw [e] at h; cases h; omega
    | some b' =>
      rw [e] at h
      simp only at h
      have := nr_lt e
      split at h
      · cases h; omega
      · cases h; omega
theorem ni_neg {b : Option Nat} (h : ∀ k, b = some k → k < 2 ^ 31) : ni_ b < 0 ↔ b = none := by
  cases b with
  | none => exact ⟨fun _ => rfl, fun _ => by decide⟩
  | some k => exact ⟨fun q => absurd q (nI_pos (h k rfl)), fun q => by cases q⟩
/-- the fewest letters -/
theorem bs_le (o : Nat) (t : Nat → Nat) (y : Nat) : ∀ n, bs_ o t y n ≤ 9999
  | 0 => Nat.le_refl _
  | n + 1 => by
    rw [bs_]
    have := bs_le o t y n
    split
    · exact Nat.le_trans (Nat.min_le_left _ _) this
    · exact this
theorem bs_c {o y : Nat} (ho : o < 3) {t u : Nat → Nat} (h : ∀ j, j < y → t j = u j) : ∀ {n}, n ≤ 26 → bs_ o t y n = bs_ o u y n
  | 0, _ => rfl
  | n + 1, hn => by
    have hv := vl_pos o ho (n + 1) (by omega) (by omega)
    rw [bs_, bs_, bs_c ho h (n := n) (by omega)]
    split
    · rw [h _ (by omega)]
    · rfl
theorem tb_s (o n j : Nat) : tb_ o (n + 1) j = if j = n + 1 then bs_ o (tb_ o n) (n + 1) 26 else tb_ o n j := rfl
theorem tb_fe (o : Nat) : ∀ n j, j ≤ n → tb_ o n j = fe_ o j
  | 0, j, h => by rw [show j = 0 by omega]; rfl
  | n + 1, j, h => by
    by_cases e : j = n + 1
    · rw [e]; rfl
    · rw [tb_s, if_neg e]; exact tb_fe o n j (by omega)
theorem fe_0 (o : Nat) : fe_ o 0 = 0 := rfl
theorem fe_s {o y : Nat} (ho : o < 3) (h : 0 < y) : fe_ o y = bs_ o (fe_ o) y 26 := by
  obtain ⟨n, rfl⟩ : ∃ n, y = n + 1 := ⟨y - 1, by omega⟩
  show tb_ o (n + 1) (n + 1) = _
  rw [tb_s, if_pos rfl]
  exact bs_c ho (fun j hj => tb_fe o n j (by omega)) (Nat.le_refl _)
theorem fe_le (o y : Nat) (ho : o < 3) : fe_ o y ≤ 9999 := by
  by_cases h : y = 0
  · subst h; rw [fe_0]; omega
  · rw [fe_s ho (by omega)]; exact bs_le _ _ _ _
theorem bs_b {o y : Nat} (ho : o < 3) (ih : ∀ j, j < y → fe_ o j < 9999 → fe_ o j ≤ j) : ∀ n, n ≤ 26 → bs_ o (fe_ o) y n < 9999 → bs_ o (fe_ o) y n ≤ y
  | 0, _, h => by rw [bs_] at h; omega
  | n + 1, hn, h => by
    have hv := vl_pos o ho (n + 1) (by omega) (by omega)
    have i2 := bs_b ho ih n (by omega)
    rw [bs_] at h ⊢
    split
    · rename_i hle
      rw [if_pos hle] at h
      have i3 := ih (y - vl_ o (n + 1)) (by omega)
      have e1 : Nat.min (bs_ o (fe_ o) y n) (fe_ o (y - vl_ o (n + 1)) + 1) = if bs_ o (fe_ o) y n ≤ fe_ o (y - vl_ o (n + 1)) + 1 then bs_ o (fe_ o) y n else fe_ o (y - vl_ o (n + 1)) + 1 := Nat.min_def
      rw [e1] at h ⊢
      split
      · rename_i q; rw [if_pos q] at h; exact i2 h
      · rename_i q; rw [if_neg q] at h; have := i3 (by omega); omega
    · rename_i hle
      rw [if_neg hle] at h
      exact i2 h
theorem fe_b {o : Nat} (ho : o < 3) : ∀ n y, y < n → fe_ o y < 9999 → fe_ o y ≤ y
  | 0, y, h, _ => by omega
  | n + 1, y, h, h2 => by
    by_cases e : y = 0
    · subst e; rw [fe_0]; omega
    · rw [fe_s ho (by omega)] at h2 ⊢
      exact bs_b ho (fun j hj => fe_b ho n j (by omega)) 26 (Nat.le_refl _) h2
theorem fe_y {o y : Nat} (ho : o < 3) (h : fe_ o y < 9999) : fe_ o y ≤ y := fe_b ho (y + 1) y (by omega) h
theorem en_neg {g : Nat} (h : g ≤ 9999) : en_ g < 0 ↔ ¬ g < 9999 := by
  unfold en_
  split
  · exact ⟨fun q => absurd q (nI_pos (by omega)), fun q => absurd ‹_› q⟩
  · exact ⟨fun _ => by assumption, fun _ => by decide⟩
theorem en_t {g : Nat} (h : g < 9999) : en_ g = nI g := if_pos h
theorem en_f {g : Nat} (h : ¬ g < 9999) : en_ g = -1 := if_neg h
/-- one letter more is looked at: how the best so far goes on -/
theorem bs_0 {o y k : Nat} (hk : 0 < k) (h : ¬ vl_ o k ≤ y) : bs_ o (fe_ o) y k = bs_ o (fe_ o) y (k - 1) := by
  obtain ⟨n, rfl⟩ : ∃ n, k = n + 1 := ⟨k - 1, by omega⟩
  rw [bs_, if_neg h]; rfl
theorem bs_1 {o y k : Nat} (hk : 0 < k) (h : vl_ o k ≤ y) (h2 : bs_ o (fe_ o) y (k - 1) ≤ fe_ o (y - vl_ o k) + 1) : bs_ o (fe_ o) y k = bs_ o (fe_ o) y (k - 1) := by
  obtain ⟨n, rfl⟩ : ∃ n, k = n + 1 := ⟨k - 1, by omega⟩
  rw [bs_, if_pos h]
  exact Nat.min_eq_left h2
theorem bs_2 {o y k : Nat} (hk : 0 < k) (h : vl_ o k ≤ y) (h2 : ¬ bs_ o (fe_ o) y (k - 1) ≤ fe_ o (y - vl_ o k) + 1) : bs_ o (fe_ o) y k = fe_ o (y - vl_ o k) + 1 := by
  obtain ⟨n, rfl⟩ : ∃ n, k = n + 1 := ⟨k - 1, by omega⟩
  rw [bs_, if_pos h]
  exact Nat.min_eq_right (by simp only [Nat.add_sub_cancel] at h2; omega)
theorem sb_lt {a b : Nat} (ha : a < 2 ^ 30) (hb : b < 2 ^ 30) : nI a - nI b < 0 ↔ a < b := by
  constructor
  · intro q
    by_cases h : a < b
    · exact h
    · rw [pk_sub (by omega)] at q
      exact absurd q (nI_pos (by omega))
  · intro q; exact pk_sneg hb q
theorem gs_t {o y k : Nat} (hk : 0 < k) (h : vl_ o k ≤ y ∧ fe_ o (y - vl_ o k) + 1 = fe_ o y) : gs_ o y k = k := by
  obtain ⟨n, rfl⟩ : ∃ n, k = n + 1 := ⟨k - 1, by omega⟩
  rw [gs_, if_pos h]
theorem gs_f {o y k : Nat} (hk : 0 < k) (h : ¬ (vl_ o k ≤ y ∧ fe_ o (y - vl_ o k) + 1 = fe_ o y)) : gs_ o y k = gs_ o y (k - 1) := by
  obtain ⟨n, rfl⟩ : ∃ n, k = n + 1 := ⟨k - 1, by omega⟩
  rw [gs_, if_neg h]; rfl
theorem en_eq {a b : Nat} (h0 : 0 < b) (hb : b < 9999) : en_ a = en_ b - nI 1 ↔ a + 1 = b := by
  rw [en_t hb, pk_sub (show 1 ≤ b by omega)]
  by_cases h : a < 9999
  · rw [en_t h, nI_eq (by omega) (by omega)]; omega
  · rw [en_f h]
    constructor
    · intro q
      have h3 : nI (b - 1) < 0 := by rw [← q]; decide
      exact absurd h3 (nI_pos (by omega))
    · intro q; omega
end
section
/-! ===== the elementary changes of a poem, and their rows ===== -/
def st_w (c : St_) (i v : Nat) : St_ := (so c, sn c, ss c, up_ (sw c) i v, sk c)
def st_k (c : St_) (i v : Nat) : St_ := (so c, sn c, ss c, sw c, up_ (sk c) i v)
def st_s (c : St_) (l v : Nat) : St_ := (so c, sn c, up_ (ss c) l v, sw c, sk c)
theorem iv_o {c : St_} {o : Nat} (h : Iv_ c) (ho : o < 3) : Iv_ (st_count c o) := ⟨ho, h.2⟩
theorem iv_n {c : St_} (h : Iv_ c) (hn : sn c < 12) : Iv_ (st_write c) := ⟨h.1, hn, h.2.2⟩
theorem iv_w {c : St_} {i v : Nat} (h : Iv_ c) (hv : v < 387420489) (hi : ∀ l w, w < ss c l → 10 * l + w ≠ i) : Iv_ (st_w c i v) := by
  refine ⟨h.1, h.2.1, h.2.2.1, fun j => ?_, h.2.2.2.2.1, fun l w hw => ?_⟩
  · show up_ (sw c) i v j < _
    unfold up_
    split
    · exact hv
    · exact h.2.2.2.1 j
  · show sk c (10 * l + w) < 2 ^ ln_ (up_ (sw c) i v (10 * l + w))
    rw [up_n (hi l w hw)]
    exact h.2.2.2.2.2 l w hw
theorem iv_k {c : St_} {i v : Nat} (h : Iv_ c) (hv : v < 64) (hi : ∀ l w, w < ss c l → 10 * l + w = i → v < 2 ^ ln_ (sw c (10 * l + w))) : Iv_ (st_k c i v) := by
  refine ⟨h.1, h.2.1, h.2.2.1, h.2.2.2.1, fun j => ?_, fun l w hw => ?_⟩
  · show up_ (sk c) i v j < _
    unfold up_
    split
    · exact hv
    · exact h.2.2.2.2.1 j
  · show up_ (sk c) i v (10 * l + w) < 2 ^ ln_ (sw c (10 * l + w))
    unfold up_
    split
    · exact hi l w hw (by assumption)
    · exact h.2.2.2.2.2 l w hw
theorem iv_s {c : St_} {l v : Nat} (h : Iv_ c) (hv : v ≤ 10) (hi : ∀ w, w < v → sk c (10 * l + w) < 2 ^ ln_ (sw c (10 * l + w))) : Iv_ (st_s c l v) := by
  refine ⟨h.1, h.2.1, fun j => ?_, h.2.2.2.1, h.2.2.2.2.1, fun j w hw => ?_⟩
  · show up_ (ss c) l v j ≤ _
    unfold up_
    split
    · exact hv
    · exact h.2.2.1 j
  · have hw : w < up_ (ss c) l v j := hw
    show sk c (10 * j + w) < 2 ^ ln_ (sw c (10 * j + w))
    by_cases e : j = l
    · subst e; rw [up_s] at hw; exact hi w hw
    · rw [up_n e] at hw; exact h.2.2.2.2.2 j w hw
/-- the place behind a line's last word is no other word's -/
theorem ix_ {c : St_} (h : Iv_ c) {l0 : Nat} (h0 : ss c l0 < 10) : ∀ l w, w < ss c l → 10 * l + w ≠ 10 * l0 + ss c l0 := by
  intro l w hw e
  have := h.2.2.1 l
  have e1 : l = l0 := by omega
  subst e1
  omega
def sx_ (x u : Ax_) : Prop := xh u = xh x ∧ xo u = xo x
theorem sx_r (x : Ax_) : sx_ x x := ⟨rfl, rfl⟩
theorem sx_t {x u v : Ax_} (h : sx_ x u) (h2 : sx_ u v) : sx_ x v := ⟨h2.1.trans h.1, h2.2.trans h.2⟩
theorem up_nI (f : Nat → Nat) (k v : Nat) : upd (fun l => nI (f l)) k (nI v) = fun l => nI (up_ f k v l) := by
  funext j
  unfold upd up_
  split <;> rfl
theorem up_gd {f : Nat → Nat} {i j v : Nat} (hj : j < 10) : upd (fun w => nI (gd_ f i w)) j (nI v) = fun w => nI (gd_ (up_ f (10 * i + j) v) i w) := by
  funext w
  unfold upd gd_ up_
  by_cases e : w = j
  · subst e; rw [if_pos rfl, if_pos hj, if_pos rfl]
  · rw [if_neg e, if_neg (show ¬ 10 * i + w = 10 * i + j by omega)]
section RW5
variable {p : Program} {l : Launch} {e : Env} {R : Room} {s : State} {m : MethodId} {args : Array Value} {below : List Frame} {meth : Method} {c : Code} {H : Heap} {locs : List Loc} {cells slots : Nat} {Q : State → Prop}
variable {cc : ByteArray} {pc : Nat} {ls : Array Slot} {rest : List Value} {B0 : Nat} {g : va_G} {ct ad : Nat → Nat} {cS mS : St_} {x : Ax_} {Ts : List Cond}
theorem w_sz (hC : CX B0 g ct ad cS mS x s H) (hB : B0 ≤ s.heap.size) (hS : va_S (AA B0) s.heap H locs) (hexec : p.tables.exec = Jvm.exec) (hb : c.code = cc) (hdg : decode cc pc = .ok (.iastore, 1)) {j v : Nat} (hj : j < 12) (hI : Iv_ (st_s cS j v))
    (kk : ∀ (H1 : Heap) (locs1 : List Loc), CX B0 g ct ad (st_s cS j v) mS x s H1 → va_S (AA B0) s.heap H1 locs1 → W p l e R s m args below meth c H1 locs1 cells slots Q (F0 m (pc + 1) ls rest)) : W p l e R s m args below meth c H locs cells slots Q (F0 m pc ls (.int (nI v) :: .int (nI j) :: .ref (ad 1) :: rest)) :=
  w_ia (c' := st_s cS j v) (m' := mS) (x' := x) hC hB hS hexec hb 1 ((wl_0 (k := 1) (by omega)).trans rfl) hdg hj (by omega) (by rw [up_nI]; rfl) hI hC.1.2.2.2.2.1 hC.1.2.2.2.2.2 kk
theorem w_wr (hC : CX B0 g ct ad cS mS x s H) (hB : B0 ≤ s.heap.size) (hS : va_S (AA B0) s.heap H locs) (hexec : p.tables.exec = Jvm.exec) (hb : c.code = cc) (hdg : decode cc pc = .ok (.iastore, 1)) {i j v : Nat} (hi : i < 12) (hj : j < 10) (hI : Iv_ (st_w cS (10 * i + j) v))
    (kk : ∀ (H1 : Heap) (locs1 : List Loc), CX B0 g ct ad (st_w cS (10 * i + j) v) mS x s H1 → va_S (AA B0) s.heap H1 locs1 → W p l e R s m args below meth c H1 locs1 cells slots Q (F0 m (pc + 1) ls rest)) : W p l e R s m args below meth c H locs cells slots Q (F0 m pc ls (.int (nI v) :: .int (nI j) :: .ref (ad (12 + i)) :: rest)) := by
  have he : (wl_ ct ad cS mS x).set (12 + i) (ad (12 + i), e_i ct 10 (upd (fun w => nI (gd_ (sw cS) i w)) j (nI v))) = wl_ ct ad (st_w cS (10 * i + j) v) mS x := by
    refine wl_s1 (ct := ct) (ad := ad) (c := cS) (c' := st_w cS (10 * i + j) v) (m := mS) (x := x) hi rfl rfl (fun i' w hne hw => ?_) ?_
    · show sw cS (10 * i' + w) = up_ (sw cS) (10 * i + j) v (10 * i' + w)
      rw [up_n (show 10 * i' + w ≠ 10 * i + j by omega)]
    · rw [up_gd hj]; rfl
  exact w_ia hC hB hS hexec hb (12 + i) (wl_1 hi) hdg hj (by omega) he hI hC.1.2.2.2.2.1 hC.1.2.2.2.2.2 kk
theorem w_kr (hC : CX B0 g ct ad cS mS x s H) (hB : B0 ≤ s.heap.size) (hS : va_S (AA B0) s.heap H locs) (hexec : p.tables.exec = Jvm.exec) (hb : c.code = cc) (hdg : decode cc pc = .ok (.iastore, 1)) {i j v : Nat} (hi : i < 12) (hj : j < 10) (hI : Iv_ (st_k cS (10 * i + j) v))
    (kk : ∀ (H1 : Heap) (locs1 : List Loc), CX B0 g ct ad (st_k cS (10 * i + j) v) mS x s H1 → va_S (AA B0) s.heap H1 locs1 → W p l e R s m args below meth c H1 locs1 cells slots Q (F0 m (pc + 1) ls rest)) : W p l e R s m args below meth c H locs cells slots Q (F0 m pc ls (.int (nI v) :: .int (nI j) :: .ref (ad (24 + i)) :: rest)) := by
  have he : (wl_ ct ad cS mS x).set (24 + i) (ad (24 + i), e_i ct 10 (upd (fun w => nI (gd_ (sk cS) i w)) j (nI v))) = wl_ ct ad (st_k cS (10 * i + j) v) mS x := by
    refine wl_s2 (ct := ct) (ad := ad) (c := cS) (c' := st_k cS (10 * i + j) v) (m := mS) (x := x) hi rfl rfl (fun i' w hne hw => ?_) ?_
    · show sk cS (10 * i' + w) = up_ (sk cS) (10 * i + j) v (10 * i' + w)
      rw [up_n (show 10 * i' + w ≠ 10 * i + j by omega)]
    · rw [up_gd hj]; rfl
  exact w_ia hC hB hS hexec hb (24 + i) (wl_2 hi) hdg hj (by omega) he hI hC.1.2.2.2.2.1 hC.1.2.2.2.2.2 kk
theorem w_wt (hC : CX B0 g ct ad cS mS x s H) (hB : B0 ≤ s.heap.size) (hS : va_S (AA B0) s.heap H locs) (hexec : p.tables.exec = Jvm.exec) (hb : c.code = cc) (hdg : decode cc pc = .ok (.iastore, 1)) {j : Nat} {v : Int32} (hj : j < 120)
    (kk : ∀ (H1 : Heap) (locs1 : List Loc), CX B0 g ct ad cS mS (ax_w x (upd (xw x) j v)) s H1 → va_S (AA B0) s.heap H1 locs1 → W p l e R s m args below meth c H1 locs1 cells slots Q (F0 m (pc + 1) ls rest)) : W p l e R s m args below meth c H locs cells slots Q (F0 m pc ls (.int v :: .int (nI j) :: .ref (ad 4) :: rest)) :=
  w_ia (c' := cS) (m' := mS) (x' := ax_w x (upd (xw x) j v)) hC hB hS hexec hb 4 ((wl_0 (k := 4) (by omega)).trans rfl) hdg hj (by omega) rfl hC.1.2.2.2.1 hC.1.2.2.2.2.1 hC.1.2.2.2.2.2 kk
theorem w_fr (hC : CX B0 g ct ad cS mS x s H) (hB : B0 ≤ s.heap.size) (hS : va_S (AA B0) s.heap H locs) (hexec : p.tables.exec = Jvm.exec) (hb : c.code = cc) (hdg : decode cc pc = .ok (.iastore, 1)) {i j : Nat} {v : Int32} (hi : i < 3) (hj : j < 3001) (hF : FI_ (ax_f x (fun o => if o = i then upd (xf x i) j v else xf x o)))
    (kk : ∀ (H1 : Heap) (locs1 : List Loc), CX B0 g ct ad cS mS (ax_f x (fun o => if o = i then upd (xf x i) j v else xf x o)) s H1 → va_S (AA B0) s.heap H1 locs1 → W p l e R s m args below meth c H1 locs1 cells slots Q (F0 m (pc + 1) ls rest)) : W p l e R s m args below meth c H locs cells slots Q (F0 m pc ls (.int v :: .int (nI j) :: .ref (ad (36 + i)) :: rest)) :=
  w_ia hC hB hS hexec hb (36 + i) (wl_3 hi) hdg hj (by omega) (wl_s3 (f := upd (xf x i) j v) hi rfl) hC.1.2.2.2.1 hC.1.2.2.2.2.1 hF kk
theorem w_fl (hC : CX B0 g ct ad cS mS x s H) (hB : B0 ≤ s.heap.size) (hS : va_S (AA B0) s.heap H locs) (hexec : p.tables.exec = Jvm.exec) (hb : c.code = cc) (hdg : decode cc pc = .ok (.bastore, 1)) {j : Nat} {v : Int32} (hj : j < 3) (hv : vp_nar .boolean v = v) (hF : FI_ (ax_g x (upd (xg x) j v)))
    (kk : ∀ (H1 : Heap) (locs1 : List Loc), CX B0 g ct ad cS mS (ax_g x (upd (xg x) j v)) s H1 → va_S (AA B0) s.heap H1 locs1 → W p l e R s m args below meth c H1 locs1 cells slots Q (F0 m (pc + 1) ls rest)) : W p l e R s m args below meth c H locs cells slots Q (F0 m pc ls (.int v :: .int (nI j) :: .ref (ad 6) :: rest)) :=
  w_za (c' := cS) (m' := mS) (x' := ax_g x (upd (xg x) j v)) hC hB hS hexec hb 6 ((wl_0 (k := 6) (by omega)).trans rfl) hdg hj (by omega) (by rw [hv]; rfl) hC.1.2.2.2.1 hC.1.2.2.2.2.1 hF kk
theorem w_lg (hC : CX B0 g ct ad cS mS x s H) (hB : B0 ≤ s.heap.size) (hS : va_S (AA B0) s.heap H locs) (hexec : p.tables.exec = Jvm.exec) (hb : c.code = cc) (hdg : decode cc pc = .ok (.iastore, 1)) {j v : Nat} (hj : j < 12) (hI : Iv_ (st_s mS j v))
    (kk : ∀ (H1 : Heap) (locs1 : List Loc), CX B0 g ct ad cS (st_s mS j v) x s H1 → va_S (AA B0) s.heap H1 locs1 → W p l e R s m args below meth c H1 locs1 cells slots Q (F0 m (pc + 1) ls rest)) : W p l e R s m args below meth c H locs cells slots Q (F0 m pc ls (.int (nI v) :: .int (nI j) :: .ref (ad 8) :: rest)) :=
  w_ia (c' := cS) (m' := st_s mS j v) (x' := x) hC hB hS hexec hb 8 ((wl_0 (k := 8) (by omega)).trans rfl) hdg hj (by omega) (by rw [up_nI]; rfl) hC.1.2.2.2.1 hI hC.1.2.2.2.2.2 kk
theorem w_mw (hC : CX B0 g ct ad cS mS x s H) (hB : B0 ≤ s.heap.size) (hS : va_S (AA B0) s.heap H locs) (hexec : p.tables.exec = Jvm.exec) (hb : c.code = cc) (hdg : decode cc pc = .ok (.iastore, 1)) {j v : Nat} (hj : j < 120) (hI : Iv_ (st_w mS j v))
    (kk : ∀ (H1 : Heap) (locs1 : List Loc), CX B0 g ct ad cS (st_w mS j v) x s H1 → va_S (AA B0) s.heap H1 locs1 → W p l e R s m args below meth c H1 locs1 cells slots Q (F0 m (pc + 1) ls rest)) : W p l e R s m args below meth c H locs cells slots Q (F0 m pc ls (.int (nI v) :: .int (nI j) :: .ref (ad 9) :: rest)) :=
  w_ia (c' := cS) (m' := st_w mS j v) (x' := x) hC hB hS hexec hb 9 ((wl_0 (k := 9) (by omega)).trans rfl) hdg hj (by omega) (by rw [up_nI]; rfl) hC.1.2.2.2.1 hI hC.1.2.2.2.2.2 kk
theorem w_mk {v : Int32} {i b : Nat} (hC : CX B0 g ct ad cS mS x s H) (hB : B0 ≤ s.heap.size) (hS : va_S (AA B0) s.heap H locs) (hexec : p.tables.exec = Jvm.exec) (hb : c.code = cc) (hdg : decode cc pc = .ok (.bastore, 1)) {j : Nat} (hj : j < 720) (he : upd (mb_ (sk mS)) j (vp_nar .boolean v) = mb_ (up_ (sk mS) i b)) (hI : Iv_ (st_k mS i b))
    (kk : ∀ (H1 : Heap) (locs1 : List Loc), CX B0 g ct ad cS (st_k mS i b) x s H1 → va_S (AA B0) s.heap H1 locs1 → W p l e R s m args below meth c H1 locs1 cells slots Q (F0 m (pc + 1) ls rest)) : W p l e R s m args below meth c H locs cells slots Q (F0 m pc ls (.int v :: .int (nI j) :: .ref (ad 10) :: rest)) :=
  w_za (c' := cS) (m' := st_k mS i b) (x' := x) hC hB hS hexec hb 10 ((wl_0 (k := 10) (by omega)).trans rfl) hdg hj (by omega) (by rw [he]; rfl) hC.1.2.2.2.1 hI hC.1.2.2.2.2.2 kk
end RW5
end
section
set_option maxHeartbeats 4000000 in
set_option maxRecDepth 100000 in
/-- lengthOf -/
theorem c_X0_lengthOf (l : Launch) (w : Nat) (hw : w < 387420489) : RI l yX0_lengthOf wsX0_lengthOf 0 (va_Pc [.int (nI w)] (fun _ => True)) (nI (ln_ w)) := by
  refine Met.ofW (cc := cX0_lengthOf) (maxL := 3) (ret := (some .int)) (by decide) rfl ?_
  intro p e s m args below meth c s₁ B hml hv
  obtain ⟨rfl, -⟩ := hv
  have hx := B.exec
  have hb := B.bytes
  have hr := B.returns
  have hts := atoms_spec (ws := wsX0_lengthOf) B.pre
  have hown : s.vm.findClass RX0 = some m.cls := findClass_of_methodNamed B.named
  have hlocks := B.notSynchronized
  have hl := lv_entry ([.int (nI w)]) (n := 3) (Nat.le_of_ble_eq_true rfl)
  rw [lg_entry_eq]
  generalize (lg_sl ([.int (nI w)]) ++ List.replicate (3 - (lg_sl ([.int (nI w)])).length) Slot.unset).toArray = ls at hl ⊢
  have hl : lv_has ls 3 [(0, .int (nI w))] := hl
  refine lv_iconst (v := nI 0) hx hb dX0_lengthOf_0 (by decide) ?_
  refine lv_istore_n (lv' := [(1, .int (nI 0)), (0, .int (nI w))]) hx hb dX0_lengthOf_1 rfl hl (by decide) rfl (fun ls hl => ?_)
  refine lv_iload_n hx hb dX0_lengthOf_2 rfl (lv_at hl 1 rfl) ?_
  refine lv_istore_n (lv' := [(2, .int (nI w)), (1, .int (nI 0)), (0, .int (nI w))]) hx hb dX0_lengthOf_3 rfl hl (by decide) rfl (fun ls hl => ?_)
  have LP_4 : ∀ (n_ : Nat) (k : Nat) (r : Nat), 6 - k < n_ → (k ≤ 6) → (k + lnf (6 - k) r = ln_ w) → (r < 387420489) → ∀ ls : Array Slot, lv_has ls 3 [(2, .int (nI r)), (1, .int (nI k)), (0, .int (nI w))] → W p l e (headSpec wsX0_lengthOf (rm_ 0 0 0)).room s m ([.int (nI w)] : List Value).toArray below meth c s.heap [] 0 0 (MQ below (vp_Si (fun r => r = nI (ln_ w))) ([.int (nI w)] : List Value).toArray s 0 0 (fun _ => False)) (F0 m 4 ls []) := by
    intro n_
    induction n_ with
    | zero => intro k r hm; exact absurd hm (Nat.not_lt_zero _)
    | succ n_ ih_4 =>
      intro k r hm h0 h1 h2 ls hl
      refine lv_iload_n hx hb dX0_lengthOf_4 rfl (lv_at hl 1 rfl) ?_
      refine lv_bipush (v := nI 6) hx hb dX0_lengthOf_5 (by decide) ?_
      refine lv_icmp_ge (tgt := 25) hx hb dX0_lengthOf_7 (by decide) (fun c_7 => ?_) (fun c_7 => ?_)
      · skip
        have n_7 : 6 ≤ k := (nI_leI (a := 6) (b := k) (by omega) (by omega)).mp c_7
        have hE : k = ln_ w := by rw [show 6 - k = 0 by omega] at h1; exact h1
        refine lv_iload_n hx hb dX0_lengthOf_25 rfl (lv_at hl 1 rfl) ?_
        exact W.iret hx hb hr (fun t ht hW => ⟨_, rfl, (congrArg nI hE), ht⟩) (fun q hq => absurd hq List.not_mem_nil) dX0_lengthOf_26
      · skip
        have n_7 : ¬ 6 ≤ k := fun q__ => c_7 ((nI_leI (a := 6) (b := k) (by omega) (by omega)).mpr q__)
        refine lv_iload_n hx hb dX0_lengthOf_10 rfl (lv_at hl 0 rfl) ?_
        refine lv_if_le (tgt := 25) hx hb dX0_lengthOf_11 (by decide) (fun c_11 => ?_) (fun c_11 => ?_)
        · skip
          have n_11 : r = 0 := (nle0_ (by omega)).mp c_11
          have hE : k = ln_ w := by rw [n_11, lnf_0] at h1; exact h1
          refine lv_iload_n hx hb dX0_lengthOf_25 rfl (lv_at hl 1 rfl) ?_
          exact W.iret hx hb hr (fun t ht hW => ⟨_, rfl, (congrArg nI hE), ht⟩) (fun q hq => absurd hq List.not_mem_nil) dX0_lengthOf_26
        · skip
          have n_11 : 0 < r := Nat.pos_of_ne_zero (fun q__ => c_11 ((nle0_ (by omega)).mpr q__))
          refine lv_iload_n hx hb dX0_lengthOf_14 rfl (lv_at hl 0 rfl) ?_
          refine lv_bipush (v := nI 27) hx hb dX0_lengthOf_15 (by decide) ?_
          refine lv_idiv hx hb dX0_lengthOf_17 (by decide) ?_
          refine lv_tn (pk_div (by omega) (by decide) (by decide)) ?_
          refine lv_istore_n (lv' := [(2, .int (nI (r / 27))), (1, .int (nI k)), (0, .int (nI w))]) hx hb dX0_lengthOf_18 rfl hl (by decide) rfl (fun ls hl => ?_)
          refine lv_iinc (v := nI (k + 1)) (lv' := [(1, .int (nI (k + 1))), (2, .int (nI (r / 27))), (0, .int (nI w))]) hx hb dX0_lengthOf_19 hl (k := 1) rfl (nI_1 _) (by decide) rfl (fun ls hl => ?_)
          refine lv_goto (tgt := 4) hx hb dX0_lengthOf_22 (by decide) ?_
          exact ih_4 (k + 1) (r / 27) (by omega) (by omega) (by have h3 := h1; rw [show 6 - k = (6 - (k + 1)) + 1 by omega, lnf_s (show ¬ r = 0 by omega)] at h3; omega) (by omega) ls (lv_sub hl [1, 0, 2] rfl)
  exact LP_4 _ 0 w (Nat.lt_succ_self _) (by omega) ((Nat.zero_add _).trans (ln_6 hw).symm) hw ls (lv_sub hl [0, 1, 2] rfl)
set_option maxHeartbeats 4000000 in
set_option maxRecDepth 100000 in
theorem c_X0_isMarked (l : Launch) (mk p_ : Nat) (hm : mk < 64) (hp : p_ < 6) : RI l yX0_isMarked wsX0_isMarked 0 (va_Pc [.int (nI mk), .int (nI p_)] (fun _ => True)) (b2_ (mk.testBit p_)) := by
  refine Met.ofW (cc := cX0_isMarked) (maxL := 2) (ret := (some .boolean)) (by decide) rfl ?_
  intro p e s m args below meth c s₁ B hml hv
  obtain ⟨rfl, -⟩ := hv
  have hx := B.exec
  have hb := B.bytes
  have hr := B.returns
  have hts := atoms_spec (ws := wsX0_isMarked) B.pre
  have hown : s.vm.findClass RX0 = some m.cls := findClass_of_methodNamed B.named
  have hlocks := B.notSynchronized
  have hl := lv_entry ([.int (nI mk), .int (nI p_)]) (n := 2) (Nat.le_of_ble_eq_true rfl)
  rw [lg_entry_eq]
  generalize (lg_sl ([.int (nI mk), .int (nI p_)]) ++ List.replicate (2 - (lg_sl ([.int (nI mk), .int (nI p_)])).length) Slot.unset).toArray = ls at hl ⊢
  have hl : lv_has ls 2 [(0, .int (nI mk)), (1, .int (nI p_))] := hl
  refine lv_iload_n hx hb dX0_isMarked_0 rfl (lv_at hl 0 rfl) ?_
  refine lv_iload_n hx hb dX0_isMarked_1 rfl (lv_at hl 1 rfl) ?_
  refine lv_ishr hx hb dX0_isMarked_2 ?_
  refine lv_iconst (v := nI 1) hx hb dX0_isMarked_3 (by decide) ?_
  refine lv_iand hx hb dX0_isMarked_4 ?_
  refine lv_iconst (v := nI 1) hx hb dX0_isMarked_5 (by decide) ?_
  refine lv_icmp_ne (tgt := 13) hx hb dX0_isMarked_6 (by decide) (fun c_6 => ?_) (fun c_6 => ?_)
  · skip
    have hE : mk.testBit p_ = false := by
      cases h8 : mk.testBit p_ with
      | false => rfl
      | true => exact absurd ((im_ mk hm p_ hp).mpr h8) c_6
    refine lv_iconst (v := nI 0) hx hb dX0_isMarked_13 (by decide) ?_
    exact W.zret hx hb hr rfl (fun t ht hW => ⟨_, rfl, (by show nI 0 = b2_ (mk.testBit p_); rw [hE]; rfl), ht⟩) (fun q hq => absurd hq List.not_mem_nil) dX0_isMarked_14
  · skip
    have hE : mk.testBit p_ = true := (im_ mk hm p_ hp).mp c_6
    refine lv_iconst (v := nI 1) hx hb dX0_isMarked_9 (by decide) ?_
    refine lv_goto (tgt := 14) hx hb dX0_isMarked_10 (by decide) ?_
    exact W.zret hx hb hr rfl (fun t ht hW => ⟨_, rfl, (by show nI 1 = b2_ (mk.testBit p_); rw [hE]; rfl), ht⟩) (fun q hq => absurd hq List.not_mem_nil) dX0_isMarked_14
set_option maxHeartbeats 4000000 in
set_option maxRecDepth 100000 in
theorem c_X0_worthOfLetter (l : Launch) (B0 : Nat) (g : va_G) (ct ad : Nat → Nat) (cS mS : St_) (x : Ax_) (k : Nat) (hk : k < 27) : RI l yX0_worthOfLetter wsX0_worthOfLetter 0 (PX B0 g ct ad cS mS x [.ref (ad 0), .int (nI k)]) (nI (vl_ (so cS) k)) := by
  refine Met.ofW (cc := cX0_worthOfLetter) (maxL := 2) (ret := (some .int)) (by decide) rfl ?_
  intro p e s m args below meth c s₁ B hml hv
  obtain ⟨rfl, hC⟩ := hv
  have hx := B.exec
  have hb := B.bytes
  have hr := B.returns
  have hts := atoms_spec (ws := wsX0_worthOfLetter) B.pre
  have hown : s.vm.findClass RX0 = some m.cls := findClass_of_methodNamed B.named
  have hlocks := B.notSynchronized
  have hin : ∀ w ∈ wsX00, w ∈ wsX0_worthOfLetter := fun _ h => List.mem_cons_of_mem _ (List.mem_append_right _ h)
  have ho : so cS < 3 := hC.1.2.2.2.1.1
  have hkk : k * k ≤ 26 * 26 := Nat.mul_le_mul (by omega) (by omega)
  have hl := lv_entry ([.ref (ad 0), .int (nI k)]) (n := 2) (Nat.le_of_ble_eq_true rfl)
  rw [lg_entry_eq]
  generalize (lg_sl ([.ref (ad 0), .int (nI k)]) ++ List.replicate (2 - (lg_sl ([.ref (ad 0), .int (nI k)])).length) Slot.unset).toArray = ls at hl ⊢
  have hl : lv_has ls 2 [(0, .ref (ad 0)), (1, .int (nI k))] := hl
  refine lv_aload_n hx hb dX0_worthOfLetter_0 rfl (lv_at hl 0 rfl) ?_
  refine r_g0 hC hx hb hts hin hown 0 (by decide) (hts (.fieldLink RX0 9 "AbjadPoems" "order" "I") (by decide +kernel)) rfl dX0_worthOfLetter_1 ?_
  refine lv_iconst (v := nI 2) hx hb dX0_worthOfLetter_4 (by decide) ?_
  refine lv_icmp_ne (tgt := 20) hx hb dX0_worthOfLetter_5 (by decide) (fun c_5 => ?_) (fun c_5 => ?_)
  · skip
    have n_5 : ¬ so cS = 2 := fun q__ => c_5 ((nI_eq (a := so cS) (b := 2) (by omega) (by omega)).mpr q__)
    refine lv_aload_n hx hb dX0_worthOfLetter_20 rfl (lv_at hl 0 rfl) ?_
    refine r_g0 hC hx hb hts hin hown 0 (by decide) (hts (.fieldLink RX0 9 "AbjadPoems" "order" "I") (by decide +kernel)) rfl dX0_worthOfLetter_21 ?_
    refine lv_iconst (v := nI 1) hx hb dX0_worthOfLetter_24 (by decide) ?_
    refine lv_icmp_eq (tgt := 34) hx hb dX0_worthOfLetter_25 (by decide) (fun c_25 => ?_) (fun c_25 => ?_)
    · skip
      have n_25 : so cS = 1 := (nI_eq (a := so cS) (b := 1) (by omega) (by omega)).mp c_25
      have hE := vA2 _ ho k hk n_5 n_25
      refine lv_iload_n hx hb dX0_worthOfLetter_34 rfl (lv_at hl 1 rfl) ?_
      exact W.iret hx hb hr (fun t ht hW => ⟨_, rfl, (by show nI k = nI (vl_ (so cS) k); rw [← hE]), ht⟩) (fun q hq => absurd hq List.not_mem_nil) dX0_worthOfLetter_35
    · skip
      have n_25 : ¬ so cS = 1 := fun q__ => c_25 ((nI_eq (a := so cS) (b := 1) (by omega) (by omega)).mpr q__)
      refine lv_iload_n hx hb dX0_worthOfLetter_28 rfl (lv_at hl 1 rfl) ?_
      refine lv_bipush (v := nI 9) hx hb dX0_worthOfLetter_29 (by decide) ?_
      refine lv_icmp_gt (tgt := 36) hx hb dX0_worthOfLetter_31 (by decide) (fun c_31 => ?_) (fun c_31 => ?_)
      · skip
        have n_31 : 9 < k := (nI_ltI (a := 9) (b := k) (by omega) (by omega)).mp c_31
        refine lv_iload_n hx hb dX0_worthOfLetter_36 rfl (lv_at hl 1 rfl) ?_
        refine lv_bipush (v := nI 18) hx hb dX0_worthOfLetter_37 (by decide) ?_
        refine lv_icmp_gt (tgt := 52) hx hb dX0_worthOfLetter_39 (by decide) (fun c_39 => ?_) (fun c_39 => ?_)
        · skip
          have n_39 : 18 < k := (nI_ltI (a := 18) (b := k) (by omega) (by omega)).mp c_39
          have hE := vA5 _ ho k hk n_5 n_25 (by omega) (by omega)
          refine lv_iload_n hx hb dX0_worthOfLetter_52 rfl (lv_at hl 1 rfl) ?_
          refine lv_bipush (v := nI 18) hx hb dX0_worthOfLetter_53 (by decide) ?_
          refine lv_isub hx hb dX0_worthOfLetter_55 ?_
          refine lv_tn (pk_sub (by omega)) ?_
          refine lv_bipush (v := nI 100) hx hb dX0_worthOfLetter_56 (by decide) ?_
          refine lv_imul hx hb dX0_worthOfLetter_58 ?_
          refine lv_tn (pk_mul _ _) ?_
          exact W.iret hx hb hr (fun t ht hW => ⟨_, rfl, (by show nI ((k - 18) * 100) = nI (vl_ (so cS) k); rw [← hE]), ht⟩) (fun q hq => absurd hq List.not_mem_nil) dX0_worthOfLetter_59
        · skip
          have n_39 : ¬ 18 < k := fun q__ => c_39 ((nI_ltI (a := 18) (b := k) (by omega) (by omega)).mpr q__)
          have hE := vA4 _ ho k hk n_5 n_25 (by omega) (by omega)
          refine lv_iload_n hx hb dX0_worthOfLetter_42 rfl (lv_at hl 1 rfl) ?_
          refine lv_bipush (v := nI 9) hx hb dX0_worthOfLetter_43 (by decide) ?_
          refine lv_isub hx hb dX0_worthOfLetter_45 ?_
          refine lv_tn (pk_sub (by omega)) ?_
          refine lv_bipush (v := nI 10) hx hb dX0_worthOfLetter_46 (by decide) ?_
          refine lv_imul hx hb dX0_worthOfLetter_48 ?_
          refine lv_tn (pk_mul _ _) ?_
          refine lv_goto (tgt := 59) hx hb dX0_worthOfLetter_49 (by decide) ?_
          exact W.iret hx hb hr (fun t ht hW => ⟨_, rfl, (by show nI ((k - 9) * 10) = nI (vl_ (so cS) k); rw [← hE]), ht⟩) (fun q hq => absurd hq List.not_mem_nil) dX0_worthOfLetter_59
      · skip
        have n_31 : ¬ 9 < k := fun q__ => c_31 ((nI_ltI (a := 9) (b := k) (by omega) (by omega)).mpr q__)
        have hE := vA3 _ ho k hk n_5 n_25 (by omega)
        refine lv_iload_n hx hb dX0_worthOfLetter_34 rfl (lv_at hl 1 rfl) ?_
        exact W.iret hx hb hr (fun t ht hW => ⟨_, rfl, (by show nI k = nI (vl_ (so cS) k); rw [← hE]), ht⟩) (fun q hq => absurd hq List.not_mem_nil) dX0_worthOfLetter_35
  · skip
    have n_5 : so cS = 2 := (nI_eq (a := so cS) (b := 2) (by omega) (by omega)).mp c_5
    refine lv_iload_n hx hb dX0_worthOfLetter_8 rfl (lv_at hl 1 rfl) ?_
    refine lv_iload_n hx hb dX0_worthOfLetter_9 rfl (lv_at hl 1 rfl) ?_
    refine lv_imul hx hb dX0_worthOfLetter_10 ?_
    refine lv_tn (pk_mul _ _) ?_
    refine lv_bipush (v := nI 7) hx hb dX0_worthOfLetter_11 (by decide) ?_
    refine lv_imul hx hb dX0_worthOfLetter_13 ?_
    refine lv_tn (pk_mul _ _) ?_
    refine lv_bipush (v := nI 101) hx hb dX0_worthOfLetter_14 (by decide) ?_
    refine lv_irem hx hb dX0_worthOfLetter_16 (by decide) ?_
    refine lv_tn (pk_rem (by omega) (by decide) (by decide)) ?_
    refine lv_iconst (v := nI 1) hx hb dX0_worthOfLetter_17 (by decide) ?_
    refine lv_iadd hx hb dX0_worthOfLetter_18 ?_
    refine lv_tn (nI_add _ _) ?_
    exact W.iret hx hb hr (fun t ht hW => ⟨_, rfl, (by show nI ((((k * k) * 7) % 101) + 1) = nI (vl_ (so cS) k); rw [← vA1 _ ho k hk n_5]), ht⟩) (fun q hq => absurd hq List.not_mem_nil) dX0_worthOfLetter_19
end
section
set_option maxHeartbeats 4000000 in
set_option maxRecDepth 100000 in
theorem c_X0_worthOfPlaces (l : Launch) (B0 : Nat) (g : va_G) (ct ad : Nat → Nat) (cS mS : St_) (x : Ax_) (w mk : Nat) (hw : w < 387420489) (hm : mk < 64) : RI l yX0_worthOfPlaces wsX0_worthOfPlaces 1 (PX B0 g ct ad cS mS x [.ref (ad 0), .int (nI w), .int (nI mk)]) (nI (wm_ (so cS) w mk)) := by
  refine Met.ofW (cc := cX0_worthOfPlaces) (maxL := 6) (ret := (some .int)) (by decide) rfl ?_
  intro p e s m args below meth c s₁ B hml hv
  obtain ⟨rfl, hC⟩ := hv
  have hx := B.exec
  have hb := B.bytes
  have hr := B.returns
  have hts := atoms_spec (ws := wsX0_worthOfPlaces) B.pre
  have hown : s.vm.findClass RX0 = some m.cls := findClass_of_methodNamed B.named
  have hlocks := B.notSynchronized
  have hin : ∀ w ∈ wsX00, w ∈ wsX0_worthOfPlaces := fun _ h => List.mem_cons_of_mem _ (List.mem_append_right _ h)
  have h6 := ln_le hw
  have hl := lv_entry ([.ref (ad 0), .int (nI w), .int (nI mk)]) (n := 6) (Nat.le_of_ble_eq_true rfl)
  rw [lg_entry_eq]
  generalize (lg_sl ([.ref (ad 0), .int (nI w), .int (nI mk)]) ++ List.replicate (6 - (lg_sl ([.ref (ad 0), .int (nI w), .int (nI mk)])).length) Slot.unset).toArray = ls at hl ⊢
  have hl : lv_has ls 6 [(0, .ref (ad 0)), (1, .int (nI w)), (2, .int (nI mk))] := hl
  refine lv_iconst (v := nI 0) hx hb dX0_worthOfPlaces_0 (by decide) ?_
  refine lv_istore_n (lv' := [(3, .int (nI 0)), (0, .ref (ad 0)), (1, .int (nI w)), (2, .int (nI mk))]) hx hb dX0_worthOfPlaces_1 rfl hl (by decide) rfl (fun ls hl => ?_)
  refine lv_iload_n hx hb dX0_worthOfPlaces_2 rfl (lv_at hl 2 rfl) ?_
  refine lv_istore (lv' := [(4, .int (nI w)), (3, .int (nI 0)), (0, .ref (ad 0)), (1, .int (nI w)), (2, .int (nI mk))]) hx hb dX0_worthOfPlaces_3 hl (by decide) rfl (fun ls hl => ?_)
  refine lv_iload_n hx hb dX0_worthOfPlaces_5 rfl (lv_at hl 3 rfl) ?_
  refine k_pS (As := [.int (nI w)]) (rest := []) (c_X0_lengthOf l w (by omega)) ⟨hx, hb, hml, hown, hts⟩ (va_cwS 1 hts gX0_worthOfPlaces_X0_lengthOf rfl rfl rfl (by decide +kernel) ⟨Nat.le_of_ble_eq_true rfl, Nat.le_of_ble_eq_true rfl⟩) rfl hl.1 rfl (Nat.le_of_ble_eq_true rfl) dX0_worthOfPlaces_6 ⟨Nat.le_of_ble_eq_true rfl, Nat.le_of_ble_eq_true rfl⟩ ?_
  refine lv_iconst (v := nI 1) hx hb dX0_worthOfPlaces_9 (by decide) ?_
  refine lv_isub hx hb dX0_worthOfPlaces_10 ?_
  refine lv_istore (lv' := [(5, .int ((nI (ln_ w)) - (nI 1))), (4, .int (nI w)), (3, .int (nI 0)), (0, .ref (ad 0)), (1, .int (nI w)), (2, .int (nI mk))]) hx hb dX0_worthOfPlaces_11 hl (by decide) rfl (fun ls hl => ?_)
  have LP_13 : ∀ (n_ : Nat) (t : Nat) (r : Nat) (p1 : Nat), p1 < n_ → t + wq_ (so cS) w mk p1 = wm_ (so cS) w mk → r = w / 27 ^ (ln_ w - p1) → p1 ≤ ln_ w → ∀ ls : Array Slot, lv_has ls 6 [(5, .int (nI p1 - nI 1)), (4, .int (nI r)), (3, .int (nI t)), (0, .ref (ad 0)), (1, .int (nI w)), (2, .int (nI mk))] → W p l e (headSpec wsX0_worthOfPlaces (rm_ 1 0 0)).room s m ([.ref (ad 0), .int (nI w), .int (nI mk)] : List Value).toArray below meth c s.heap [] 0 0 (MQ below (vp_Si (fun r => r = nI (wm_ (so cS) w mk))) ([.ref (ad 0), .int (nI w), .int (nI mk)] : List Value).toArray s 0 0 (fun _ => False)) (F0 m 13 ls []) := by
    intro n_
    induction n_ with
    | zero => intro t r p1 hm; exact absurd hm (Nat.not_lt_zero _)
    | succ n_ ih_13 =>
      intro t r p1 hm ht hr_ hp ls hl
      have hrb : r < 387420489 := by rw [hr_]; exact Nat.lt_of_le_of_lt (Nat.div_le_self _ _) hw
      refine lv_iload hx hb dX0_worthOfPlaces_13 (lv_at hl 0 rfl) ?_
      refine lv_if_lt (tgt := 52) hx hb dX0_worthOfPlaces_15 (by decide) (fun c_15 => ?_) (fun c_15 => ?_)
      · skip
        have n_15 : p1 = 0 := (pm_ (by omega)).mp c_15
        have hE : t = wm_ (so cS) w mk := by rw [n_15] at ht; exact ht
        refine lv_iload_n hx hb dX0_worthOfPlaces_52 rfl (lv_at hl 2 rfl) ?_
        exact W.iret hx hb hr (fun t ht hW => ⟨_, rfl, (congrArg nI hE), ht⟩) (fun q hq => absurd hq List.not_mem_nil) dX0_worthOfPlaces_53
      · skip
        have n_15 : ¬ p1 = 0 := fun q => c_15 ((pm_ (by omega)).mpr q)
        have hl : lv_has ls 6 [(5, .int (nI (p1 - 1))), (4, .int (nI r)), (3, .int (nI t)), (0, .ref (ad 0)), (1, .int (nI w)), (2, .int (nI mk))] := (by rw [pk_sub (show 1 ≤ p1 by omega)] at hl; exact hl)
        refine lv_iload_n hx hb dX0_worthOfPlaces_18 rfl (lv_at hl 5 rfl) ?_
        refine lv_iload hx hb dX0_worthOfPlaces_19 (lv_at hl 0 rfl) ?_
        refine k_pS (As := [.int (nI mk), .int (nI (p1 - 1))]) (rest := []) (c_X0_isMarked l mk (p1 - 1) (by omega) (by omega)) ⟨hx, hb, hml, hown, hts⟩ (va_cwS 2 hts gX0_worthOfPlaces_X0_isMarked rfl rfl rfl (by decide +kernel) ⟨Nat.le_of_ble_eq_true rfl, Nat.le_of_ble_eq_true rfl⟩) rfl hl.1 rfl (Nat.le_of_ble_eq_true rfl) dX0_worthOfPlaces_21 ⟨Nat.le_of_ble_eq_true rfl, Nat.le_of_ble_eq_true rfl⟩ ?_
        refine lv_if_eq (tgt := 39) hx hb dX0_worthOfPlaces_24 (by decide) (fun c_24 => ?_) (fun c_24 => ?_)
        · skip
          have n_24 := b2_0.mp c_24
          refine lv_iload hx hb dX0_worthOfPlaces_39 (lv_at hl 1 rfl) ?_
          refine lv_bipush (v := nI 27) hx hb dX0_worthOfPlaces_41 (by decide) ?_
          refine lv_idiv hx hb dX0_worthOfPlaces_43 (by decide) ?_
          refine lv_tn (pk_div (by omega) (by decide) (by decide)) ?_
          refine lv_istore (lv' := [(4, .int (nI (r / 27))), (5, .int (nI (p1 - 1))), (3, .int (nI t)), (0, .ref (ad 0)), (1, .int (nI w)), (2, .int (nI mk))]) hx hb dX0_worthOfPlaces_44 hl (by decide) rfl (fun ls hl => ?_)
          refine lv_iinc (v := nI (p1 - 1) - nI 1) (lv' := [(5, .int (nI (p1 - 1) - nI 1)), (4, .int (nI (r / 27))), (3, .int (nI t)), (0, .ref (ad 0)), (1, .int (nI w)), (2, .int (nI mk))]) hx hb dX0_worthOfPlaces_46 hl (k := 1) rfl (im1_ _) (by decide) rfl (fun ls hl => ?_)
          refine lv_goto (tgt := 13) hx hb dX0_worthOfPlaces_49 (by decide) ?_
          exact ih_13 t (r / 27) (p1 - 1) (by omega) (by first | (have h9 := wq_t (o := so cS) (w := w) (m := mk) (p := p1) (by omega) n_24; omega) | (have h9 := wq_f (o := so cS) (w := w) (m := mk) (p := p1) (by omega) n_24; omega)) (by rw [hr_, dv_, show ln_ w - p1 + 1 = ln_ w - (p1 - 1) by omega]) (by omega) ls (lv_sub hl [0, 1, 2, 3, 4, 5] rfl)
        · skip
          have n_24 := b2_ne c_24
          refine lv_iload_n hx hb dX0_worthOfPlaces_27 rfl (lv_at hl 2 rfl) ?_
          refine lv_aload_n hx hb dX0_worthOfPlaces_28 rfl (lv_at hl 3 rfl) ?_
          refine lv_iload hx hb dX0_worthOfPlaces_29 (lv_at hl 1 rfl) ?_
          refine lv_bipush (v := nI 27) hx hb dX0_worthOfPlaces_31 (by decide) ?_
          refine lv_irem hx hb dX0_worthOfPlaces_33 (by decide) ?_
          refine lv_tn (pk_rem (by omega) (by decide) (by decide)) ?_
          refine lv_tn (w := nI (at_ w (p1 - 1))) (by unfold at_; rw [hr_, show ln_ w - 1 - (p1 - 1) = ln_ w - p1 by omega]) ?_
          refine k_rV (As := [.int (nI (at_ w (p1 - 1)))]) (rest := [.int (nI t)]) (c_X0_worthOfLetter l B0 g ct ad cS mS x (at_ w (p1 - 1)) (at_lt _ _)) hC ⟨hx, hb, hml, hown, hts⟩ (cwV 1 hts gX0_worthOfPlaces_X0_worthOfLetter rfl rfl rfl (by decide +kernel) ⟨Nat.le_of_ble_eq_true rfl, Nat.le_of_ble_eq_true rfl⟩) (rc0 hC) rfl hl.1 rfl (Nat.le_of_ble_eq_true rfl) dX0_worthOfPlaces_34 ⟨Nat.le_of_ble_eq_true rfl, Nat.le_of_ble_eq_true rfl⟩ ?_
          refine lv_iadd hx hb dX0_worthOfPlaces_37 ?_
          refine lv_tn (nI_add _ _) ?_
          refine lv_istore_n (lv' := [(3, .int (nI (t + (vl_ (so cS) (at_ w (p1 - 1)))))), (5, .int (nI (p1 - 1))), (4, .int (nI r)), (0, .ref (ad 0)), (1, .int (nI w)), (2, .int (nI mk))]) hx hb dX0_worthOfPlaces_38 rfl hl (by decide) rfl (fun ls hl => ?_)
          refine lv_iload hx hb dX0_worthOfPlaces_39 (lv_at hl 2 rfl) ?_
          refine lv_bipush (v := nI 27) hx hb dX0_worthOfPlaces_41 (by decide) ?_
          refine lv_idiv hx hb dX0_worthOfPlaces_43 (by decide) ?_
          refine lv_tn (pk_div (by omega) (by decide) (by decide)) ?_
          refine lv_istore (lv' := [(4, .int (nI (r / 27))), (3, .int (nI (t + (vl_ (so cS) (at_ w (p1 - 1)))))), (5, .int (nI (p1 - 1))), (0, .ref (ad 0)), (1, .int (nI w)), (2, .int (nI mk))]) hx hb dX0_worthOfPlaces_44 hl (by decide) rfl (fun ls hl => ?_)
          refine lv_iinc (v := nI (p1 - 1) - nI 1) (lv' := [(5, .int (nI (p1 - 1) - nI 1)), (4, .int (nI (r / 27))), (3, .int (nI (t + (vl_ (so cS) (at_ w (p1 - 1)))))), (0, .ref (ad 0)), (1, .int (nI w)), (2, .int (nI mk))]) hx hb dX0_worthOfPlaces_46 hl (k := 2) rfl (im1_ _) (by decide) rfl (fun ls hl => ?_)
          refine lv_goto (tgt := 13) hx hb dX0_worthOfPlaces_49 (by decide) ?_
          exact ih_13 (t + (vl_ (so cS) (at_ w (p1 - 1)))) (r / 27) (p1 - 1) (by omega) (by first | (have h9 := wq_t (o := so cS) (w := w) (m := mk) (p := p1) (by omega) n_24; omega) | (have h9 := wq_f (o := so cS) (w := w) (m := mk) (p := p1) (by omega) n_24; omega)) (by rw [hr_, dv_, show ln_ w - p1 + 1 = ln_ w - (p1 - 1) by omega]) (by omega) ls (lv_sub hl [0, 1, 2, 3, 4, 5] rfl)
  exact LP_13 _ 0 w (ln_ w) (Nat.lt_succ_self _) (Nat.zero_add _) (by rw [Nat.sub_self]; simp) (Nat.le_refl _) ls (lv_sub hl [0, 1, 2, 3, 4, 5] rfl)
set_option maxHeartbeats 4000000 in
set_option maxRecDepth 100000 in
theorem c_X0_timesIn (l : Launch) (w xl : Nat) (hw : w < 387420489) (hx_ : xl < 27) : RI l yX0_timesIn wsX0_timesIn 0 (va_Pc [.int (nI w), .int (nI xl)] (fun _ => True)) (nI (oc_ w xl)) := by
  refine Met.ofW (cc := cX0_timesIn) (maxL := 5) (ret := (some .int)) (by decide) rfl ?_
  intro p e s m args below meth c s₁ B hml hv
  obtain ⟨rfl, -⟩ := hv
  have hx := B.exec
  have hb := B.bytes
  have hr := B.returns
  have hts := atoms_spec (ws := wsX0_timesIn) B.pre
  have hown : s.vm.findClass RX0 = some m.cls := findClass_of_methodNamed B.named
  have hlocks := B.notSynchronized
  have hl := lv_entry ([.int (nI w), .int (nI xl)]) (n := 5) (Nat.le_of_ble_eq_true rfl)
  rw [lg_entry_eq]
  generalize (lg_sl ([.int (nI w), .int (nI xl)]) ++ List.replicate (5 - (lg_sl ([.int (nI w), .int (nI xl)])).length) Slot.unset).toArray = ls at hl ⊢
  have hl : lv_has ls 5 [(0, .int (nI w)), (1, .int (nI xl))] := hl
  refine lv_iconst (v := nI 0) hx hb dX0_timesIn_0 (by decide) ?_
  refine lv_istore_n (lv' := [(2, .int (nI 0)), (0, .int (nI w)), (1, .int (nI xl))]) hx hb dX0_timesIn_1 rfl hl (by decide) rfl (fun ls hl => ?_)
  refine lv_iload_n hx hb dX0_timesIn_2 rfl (lv_at hl 1 rfl) ?_
  refine lv_istore_n (lv' := [(3, .int (nI w)), (2, .int (nI 0)), (0, .int (nI w)), (1, .int (nI xl))]) hx hb dX0_timesIn_3 rfl hl (by decide) rfl (fun ls hl => ?_)
  refine lv_iconst (v := nI 0) hx hb dX0_timesIn_4 (by decide) ?_
  refine lv_istore (lv' := [(4, .int (nI 0)), (3, .int (nI w)), (2, .int (nI 0)), (0, .int (nI w)), (1, .int (nI xl))]) hx hb dX0_timesIn_5 hl (by decide) rfl (fun ls hl => ?_)
  have LP_7 : ∀ (n_ : Nat) (t : Nat) (r : Nat) (k : Nat), 6 - k < n_ → t = qs_ (of_ w xl) k → r = w / 27 ^ k → k ≤ 6 → ∀ ls : Array Slot, lv_has ls 5 [(4, .int (nI k)), (3, .int (nI r)), (2, .int (nI t)), (0, .int (nI w)), (1, .int (nI xl))] → W p l e (headSpec wsX0_timesIn (rm_ 0 0 0)).room s m ([.int (nI w), .int (nI xl)] : List Value).toArray below meth c s.heap [] 0 0 (MQ below (vp_Si (fun r => r = nI (oc_ w xl))) ([.int (nI w), .int (nI xl)] : List Value).toArray s 0 0 (fun _ => False)) (F0 m 7 ls []) := by
    intro n_
    induction n_ with
    | zero => intro t r k hm; exact absurd hm (Nat.not_lt_zero _)
    | succ n_ ih_7 =>
      intro t r k hm ht hr_ hk ls hl
      have hrb : r < 387420489 := by rw [hr_]; exact Nat.lt_of_le_of_lt (Nat.div_le_self _ _) hw
      refine lv_iload hx hb dX0_timesIn_7 (lv_at hl 0 rfl) ?_
      refine lv_bipush (v := nI 6) hx hb dX0_timesIn_9 (by decide) ?_
      refine lv_icmp_ge (tgt := 36) hx hb dX0_timesIn_11 (by decide) (fun c_11 => ?_) (fun c_11 => ?_)
      · skip
        have n_11 : 6 ≤ k := (nI_leI (a := 6) (b := k) (by omega) (by omega)).mp c_11
        have hE : t = oc_ w xl := by rw [ht, show k = 6 by omega]; rfl
        refine lv_iload_n hx hb dX0_timesIn_36 rfl (lv_at hl 2 rfl) ?_
        exact W.iret hx hb hr (fun t ht hW => ⟨_, rfl, (congrArg nI hE), ht⟩) (fun q hq => absurd hq List.not_mem_nil) dX0_timesIn_37
      · skip
        have n_11 : ¬ 6 ≤ k := fun q__ => c_11 ((nI_leI (a := 6) (b := k) (by omega) (by omega)).mpr q__)
        refine lv_iload_n hx hb dX0_timesIn_14 rfl (lv_at hl 1 rfl) ?_
        refine lv_bipush (v := nI 27) hx hb dX0_timesIn_15 (by decide) ?_
        refine lv_irem hx hb dX0_timesIn_17 (by decide) ?_
        refine lv_tn (pk_rem (by omega) (by decide) (by decide)) ?_
        refine lv_iload_n hx hb dX0_timesIn_18 rfl (lv_at hl 4 rfl) ?_
        refine lv_icmp_ne (tgt := 25) hx hb dX0_timesIn_19 (by decide) (fun c_19 => ?_) (fun c_19 => ?_)
        · skip
          have n_19 : ¬ r % 27 = xl := fun q__ => c_19 ((nI_eq (a := r % 27) (b := xl) (by omega) (by omega)).mpr q__)
          refine lv_iload_n hx hb dX0_timesIn_25 rfl (lv_at hl 1 rfl) ?_
          refine lv_bipush (v := nI 27) hx hb dX0_timesIn_26 (by decide) ?_
          refine lv_idiv hx hb dX0_timesIn_28 (by decide) ?_
          refine lv_tn (pk_div (by omega) (by decide) (by decide)) ?_
          refine lv_istore_n (lv' := [(3, .int (nI (r / 27))), (4, .int (nI k)), (2, .int (nI t)), (0, .int (nI w)), (1, .int (nI xl))]) hx hb dX0_timesIn_29 rfl hl (by decide) rfl (fun ls hl => ?_)
          refine lv_iinc (v := nI (k + 1)) (lv' := [(4, .int (nI (k + 1))), (3, .int (nI (r / 27))), (2, .int (nI t)), (0, .int (nI w)), (1, .int (nI xl))]) hx hb dX0_timesIn_30 hl (k := 1) rfl (nI_1 _) (by decide) rfl (fun ls hl => ?_)
          refine lv_goto (tgt := 7) hx hb dX0_timesIn_33 (by decide) ?_
          exact ih_7 t (r / 27) (k + 1) (by omega) (by first | rw [of_t (show w / 27 ^ k % 27 = xl by rw [← hr_]; exact n_19), ht] | rw [of_f (show ¬ w / 27 ^ k % 27 = xl by rw [← hr_]; exact n_19), ht]) (by rw [hr_, dv_]) (by omega) ls (lv_sub hl [0, 1, 2, 3, 4] rfl)
        · skip
          have n_19 : r % 27 = xl := (nI_eq (a := r % 27) (b := xl) (by omega) (by omega)).mp c_19
          refine lv_iinc (v := nI (t + 1)) (lv' := [(2, .int (nI (t + 1))), (4, .int (nI k)), (3, .int (nI r)), (0, .int (nI w)), (1, .int (nI xl))]) hx hb dX0_timesIn_22 hl (k := 2) rfl (nI_1 _) (by decide) rfl (fun ls hl => ?_)
          refine lv_iload_n hx hb dX0_timesIn_25 rfl (lv_at hl 2 rfl) ?_
          refine lv_bipush (v := nI 27) hx hb dX0_timesIn_26 (by decide) ?_
          refine lv_idiv hx hb dX0_timesIn_28 (by decide) ?_
          refine lv_tn (pk_div (by omega) (by decide) (by decide)) ?_
          refine lv_istore_n (lv' := [(3, .int (nI (r / 27))), (2, .int (nI (t + 1))), (4, .int (nI k)), (0, .int (nI w)), (1, .int (nI xl))]) hx hb dX0_timesIn_29 rfl hl (by decide) rfl (fun ls hl => ?_)
          refine lv_iinc (v := nI (k + 1)) (lv' := [(4, .int (nI (k + 1))), (3, .int (nI (r / 27))), (2, .int (nI (t + 1))), (0, .int (nI w)), (1, .int (nI xl))]) hx hb dX0_timesIn_30 hl (k := 2) rfl (nI_1 _) (by decide) rfl (fun ls hl => ?_)
          refine lv_goto (tgt := 7) hx hb dX0_timesIn_33 (by decide) ?_
          exact ih_7 (t + 1) (r / 27) (k + 1) (by omega) (by first | rw [of_t (show w / 27 ^ k % 27 = xl by rw [← hr_]; exact n_19), ht] | rw [of_f (show ¬ w / 27 ^ k % 27 = xl by rw [← hr_]; exact n_19), ht]) (by rw [hr_, dv_]) (by omega) ls (lv_sub hl [0, 1, 2, 3, 4] rfl)
  exact LP_7 _ 0 w 0 (Nat.lt_succ_self _) rfl (by simp) (by omega) ls (lv_sub hl [0, 1, 2, 3, 4] rfl)
set_option maxHeartbeats 4000000 in
set_option maxRecDepth 100000 in
theorem c_X0_isWord_a (l : Launch) (w : Int32) (hle : w ≤ 0) : RI l yX0_isWord wsX0_isWord 0 (va_Pc [.int w] (fun _ => True)) (b2_ (wd_ w)) := by
  refine Met.ofW (cc := cX0_isWord) (maxL := 3) (ret := (some .boolean)) (by decide) rfl ?_
  intro p e s m args below meth c s₁ B hml hv
  obtain ⟨rfl, -⟩ := hv
  have hx := B.exec
  have hb := B.bytes
  have hr := B.returns
  have hts := atoms_spec (ws := wsX0_isWord) B.pre
  have hown : s.vm.findClass RX0 = some m.cls := findClass_of_methodNamed B.named
  have hlocks := B.notSynchronized
  have hE := wd_0 hle
  have hl := lv_entry ([.int w]) (n := 3) (Nat.le_of_ble_eq_true rfl)
  rw [lg_entry_eq]
  generalize (lg_sl ([.int w]) ++ List.replicate (3 - (lg_sl ([.int w])).length) Slot.unset).toArray = ls at hl ⊢
  have hl : lv_has ls 3 [(0, .int w)] := hl
  refine lv_iload_n hx hb dX0_isWord_0 rfl (lv_at hl 0 rfl) ?_
  refine lv_if_le (tgt := 10) hx hb dX0_isWord_1 (by decide) (fun c_1 => ?_) (fun c_1 => ?_)
  · skip
    refine lv_iconst (v := nI 0) hx hb dX0_isWord_10 (by decide) ?_
    exact W.zret hx hb hr rfl (fun t ht hW => ⟨_, rfl, (by show nI 0 = b2_ (wd_ w); rw [hE]; rfl), ht⟩) (fun q hq => absurd hq List.not_mem_nil) dX0_isWord_11
  · skip
    exact absurd hle c_1
set_option maxHeartbeats 4000000 in
set_option maxRecDepth 100000 in
theorem c_X0_isWord_b (l : Launch) (n : Nat) (h0 : 0 < n) (hn : n < 2 ^ 31) : RI l yX0_isWord wsX0_isWord 0 (va_Pc [.int (nI n)] (fun _ => True)) (b2_ (iw_ n)) := by
  refine Met.ofW (cc := cX0_isWord) (maxL := 3) (ret := (some .boolean)) (by decide) rfl ?_
  intro p e s m args below meth c s₁ B hml hv
  obtain ⟨rfl, -⟩ := hv
  have hx := B.exec
  have hb := B.bytes
  have hr := B.returns
  have hts := atoms_spec (ws := wsX0_isWord) B.pre
  have hown : s.vm.findClass RX0 = some m.cls := findClass_of_methodNamed B.named
  have hlocks := B.notSynchronized
  have hl := lv_entry ([.int (nI n)]) (n := 3) (Nat.le_of_ble_eq_true rfl)
  rw [lg_entry_eq]
  generalize (lg_sl ([.int (nI n)]) ++ List.replicate (3 - (lg_sl ([.int (nI n)])).length) Slot.unset).toArray = ls at hl ⊢
  have hl : lv_has ls 3 [(0, .int (nI n))] := hl
  refine lv_iload_n hx hb dX0_isWord_0 rfl (lv_at hl 0 rfl) ?_
  refine lv_if_le (tgt := 10) hx hb dX0_isWord_1 (by decide) (fun c_1 => ?_) (fun c_1 => ?_)
  · skip
    have n_1 : n = 0 := (nle0_ (by omega)).mp c_1
    exact absurd n_1 (by omega)
  · skip
    have n_1 : 0 < n := Nat.pos_of_ne_zero (fun q__ => c_1 ((nle0_ (by omega)).mpr q__))
    refine lv_iload_n hx hb dX0_isWord_4 rfl (lv_at hl 0 rfl) ?_
    refine lv_ldc hx hb hown (hts (.constant RX0 150 (387420489)) (by decide +kernel)) dX0_isWord_5 ?_
    refine lv_tn (w := nI 387420489) (by decide) ?_
    refine lv_icmp_lt (tgt := 12) hx hb dX0_isWord_7 (by decide) (fun c_7 => ?_) (fun c_7 => ?_)
    · skip
      have n_7 : n < 387420489 := (nI_ltI (a := n) (b := 387420489) (by omega) (by omega)).mp c_7
      refine lv_iload_n hx hb dX0_isWord_12 rfl (lv_at hl 0 rfl) ?_
      refine lv_istore_n (lv' := [(1, .int (nI n)), (0, .int (nI n))]) hx hb dX0_isWord_13 rfl hl (by decide) rfl (fun ls hl => ?_)
      refine lv_iconst (v := nI 0) hx hb dX0_isWord_14 (by decide) ?_
      refine lv_istore_n (lv' := [(2, .int (nI 0)), (1, .int (nI n)), (0, .int (nI n))]) hx hb dX0_isWord_15 rfl hl (by decide) rfl (fun ls hl => ?_)
      have LP_16 : ∀ (n_ : Nat) (k : Nat) (r : Nat), 6 - k < n_ → nz_ (7 - k) r = nz_ 7 n → r < 27 ^ (6 - k) → k ≤ 6 → r ≤ n → ∀ ls : Array Slot, lv_has ls 3 [(2, .int (nI k)), (1, .int (nI r)), (0, .int (nI n))] → W p l e (headSpec wsX0_isWord (rm_ 0 0 0)).room s m ([.int (nI n)] : List Value).toArray below meth c s.heap [] 0 0 (MQ below (vp_Si (fun r => r = b2_ (iw_ n))) ([.int (nI n)] : List Value).toArray s 0 0 (fun _ => False)) (F0 m 16 ls []) := by
        intro n_
        induction n_ with
        | zero => intro k r hm; exact absurd hm (Nat.not_lt_zero _)
        | succ n_ ih_16 =>
          intro k r hm h1 h2 hk hr_ ls hl
          refine lv_iload_n hx hb dX0_isWord_16 rfl (lv_at hl 0 rfl) ?_
          refine lv_bipush (v := nI 6) hx hb dX0_isWord_17 (by decide) ?_
          refine lv_icmp_ge (tgt := 46) hx hb dX0_isWord_19 (by decide) (fun c_19 => ?_) (fun c_19 => ?_)
          · skip
            have n_19 : 6 ≤ k := (nI_leI (a := 6) (b := k) (by omega) (by omega)).mp c_19
            have hr0 : r = 0 := by rw [show k = 6 by omega] at h2; simpa using h2
            have hE : iw_ n = true := iw_y h0 n_7 (by rw [← h1, hr0, nz_0])
            refine lv_iconst (v := nI 1) hx hb dX0_isWord_46 (by decide) ?_
            exact W.zret hx hb hr rfl (fun t ht hW => ⟨_, rfl, (by show nI 1 = b2_ (iw_ n); rw [hE]; rfl), ht⟩) (fun q hq => absurd hq List.not_mem_nil) dX0_isWord_47
          · skip
            have n_19 : ¬ 6 ≤ k := fun q__ => c_19 ((nI_leI (a := 6) (b := k) (by omega) (by omega)).mpr q__)
            refine lv_iload_n hx hb dX0_isWord_22 rfl (lv_at hl 1 rfl) ?_
            refine lv_if_le (tgt := 46) hx hb dX0_isWord_23 (by decide) (fun c_23 => ?_) (fun c_23 => ?_)
            · skip
              have n_23 : r = 0 := (nle0_ (by omega)).mp c_23
              have hE : iw_ n = true := iw_y h0 n_7 (by rw [← h1, n_23, nz_0])
              refine lv_iconst (v := nI 1) hx hb dX0_isWord_46 (by decide) ?_
              exact W.zret hx hb hr rfl (fun t ht hW => ⟨_, rfl, (by show nI 1 = b2_ (iw_ n); rw [hE]; rfl), ht⟩) (fun q hq => absurd hq List.not_mem_nil) dX0_isWord_47
            · skip
              have n_23 : 0 < r := Nat.pos_of_ne_zero (fun q__ => c_23 ((nle0_ (by omega)).mpr q__))
              refine lv_iload_n hx hb dX0_isWord_26 rfl (lv_at hl 1 rfl) ?_
              refine lv_bipush (v := nI 27) hx hb dX0_isWord_27 (by decide) ?_
              refine lv_irem hx hb dX0_isWord_29 (by decide) ?_
              refine lv_tn (pk_rem (by omega) (by decide) (by decide)) ?_
              refine lv_if_ne (tgt := 35) hx hb dX0_isWord_30 (by decide) (fun c_30 => ?_) (fun c_30 => ?_)
              · skip
                have n_30 : ¬ r % 27 = 0 := fun q__ => c_30 ((eq0_ (by omega)).mpr q__)
                refine lv_iload_n hx hb dX0_isWord_35 rfl (lv_at hl 1 rfl) ?_
                refine lv_bipush (v := nI 27) hx hb dX0_isWord_36 (by decide) ?_
                refine lv_idiv hx hb dX0_isWord_38 (by decide) ?_
                refine lv_tn (pk_div (by omega) (by decide) (by decide)) ?_
                refine lv_istore_n (lv' := [(1, .int (nI (r / 27))), (2, .int (nI k)), (0, .int (nI n))]) hx hb dX0_isWord_39 rfl hl (by decide) rfl (fun ls hl => ?_)
                refine lv_iinc (v := nI (k + 1)) (lv' := [(2, .int (nI (k + 1))), (1, .int (nI (r / 27))), (0, .int (nI n))]) hx hb dX0_isWord_40 hl (k := 1) rfl (nI_1 _) (by decide) rfl (fun ls hl => ?_)
                refine lv_goto (tgt := 16) hx hb dX0_isWord_43 (by decide) ?_
                exact ih_16 (k + 1) (r / 27) (by omega) (by rw [← h1, show 7 - k = (7 - (k + 1)) + 1 by omega, nz_y (by omega) n_30]) (pw_ (by omega) h2) (by omega) (by omega) ls (lv_sub hl [0, 1, 2] rfl)
              · skip
                have n_30 : r % 27 = 0 := (eq0_ (by omega)).mp c_30
                have hz : nz_ 7 n = false := by rw [← h1, show 7 - k = (6 - k) + 1 by omega, nz_n (by omega) n_30]
                have hE : iw_ n = false := iw_n hz
                refine lv_iconst (v := nI 0) hx hb dX0_isWord_33 (by decide) ?_
                exact W.zret hx hb hr rfl (fun t ht hW => ⟨_, rfl, (by show nI 0 = b2_ (iw_ n); rw [hE]; rfl), ht⟩) (fun q hq => absurd hq List.not_mem_nil) dX0_isWord_34
      exact LP_16 _ 0 n (Nat.lt_succ_self _) rfl (by show n < 27 ^ 6; omega) (by omega) (by omega) ls (lv_sub hl [0, 1, 2] rfl)
    · skip
      have n_7 : ¬ n < 387420489 := fun q__ => c_7 ((nI_ltI (a := n) (b := 387420489) (by omega) (by omega)).mpr q__)
      have hE : iw_ n = false := iw_b n_7
      refine lv_iconst (v := nI 0) hx hb dX0_isWord_10 (by decide) ?_
      exact W.zret hx hb hr rfl (fun t ht hW => ⟨_, rfl, (by show nI 0 = b2_ (iw_ n); rw [hE]; rfl), ht⟩) (fun q hq => absurd hq List.not_mem_nil) dX0_isWord_11
theorem c_X0_isWord (l : Launch) (w : Int32) : RI l yX0_isWord wsX0_isWord 0 (va_Pc [.int w] (fun _ => True)) (b2_ (wd_ w)) := by
  by_cases h : w ≤ 0
  · exact c_X0_isWord_a l w h
  · obtain ⟨n, hn, rfl⟩ := nI_of (x := w) (fun z => h (Int32.le_of_lt z))
    have h0 : 0 < n := (gt0_ hn).mp (gt_i h)
    rw [wd_n hn]
    exact c_X0_isWord_b l n h0 hn
theorem bc_ : ∀ mk, mk < 64 → ((((((((nI mk) - ((((nI mk).toUInt32 >>> ((nI 1).toUInt32 &&& Int32.toUInt32 31)).toInt32) &&& (nI 1431655765))) &&& (nI 858993459)) + (((((nI mk) - ((((nI mk).toUInt32 >>> ((nI 1).toUInt32 &&& Int32.toUInt32 31)).toInt32) &&& (nI 1431655765))).toUInt32 >>> ((nI 2).toUInt32 &&& Int32.toUInt32 31)).toInt32) &&& (nI 858993459))) + ((((((nI mk) - ((((nI mk).toUInt32 >>> ((nI 1).toUInt32 &&& Int32.toUInt32 31)).toInt32) &&& (nI 1431655765))) &&& (nI 858993459)) + (((((nI mk) - ((((nI mk).toUInt32 >>> ((nI 1).toUInt32 &&& Int32.toUInt32 31)).toInt32) &&& (nI 1431655765))).toUInt32 >>> ((nI 2).toUInt32 &&& Int32.toUInt32 31)).toInt32) &&& (nI 858993459))).toUInt32 >>> ((nI 4).toUInt32 &&& Int32.toUInt32 31)).toInt32)) &&& (nI 252645135)) + ((((((((nI mk) - ((((nI mk).toUInt32 >>> ((nI 1).toUInt32 &&& Int32.toUInt32 31)).toInt32) &&& (nI 1431655765))) &&& (nI 858993459)) + (((((nI mk) - ((((nI mk).toUInt32 >>> ((nI 1).toUInt32 &&& Int32.toUInt32 31)).toInt32) &&& (nI 1431655765))).toUInt32 >>> ((nI 2).toUInt32 &&& Int32.toUInt32 31)).toInt32) &&& (nI 858993459))) + ((((((nI mk) - ((((nI mk).toUInt32 >>> ((nI 1).toUInt32 &&& Int32.toUInt32 31)).toInt32) &&& (nI 1431655765))) &&& (nI 858993459)) + (((((nI mk) - ((((nI mk).toUInt32 >>> ((nI 1).toUInt32 &&& Int32.toUInt32 31)).toInt32) &&& (nI 1431655765))).toUInt32 >>> ((nI 2).toUInt32 &&& Int32.toUInt32 31)).toInt32) &&& (nI 858993459))).toUInt32 >>> ((nI 4).toUInt32 &&& Int32.toUInt32 31)).toInt32)) &&& (nI 252645135)).toUInt32 >>> ((nI 8).toUInt32 &&& Int32.toUInt32 31)).toInt32)) + (((((((((nI mk) - ((((nI mk).toUInt32 >>> ((nI 1).toUInt32 &&& Int32.toUInt32 31)).toInt32) &&& (nI 1431655765))) &&& (nI 858993459)) + (((((nI mk) - ((((nI mk).toUInt32 >>> ((nI 1).toUInt32 &&& Int32.toUInt32 31)).toInt32) &&& (nI 1431655765))).toUInt32 >>> ((nI 2).toUInt32 &&& Int32.toUInt32 31)).toInt32) &&& (nI 858993459))) + ((((((nI mk) - ((((nI mk).toUInt32 >>> ((nI 1).toUInt32 &&& Int32.toUInt32 31)).toInt32) &&& (nI 1431655765))) &&& (nI 858993459)) + (((((nI mk) - ((((nI mk).toUInt32 >>> ((nI 1).toUInt32 &&& Int32.toUInt32 31)).toInt32) &&& (nI 1431655765))).toUInt32 >>> ((nI 2).toUInt32 &&& Int32.toUInt32 31)).toInt32) &&& (nI 858993459))).toUInt32 >>> ((nI 4).toUInt32 &&& Int32.toUInt32 31)).toInt32)) &&& (nI 252645135)) + ((((((((nI mk) - ((((nI mk).toUInt32 >>> ((nI 1).toUInt32 &&& Int32.toUInt32 31)).toInt32) &&& (nI 1431655765))) &&& (nI 858993459)) + (((((nI mk) - ((((nI mk).toUInt32 >>> ((nI 1).toUInt32 &&& Int32.toUInt32 31)).toInt32) &&& (nI 1431655765))).toUInt32 >>> ((nI 2).toUInt32 &&& Int32.toUInt32 31)).toInt32) &&& (nI 858993459))) + ((((((nI mk) - ((((nI mk).toUInt32 >>> ((nI 1).toUInt32 &&& Int32.toUInt32 31)).toInt32) &&& (nI 1431655765))) &&& (nI 858993459)) + (((((nI mk) - ((((nI mk).toUInt32 >>> ((nI 1).toUInt32 &&& Int32.toUInt32 31)).toInt32) &&& (nI 1431655765))).toUInt32 >>> ((nI 2).toUInt32 &&& Int32.toUInt32 31)).toInt32) &&& (nI 858993459))).toUInt32 >>> ((nI 4).toUInt32 &&& Int32.toUInt32 31)).toInt32)) &&& (nI 252645135)).toUInt32 >>> ((nI 8).toUInt32 &&& Int32.toUInt32 31)).toInt32)).toUInt32 >>> ((nI 16).toUInt32 &&& Int32.toUInt32 31)).toInt32)) &&& (nI 63) = nI (qs_ (fun p => if mk.testBit p then 1 else 0) 6) := by decide +kernel
set_option maxHeartbeats 4000000 in
set_option maxRecDepth 100000 in
theorem c_J6_bitCount_0f7a4 (l : Launch) (mk : Nat) (hm : mk < 64) : RI l yJ6_bitCount_0f7a4 wsJ6_bitCount_0f7a4 0 (va_Pc [.int (nI mk)] (fun _ => True)) (nI (qs_ (fun p => if mk.testBit p then 1 else 0) 6)) := by
  refine Met.ofW (cc := cJ6_bitCount_0f7a4) (maxL := 1) (ret := (some .int)) (by decide) rfl ?_
  intro p e s m args below meth c s₁ B hml hv
  obtain ⟨rfl, -⟩ := hv
  have hx := B.exec
  have hb := B.bytes
  have hr := B.returns
  have hts := atoms_spec (ws := wsJ6_bitCount_0f7a4) B.pre
  have hown : s.vm.findClass RJ6 = some m.cls := findClass_of_methodNamed B.named
  have hlocks := B.notSynchronized
  have hl := lv_entry ([.int (nI mk)]) (n := 1) (Nat.le_of_ble_eq_true rfl)
  rw [lg_entry_eq]
  generalize (lg_sl ([.int (nI mk)]) ++ List.replicate (1 - (lg_sl ([.int (nI mk)])).length) Slot.unset).toArray = ls at hl ⊢
  have hl : lv_has ls 1 [(0, .int (nI mk))] := hl
  refine lv_iload_n hx hb dJ6_bitCount_0f7a4_0 rfl (lv_at hl 0 rfl) ?_
  refine lv_iload_n hx hb dJ6_bitCount_0f7a4_1 rfl (lv_at hl 0 rfl) ?_
  refine lv_iconst (v := nI 1) hx hb dJ6_bitCount_0f7a4_2 (by decide) ?_
  refine lv_iushr (v := ((nI mk).toUInt32 >>> ((nI 1).toUInt32 &&& Int32.toUInt32 31)).toInt32) hx hb dJ6_bitCount_0f7a4_3 rfl ?_
  refine lv_ldcw hx hb hown (hts (.constant RJ6 265 (1431655765)) (by decide +kernel)) dJ6_bitCount_0f7a4_4 ?_
  refine lv_tn (w := nI 1431655765) (by decide) ?_
  refine lv_iand hx hb dJ6_bitCount_0f7a4_7 ?_
  refine lv_isub hx hb dJ6_bitCount_0f7a4_8 ?_
  refine lv_istore_n (lv' := [(0, .int ((nI mk) - ((((nI mk).toUInt32 >>> ((nI 1).toUInt32 &&& Int32.toUInt32 31)).toInt32) &&& (nI 1431655765))))]) hx hb dJ6_bitCount_0f7a4_9 rfl hl (by decide) rfl (fun ls hl => ?_)
  refine lv_iload_n hx hb dJ6_bitCount_0f7a4_10 rfl (lv_at hl 0 rfl) ?_
  refine lv_ldcw hx hb hown (hts (.constant RJ6 266 (858993459)) (by decide +kernel)) dJ6_bitCount_0f7a4_11 ?_
  refine lv_tn (w := nI 858993459) (by decide) ?_
  refine lv_iand hx hb dJ6_bitCount_0f7a4_14 ?_
  refine lv_iload_n hx hb dJ6_bitCount_0f7a4_15 rfl (lv_at hl 0 rfl) ?_
  refine lv_iconst (v := nI 2) hx hb dJ6_bitCount_0f7a4_16 (by decide) ?_
  refine lv_iushr (v := (((nI mk) - ((((nI mk).toUInt32 >>> ((nI 1).toUInt32 &&& Int32.toUInt32 31)).toInt32) &&& (nI 1431655765))).toUInt32 >>> ((nI 2).toUInt32 &&& Int32.toUInt32 31)).toInt32) hx hb dJ6_bitCount_0f7a4_17 rfl ?_
  refine lv_ldcw hx hb hown (hts (.constant RJ6 266 (858993459)) (by decide +kernel)) dJ6_bitCount_0f7a4_18 ?_
  refine lv_tn (w := nI 858993459) (by decide) ?_
  refine lv_iand hx hb dJ6_bitCount_0f7a4_21 ?_
  refine lv_iadd hx hb dJ6_bitCount_0f7a4_22 ?_
  refine lv_istore_n (lv' := [(0, .int ((((nI mk) - ((((nI mk).toUInt32 >>> ((nI 1).toUInt32 &&& Int32.toUInt32 31)).toInt32) &&& (nI 1431655765))) &&& (nI 858993459)) + (((((nI mk) - ((((nI mk).toUInt32 >>> ((nI 1).toUInt32 &&& Int32.toUInt32 31)).toInt32) &&& (nI 1431655765))).toUInt32 >>> ((nI 2).toUInt32 &&& Int32.toUInt32 31)).toInt32) &&& (nI 858993459))))]) hx hb dJ6_bitCount_0f7a4_23 rfl hl (by decide) rfl (fun ls hl => ?_)
  refine lv_iload_n hx hb dJ6_bitCount_0f7a4_24 rfl (lv_at hl 0 rfl) ?_
  refine lv_iload_n hx hb dJ6_bitCount_0f7a4_25 rfl (lv_at hl 0 rfl) ?_
  refine lv_iconst (v := nI 4) hx hb dJ6_bitCount_0f7a4_26 (by decide) ?_
  refine lv_iushr (v := (((((nI mk) - ((((nI mk).toUInt32 >>> ((nI 1).toUInt32 &&& Int32.toUInt32 31)).toInt32) &&& (nI 1431655765))) &&& (nI 858993459)) + (((((nI mk) - ((((nI mk).toUInt32 >>> ((nI 1).toUInt32 &&& Int32.toUInt32 31)).toInt32) &&& (nI 1431655765))).toUInt32 >>> ((nI 2).toUInt32 &&& Int32.toUInt32 31)).toInt32) &&& (nI 858993459))).toUInt32 >>> ((nI 4).toUInt32 &&& Int32.toUInt32 31)).toInt32) hx hb dJ6_bitCount_0f7a4_27 rfl ?_
  refine lv_iadd hx hb dJ6_bitCount_0f7a4_28 ?_
  refine lv_ldcw hx hb hown (hts (.constant RJ6 267 (252645135)) (by decide +kernel)) dJ6_bitCount_0f7a4_29 ?_
  refine lv_tn (w := nI 252645135) (by decide) ?_
  refine lv_iand hx hb dJ6_bitCount_0f7a4_32 ?_
  refine lv_istore_n (lv' := [(0, .int ((((((nI mk) - ((((nI mk).toUInt32 >>> ((nI 1).toUInt32 &&& Int32.toUInt32 31)).toInt32) &&& (nI 1431655765))) &&& (nI 858993459)) + (((((nI mk) - ((((nI mk).toUInt32 >>> ((nI 1).toUInt32 &&& Int32.toUInt32 31)).toInt32) &&& (nI 1431655765))).toUInt32 >>> ((nI 2).toUInt32 &&& Int32.toUInt32 31)).toInt32) &&& (nI 858993459))) + ((((((nI mk) - ((((nI mk).toUInt32 >>> ((nI 1).toUInt32 &&& Int32.toUInt32 31)).toInt32) &&& (nI 1431655765))) &&& (nI 858993459)) + (((((nI mk) - ((((nI mk).toUInt32 >>> ((nI 1).toUInt32 &&& Int32.toUInt32 31)).toInt32) &&& (nI 1431655765))).toUInt32 >>> ((nI 2).toUInt32 &&& Int32.toUInt32 31)).toInt32) &&& (nI 858993459))).toUInt32 >>> ((nI 4).toUInt32 &&& Int32.toUInt32 31)).toInt32)) &&& (nI 252645135)))]) hx hb dJ6_bitCount_0f7a4_33 rfl hl (by decide) rfl (fun ls hl => ?_)
  refine lv_iload_n hx hb dJ6_bitCount_0f7a4_34 rfl (lv_at hl 0 rfl) ?_
  refine lv_iload_n hx hb dJ6_bitCount_0f7a4_35 rfl (lv_at hl 0 rfl) ?_
  refine lv_bipush (v := nI 8) hx hb dJ6_bitCount_0f7a4_36 (by decide) ?_
  refine lv_iushr (v := (((((((nI mk) - ((((nI mk).toUInt32 >>> ((nI 1).toUInt32 &&& Int32.toUInt32 31)).toInt32) &&& (nI 1431655765))) &&& (nI 858993459)) + (((((nI mk) - ((((nI mk).toUInt32 >>> ((nI 1).toUInt32 &&& Int32.toUInt32 31)).toInt32) &&& (nI 1431655765))).toUInt32 >>> ((nI 2).toUInt32 &&& Int32.toUInt32 31)).toInt32) &&& (nI 858993459))) + ((((((nI mk) - ((((nI mk).toUInt32 >>> ((nI 1).toUInt32 &&& Int32.toUInt32 31)).toInt32) &&& (nI 1431655765))) &&& (nI 858993459)) + (((((nI mk) - ((((nI mk).toUInt32 >>> ((nI 1).toUInt32 &&& Int32.toUInt32 31)).toInt32) &&& (nI 1431655765))).toUInt32 >>> ((nI 2).toUInt32 &&& Int32.toUInt32 31)).toInt32) &&& (nI 858993459))).toUInt32 >>> ((nI 4).toUInt32 &&& Int32.toUInt32 31)).toInt32)) &&& (nI 252645135)).toUInt32 >>> ((nI 8).toUInt32 &&& Int32.toUInt32 31)).toInt32) hx hb dJ6_bitCount_0f7a4_38 rfl ?_
  refine lv_iadd hx hb dJ6_bitCount_0f7a4_39 ?_
  refine lv_istore_n (lv' := [(0, .int (((((((nI mk) - ((((nI mk).toUInt32 >>> ((nI 1).toUInt32 &&& Int32.toUInt32 31)).toInt32) &&& (nI 1431655765))) &&& (nI 858993459)) + (((((nI mk) - ((((nI mk).toUInt32 >>> ((nI 1).toUInt32 &&& Int32.toUInt32 31)).toInt32) &&& (nI 1431655765))).toUInt32 >>> ((nI 2).toUInt32 &&& Int32.toUInt32 31)).toInt32) &&& (nI 858993459))) + ((((((nI mk) - ((((nI mk).toUInt32 >>> ((nI 1).toUInt32 &&& Int32.toUInt32 31)).toInt32) &&& (nI 1431655765))) &&& (nI 858993459)) + (((((nI mk) - ((((nI mk).toUInt32 >>> ((nI 1).toUInt32 &&& Int32.toUInt32 31)).toInt32) &&& (nI 1431655765))).toUInt32 >>> ((nI 2).toUInt32 &&& Int32.toUInt32 31)).toInt32) &&& (nI 858993459))).toUInt32 >>> ((nI 4).toUInt32 &&& Int32.toUInt32 31)).toInt32)) &&& (nI 252645135)) + ((((((((nI mk) - ((((nI mk).toUInt32 >>> ((nI 1).toUInt32 &&& Int32.toUInt32 31)).toInt32) &&& (nI 1431655765))) &&& (nI 858993459)) + (((((nI mk) - ((((nI mk).toUInt32 >>> ((nI 1).toUInt32 &&& Int32.toUInt32 31)).toInt32) &&& (nI 1431655765))).toUInt32 >>> ((nI 2).toUInt32 &&& Int32.toUInt32 31)).toInt32) &&& (nI 858993459))) + ((((((nI mk) - ((((nI mk).toUInt32 >>> ((nI 1).toUInt32 &&& Int32.toUInt32 31)).toInt32) &&& (nI 1431655765))) &&& (nI 858993459)) + (((((nI mk) - ((((nI mk).toUInt32 >>> ((nI 1).toUInt32 &&& Int32.toUInt32 31)).toInt32) &&& (nI 1431655765))).toUInt32 >>> ((nI 2).toUInt32 &&& Int32.toUInt32 31)).toInt32) &&& (nI 858993459))).toUInt32 >>> ((nI 4).toUInt32 &&& Int32.toUInt32 31)).toInt32)) &&& (nI 252645135)).toUInt32 >>> ((nI 8).toUInt32 &&& Int32.toUInt32 31)).toInt32)))]) hx hb dJ6_bitCount_0f7a4_40 rfl hl (by decide) rfl (fun ls hl => ?_)
  refine lv_iload_n hx hb dJ6_bitCount_0f7a4_41 rfl (lv_at hl 0 rfl) ?_
  refine lv_iload_n hx hb dJ6_bitCount_0f7a4_42 rfl (lv_at hl 0 rfl) ?_
  refine lv_bipush (v := nI 16) hx hb dJ6_bitCount_0f7a4_43 (by decide) ?_
  refine lv_iushr (v := ((((((((nI mk) - ((((nI mk).toUInt32 >>> ((nI 1).toUInt32 &&& Int32.toUInt32 31)).toInt32) &&& (nI 1431655765))) &&& (nI 858993459)) + (((((nI mk) - ((((nI mk).toUInt32 >>> ((nI 1).toUInt32 &&& Int32.toUInt32 31)).toInt32) &&& (nI 1431655765))).toUInt32 >>> ((nI 2).toUInt32 &&& Int32.toUInt32 31)).toInt32) &&& (nI 858993459))) + ((((((nI mk) - ((((nI mk).toUInt32 >>> ((nI 1).toUInt32 &&& Int32.toUInt32 31)).toInt32) &&& (nI 1431655765))) &&& (nI 858993459)) + (((((nI mk) - ((((nI mk).toUInt32 >>> ((nI 1).toUInt32 &&& Int32.toUInt32 31)).toInt32) &&& (nI 1431655765))).toUInt32 >>> ((nI 2).toUInt32 &&& Int32.toUInt32 31)).toInt32) &&& (nI 858993459))).toUInt32 >>> ((nI 4).toUInt32 &&& Int32.toUInt32 31)).toInt32)) &&& (nI 252645135)) + ((((((((nI mk) - ((((nI mk).toUInt32 >>> ((nI 1).toUInt32 &&& Int32.toUInt32 31)).toInt32) &&& (nI 1431655765))) &&& (nI 858993459)) + (((((nI mk) - ((((nI mk).toUInt32 >>> ((nI 1).toUInt32 &&& Int32.toUInt32 31)).toInt32) &&& (nI 1431655765))).toUInt32 >>> ((nI 2).toUInt32 &&& Int32.toUInt32 31)).toInt32) &&& (nI 858993459))) + ((((((nI mk) - ((((nI mk).toUInt32 >>> ((nI 1).toUInt32 &&& Int32.toUInt32 31)).toInt32) &&& (nI 1431655765))) &&& (nI 858993459)) + (((((nI mk) - ((((nI mk).toUInt32 >>> ((nI 1).toUInt32 &&& Int32.toUInt32 31)).toInt32) &&& (nI 1431655765))).toUInt32 >>> ((nI 2).toUInt32 &&& Int32.toUInt32 31)).toInt32) &&& (nI 858993459))).toUInt32 >>> ((nI 4).toUInt32 &&& Int32.toUInt32 31)).toInt32)) &&& (nI 252645135)).toUInt32 >>> ((nI 8).toUInt32 &&& Int32.toUInt32 31)).toInt32)).toUInt32 >>> ((nI 16).toUInt32 &&& Int32.toUInt32 31)).toInt32) hx hb dJ6_bitCount_0f7a4_45 rfl ?_
  refine lv_iadd hx hb dJ6_bitCount_0f7a4_46 ?_
  refine lv_istore_n (lv' := [(0, .int ((((((((nI mk) - ((((nI mk).toUInt32 >>> ((nI 1).toUInt32 &&& Int32.toUInt32 31)).toInt32) &&& (nI 1431655765))) &&& (nI 858993459)) + (((((nI mk) - ((((nI mk).toUInt32 >>> ((nI 1).toUInt32 &&& Int32.toUInt32 31)).toInt32) &&& (nI 1431655765))).toUInt32 >>> ((nI 2).toUInt32 &&& Int32.toUInt32 31)).toInt32) &&& (nI 858993459))) + ((((((nI mk) - ((((nI mk).toUInt32 >>> ((nI 1).toUInt32 &&& Int32.toUInt32 31)).toInt32) &&& (nI 1431655765))) &&& (nI 858993459)) + (((((nI mk) - ((((nI mk).toUInt32 >>> ((nI 1).toUInt32 &&& Int32.toUInt32 31)).toInt32) &&& (nI 1431655765))).toUInt32 >>> ((nI 2).toUInt32 &&& Int32.toUInt32 31)).toInt32) &&& (nI 858993459))).toUInt32 >>> ((nI 4).toUInt32 &&& Int32.toUInt32 31)).toInt32)) &&& (nI 252645135)) + ((((((((nI mk) - ((((nI mk).toUInt32 >>> ((nI 1).toUInt32 &&& Int32.toUInt32 31)).toInt32) &&& (nI 1431655765))) &&& (nI 858993459)) + (((((nI mk) - ((((nI mk).toUInt32 >>> ((nI 1).toUInt32 &&& Int32.toUInt32 31)).toInt32) &&& (nI 1431655765))).toUInt32 >>> ((nI 2).toUInt32 &&& Int32.toUInt32 31)).toInt32) &&& (nI 858993459))) + ((((((nI mk) - ((((nI mk).toUInt32 >>> ((nI 1).toUInt32 &&& Int32.toUInt32 31)).toInt32) &&& (nI 1431655765))) &&& (nI 858993459)) + (((((nI mk) - ((((nI mk).toUInt32 >>> ((nI 1).toUInt32 &&& Int32.toUInt32 31)).toInt32) &&& (nI 1431655765))).toUInt32 >>> ((nI 2).toUInt32 &&& Int32.toUInt32 31)).toInt32) &&& (nI 858993459))).toUInt32 >>> ((nI 4).toUInt32 &&& Int32.toUInt32 31)).toInt32)) &&& (nI 252645135)).toUInt32 >>> ((nI 8).toUInt32 &&& Int32.toUInt32 31)).toInt32)) + (((((((((nI mk) - ((((nI mk).toUInt32 >>> ((nI 1).toUInt32 &&& Int32.toUInt32 31)).toInt32) &&& (nI 1431655765))) &&& (nI 858993459)) + (((((nI mk) - ((((nI mk).toUInt32 >>> ((nI 1).toUInt32 &&& Int32.toUInt32 31)).toInt32) &&& (nI 1431655765))).toUInt32 >>> ((nI 2).toUInt32 &&& Int32.toUInt32 31)).toInt32) &&& (nI 858993459))) + ((((((nI mk) - ((((nI mk).toUInt32 >>> ((nI 1).toUInt32 &&& Int32.toUInt32 31)).toInt32) &&& (nI 1431655765))) &&& (nI 858993459)) + (((((nI mk) - ((((nI mk).toUInt32 >>> ((nI 1).toUInt32 &&& Int32.toUInt32 31)).toInt32) &&& (nI 1431655765))).toUInt32 >>> ((nI 2).toUInt32 &&& Int32.toUInt32 31)).toInt32) &&& (nI 858993459))).toUInt32 >>> ((nI 4).toUInt32 &&& Int32.toUInt32 31)).toInt32)) &&& (nI 252645135)) + ((((((((nI mk) - ((((nI mk).toUInt32 >>> ((nI 1).toUInt32 &&& Int32.toUInt32 31)).toInt32) &&& (nI 1431655765))) &&& (nI 858993459)) + (((((nI mk) - ((((nI mk).toUInt32 >>> ((nI 1).toUInt32 &&& Int32.toUInt32 31)).toInt32) &&& (nI 1431655765))).toUInt32 >>> ((nI 2).toUInt32 &&& Int32.toUInt32 31)).toInt32) &&& (nI 858993459))) + ((((((nI mk) - ((((nI mk).toUInt32 >>> ((nI 1).toUInt32 &&& Int32.toUInt32 31)).toInt32) &&& (nI 1431655765))) &&& (nI 858993459)) + (((((nI mk) - ((((nI mk).toUInt32 >>> ((nI 1).toUInt32 &&& Int32.toUInt32 31)).toInt32) &&& (nI 1431655765))).toUInt32 >>> ((nI 2).toUInt32 &&& Int32.toUInt32 31)).toInt32) &&& (nI 858993459))).toUInt32 >>> ((nI 4).toUInt32 &&& Int32.toUInt32 31)).toInt32)) &&& (nI 252645135)).toUInt32 >>> ((nI 8).toUInt32 &&& Int32.toUInt32 31)).toInt32)).toUInt32 >>> ((nI 16).toUInt32 &&& Int32.toUInt32 31)).toInt32)))]) hx hb dJ6_bitCount_0f7a4_47 rfl hl (by decide) rfl (fun ls hl => ?_)
  refine lv_iload_n hx hb dJ6_bitCount_0f7a4_48 rfl (lv_at hl 0 rfl) ?_
  refine lv_bipush (v := nI 63) hx hb dJ6_bitCount_0f7a4_49 (by decide) ?_
  refine lv_iand hx hb dJ6_bitCount_0f7a4_51 ?_
  exact W.iret hx hb hr (fun t ht hW => ⟨_, rfl, (bc_ mk hm), ht⟩) (fun q hq => absurd hq List.not_mem_nil) dJ6_bitCount_0f7a4_52
set_option maxHeartbeats 4000000 in
set_option maxRecDepth 100000 in
theorem c_X0_fow0 (l : Launch) (B0 : Nat) (g : va_G) (ct ad : Nat → Nat) (cS mS : St_) (x : Ax_) (i w : Nat) (hi : i < 12) (hw : w < 10) : RI l yX0_figureOfWord wsX0_figureOfWord 2 (PX B0 g ct ad cS mS x [.ref (ad 0), .int (nI i), .int (nI w), .int (nI 0)]) (nI (wt_ cS i w 0)) := by
  refine Met.ofW (cc := cX0_figureOfWord) (maxL := 4) (ret := (some .int)) (by decide) rfl ?_
  intro p e s m args below meth c s₁ B hml hv
  obtain ⟨rfl, hC⟩ := hv
  have hx := B.exec
  have hb := B.bytes
  have hr := B.returns
  have hts := atoms_spec (ws := wsX0_figureOfWord) B.pre
  have hown : s.vm.findClass RX0 = some m.cls := findClass_of_methodNamed B.named
  have hlocks := B.notSynchronized
  have hin : ∀ w ∈ wsX00, w ∈ wsX0_figureOfWord := fun _ h => List.mem_cons_of_mem _ (List.mem_append_right _ h)
  have hI := hC.1.2.2.2.1
  have hw6 := hI.2.2.2.1 (10 * i + w)
  have hk6 := hI.2.2.2.2.1 (10 * i + w)
  have hl := lv_entry ([.ref (ad 0), .int (nI i), .int (nI w), .int (nI 0)]) (n := 4) (Nat.le_of_ble_eq_true rfl)
  rw [lg_entry_eq]
  generalize (lg_sl ([.ref (ad 0), .int (nI i), .int (nI w), .int (nI 0)]) ++ List.replicate (4 - (lg_sl ([.ref (ad 0), .int (nI i), .int (nI w), .int (nI 0)])).length) Slot.unset).toArray = ls at hl ⊢
  have hl : lv_has ls 4 [(0, .ref (ad 0)), (1, .int (nI i)), (2, .int (nI w)), (3, .int (nI 0))] := hl
  refine lv_iload_n hx hb dX0_figureOfWord_0 rfl (lv_at hl 3 rfl) ?_
  refine lv_tableIn (x := nI 0) (off := 31) (tgt := 32) hx hb dX0_figureOfWord_1 (by decide) (by decide) rfl (by decide) ?_
  refine lv_aload_n hx hb dX0_figureOfWord_32 rfl (lv_at hl 0 rfl) ?_
  refine r_g0 hC hx hb hts hin hown 3 (by decide) (hts (.fieldLink RX0 22 "AbjadPoems" "words" "[[I") (by decide +kernel)) rfl dX0_figureOfWord_33 ?_
  refine lv_iload_n hx hb dX0_figureOfWord_36 rfl (lv_at hl 1 rfl) ?_
  refine r_wo hC hx hb dX0_figureOfWord_37 (j := i) (by omega) ?_
  refine lv_iload_n hx hb dX0_figureOfWord_38 rfl (lv_at hl 2 rfl) ?_
  refine r_wr hC hx hb dX0_figureOfWord_39 (i := i) (j := w) (by omega) (by omega) ?_
  exact W.iret hx hb hr (fun t ht hW => ⟨_, rfl, rfl, ht⟩) (fun q hq => absurd hq List.not_mem_nil) dX0_figureOfWord_40
set_option maxHeartbeats 4000000 in
set_option maxRecDepth 100000 in
theorem c_X0_fow1 (l : Launch) (B0 : Nat) (g : va_G) (ct ad : Nat → Nat) (cS mS : St_) (x : Ax_) (i w : Nat) (hi : i < 12) (hw : w < 10) : RI l yX0_figureOfWord wsX0_figureOfWord 2 (PX B0 g ct ad cS mS x [.ref (ad 0), .int (nI i), .int (nI w), .int (nI 1)]) (nI (wt_ cS i w 1)) := by
  refine Met.ofW (cc := cX0_figureOfWord) (maxL := 4) (ret := (some .int)) (by decide) rfl ?_
  intro p e s m args below meth c s₁ B hml hv
  obtain ⟨rfl, hC⟩ := hv
  have hx := B.exec
  have hb := B.bytes
  have hr := B.returns
  have hts := atoms_spec (ws := wsX0_figureOfWord) B.pre
  have hown : s.vm.findClass RX0 = some m.cls := findClass_of_methodNamed B.named
  have hlocks := B.notSynchronized
  have hin : ∀ w ∈ wsX00, w ∈ wsX0_figureOfWord := fun _ h => List.mem_cons_of_mem _ (List.mem_append_right _ h)
  have hI := hC.1.2.2.2.1
  have hw6 := hI.2.2.2.1 (10 * i + w)
  have hk6 := hI.2.2.2.2.1 (10 * i + w)
  have hl := lv_entry ([.ref (ad 0), .int (nI i), .int (nI w), .int (nI 1)]) (n := 4) (Nat.le_of_ble_eq_true rfl)
  rw [lg_entry_eq]
  generalize (lg_sl ([.ref (ad 0), .int (nI i), .int (nI w), .int (nI 1)]) ++ List.replicate (4 - (lg_sl ([.ref (ad 0), .int (nI i), .int (nI w), .int (nI 1)])).length) Slot.unset).toArray = ls at hl ⊢
  have hl : lv_has ls 4 [(0, .ref (ad 0)), (1, .int (nI i)), (2, .int (nI w)), (3, .int (nI 1))] := hl
  refine lv_iload_n hx hb dX0_figureOfWord_0 rfl (lv_at hl 3 rfl) ?_
  refine lv_tableIn (x := nI 1) (off := 40) (tgt := 41) hx hb dX0_figureOfWord_1 (by decide) (by decide) rfl (by decide) ?_
  refine lv_aload_n hx hb dX0_figureOfWord_41 rfl (lv_at hl 0 rfl) ?_
  refine r_g0 hC hx hb hts hin hown 3 (by decide) (hts (.fieldLink RX0 22 "AbjadPoems" "words" "[[I") (by decide +kernel)) rfl dX0_figureOfWord_42 ?_
  refine lv_iload_n hx hb dX0_figureOfWord_45 rfl (lv_at hl 1 rfl) ?_
  refine r_wo hC hx hb dX0_figureOfWord_46 (j := i) (by omega) ?_
  refine lv_iload_n hx hb dX0_figureOfWord_47 rfl (lv_at hl 2 rfl) ?_
  refine r_wr hC hx hb dX0_figureOfWord_48 (i := i) (j := w) (by omega) (by omega) ?_
  refine k_pS (As := [.int (nI (sw cS (10 * i + w)))]) (rest := []) (c_X0_lengthOf l (sw cS (10 * i + w)) (by omega)) ⟨hx, hb, hml, hown, hts⟩ (va_cwS 1 hts gX0_figureOfWord_X0_lengthOf rfl rfl rfl (by decide +kernel) ⟨Nat.le_of_ble_eq_true rfl, Nat.le_of_ble_eq_true rfl⟩) rfl hl.1 rfl (Nat.le_of_ble_eq_true rfl) dX0_figureOfWord_49 ⟨Nat.le_of_ble_eq_true rfl, Nat.le_of_ble_eq_true rfl⟩ ?_
  exact W.iret hx hb hr (fun t ht hW => ⟨_, rfl, rfl, ht⟩) (fun q hq => absurd hq List.not_mem_nil) dX0_figureOfWord_52
set_option maxHeartbeats 4000000 in
set_option maxRecDepth 100000 in
theorem c_X0_fow2 (l : Launch) (B0 : Nat) (g : va_G) (ct ad : Nat → Nat) (cS mS : St_) (x : Ax_) (i w : Nat) (hi : i < 12) (hw : w < 10) : RI l yX0_figureOfWord wsX0_figureOfWord 2 (PX B0 g ct ad cS mS x [.ref (ad 0), .int (nI i), .int (nI w), .int (nI 2)]) (nI (wt_ cS i w 2)) := by
  refine Met.ofW (cc := cX0_figureOfWord) (maxL := 4) (ret := (some .int)) (by decide) rfl ?_
  intro p e s m args below meth c s₁ B hml hv
  obtain ⟨rfl, hC⟩ := hv
  have hx := B.exec
  have hb := B.bytes
  have hr := B.returns
  have hts := atoms_spec (ws := wsX0_figureOfWord) B.pre
  have hown : s.vm.findClass RX0 = some m.cls := findClass_of_methodNamed B.named
  have hlocks := B.notSynchronized
  have hin : ∀ w ∈ wsX00, w ∈ wsX0_figureOfWord := fun _ h => List.mem_cons_of_mem _ (List.mem_append_right _ h)
  have hI := hC.1.2.2.2.1
  have hw6 := hI.2.2.2.1 (10 * i + w)
  have hk6 := hI.2.2.2.2.1 (10 * i + w)
  have hl := lv_entry ([.ref (ad 0), .int (nI i), .int (nI w), .int (nI 2)]) (n := 4) (Nat.le_of_ble_eq_true rfl)
  rw [lg_entry_eq]
  generalize (lg_sl ([.ref (ad 0), .int (nI i), .int (nI w), .int (nI 2)]) ++ List.replicate (4 - (lg_sl ([.ref (ad 0), .int (nI i), .int (nI w), .int (nI 2)])).length) Slot.unset).toArray = ls at hl ⊢
  have hl : lv_has ls 4 [(0, .ref (ad 0)), (1, .int (nI i)), (2, .int (nI w)), (3, .int (nI 2))] := hl
  refine lv_iload_n hx hb dX0_figureOfWord_0 rfl (lv_at hl 3 rfl) ?_
  refine lv_tableIn (x := nI 2) (off := 52) (tgt := 53) hx hb dX0_figureOfWord_1 (by decide) (by decide) rfl (by decide) ?_
  refine lv_aload_n hx hb dX0_figureOfWord_53 rfl (lv_at hl 0 rfl) ?_
  refine lv_aload_n hx hb dX0_figureOfWord_54 rfl (lv_at hl 0 rfl) ?_
  refine r_g0 hC hx hb hts hin hown 3 (by decide) (hts (.fieldLink RX0 22 "AbjadPoems" "words" "[[I") (by decide +kernel)) rfl dX0_figureOfWord_55 ?_
  refine lv_iload_n hx hb dX0_figureOfWord_58 rfl (lv_at hl 1 rfl) ?_
  refine r_wo hC hx hb dX0_figureOfWord_59 (j := i) (by omega) ?_
  refine lv_iload_n hx hb dX0_figureOfWord_60 rfl (lv_at hl 2 rfl) ?_
  refine r_wr hC hx hb dX0_figureOfWord_61 (i := i) (j := w) (by omega) (by omega) ?_
  refine lv_bipush (v := nI 63) hx hb dX0_figureOfWord_62 (by decide) ?_
  refine k_rV (As := [.int (nI (sw cS (10 * i + w))), .int (nI 63)]) (rest := []) (c_X0_worthOfPlaces l B0 g ct ad cS mS x (sw cS (10 * i + w)) 63 (by omega) (by omega)) hC ⟨hx, hb, hml, hown, hts⟩ (cwV 2 hts gX0_figureOfWord_X0_worthOfPlaces rfl rfl rfl (by decide +kernel) ⟨Nat.le_of_ble_eq_true rfl, Nat.le_of_ble_eq_true rfl⟩) (rc0 hC) rfl hl.1 rfl (Nat.le_of_ble_eq_true rfl) dX0_figureOfWord_64 ⟨Nat.le_of_ble_eq_true rfl, Nat.le_of_ble_eq_true rfl⟩ ?_
  exact W.iret hx hb hr (fun t ht hW => ⟨_, rfl, (congrArg nI (wm_63 hw6)), ht⟩) (fun q hq => absurd hq List.not_mem_nil) dX0_figureOfWord_67
set_option maxHeartbeats 4000000 in
set_option maxRecDepth 100000 in
theorem c_X0_fow3 (l : Launch) (B0 : Nat) (g : va_G) (ct ad : Nat → Nat) (cS mS : St_) (x : Ax_) (i w : Nat) (hi : i < 12) (hw : w < 10) (hm : sk cS (10 * i + w) < 2 ^ ln_ (sw cS (10 * i + w))) : RI l yX0_figureOfWord wsX0_figureOfWord 2 (PX B0 g ct ad cS mS x [.ref (ad 0), .int (nI i), .int (nI w), .int (nI 3)]) (nI (wt_ cS i w 3)) := by
  refine Met.ofW (cc := cX0_figureOfWord) (maxL := 4) (ret := (some .int)) (by decide) rfl ?_
  intro p e s m args below meth c s₁ B hml hv
  obtain ⟨rfl, hC⟩ := hv
  have hx := B.exec
  have hb := B.bytes
  have hr := B.returns
  have hts := atoms_spec (ws := wsX0_figureOfWord) B.pre
  have hown : s.vm.findClass RX0 = some m.cls := findClass_of_methodNamed B.named
  have hlocks := B.notSynchronized
  have hin : ∀ w ∈ wsX00, w ∈ wsX0_figureOfWord := fun _ h => List.mem_cons_of_mem _ (List.mem_append_right _ h)
  have hI := hC.1.2.2.2.1
  have hw6 := hI.2.2.2.1 (10 * i + w)
  have hk6 := hI.2.2.2.2.1 (10 * i + w)
  have hl := lv_entry ([.ref (ad 0), .int (nI i), .int (nI w), .int (nI 3)]) (n := 4) (Nat.le_of_ble_eq_true rfl)
  rw [lg_entry_eq]
  generalize (lg_sl ([.ref (ad 0), .int (nI i), .int (nI w), .int (nI 3)]) ++ List.replicate (4 - (lg_sl ([.ref (ad 0), .int (nI i), .int (nI w), .int (nI 3)])).length) Slot.unset).toArray = ls at hl ⊢
  have hl : lv_has ls 4 [(0, .ref (ad 0)), (1, .int (nI i)), (2, .int (nI w)), (3, .int (nI 3))] := hl
  refine lv_iload_n hx hb dX0_figureOfWord_0 rfl (lv_at hl 3 rfl) ?_
  refine lv_tableIn (x := nI 3) (off := 67) (tgt := 68) hx hb dX0_figureOfWord_1 (by decide) (by decide) rfl (by decide) ?_
  refine lv_aload_n hx hb dX0_figureOfWord_68 rfl (lv_at hl 0 rfl) ?_
  refine r_g0 hC hx hb hts hin hown 4 (by decide) (hts (.fieldLink RX0 25 "AbjadPoems" "marks" "[[I") (by decide +kernel)) rfl dX0_figureOfWord_69 ?_
  refine lv_iload_n hx hb dX0_figureOfWord_72 rfl (lv_at hl 1 rfl) ?_
  refine r_ko hC hx hb dX0_figureOfWord_73 (j := i) (by omega) ?_
  refine lv_iload_n hx hb dX0_figureOfWord_74 rfl (lv_at hl 2 rfl) ?_
  refine r_kr hC hx hb dX0_figureOfWord_75 (i := i) (j := w) (by omega) (by omega) ?_
  refine k_pS (As := [.int (nI (sk cS (10 * i + w)))]) (rest := []) (c_J6_bitCount_0f7a4 l (sk cS (10 * i + w)) (by omega)) ⟨hx, hb, hml, hown, hts⟩ (va_cwS 1 hts gX0_figureOfWord_J6_bitCount_0f7a4 rfl rfl rfl (by decide +kernel) ⟨Nat.le_of_ble_eq_true rfl, Nat.le_of_ble_eq_true rfl⟩) rfl hl.1 rfl (Nat.le_of_ble_eq_true rfl) dX0_figureOfWord_76 ⟨Nat.le_of_ble_eq_true rfl, Nat.le_of_ble_eq_true rfl⟩ ?_
  exact W.iret hx hb hr (fun t ht hW => ⟨_, rfl, (congrArg nI (wc_6 hw6 hm)), ht⟩) (fun q hq => absurd hq List.not_mem_nil) dX0_figureOfWord_79
set_option maxHeartbeats 4000000 in
set_option maxRecDepth 100000 in
theorem c_X0_fow4 (l : Launch) (B0 : Nat) (g : va_G) (ct ad : Nat → Nat) (cS mS : St_) (x : Ax_) (i w : Nat) (hi : i < 12) (hw : w < 10) : RI l yX0_figureOfWord wsX0_figureOfWord 2 (PX B0 g ct ad cS mS x [.ref (ad 0), .int (nI i), .int (nI w), .int (nI 4)]) (nI (wt_ cS i w 4)) := by
  refine Met.ofW (cc := cX0_figureOfWord) (maxL := 4) (ret := (some .int)) (by decide) rfl ?_
  intro p e s m args below meth c s₁ B hml hv
  obtain ⟨rfl, hC⟩ := hv
  have hx := B.exec
  have hb := B.bytes
  have hr := B.returns
  have hts := atoms_spec (ws := wsX0_figureOfWord) B.pre
  have hown : s.vm.findClass RX0 = some m.cls := findClass_of_methodNamed B.named
  have hlocks := B.notSynchronized
  have hin : ∀ w ∈ wsX00, w ∈ wsX0_figureOfWord := fun _ h => List.mem_cons_of_mem _ (List.mem_append_right _ h)
  have hI := hC.1.2.2.2.1
  have hw6 := hI.2.2.2.1 (10 * i + w)
  have hk6 := hI.2.2.2.2.1 (10 * i + w)
  have hl := lv_entry ([.ref (ad 0), .int (nI i), .int (nI w), .int (nI 4)]) (n := 4) (Nat.le_of_ble_eq_true rfl)
  rw [lg_entry_eq]
  generalize (lg_sl ([.ref (ad 0), .int (nI i), .int (nI w), .int (nI 4)]) ++ List.replicate (4 - (lg_sl ([.ref (ad 0), .int (nI i), .int (nI w), .int (nI 4)])).length) Slot.unset).toArray = ls at hl ⊢
  have hl : lv_has ls 4 [(0, .ref (ad 0)), (1, .int (nI i)), (2, .int (nI w)), (3, .int (nI 4))] := hl
  refine lv_iload_n hx hb dX0_figureOfWord_0 rfl (lv_at hl 3 rfl) ?_
  refine lv_tableOut (x := nI 4) (tgt := 80) hx hb dX0_figureOfWord_1 (by decide) (by decide) ?_
  refine lv_aload_n hx hb dX0_figureOfWord_80 rfl (lv_at hl 0 rfl) ?_
  refine lv_aload_n hx hb dX0_figureOfWord_81 rfl (lv_at hl 0 rfl) ?_
  refine r_g0 hC hx hb hts hin hown 3 (by decide) (hts (.fieldLink RX0 22 "AbjadPoems" "words" "[[I") (by decide +kernel)) rfl dX0_figureOfWord_82 ?_
  refine lv_iload_n hx hb dX0_figureOfWord_85 rfl (lv_at hl 1 rfl) ?_
  refine r_wo hC hx hb dX0_figureOfWord_86 (j := i) (by omega) ?_
  refine lv_iload_n hx hb dX0_figureOfWord_87 rfl (lv_at hl 2 rfl) ?_
  refine r_wr hC hx hb dX0_figureOfWord_88 (i := i) (j := w) (by omega) (by omega) ?_
  refine lv_aload_n hx hb dX0_figureOfWord_89 rfl (lv_at hl 0 rfl) ?_
  refine r_g0 hC hx hb hts hin hown 4 (by decide) (hts (.fieldLink RX0 25 "AbjadPoems" "marks" "[[I") (by decide +kernel)) rfl dX0_figureOfWord_90 ?_
  refine lv_iload_n hx hb dX0_figureOfWord_93 rfl (lv_at hl 1 rfl) ?_
  refine r_ko hC hx hb dX0_figureOfWord_94 (j := i) (by omega) ?_
  refine lv_iload_n hx hb dX0_figureOfWord_95 rfl (lv_at hl 2 rfl) ?_
  refine r_kr hC hx hb dX0_figureOfWord_96 (i := i) (j := w) (by omega) (by omega) ?_
  refine k_rV (As := [.int (nI (sw cS (10 * i + w))), .int (nI (sk cS (10 * i + w)))]) (rest := []) (c_X0_worthOfPlaces l B0 g ct ad cS mS x (sw cS (10 * i + w)) (sk cS (10 * i + w)) (by omega) (by omega)) hC ⟨hx, hb, hml, hown, hts⟩ (cwV 2 hts gX0_figureOfWord_X0_worthOfPlaces rfl rfl rfl (by decide +kernel) ⟨Nat.le_of_ble_eq_true rfl, Nat.le_of_ble_eq_true rfl⟩) (rc0 hC) rfl hl.1 rfl (Nat.le_of_ble_eq_true rfl) dX0_figureOfWord_97 ⟨Nat.le_of_ble_eq_true rfl, Nat.le_of_ble_eq_true rfl⟩ ?_
  exact W.iret hx hb hr (fun t ht hW => ⟨_, rfl, rfl, ht⟩) (fun q hq => absurd hq List.not_mem_nil) dX0_figureOfWord_100
theorem c_X0_figureOfWord (l : Launch) (B0 : Nat) (g : va_G) (ct ad : Nat → Nat) (cS mS : St_) (x : Ax_) (i w what : Nat) (hi : i < 12) (hw : w < 10) (hq : what < 5) (hm : what = 3 → sk cS (10 * i + w) < 2 ^ ln_ (sw cS (10 * i + w))) : RI l yX0_figureOfWord wsX0_figureOfWord 2 (PX B0 g ct ad cS mS x [.ref (ad 0), .int (nI i), .int (nI w), .int (nI what)]) (nI (wt_ cS i w what)) :=
  match what, hq, hm with
  | 0, _, _ => c_X0_fow0 l B0 g ct ad cS mS x i w hi hw
  | 1, _, _ => c_X0_fow1 l B0 g ct ad cS mS x i w hi hw
  | 2, _, _ => c_X0_fow2 l B0 g ct ad cS mS x i w hi hw
  | 3, _, hm => c_X0_fow3 l B0 g ct ad cS mS x i w hi hw (hm rfl)
  | 4, _, _ => c_X0_fow4 l B0 g ct ad cS mS x i w hi hw
  | k + 5, hq, _ => absurd hq (by omega)
set_option maxHeartbeats 4000000 in
set_option maxRecDepth 100000 in
theorem c_X0_figureOfLine (l : Launch) (B0 : Nat) (g : va_G) (ct ad : Nat → Nat) (cS mS : St_) (x : Ax_) (i what : Nat) (hi : i < 12) (hq : what < 5) : RI l yX0_figureOfLine wsX0_figureOfLine 3 (PX B0 g ct ad cS mS x [.ref (ad 0), .int (nI i), .int (nI what)]) (nI (lt_ cS i what)) := by
  refine Met.ofW (cc := cX0_figureOfLine) (maxL := 5) (ret := (some .int)) (by decide) rfl ?_
  intro p e s m args below meth c s₁ B hml hv
  obtain ⟨rfl, hC⟩ := hv
  have hx := B.exec
  have hb := B.bytes
  have hr := B.returns
  have hts := atoms_spec (ws := wsX0_figureOfLine) B.pre
  have hown : s.vm.findClass RX0 = some m.cls := findClass_of_methodNamed B.named
  have hlocks := B.notSynchronized
  have hin : ∀ w ∈ wsX00, w ∈ wsX0_figureOfLine := fun _ h => List.mem_cons_of_mem _ (List.mem_append_right _ h)
  have hI := hC.1.2.2.2.1
  have hz := hI.2.2.1 i
  have hl := lv_entry ([.ref (ad 0), .int (nI i), .int (nI what)]) (n := 5) (Nat.le_of_ble_eq_true rfl)
  rw [lg_entry_eq]
  generalize (lg_sl ([.ref (ad 0), .int (nI i), .int (nI what)]) ++ List.replicate (5 - (lg_sl ([.ref (ad 0), .int (nI i), .int (nI what)])).length) Slot.unset).toArray = ls at hl ⊢
  have hl : lv_has ls 5 [(0, .ref (ad 0)), (1, .int (nI i)), (2, .int (nI what))] := hl
  refine lv_iload_n hx hb dX0_figureOfLine_0 rfl (lv_at hl 2 rfl) ?_
  refine lv_if_ne (tgt := 11) hx hb dX0_figureOfLine_1 (by decide) (fun c_1 => ?_) (fun c_1 => ?_)
  · skip
    have n_1 : ¬ what = 0 := fun q__ => c_1 ((eq0_ (by omega)).mpr q__)
    refine lv_iconst (v := nI 0) hx hb dX0_figureOfLine_11 (by decide) ?_
    refine lv_istore_n (lv' := [(3, .int (nI 0)), (0, .ref (ad 0)), (1, .int (nI i)), (2, .int (nI what))]) hx hb dX0_figureOfLine_12 rfl hl (by decide) rfl (fun ls hl => ?_)
    refine lv_iconst (v := nI 0) hx hb dX0_figureOfLine_13 (by decide) ?_
    refine lv_istore (lv' := [(4, .int (nI 0)), (3, .int (nI 0)), (0, .ref (ad 0)), (1, .int (nI i)), (2, .int (nI what))]) hx hb dX0_figureOfLine_14 hl (by decide) rfl (fun ls hl => ?_)
    have LP_16 : ∀ (n_ : Nat) (t : Nat) (k : Nat), ss cS i - k < n_ → t = qs_ (fun w => wt_ cS i w what) k → k ≤ ss cS i → ∀ ls : Array Slot, lv_has ls 5 [(4, .int (nI k)), (3, .int (nI t)), (0, .ref (ad 0)), (1, .int (nI i)), (2, .int (nI what))] → W p l e (headSpec wsX0_figureOfLine (rm_ 3 0 0)).room s m ([.ref (ad 0), .int (nI i), .int (nI what)] : List Value).toArray below meth c s.heap [] 0 0 (MQ below (vp_Si (fun r => r = nI (lt_ cS i what))) ([.ref (ad 0), .int (nI i), .int (nI what)] : List Value).toArray s 0 0 (fun _ => False)) (F0 m 16 ls []) := by
      intro n_
      induction n_ with
      | zero => intro t k hm; exact absurd hm (Nat.not_lt_zero _)
      | succ n_ ih_16 =>
        intro t k hm ht hk ls hl
        refine lv_iload hx hb dX0_figureOfLine_16 (lv_at hl 0 rfl) ?_
        refine lv_aload_n hx hb dX0_figureOfLine_18 rfl (lv_at hl 2 rfl) ?_
        refine r_g0 hC hx hb hts hin hown 2 (by decide) (hts (.fieldLink RX0 16 "AbjadPoems" "sizes" "[I") (by decide +kernel)) rfl dX0_figureOfLine_19 ?_
        refine lv_iload_n hx hb dX0_figureOfLine_22 rfl (lv_at hl 3 rfl) ?_
        refine r_sz hC hx hb dX0_figureOfLine_23 (j := i) (by omega) ?_
        refine lv_icmp_ge (tgt := 44) hx hb dX0_figureOfLine_24 (by decide) (fun c_24 => ?_) (fun c_24 => ?_)
        · skip
          have n_24 : ss cS i ≤ k := (nI_leI (a := ss cS i) (b := k) (by omega) (by omega)).mp c_24
          have hE : t = lt_ cS i what := by rw [lt_n n_1, ht, show k = ss cS i by omega]
          refine lv_iload_n hx hb dX0_figureOfLine_44 rfl (lv_at hl 1 rfl) ?_
          exact W.iret hx hb hr (fun t ht hW => ⟨_, rfl, (congrArg nI hE), ht⟩) (fun q hq => absurd hq List.not_mem_nil) dX0_figureOfLine_45
        · skip
          have n_24 : ¬ ss cS i ≤ k := fun q__ => c_24 ((nI_leI (a := ss cS i) (b := k) (by omega) (by omega)).mpr q__)
          refine lv_iload_n hx hb dX0_figureOfLine_27 rfl (lv_at hl 1 rfl) ?_
          refine lv_aload_n hx hb dX0_figureOfLine_28 rfl (lv_at hl 2 rfl) ?_
          refine lv_iload_n hx hb dX0_figureOfLine_29 rfl (lv_at hl 3 rfl) ?_
          refine lv_iload hx hb dX0_figureOfLine_30 (lv_at hl 0 rfl) ?_
          refine lv_iload_n hx hb dX0_figureOfLine_32 rfl (lv_at hl 4 rfl) ?_
          refine k_rV (As := [.int (nI i), .int (nI k), .int (nI what)]) (rest := [.int (nI t)]) (c_X0_figureOfWord l B0 g ct ad cS mS x i k what (by omega) (by omega) (by omega) (fun _ => hI.2.2.2.2.2 i k (by omega))) hC ⟨hx, hb, hml, hown, hts⟩ (cwV 3 hts gX0_figureOfLine_X0_figureOfWord rfl rfl rfl (by decide +kernel) ⟨Nat.le_of_ble_eq_true rfl, Nat.le_of_ble_eq_true rfl⟩) (rc0 hC) rfl hl.1 rfl (Nat.le_of_ble_eq_true rfl) dX0_figureOfLine_33 ⟨Nat.le_of_ble_eq_true rfl, Nat.le_of_ble_eq_true rfl⟩ ?_
          refine lv_iadd hx hb dX0_figureOfLine_36 ?_
          refine lv_tn (nI_add _ _) ?_
          refine lv_istore_n (lv' := [(3, .int (nI (t + (wt_ cS i k what)))), (4, .int (nI k)), (0, .ref (ad 0)), (1, .int (nI i)), (2, .int (nI what))]) hx hb dX0_figureOfLine_37 rfl hl (by decide) rfl (fun ls hl => ?_)
          refine lv_iinc (v := nI (k + 1)) (lv' := [(4, .int (nI (k + 1))), (3, .int (nI (t + (wt_ cS i k what)))), (0, .ref (ad 0)), (1, .int (nI i)), (2, .int (nI what))]) hx hb dX0_figureOfLine_38 hl (k := 1) rfl (nI_1 _) (by decide) rfl (fun ls hl => ?_)
          refine lv_goto (tgt := 16) hx hb dX0_figureOfLine_41 (by decide) ?_
          exact ih_16 (t + (wt_ cS i k what)) (k + 1) (by omega) (by rw [ht]; rfl) (by omega) ls (lv_sub hl [0, 1, 2, 3, 4] rfl)
    exact LP_16 _ 0 0 (Nat.lt_succ_self _) rfl (Nat.zero_le _) ls (lv_sub hl [0, 1, 2, 3, 4] rfl)
  · skip
    have n_1 : what = 0 := (eq0_ (by omega)).mp c_1
    refine lv_aload_n hx hb dX0_figureOfLine_4 rfl (lv_at hl 0 rfl) ?_
    refine r_g0 hC hx hb hts hin hown 2 (by decide) (hts (.fieldLink RX0 16 "AbjadPoems" "sizes" "[I") (by decide +kernel)) rfl dX0_figureOfLine_5 ?_
    refine lv_iload_n hx hb dX0_figureOfLine_8 rfl (lv_at hl 1 rfl) ?_
    refine r_sz hC hx hb dX0_figureOfLine_9 (j := i) (by omega) ?_
    exact W.iret hx hb hr (fun t ht hW => ⟨_, rfl, (by show nI (ss cS i) = nI (lt_ cS i what); rw [n_1]; rfl), ht⟩) (fun q hq => absurd hq List.not_mem_nil) dX0_figureOfLine_10
set_option maxHeartbeats 4000000 in
set_option maxRecDepth 100000 in
theorem c_X0_sumOverLines (l : Launch) (B0 : Nat) (g : va_G) (ct ad : Nat → Nat) (cS mS : St_) (x : Ax_) (what : Nat) (hq : what < 5) : RI l yX0_sumOverLines wsX0_sumOverLines 4 (PX B0 g ct ad cS mS x [.ref (ad 0), .int (nI what)]) (nI (al_ cS what)) := by
  refine Met.ofW (cc := cX0_sumOverLines) (maxL := 4) (ret := (some .int)) (by decide) rfl ?_
  intro p e s m args below meth c s₁ B hml hv
  obtain ⟨rfl, hC⟩ := hv
  have hx := B.exec
  have hb := B.bytes
  have hr := B.returns
  have hts := atoms_spec (ws := wsX0_sumOverLines) B.pre
  have hown : s.vm.findClass RX0 = some m.cls := findClass_of_methodNamed B.named
  have hlocks := B.notSynchronized
  have hin : ∀ w ∈ wsX00, w ∈ wsX0_sumOverLines := fun _ h => List.mem_cons_of_mem _ (List.mem_append_right _ h)
  have hI := hC.1.2.2.2.1
  have hn := hI.2.1
  have hl := lv_entry ([.ref (ad 0), .int (nI what)]) (n := 4) (Nat.le_of_ble_eq_true rfl)
  rw [lg_entry_eq]
  generalize (lg_sl ([.ref (ad 0), .int (nI what)]) ++ List.replicate (4 - (lg_sl ([.ref (ad 0), .int (nI what)])).length) Slot.unset).toArray = ls at hl ⊢
  have hl : lv_has ls 4 [(0, .ref (ad 0)), (1, .int (nI what))] := hl
  refine lv_iconst (v := nI 0) hx hb dX0_sumOverLines_0 (by decide) ?_
  refine lv_istore_n (lv' := [(2, .int (nI 0)), (0, .ref (ad 0)), (1, .int (nI what))]) hx hb dX0_sumOverLines_1 rfl hl (by decide) rfl (fun ls hl => ?_)
  refine lv_iconst (v := nI 0) hx hb dX0_sumOverLines_2 (by decide) ?_
  refine lv_istore_n (lv' := [(3, .int (nI 0)), (2, .int (nI 0)), (0, .ref (ad 0)), (1, .int (nI what))]) hx hb dX0_sumOverLines_3 rfl hl (by decide) rfl (fun ls hl => ?_)
  have LP_4 : ∀ (n_ : Nat) (t : Nat) (k : Nat), sn cS - k < n_ → t = qs_ (fun l => lt_ cS l what) k → k ≤ sn cS → ∀ ls : Array Slot, lv_has ls 4 [(3, .int (nI k)), (2, .int (nI t)), (0, .ref (ad 0)), (1, .int (nI what))] → W p l e (headSpec wsX0_sumOverLines (rm_ 4 0 0)).room s m ([.ref (ad 0), .int (nI what)] : List Value).toArray below meth c s.heap [] 0 0 (MQ below (vp_Si (fun r => r = nI (al_ cS what))) ([.ref (ad 0), .int (nI what)] : List Value).toArray s 0 0 (fun _ => False)) (F0 m 4 ls []) := by
    intro n_
    induction n_ with
    | zero => intro t k hm; exact absurd hm (Nat.not_lt_zero _)
    | succ n_ ih_4 =>
      intro t k hm ht hk ls hl
      refine lv_iload_n hx hb dX0_sumOverLines_4 rfl (lv_at hl 0 rfl) ?_
      refine lv_aload_n hx hb dX0_sumOverLines_5 rfl (lv_at hl 2 rfl) ?_
      refine r_g0 hC hx hb hts hin hown 1 (by decide) (hts (.fieldLink RX0 13 "AbjadPoems" "lines" "I") (by decide +kernel)) rfl dX0_sumOverLines_6 ?_
      refine lv_icmp_ge (tgt := 27) hx hb dX0_sumOverLines_9 (by decide) (fun c_9 => ?_) (fun c_9 => ?_)
      · skip
        have n_9 : sn cS ≤ k := (nI_leI (a := sn cS) (b := k) (by omega) (by omega)).mp c_9
        have hE : t = al_ cS what := by rw [ht, show k = sn cS by omega]; rfl
        refine lv_iload_n hx hb dX0_sumOverLines_27 rfl (lv_at hl 1 rfl) ?_
        exact W.iret hx hb hr (fun t ht hW => ⟨_, rfl, (congrArg nI hE), ht⟩) (fun q hq => absurd hq List.not_mem_nil) dX0_sumOverLines_28
      · skip
        have n_9 : ¬ sn cS ≤ k := fun q__ => c_9 ((nI_leI (a := sn cS) (b := k) (by omega) (by omega)).mpr q__)
        refine lv_iload_n hx hb dX0_sumOverLines_12 rfl (lv_at hl 1 rfl) ?_
        refine lv_aload_n hx hb dX0_sumOverLines_13 rfl (lv_at hl 2 rfl) ?_
        refine lv_iload_n hx hb dX0_sumOverLines_14 rfl (lv_at hl 0 rfl) ?_
        refine lv_iload_n hx hb dX0_sumOverLines_15 rfl (lv_at hl 3 rfl) ?_
        refine k_rV (As := [.int (nI k), .int (nI what)]) (rest := [.int (nI t)]) (c_X0_figureOfLine l B0 g ct ad cS mS x k what (by omega) (by omega)) hC ⟨hx, hb, hml, hown, hts⟩ (cwV 2 hts gX0_sumOverLines_X0_figureOfLine rfl rfl rfl (by decide +kernel) ⟨Nat.le_of_ble_eq_true rfl, Nat.le_of_ble_eq_true rfl⟩) (rc0 hC) rfl hl.1 rfl (Nat.le_of_ble_eq_true rfl) dX0_sumOverLines_16 ⟨Nat.le_of_ble_eq_true rfl, Nat.le_of_ble_eq_true rfl⟩ ?_
        refine lv_iadd hx hb dX0_sumOverLines_19 ?_
        refine lv_tn (nI_add _ _) ?_
        refine lv_istore_n (lv' := [(2, .int (nI (t + (lt_ cS k what)))), (3, .int (nI k)), (0, .ref (ad 0)), (1, .int (nI what))]) hx hb dX0_sumOverLines_20 rfl hl (by decide) rfl (fun ls hl => ?_)
        refine lv_iinc (v := nI (k + 1)) (lv' := [(3, .int (nI (k + 1))), (2, .int (nI (t + (lt_ cS k what)))), (0, .ref (ad 0)), (1, .int (nI what))]) hx hb dX0_sumOverLines_21 hl (k := 1) rfl (nI_1 _) (by decide) rfl (fun ls hl => ?_)
        refine lv_goto (tgt := 4) hx hb dX0_sumOverLines_24 (by decide) ?_
        exact ih_4 (t + (lt_ cS k what)) (k + 1) (by omega) (by rw [ht]; rfl) (by omega) ls (lv_sub hl [0, 1, 2, 3] rfl)
  exact LP_4 _ 0 0 (Nat.lt_succ_self _) rfl (Nat.zero_le _) ls (lv_sub hl [0, 1, 2, 3] rfl)
set_option maxHeartbeats 4000000 in
set_option maxRecDepth 100000 in
theorem c_X0_lastOfRun (l : Launch) (B0 : Nat) (g : va_G) (ct ad : Nat → Nat) (cS mS : St_) (x : Ax_) (i w0 : Nat) (yr : Int32) (hi : i < 12) (hw0 : w0 ≤ 10) : RI l yX0_lastOfRun wsX0_lastOfRun 2 (PX B0 g ct ad cS mS x [.ref (ad 0), .int (nI i), .int (nI w0), .int yr]) (ru_ cS i yr w0) := by
  refine Met.ofW (cc := cX0_lastOfRun) (maxL := 6) (ret := (some .int)) (by decide) rfl ?_
  intro p e s m args below meth c s₁ B hml hv
  obtain ⟨rfl, hC⟩ := hv
  have hx := B.exec
  have hb := B.bytes
  have hr := B.returns
  have hts := atoms_spec (ws := wsX0_lastOfRun) B.pre
  have hown : s.vm.findClass RX0 = some m.cls := findClass_of_methodNamed B.named
  have hlocks := B.notSynchronized
  have hin : ∀ w ∈ wsX00, w ∈ wsX0_lastOfRun := fun _ h => List.mem_cons_of_mem _ (List.mem_append_right _ h)
  have hI := hC.1.2.2.2.1
  have hz := hI.2.2.1 i
  have hl := lv_entry ([.ref (ad 0), .int (nI i), .int (nI w0), .int yr]) (n := 6) (Nat.le_of_ble_eq_true rfl)
  rw [lg_entry_eq]
  generalize (lg_sl ([.ref (ad 0), .int (nI i), .int (nI w0), .int yr]) ++ List.replicate (6 - (lg_sl ([.ref (ad 0), .int (nI i), .int (nI w0), .int yr])).length) Slot.unset).toArray = ls at hl ⊢
  have hl : lv_has ls 6 [(0, .ref (ad 0)), (1, .int (nI i)), (2, .int (nI w0)), (3, .int yr)] := hl
  refine lv_iconst (v := nI 0) hx hb dX0_lastOfRun_0 (by decide) ?_
  refine lv_istore (lv' := [(4, .int (nI 0)), (0, .ref (ad 0)), (1, .int (nI i)), (2, .int (nI w0)), (3, .int yr)]) hx hb dX0_lastOfRun_1 hl (by decide) rfl (fun ls hl => ?_)
  refine lv_iload_n hx hb dX0_lastOfRun_3 rfl (lv_at hl 3 rfl) ?_
  refine lv_istore (lv' := [(5, .int (nI w0)), (4, .int (nI 0)), (0, .ref (ad 0)), (1, .int (nI i)), (2, .int (nI w0)), (3, .int yr)]) hx hb dX0_lastOfRun_4 hl (by decide) rfl (fun ls hl => ?_)
  have LP_6 : ∀ (n_ : Nat) (t : Nat) (w : Nat), ss cS i - w < n_ → rn_ cS i yr (ss cS i - w) w t = ru_ cS i yr w0 → w ≤ 10 → ∀ ls : Array Slot, lv_has ls 6 [(5, .int (nI w)), (4, .int (nI t)), (0, .ref (ad 0)), (1, .int (nI i)), (2, .int (nI w0)), (3, .int yr)] → W p l e (headSpec wsX0_lastOfRun (rm_ 2 0 0)).room s m ([.ref (ad 0), .int (nI i), .int (nI w0), .int yr] : List Value).toArray below meth c s.heap [] 0 0 (MQ below (vp_Si (fun r => r = ru_ cS i yr w0)) ([.ref (ad 0), .int (nI i), .int (nI w0), .int yr] : List Value).toArray s 0 0 (fun _ => False)) (F0 m 6 ls []) := by
    intro n_
    induction n_ with
    | zero => intro t w hm; exact absurd hm (Nat.not_lt_zero _)
    | succ n_ ih_6 =>
      intro t w hm h1 hw_ ls hl
      have hw6 := hI.2.2.2.1 (10 * i + w)
      refine lv_iload hx hb dX0_lastOfRun_6 (lv_at hl 0 rfl) ?_
      refine lv_aload_n hx hb dX0_lastOfRun_8 rfl (lv_at hl 2 rfl) ?_
      refine r_g0 hC hx hb hts hin hown 2 (by decide) (hts (.fieldLink RX0 16 "AbjadPoems" "sizes" "[I") (by decide +kernel)) rfl dX0_lastOfRun_9 ?_
      refine lv_iload_n hx hb dX0_lastOfRun_12 rfl (lv_at hl 3 rfl) ?_
      refine r_sz hC hx hb dX0_lastOfRun_13 (j := i) (by omega) ?_
      refine lv_icmp_ge (tgt := 52) hx hb dX0_lastOfRun_14 (by decide) (fun c_14 => ?_) (fun c_14 => ?_)
      · skip
        have n_14 : ss cS i ≤ w := (nI_leI (a := ss cS i) (b := w) (by omega) (by omega)).mp c_14
        have hE : ru_ cS i yr w0 = -1 := by rw [← h1, rn_e (by omega)]
        refine lv_iconst (v := -1) hx hb dX0_lastOfRun_52 (by decide) ?_
        exact W.iret hx hb hr (fun t ht hW => ⟨_, rfl, (by show (-1) = ru_ cS i yr w0; rw [hE]), ht⟩) (fun q hq => absurd hq List.not_mem_nil) dX0_lastOfRun_53
      · skip
        have n_14 : ¬ ss cS i ≤ w := fun q__ => c_14 ((nI_leI (a := ss cS i) (b := w) (by omega) (by omega)).mpr q__)
        refine lv_iload hx hb dX0_lastOfRun_17 (lv_at hl 1 rfl) ?_
        refine lv_aload_n hx hb dX0_lastOfRun_19 rfl (lv_at hl 2 rfl) ?_
        refine lv_aload_n hx hb dX0_lastOfRun_20 rfl (lv_at hl 2 rfl) ?_
        refine r_g0 hC hx hb hts hin hown 3 (by decide) (hts (.fieldLink RX0 22 "AbjadPoems" "words" "[[I") (by decide +kernel)) rfl dX0_lastOfRun_21 ?_
        refine lv_iload_n hx hb dX0_lastOfRun_24 rfl (lv_at hl 3 rfl) ?_
        refine r_wo hC hx hb dX0_lastOfRun_25 (j := i) (by omega) ?_
        refine lv_iload hx hb dX0_lastOfRun_26 (lv_at hl 0 rfl) ?_
        refine r_wr hC hx hb dX0_lastOfRun_28 (i := i) (j := w) (by omega) (by omega) ?_
        refine lv_bipush (v := nI 63) hx hb dX0_lastOfRun_29 (by decide) ?_
        refine k_rV (As := [.int (nI (sw cS (10 * i + w))), .int (nI 63)]) (rest := [.int (nI t)]) (c_X0_worthOfPlaces l B0 g ct ad cS mS x (sw cS (10 * i + w)) 63 (by omega) (by omega)) hC ⟨hx, hb, hml, hown, hts⟩ (cwV 2 hts gX0_lastOfRun_X0_worthOfPlaces rfl rfl rfl (by decide +kernel) ⟨Nat.le_of_ble_eq_true rfl, Nat.le_of_ble_eq_true rfl⟩) (rc0 hC) rfl hl.1 rfl (Nat.le_of_ble_eq_true rfl) dX0_lastOfRun_31 ⟨Nat.le_of_ble_eq_true rfl, Nat.le_of_ble_eq_true rfl⟩ ?_
        refine lv_tn (w := nI (ws0 (so cS) (sw cS (10 * i + w)))) (congrArg nI (wm_63 hw6)) ?_
        refine lv_iadd hx hb dX0_lastOfRun_34 ?_
        refine lv_tn (nI_add _ _) ?_
        refine lv_istore (lv' := [(4, .int (nI (t + (ws0 (so cS) (sw cS (10 * i + w)))))), (5, .int (nI w)), (0, .ref (ad 0)), (1, .int (nI i)), (2, .int (nI w0)), (3, .int yr)]) hx hb dX0_lastOfRun_35 hl (by decide) rfl (fun ls hl => ?_)
        refine lv_iload hx hb dX0_lastOfRun_37 (lv_at hl 0 rfl) ?_
        refine lv_iload_n hx hb dX0_lastOfRun_39 rfl (lv_at hl 5 rfl) ?_
        refine lv_icmp_ne (tgt := 46) hx hb dX0_lastOfRun_40 (by decide) (fun c_40 => ?_) (fun c_40 => ?_)
        · skip
          refine lv_iinc (v := nI (w + 1)) (lv' := [(5, .int (nI (w + 1))), (4, .int (nI (t + (ws0 (so cS) (sw cS (10 * i + w)))))), (0, .ref (ad 0)), (1, .int (nI i)), (2, .int (nI w0)), (3, .int yr)]) hx hb dX0_lastOfRun_46 hl (k := 1) rfl (nI_1 _) (by decide) rfl (fun ls hl => ?_)
          refine lv_goto (tgt := 6) hx hb dX0_lastOfRun_49 (by decide) ?_
          exact ih_6 (t + (ws0 (so cS) (sw cS (10 * i + w)))) (w + 1) (by omega) (by rw [← h1, rn_s (show w < ss cS i by omega), if_neg c_40]) (by omega) ls (lv_sub hl [0, 1, 2, 3, 4, 5] rfl)
        · skip
          have hE : ru_ cS i yr w0 = nI w := by rw [← h1, rn_s (show w < ss cS i by omega), if_pos c_40]
          refine lv_iload hx hb dX0_lastOfRun_43 (lv_at hl 1 rfl) ?_
          exact W.iret hx hb hr (fun t ht hW => ⟨_, rfl, (by show nI w = ru_ cS i yr w0; rw [hE]), ht⟩) (fun q hq => absurd hq List.not_mem_nil) dX0_lastOfRun_45
  exact LP_6 _ 0 w0 (Nat.lt_succ_self _) rfl hw0 ls (lv_sub hl [0, 1, 2, 3, 4, 5] rfl)
set_option maxHeartbeats 4000000 in
set_option maxRecDepth 100000 in
theorem c_X0_timesAmongWorths (l : Launch) (B0 : Nat) (g : va_G) (ct ad : Nat → Nat) (cS mS : St_) (x : Ax_) (v : Int32) (seen : Nat) (hs : seen ≤ 120) : RI l yX0_timesAmongWorths wsX0_timesAmongWorths 0 (PX B0 g ct ad cS mS x [.ref (ad 0), .int v, .int (nI seen)]) (nI (qs_ (fun j => if xw x j = v then 1 else 0) seen)) := by
  refine Met.ofW (cc := cX0_timesAmongWorths) (maxL := 5) (ret := (some .int)) (by decide) rfl ?_
  intro p e s m args below meth c s₁ B hml hv
  obtain ⟨rfl, hC⟩ := hv
  have hx := B.exec
  have hb := B.bytes
  have hr := B.returns
  have hts := atoms_spec (ws := wsX0_timesAmongWorths) B.pre
  have hown : s.vm.findClass RX0 = some m.cls := findClass_of_methodNamed B.named
  have hlocks := B.notSynchronized
  have hin : ∀ w ∈ wsX00, w ∈ wsX0_timesAmongWorths := fun _ h => List.mem_cons_of_mem _ (List.mem_append_right _ h)
  have hl := lv_entry ([.ref (ad 0), .int v, .int (nI seen)]) (n := 5) (Nat.le_of_ble_eq_true rfl)
  rw [lg_entry_eq]
  generalize (lg_sl ([.ref (ad 0), .int v, .int (nI seen)]) ++ List.replicate (5 - (lg_sl ([.ref (ad 0), .int v, .int (nI seen)])).length) Slot.unset).toArray = ls at hl ⊢
  have hl : lv_has ls 5 [(0, .ref (ad 0)), (1, .int v), (2, .int (nI seen))] := hl
  refine lv_iconst (v := nI 0) hx hb dX0_timesAmongWorths_0 (by decide) ?_
  refine lv_istore_n (lv' := [(3, .int (nI 0)), (0, .ref (ad 0)), (1, .int v), (2, .int (nI seen))]) hx hb dX0_timesAmongWorths_1 rfl hl (by decide) rfl (fun ls hl => ?_)
  refine lv_iconst (v := nI 0) hx hb dX0_timesAmongWorths_2 (by decide) ?_
  refine lv_istore (lv' := [(4, .int (nI 0)), (3, .int (nI 0)), (0, .ref (ad 0)), (1, .int v), (2, .int (nI seen))]) hx hb dX0_timesAmongWorths_3 hl (by decide) rfl (fun ls hl => ?_)
  have LP_5 : ∀ (n_ : Nat) (t : Nat) (k : Nat), seen - k < n_ → t = qs_ (fun j => if xw x j = v then 1 else 0) k → k ≤ seen → ∀ ls : Array Slot, lv_has ls 5 [(4, .int (nI k)), (3, .int (nI t)), (0, .ref (ad 0)), (1, .int v), (2, .int (nI seen))] → W p l e (headSpec wsX0_timesAmongWorths (rm_ 0 0 0)).room s m ([.ref (ad 0), .int v, .int (nI seen)] : List Value).toArray below meth c s.heap [] 0 0 (MQ below (vp_Si (fun r => r = nI (qs_ (fun j => if xw x j = v then 1 else 0) seen))) ([.ref (ad 0), .int v, .int (nI seen)] : List Value).toArray s 0 0 (fun _ => False)) (F0 m 5 ls []) := by
    intro n_
    induction n_ with
    | zero => intro t k hm; exact absurd hm (Nat.not_lt_zero _)
    | succ n_ ih_5 =>
      intro t k hm ht hk ls hl
      refine lv_iload hx hb dX0_timesAmongWorths_5 (lv_at hl 0 rfl) ?_
      refine lv_iload_n hx hb dX0_timesAmongWorths_7 rfl (lv_at hl 4 rfl) ?_
      refine lv_icmp_ge (tgt := 31) hx hb dX0_timesAmongWorths_8 (by decide) (fun c_8 => ?_) (fun c_8 => ?_)
      · skip
        have n_8 : seen ≤ k := (nI_leI (a := seen) (b := k) (by omega) (by omega)).mp c_8
        have hE : t = qs_ (fun j => if xw x j = v then 1 else 0) seen := by rw [ht, show k = seen by omega]
        refine lv_iload_n hx hb dX0_timesAmongWorths_31 rfl (lv_at hl 1 rfl) ?_
        exact W.iret hx hb hr (fun t ht hW => ⟨_, rfl, (congrArg nI hE), ht⟩) (fun q hq => absurd hq List.not_mem_nil) dX0_timesAmongWorths_32
      · skip
        have n_8 : ¬ seen ≤ k := fun q__ => c_8 ((nI_leI (a := seen) (b := k) (by omega) (by omega)).mpr q__)
        refine lv_aload_n hx hb dX0_timesAmongWorths_11 rfl (lv_at hl 2 rfl) ?_
        refine r_g0 hC hx hb hts hin hown 5 (by decide) (hts (.fieldLink RX0 28 "AbjadPoems" "worths" "[I") (by decide +kernel)) rfl dX0_timesAmongWorths_12 ?_
        refine lv_iload hx hb dX0_timesAmongWorths_15 (lv_at hl 0 rfl) ?_
        refine r_wt hC hx hb dX0_timesAmongWorths_17 (j := k) (by omega) ?_
        refine lv_iload_n hx hb dX0_timesAmongWorths_18 rfl (lv_at hl 3 rfl) ?_
        refine lv_icmp_ne (tgt := 25) hx hb dX0_timesAmongWorths_19 (by decide) (fun c_19 => ?_) (fun c_19 => ?_)
        · skip
          refine lv_iinc (v := nI (k + 1)) (lv' := [(4, .int (nI (k + 1))), (3, .int (nI t)), (0, .ref (ad 0)), (1, .int v), (2, .int (nI seen))]) hx hb dX0_timesAmongWorths_25 hl (k := 0) rfl (nI_1 _) (by decide) rfl (fun ls hl => ?_)
          refine lv_goto (tgt := 5) hx hb dX0_timesAmongWorths_28 (by decide) ?_
          exact ih_5 t (k + 1) (by omega) (by rw [ht]; first | exact (qs_1 (f := fun j => if xw x j = v then 1 else 0) (if_pos c_19)).symm | exact (qs_1 (f := fun j => if xw x j = v then 1 else 0) (v := 0) (if_neg c_19)).symm) (by omega) ls (lv_sub hl [0, 1, 2, 3, 4] rfl)
        · skip
          refine lv_iinc (v := nI (t + 1)) (lv' := [(3, .int (nI (t + 1))), (4, .int (nI k)), (0, .ref (ad 0)), (1, .int v), (2, .int (nI seen))]) hx hb dX0_timesAmongWorths_22 hl (k := 1) rfl (nI_1 _) (by decide) rfl (fun ls hl => ?_)
          refine lv_iinc (v := nI (k + 1)) (lv' := [(4, .int (nI (k + 1))), (3, .int (nI (t + 1))), (0, .ref (ad 0)), (1, .int v), (2, .int (nI seen))]) hx hb dX0_timesAmongWorths_25 hl (k := 1) rfl (nI_1 _) (by decide) rfl (fun ls hl => ?_)
          refine lv_goto (tgt := 5) hx hb dX0_timesAmongWorths_28 (by decide) ?_
          exact ih_5 (t + 1) (k + 1) (by omega) (by rw [ht]; first | exact (qs_1 (f := fun j => if xw x j = v then 1 else 0) (if_pos c_19)).symm | exact (qs_1 (f := fun j => if xw x j = v then 1 else 0) (v := 0) (if_neg c_19)).symm) (by omega) ls (lv_sub hl [0, 1, 2, 3, 4] rfl)
  exact LP_5 _ 0 0 (Nat.lt_succ_self _) rfl (Nat.zero_le _) ls (lv_sub hl [0, 1, 2, 3, 4] rfl)
set_option maxHeartbeats 4000000 in
set_option maxRecDepth 100000 in
theorem c_X0_digestOfLine (l : Launch) (B0 : Nat) (g : va_G) (ct ad : Nat → Nat) (cS mS : St_) (x : Ax_) (d0 : Int64) (i : Nat) (hi : i < 12) : RL_ l yX0_digestOfLine wsX0_digestOfLine 4 (PX B0 g ct ad cS mS x [.ref (ad 0), .long d0, .int (nI i)]) (dw_ cS i (ss cS i) (df_ (fun what => lt_ cS i what) 5 d0)) := by
  refine Met.ofW (cc := cX0_digestOfLine) (maxL := 8) (ret := (some .long)) (by decide) rfl ?_
  intro p e s m args below meth c s₁ B hml hv
  obtain ⟨rfl, hC⟩ := hv
  have hx := B.exec
  have hb := B.bytes
  have hr := B.returns
  have hts := atoms_spec (ws := wsX0_digestOfLine) B.pre
  have hown : s.vm.findClass RX0 = some m.cls := findClass_of_methodNamed B.named
  have hlocks := B.notSynchronized
  have hin : ∀ w ∈ wsX00, w ∈ wsX0_digestOfLine := fun _ h => List.mem_cons_of_mem _ (List.mem_append_right _ h)
  have hI := hC.1.2.2.2.1
  have hz := hI.2.2.1 i
  have hl := lv_entry ([.ref (ad 0), .long d0, .int (nI i)]) (n := 8) (Nat.le_of_ble_eq_true rfl)
  rw [lg_entry_eq]
  generalize (lg_sl ([.ref (ad 0), .long d0, .int (nI i)]) ++ List.replicate (8 - (lg_sl ([.ref (ad 0), .long d0, .int (nI i)])).length) Slot.unset).toArray = ls at hl ⊢
  have hl : lv_has ls 8 [(0, .ref (ad 0)), (1, .long d0), (3, .int (nI i))] := hl
  refine lv_lload_n hx hb dX0_digestOfLine_0 rfl (lv_at hl 1 rfl) ?_
  refine lv_lstore (lv' := [(4, .long d0), (0, .ref (ad 0)), (1, .long d0), (3, .int (nI i))]) hx hb dX0_digestOfLine_1 hl (by decide) rfl (fun ls hl => ?_)
  refine lv_iconst (v := nI 0) hx hb dX0_digestOfLine_3 (by decide) ?_
  refine lv_istore (lv' := [(6, .int (nI 0)), (4, .long d0), (0, .ref (ad 0)), (1, .long d0), (3, .int (nI i))]) hx hb dX0_digestOfLine_4 hl (by decide) rfl (fun ls hl => ?_)
  have LP_6 : ∀ (n_ : Nat) (dd : Int64) (k : Nat), 5 - k < n_ → dd = df_ (fun what => lt_ cS i what) k d0 → k ≤ 5 → ∀ ls : Array Slot, lv_has ls 8 [(6, .int (nI k)), (4, .long dd), (0, .ref (ad 0)), (1, .long d0), (3, .int (nI i))] → W p l e (headSpec wsX0_digestOfLine (rm_ 4 0 0)).room s m ([.ref (ad 0), .long d0, .int (nI i)] : List Value).toArray below meth c s.heap [] 0 0 (MQ below (vp_Sl (fun r => r = dw_ cS i (ss cS i) (df_ (fun what => lt_ cS i what) 5 d0))) ([.ref (ad 0), .long d0, .int (nI i)] : List Value).toArray s 0 0 (fun _ => False)) (F0 m 6 ls []) := by
    intro n_
    induction n_ with
    | zero => intro dd k hm; exact absurd hm (Nat.not_lt_zero _)
    | succ n_ ih_6 =>
      intro dd k hm hd hk ls hl
      refine lv_iload hx hb dX0_digestOfLine_6 (lv_at hl 0 rfl) ?_
      refine lv_iconst (v := nI 5) hx hb dX0_digestOfLine_8 (by decide) ?_
      refine lv_icmp_ge (tgt := 35) hx hb dX0_digestOfLine_9 (by decide) (fun c_9 => ?_) (fun c_9 => ?_)
      · skip
        have n_9 : 5 ≤ k := (nI_leI (a := 5) (b := k) (by omega) (by omega)).mp c_9
        have hE1 : dd = df_ (fun what => lt_ cS i what) 5 d0 := by rw [hd, show k = 5 by omega]
        refine lv_iconst (v := nI 0) hx hb dX0_digestOfLine_35 (by decide) ?_
        refine lv_istore (lv' := [(6, .int (nI 0)), (4, .long dd), (0, .ref (ad 0)), (1, .long d0), (3, .int (nI i))]) hx hb dX0_digestOfLine_36 hl (by decide) rfl (fun ls hl => ?_)
        have LP_38 : ∀ (n_ : Nat) (ee : Int64) (j : Nat), ss cS i - j < n_ → ee = dw_ cS i j (df_ (fun what => lt_ cS i what) 5 d0) → j ≤ ss cS i → ∀ ls : Array Slot, lv_has ls 8 [(6, .int (nI j)), (4, .long ee), (0, .ref (ad 0)), (1, .long d0), (3, .int (nI i))] → W p l e (headSpec wsX0_digestOfLine (rm_ 4 0 0)).room s m ([.ref (ad 0), .long d0, .int (nI i)] : List Value).toArray below meth c s.heap [] 0 0 (MQ below (vp_Sl (fun r => r = dw_ cS i (ss cS i) (df_ (fun what => lt_ cS i what) 5 d0))) ([.ref (ad 0), .long d0, .int (nI i)] : List Value).toArray s 0 0 (fun _ => False)) (F0 m 38 ls []) := by
          intro n_
          induction n_ with
          | zero => intro ee j hm; exact absurd hm (Nat.not_lt_zero _)
          | succ n_ ih_38 =>
            intro ee j hm he hj ls hl
            refine lv_iload hx hb dX0_digestOfLine_38 (lv_at hl 0 rfl) ?_
            refine lv_aload_n hx hb dX0_digestOfLine_40 rfl (lv_at hl 2 rfl) ?_
            refine r_g0 hC hx hb hts hin hown 2 (by decide) (hts (.fieldLink RX0 16 "AbjadPoems" "sizes" "[I") (by decide +kernel)) rfl dX0_digestOfLine_41 ?_
            refine lv_iload_n hx hb dX0_digestOfLine_44 rfl (lv_at hl 4 rfl) ?_
            refine r_sz hC hx hb dX0_digestOfLine_45 (j := i) (by omega) ?_
            refine lv_icmp_ge (tgt := 89) hx hb dX0_digestOfLine_46 (by decide) (fun c_46 => ?_) (fun c_46 => ?_)
            · skip
              have n_46 : ss cS i ≤ j := (nI_leI (a := ss cS i) (b := j) (by omega) (by omega)).mp c_46
              have hE : ee = dw_ cS i (ss cS i) (df_ (fun what => lt_ cS i what) 5 d0) := by rw [he, show j = ss cS i by omega]
              refine lv_lload hx hb dX0_digestOfLine_89 (lv_at hl 1 rfl) ?_
              exact W.lret hx hb hr (fun t ht hW => ⟨_, rfl, hE, ht⟩) (fun q hq => absurd hq List.not_mem_nil) dX0_digestOfLine_91
            · skip
              have n_46 : ¬ ss cS i ≤ j := fun q__ => c_46 ((nI_leI (a := ss cS i) (b := j) (by omega) (by omega)).mpr q__)
              refine lv_iconst (v := nI 0) hx hb dX0_digestOfLine_49 (by decide) ?_
              refine lv_istore (lv' := [(7, .int (nI 0)), (6, .int (nI j)), (4, .long ee), (0, .ref (ad 0)), (1, .long d0), (3, .int (nI i))]) hx hb dX0_digestOfLine_50 hl (by decide) rfl (fun ls hl => ?_)
              have LP_52 : ∀ (n_ : Nat) (ff : Int64) (q : Nat), 5 - q < n_ → ff = df_ (fun what => wt_ cS i j what) q ee → q ≤ 5 → ∀ ls : Array Slot, lv_has ls 8 [(7, .int (nI q)), (6, .int (nI j)), (4, .long ff), (0, .ref (ad 0)), (1, .long d0), (3, .int (nI i))] → W p l e (headSpec wsX0_digestOfLine (rm_ 4 0 0)).room s m ([.ref (ad 0), .long d0, .int (nI i)] : List Value).toArray below meth c s.heap [] 0 0 (MQ below (vp_Sl (fun r => r = dw_ cS i (ss cS i) (df_ (fun what => lt_ cS i what) 5 d0))) ([.ref (ad 0), .long d0, .int (nI i)] : List Value).toArray s 0 0 (fun _ => False)) (F0 m 52 ls []) := by
                intro n_
                induction n_ with
                | zero => intro ff q hm; exact absurd hm (Nat.not_lt_zero _)
                | succ n_ ih_52 =>
                  intro ff q hm hf hq ls hl
                  refine lv_iload hx hb dX0_digestOfLine_52 (lv_at hl 0 rfl) ?_
                  refine lv_iconst (v := nI 5) hx hb dX0_digestOfLine_54 (by decide) ?_
                  refine lv_icmp_ge (tgt := 83) hx hb dX0_digestOfLine_55 (by decide) (fun c_55 => ?_) (fun c_55 => ?_)
                  · skip
                    have n_55 : 5 ≤ q := (nI_leI (a := 5) (b := q) (by omega) (by omega)).mp c_55
                    refine lv_iinc (v := nI (j + 1)) (lv' := [(6, .int (nI (j + 1))), (7, .int (nI q)), (4, .long ff), (0, .ref (ad 0)), (1, .long d0), (3, .int (nI i))]) hx hb dX0_digestOfLine_83 hl (k := 1) rfl (nI_1 _) (by decide) rfl (fun ls hl => ?_)
                    refine lv_goto (tgt := 38) hx hb dX0_digestOfLine_86 (by decide) ?_
                    exact ih_38 ff (j + 1) (by omega) (by rw [hf, show q = 5 by omega, he]; rfl) (by omega) ls (lv_sub hl [0, 2, 3, 4, 5] rfl)
                  · skip
                    have n_55 : ¬ 5 ≤ q := fun q__ => c_55 ((nI_leI (a := 5) (b := q) (by omega) (by omega)).mpr q__)
                    refine lv_lload hx hb dX0_digestOfLine_58 (lv_at hl 2 rfl) ?_
                    refine lv_ldc2 hx hb hown (hts (.constantLong RX0 124 (31)) (by decide +kernel)) dX0_digestOfLine_60 ?_
                    refine lv_lmul hx hb dX0_digestOfLine_63 ?_
                    refine lv_aload_n hx hb dX0_digestOfLine_64 rfl (lv_at hl 3 rfl) ?_
                    refine lv_iload_n hx hb dX0_digestOfLine_65 rfl (lv_at hl 5 rfl) ?_
                    refine lv_iload hx hb dX0_digestOfLine_66 (lv_at hl 1 rfl) ?_
                    refine lv_iload hx hb dX0_digestOfLine_68 (lv_at hl 0 rfl) ?_
                    refine k_rV (As := [.int (nI i), .int (nI j), .int (nI q)]) (rest := [.long (ff * 31)]) (c_X0_figureOfWord l B0 g ct ad cS mS x i j q (by omega) (by omega) (by omega) (fun _ => hI.2.2.2.2.2 i j (by omega))) hC ⟨hx, hb, hml, hown, hts⟩ (cwV 3 hts gX0_digestOfLine_X0_figureOfWord rfl rfl rfl (by decide +kernel) ⟨Nat.le_of_ble_eq_true rfl, Nat.le_of_ble_eq_true rfl⟩) (rc0 hC) rfl hl.1 rfl (Nat.le_of_ble_eq_true rfl) dX0_digestOfLine_70 ⟨Nat.le_of_ble_eq_true rfl, Nat.le_of_ble_eq_true rfl⟩ ?_
                    refine lv_i2l (v := (nI (wt_ cS i j q)).toInt64) hx hb dX0_digestOfLine_73 rfl ?_
                    refine lv_ladd hx hb dX0_digestOfLine_74 ?_
                    refine lv_lstore (lv' := [(4, .long ((ff * 31) + ((nI (wt_ cS i j q)).toInt64))), (7, .int (nI q)), (6, .int (nI j)), (0, .ref (ad 0)), (1, .long d0), (3, .int (nI i))]) hx hb dX0_digestOfLine_75 hl (by decide) rfl (fun ls hl => ?_)
                    refine lv_iinc (v := nI (q + 1)) (lv' := [(7, .int (nI (q + 1))), (4, .long ((ff * 31) + ((nI (wt_ cS i j q)).toInt64))), (6, .int (nI j)), (0, .ref (ad 0)), (1, .long d0), (3, .int (nI i))]) hx hb dX0_digestOfLine_77 hl (k := 1) rfl (nI_1 _) (by decide) rfl (fun ls hl => ?_)
                    refine lv_goto (tgt := 52) hx hb dX0_digestOfLine_80 (by decide) ?_
                    exact ih_52 ((ff * 31) + ((nI (wt_ cS i j q)).toInt64)) (q + 1) (by omega) (by rw [hf]; rfl) (by omega) ls (lv_sub hl [0, 2, 1, 3, 4, 5] rfl)
              exact LP_52 _ ee 0 (Nat.lt_succ_self _) rfl (by omega) ls (lv_sub hl [0, 1, 2, 3, 4, 5] rfl)
        exact LP_38 _ dd 0 (Nat.lt_succ_self _) hE1 (by omega) ls (lv_sub hl [0, 1, 2, 3, 4] rfl)
      · skip
        have n_9 : ¬ 5 ≤ k := fun q__ => c_9 ((nI_leI (a := 5) (b := k) (by omega) (by omega)).mpr q__)
        refine lv_lload hx hb dX0_digestOfLine_12 (lv_at hl 1 rfl) ?_
        refine lv_ldc2 hx hb hown (hts (.constantLong RX0 124 (31)) (by decide +kernel)) dX0_digestOfLine_14 ?_
        refine lv_lmul hx hb dX0_digestOfLine_17 ?_
        refine lv_aload_n hx hb dX0_digestOfLine_18 rfl (lv_at hl 2 rfl) ?_
        refine lv_iload_n hx hb dX0_digestOfLine_19 rfl (lv_at hl 4 rfl) ?_
        refine lv_iload hx hb dX0_digestOfLine_20 (lv_at hl 0 rfl) ?_
        refine k_rV (As := [.int (nI i), .int (nI k)]) (rest := [.long (dd * 31)]) (c_X0_figureOfLine l B0 g ct ad cS mS x i k (by omega) (by omega)) hC ⟨hx, hb, hml, hown, hts⟩ (cwV 2 hts gX0_digestOfLine_X0_figureOfLine rfl rfl rfl (by decide +kernel) ⟨Nat.le_of_ble_eq_true rfl, Nat.le_of_ble_eq_true rfl⟩) (rc0 hC) rfl hl.1 rfl (Nat.le_of_ble_eq_true rfl) dX0_digestOfLine_22 ⟨Nat.le_of_ble_eq_true rfl, Nat.le_of_ble_eq_true rfl⟩ ?_
        refine lv_i2l (v := (nI (lt_ cS i k)).toInt64) hx hb dX0_digestOfLine_25 rfl ?_
        refine lv_ladd hx hb dX0_digestOfLine_26 ?_
        refine lv_lstore (lv' := [(4, .long ((dd * 31) + ((nI (lt_ cS i k)).toInt64))), (6, .int (nI k)), (0, .ref (ad 0)), (1, .long d0), (3, .int (nI i))]) hx hb dX0_digestOfLine_27 hl (by decide) rfl (fun ls hl => ?_)
        refine lv_iinc (v := nI (k + 1)) (lv' := [(6, .int (nI (k + 1))), (4, .long ((dd * 31) + ((nI (lt_ cS i k)).toInt64))), (0, .ref (ad 0)), (1, .long d0), (3, .int (nI i))]) hx hb dX0_digestOfLine_29 hl (k := 1) rfl (nI_1 _) (by decide) rfl (fun ls hl => ?_)
        refine lv_goto (tgt := 6) hx hb dX0_digestOfLine_32 (by decide) ?_
        exact ih_6 ((dd * 31) + ((nI (lt_ cS i k)).toInt64)) (k + 1) (by omega) (by rw [hd]; rfl) (by omega) ls (lv_sub hl [0, 1, 2, 3, 4] rfl)
  exact LP_6 _ d0 0 (Nat.lt_succ_self _) rfl (by omega) ls (lv_sub hl [0, 1, 2, 3, 4] rfl)
end
section
set_option maxHeartbeats 4000000 in
set_option maxRecDepth 100000 in
theorem c_X0_checkLine (l : Launch) (B0 : Nat) (g : va_G) (ct ad : Nat → Nat) (cS mS : St_) (x : Ax_) (j : Nat) (hj : j < sn cS) : RV l yX0_checkLine wsX0_checkLine 0 (PX B0 g ct ad cS mS x [.ref (ad 0), .int (nI j)]) := by
  refine Met.ofW (cc := cX0_checkLine) (maxL := 2) (ret := none) (by decide) rfl ?_
  intro p e s m args below meth c s₁ B hml hv
  obtain ⟨rfl, hC⟩ := hv
  have hx := B.exec
  have hb := B.bytes
  have hr := B.returns
  have hts := atoms_spec (ws := wsX0_checkLine) B.pre
  have hown : s.vm.findClass RX0 = some m.cls := findClass_of_methodNamed B.named
  have hlocks := B.notSynchronized
  have hin : ∀ w ∈ wsX00, w ∈ wsX0_checkLine := fun _ h => List.mem_cons_of_mem _ (List.mem_append_left _ (List.mem_append_right _ h))
  have hI := hC.1.2.2.2.1
  have hn := hI.2.1
  have hl := lv_entry ([.ref (ad 0), .int (nI j)]) (n := 2) (Nat.le_of_ble_eq_true rfl)
  rw [lg_entry_eq]
  generalize (lg_sl ([.ref (ad 0), .int (nI j)]) ++ List.replicate (2 - (lg_sl ([.ref (ad 0), .int (nI j)])).length) Slot.unset).toArray = ls at hl ⊢
  have hl : lv_has ls 2 [(0, .ref (ad 0)), (1, .int (nI j))] := hl
  refine lv_iload_n hx hb dX0_checkLine_0 rfl (lv_at hl 1 rfl) ?_
  refine lv_if_lt (tgt := 12) hx hb dX0_checkLine_1 (by decide) (fun c_1 => ?_) (fun c_1 => ?_)
  · skip
    exact absurd c_1 (nI_pos (by omega))
  · skip
    refine lv_iload_n hx hb dX0_checkLine_4 rfl (lv_at hl 1 rfl) ?_
    refine lv_aload_n hx hb dX0_checkLine_5 rfl (lv_at hl 0 rfl) ?_
    refine r_g0 hC hx hb hts hin hown 1 (by decide) (hts (.fieldLink RX0 13 "AbjadPoems" "lines" "I") (by decide +kernel)) rfl dX0_checkLine_6 ?_
    refine lv_icmp_lt (tgt := 22) hx hb dX0_checkLine_9 (by decide) (fun c_9 => ?_) (fun c_9 => ?_)
    · skip
      have n_9 : j < sn cS := (nI_ltI (a := j) (b := sn cS) (by omega) (by omega)).mp c_9
      exact W.vret hx hb hr (fun t ht hW => ⟨rfl, trivial, ht⟩) (fun q hq => absurd hq List.not_mem_nil) dX0_checkLine_22
    · skip
      have n_9 : ¬ j < sn cS := fun q__ => c_9 ((nI_ltI (a := j) (b := sn cS) (by omega) (by omega)).mpr q__)
      exact absurd hj n_9
set_option maxHeartbeats 4000000 in
set_option maxRecDepth 100000 in
theorem t_X0_checkLine (l : Launch) (B0 : Nat) (g : va_G) (ct ad : Nat → Nat) (cS mS : St_) (x : Ax_) (hflags : l.stackTraces = false) (li : Int32) (h : li < 0 ∨ nI (sn cS) ≤ li) : TX l yX0_checkLine wsX0_checkLine 6 B0 g ct ad cS mS x [.ref (ad 0), .int li] EI_ := by
  refine vx_ofW (cc := cX0_checkLine) (maxL := 2) (ret := none) (by decide) rfl ?_
  intro p e s m args below meth c s₁ B hml hxt hv
  obtain ⟨rfl, hC⟩ := hv
  have hx := B.exec
  have hb := B.bytes
  have hr := B.returns
  have hts := atoms_spec (ws := wsX0_checkLine) B.pre
  have hown : s.vm.findClass RX0 = some m.cls := findClass_of_methodNamed B.named
  have hlocks := B.notSynchronized
  have hin : ∀ w ∈ wsX00, w ∈ wsX0_checkLine := fun _ h => List.mem_cons_of_mem _ (List.mem_append_left _ (List.mem_append_right _ h))
  have hS : va_S (AA B0) s.heap s.heap [] := va_S.rf
  have hB : B0 ≤ s.heap.size := hC.1.2.2.1
  have hK0 := hC.2
  have hl := lv_entry ([.ref (ad 0), .int li]) (n := 2) (Nat.le_of_ble_eq_true rfl)
  rw [lg_entry_eq]
  generalize (lg_sl ([.ref (ad 0), .int li]) ++ List.replicate (2 - (lg_sl ([.ref (ad 0), .int li])).length) Slot.unset).toArray = ls at hl ⊢
  have hl : lv_has ls 2 [(0, .ref (ad 0)), (1, .int li)] := hl
  refine lv_iload_n hx hb dX0_checkLine_0 rfl (lv_at hl 1 rfl) ?_
  refine lv_if_lt (tgt := 12) hx hb dX0_checkLine_1 (by decide) (fun c_1 => ?_) (fun c_1 => ?_)
  · skip
    exact x_thr (E := EI_) (ik := 38) (ic := 42) (is := 133) (text := "no such line") hC hS hK0 hx hb hflags hown (by decide) hts (by decide +kernel) (by decide +kernel) (by decide) (fun _ h => List.mem_cons_of_mem _ (List.mem_append_right _ h)) gb_42 go_42 (by decide +kernel) (hl.1.trans hml.symm) dX0_checkLine_12 dX0_checkLine_15 dX0_checkLine_16 dX0_checkLine_18 dX0_checkLine_21 hxt (Nat.le_of_ble_eq_true rfl) (Nat.le_of_ble_eq_true rfl) (Nat.le_of_ble_eq_true rfl) (Nat.le_of_ble_eq_true rfl) hlocks (Nat.le_of_ble_eq_true rfl) (Nat.le_of_ble_eq_true rfl)
  · skip
    refine lv_iload_n hx hb dX0_checkLine_4 rfl (lv_at hl 1 rfl) ?_
    refine lv_aload_n hx hb dX0_checkLine_5 rfl (lv_at hl 0 rfl) ?_
    refine r_g0 hC hx hb hts hin hown 1 (by decide) (hts (.fieldLink RX0 13 "AbjadPoems" "lines" "I") (by decide +kernel)) rfl dX0_checkLine_6 ?_
    refine lv_icmp_lt (tgt := 22) hx hb dX0_checkLine_9 (by decide) (fun c_9 => ?_) (fun c_9 => ?_)
    · skip
      exact h.elim (fun q => absurd q c_1) (fun q => absurd c_9 (Int32.not_lt.mpr q))
    · skip
      exact x_thr (E := EI_) (ik := 38) (ic := 42) (is := 133) (text := "no such line") hC hS hK0 hx hb hflags hown (by decide) hts (by decide +kernel) (by decide +kernel) (by decide) (fun _ h => List.mem_cons_of_mem _ (List.mem_append_right _ h)) gb_42 go_42 (by decide +kernel) (hl.1.trans hml.symm) dX0_checkLine_12 dX0_checkLine_15 dX0_checkLine_16 dX0_checkLine_18 dX0_checkLine_21 hxt (Nat.le_of_ble_eq_true rfl) (Nat.le_of_ble_eq_true rfl) (Nat.le_of_ble_eq_true rfl) (Nat.le_of_ble_eq_true rfl) hlocks (Nat.le_of_ble_eq_true rfl) (Nat.le_of_ble_eq_true rfl)
set_option maxHeartbeats 4000000 in
set_option maxRecDepth 100000 in
theorem c_X0_checkWordOfLine (l : Launch) (B0 : Nat) (g : va_G) (ct ad : Nat → Nat) (cS mS : St_) (x : Ax_) (i w : Nat) (hi : i < sn cS) (hw : w < ss cS i) : RV l yX0_checkWordOfLine wsX0_checkWordOfLine 1 (PX B0 g ct ad cS mS x [.ref (ad 0), .int (nI i), .int (nI w)]) := by
  refine Met.ofW (cc := cX0_checkWordOfLine) (maxL := 3) (ret := none) (by decide) rfl ?_
  intro p e s m args below meth c s₁ B hml hv
  obtain ⟨rfl, hC⟩ := hv
  have hx := B.exec
  have hb := B.bytes
  have hr := B.returns
  have hts := atoms_spec (ws := wsX0_checkWordOfLine) B.pre
  have hown : s.vm.findClass RX0 = some m.cls := findClass_of_methodNamed B.named
  have hlocks := B.notSynchronized
  have hin : ∀ w ∈ wsX00, w ∈ wsX0_checkWordOfLine := fun _ h => List.mem_cons_of_mem _ (List.mem_append_left _ (List.mem_append_right _ h))
  have hI := hC.1.2.2.2.1
  have hn := hI.2.1
  have hz := hI.2.2.1 i
  have hl := lv_entry ([.ref (ad 0), .int (nI i), .int (nI w)]) (n := 3) (Nat.le_of_ble_eq_true rfl)
  rw [lg_entry_eq]
  generalize (lg_sl ([.ref (ad 0), .int (nI i), .int (nI w)]) ++ List.replicate (3 - (lg_sl ([.ref (ad 0), .int (nI i), .int (nI w)])).length) Slot.unset).toArray = ls at hl ⊢
  have hl : lv_has ls 3 [(0, .ref (ad 0)), (1, .int (nI i)), (2, .int (nI w))] := hl
  refine lv_aload_n hx hb dX0_checkWordOfLine_0 rfl (lv_at hl 0 rfl) ?_
  refine lv_iload_n hx hb dX0_checkWordOfLine_1 rfl (lv_at hl 1 rfl) ?_
  refine k_vV (As := [.int (nI i)]) (rest := []) (c_X0_checkLine l B0 g ct ad cS mS x i (by omega)) hC ⟨hx, hb, hml, hown, hts⟩ (cwV 1 hts gX0_checkWordOfLine_X0_checkLine rfl rfl rfl (by decide +kernel) ⟨Nat.le_of_ble_eq_true rfl, Nat.le_of_ble_eq_true rfl⟩) (rc0 hC) rfl hl.1 rfl (Nat.le_of_ble_eq_true rfl) dX0_checkWordOfLine_2 ⟨Nat.le_of_ble_eq_true rfl, Nat.le_of_ble_eq_true rfl⟩ ?_
  refine lv_iload_n hx hb dX0_checkWordOfLine_5 rfl (lv_at hl 2 rfl) ?_
  refine lv_if_lt (tgt := 19) hx hb dX0_checkWordOfLine_6 (by decide) (fun c_6 => ?_) (fun c_6 => ?_)
  · skip
    exact absurd c_6 (nI_pos (by omega))
  · skip
    refine lv_iload_n hx hb dX0_checkWordOfLine_9 rfl (lv_at hl 2 rfl) ?_
    refine lv_aload_n hx hb dX0_checkWordOfLine_10 rfl (lv_at hl 0 rfl) ?_
    refine r_g0 hC hx hb hts hin hown 2 (by decide) (hts (.fieldLink RX0 16 "AbjadPoems" "sizes" "[I") (by decide +kernel)) rfl dX0_checkWordOfLine_11 ?_
    refine lv_iload_n hx hb dX0_checkWordOfLine_14 rfl (lv_at hl 1 rfl) ?_
    refine r_sz hC hx hb dX0_checkWordOfLine_15 (j := i) (by omega) ?_
    refine lv_icmp_lt (tgt := 29) hx hb dX0_checkWordOfLine_16 (by decide) (fun c_16 => ?_) (fun c_16 => ?_)
    · skip
      have n_16 : w < ss cS i := (nI_ltI (a := w) (b := ss cS i) (by omega) (by omega)).mp c_16
      exact W.vret hx hb hr (fun t ht hW => ⟨rfl, trivial, ht⟩) (fun q hq => absurd hq List.not_mem_nil) dX0_checkWordOfLine_29
    · skip
      have n_16 : ¬ w < ss cS i := fun q__ => c_16 ((nI_ltI (a := w) (b := ss cS i) (by omega) (by omega)).mpr q__)
      exact absurd hw n_16
set_option maxHeartbeats 4000000 in
set_option maxRecDepth 100000 in
theorem t_X0_checkWordOfLine_1 (l : Launch) (B0 : Nat) (g : va_G) (ct ad : Nat → Nat) (cS mS : St_) (x : Ax_) (hflags : l.stackTraces = false) (li : Int32) (h : li < 0 ∨ nI (sn cS) ≤ li) (wi : Int32) : TX l yX0_checkWordOfLine wsX0_checkWordOfLine 7 B0 g ct ad cS mS x [.ref (ad 0), .int li, .int wi] EI_ := by
  refine vx_ofW (cc := cX0_checkWordOfLine) (maxL := 3) (ret := none) (by decide) rfl ?_
  intro p e s m args below meth c s₁ B hml hxt hv
  obtain ⟨rfl, hC⟩ := hv
  have hx := B.exec
  have hb := B.bytes
  have hr := B.returns
  have hts := atoms_spec (ws := wsX0_checkWordOfLine) B.pre
  have hown : s.vm.findClass RX0 = some m.cls := findClass_of_methodNamed B.named
  have hlocks := B.notSynchronized
  have hin : ∀ w ∈ wsX00, w ∈ wsX0_checkWordOfLine := fun _ h => List.mem_cons_of_mem _ (List.mem_append_left _ (List.mem_append_right _ h))
  have hS : va_S (AA B0) s.heap s.heap [] := va_S.rf
  have hB : B0 ≤ s.heap.size := hC.1.2.2.1
  have hK0 := hC.2
  have hl := lv_entry ([.ref (ad 0), .int li, .int wi]) (n := 3) (Nat.le_of_ble_eq_true rfl)
  rw [lg_entry_eq]
  generalize (lg_sl ([.ref (ad 0), .int li, .int wi]) ++ List.replicate (3 - (lg_sl ([.ref (ad 0), .int li, .int wi])).length) Slot.unset).toArray = ls at hl ⊢
  have hl : lv_has ls 3 [(0, .ref (ad 0)), (1, .int li), (2, .int wi)] := hl
  refine lv_aload_n hx hb dX0_checkWordOfLine_0 rfl (lv_at hl 0 rfl) ?_
  refine lv_iload_n hx hb dX0_checkWordOfLine_1 rfl (lv_at hl 1 rfl) ?_
  refine k_tV (As := [.int li]) (rest := []) (t_X0_checkLine l B0 g ct ad cS mS x hflags li h) hC hB hS ⟨hx, hb, hml, hown, hts⟩ (cwV 1 hts gX0_checkWordOfLine_X0_checkLine rfl rfl rfl (by decide +kernel) ⟨Nat.le_of_ble_eq_true rfl, Nat.le_of_ble_eq_true rfl⟩) (rc0 hC) rfl hl.1 rfl (Nat.le_of_ble_eq_true rfl) dX0_checkWordOfLine_2 ⟨Nat.le_of_ble_eq_true rfl, Nat.le_of_ble_eq_true rfl⟩ (fun ce_ q9_ H locs hC hS hce_ hcv_ hcl_ => ?_)
  exact vx_out (fun x hx_ => (hxt x hx_).elim) hlocks hce_ hcv_ hcl_ (fun t ht hA => ⟨(), trivial, ⟨rfl, by rw [ht]; exact hC.1⟩, hS.F ht⟩) hS.2.2 (Nat.le_of_ble_eq_true rfl) (Nat.le_of_ble_eq_true rfl)
set_option maxHeartbeats 4000000 in
set_option maxRecDepth 100000 in
theorem t_X0_checkWordOfLine_2 (l : Launch) (B0 : Nat) (g : va_G) (ct ad : Nat → Nat) (cS mS : St_) (x : Ax_) (hflags : l.stackTraces = false) (i : Nat) (hi : i < sn cS) (wi : Int32) (h : wi < 0 ∨ nI (ss cS i) ≤ wi) : TX l yX0_checkWordOfLine wsX0_checkWordOfLine 7 B0 g ct ad cS mS x [.ref (ad 0), .int (nI i), .int wi] EI_ := by
  refine vx_ofW (cc := cX0_checkWordOfLine) (maxL := 3) (ret := none) (by decide) rfl ?_
  intro p e s m args below meth c s₁ B hml hxt hv
  obtain ⟨rfl, hC⟩ := hv
  have hx := B.exec
  have hb := B.bytes
  have hr := B.returns
  have hts := atoms_spec (ws := wsX0_checkWordOfLine) B.pre
  have hown : s.vm.findClass RX0 = some m.cls := findClass_of_methodNamed B.named
  have hlocks := B.notSynchronized
  have hin : ∀ w ∈ wsX00, w ∈ wsX0_checkWordOfLine := fun _ h => List.mem_cons_of_mem _ (List.mem_append_left _ (List.mem_append_right _ h))
  have hS : va_S (AA B0) s.heap s.heap [] := va_S.rf
  have hB : B0 ≤ s.heap.size := hC.1.2.2.1
  have hK0 := hC.2
  have hI := hC.1.2.2.2.1
  have hn := hI.2.1
  have hz := hI.2.2.1 i
  have hl := lv_entry ([.ref (ad 0), .int (nI i), .int wi]) (n := 3) (Nat.le_of_ble_eq_true rfl)
  rw [lg_entry_eq]
  generalize (lg_sl ([.ref (ad 0), .int (nI i), .int wi]) ++ List.replicate (3 - (lg_sl ([.ref (ad 0), .int (nI i), .int wi])).length) Slot.unset).toArray = ls at hl ⊢
  have hl : lv_has ls 3 [(0, .ref (ad 0)), (1, .int (nI i)), (2, .int wi)] := hl
  refine lv_aload_n hx hb dX0_checkWordOfLine_0 rfl (lv_at hl 0 rfl) ?_
  refine lv_iload_n hx hb dX0_checkWordOfLine_1 rfl (lv_at hl 1 rfl) ?_
  refine k_vV (As := [.int (nI i)]) (rest := []) (c_X0_checkLine l B0 g ct ad cS mS x i (by omega)) hC ⟨hx, hb, hml, hown, hts⟩ (cwV 1 hts gX0_checkWordOfLine_X0_checkLine rfl rfl rfl (by decide +kernel) ⟨Nat.le_of_ble_eq_true rfl, Nat.le_of_ble_eq_true rfl⟩) (rc0 hC) rfl hl.1 rfl (Nat.le_of_ble_eq_true rfl) dX0_checkWordOfLine_2 ⟨Nat.le_of_ble_eq_true rfl, Nat.le_of_ble_eq_true rfl⟩ ?_
  refine lv_iload_n hx hb dX0_checkWordOfLine_5 rfl (lv_at hl 2 rfl) ?_
  refine lv_if_lt (tgt := 19) hx hb dX0_checkWordOfLine_6 (by decide) (fun c_6 => ?_) (fun c_6 => ?_)
  · skip
    exact x_thr (E := EI_) (ik := 38) (ic := 42) (is := 135) (text := "no such word") hC hS hK0 hx hb hflags hown (by decide) hts (by decide +kernel) (by decide +kernel) (by decide) (fun _ h => List.mem_cons_of_mem _ (List.mem_append_right _ h)) gb_42 go_42 (by decide +kernel) (hl.1.trans hml.symm) dX0_checkWordOfLine_19 dX0_checkWordOfLine_22 dX0_checkWordOfLine_23 dX0_checkWordOfLine_25 dX0_checkWordOfLine_28 hxt (Nat.le_of_ble_eq_true rfl) (Nat.le_of_ble_eq_true rfl) (Nat.le_of_ble_eq_true rfl) (Nat.le_of_ble_eq_true rfl) hlocks (Nat.le_of_ble_eq_true rfl) (Nat.le_of_ble_eq_true rfl)
  · skip
    refine lv_iload_n hx hb dX0_checkWordOfLine_9 rfl (lv_at hl 2 rfl) ?_
    refine lv_aload_n hx hb dX0_checkWordOfLine_10 rfl (lv_at hl 0 rfl) ?_
    refine r_g0 hC hx hb hts hin hown 2 (by decide) (hts (.fieldLink RX0 16 "AbjadPoems" "sizes" "[I") (by decide +kernel)) rfl dX0_checkWordOfLine_11 ?_
    refine lv_iload_n hx hb dX0_checkWordOfLine_14 rfl (lv_at hl 1 rfl) ?_
    refine r_sz hC hx hb dX0_checkWordOfLine_15 (j := i) (by omega) ?_
    refine lv_icmp_lt (tgt := 29) hx hb dX0_checkWordOfLine_16 (by decide) (fun c_16 => ?_) (fun c_16 => ?_)
    · skip
      exact h.elim (fun q => absurd q c_6) (fun q => absurd c_16 (Int32.not_lt.mpr q))
    · skip
      exact x_thr (E := EI_) (ik := 38) (ic := 42) (is := 135) (text := "no such word") hC hS hK0 hx hb hflags hown (by decide) hts (by decide +kernel) (by decide +kernel) (by decide) (fun _ h => List.mem_cons_of_mem _ (List.mem_append_right _ h)) gb_42 go_42 (by decide +kernel) (hl.1.trans hml.symm) dX0_checkWordOfLine_19 dX0_checkWordOfLine_22 dX0_checkWordOfLine_23 dX0_checkWordOfLine_25 dX0_checkWordOfLine_28 hxt (Nat.le_of_ble_eq_true rfl) (Nat.le_of_ble_eq_true rfl) (Nat.le_of_ble_eq_true rfl) (Nat.le_of_ble_eq_true rfl) hlocks (Nat.le_of_ble_eq_true rfl) (Nat.le_of_ble_eq_true rfl)
set_option maxHeartbeats 4000000 in
set_option maxRecDepth 100000 in
theorem c_X0_checkWhat (l : Launch) (B0 : Nat) (g : va_G) (ct ad : Nat → Nat) (cS mS : St_) (x : Ax_) (q f : Nat) (hq : q < f) (hf : f < 9) : RV l yX0_checkWhat wsX0_checkWhat 0 (PX B0 g ct ad cS mS x [.int (nI q), .int (nI f)]) := by
  refine Met.ofW (cc := cX0_checkWhat) (maxL := 2) (ret := none) (by decide) rfl ?_
  intro p e s m args below meth c s₁ B hml hv
  obtain ⟨rfl, hC⟩ := hv
  have hx := B.exec
  have hb := B.bytes
  have hr := B.returns
  have hts := atoms_spec (ws := wsX0_checkWhat) B.pre
  have hown : s.vm.findClass RX0 = some m.cls := findClass_of_methodNamed B.named
  have hlocks := B.notSynchronized
  have hl := lv_entry ([.int (nI q), .int (nI f)]) (n := 2) (Nat.le_of_ble_eq_true rfl)
  rw [lg_entry_eq]
  generalize (lg_sl ([.int (nI q), .int (nI f)]) ++ List.replicate (2 - (lg_sl ([.int (nI q), .int (nI f)])).length) Slot.unset).toArray = ls at hl ⊢
  have hl : lv_has ls 2 [(0, .int (nI q)), (1, .int (nI f))] := hl
  refine lv_iload_n hx hb dX0_checkWhat_0 rfl (lv_at hl 0 rfl) ?_
  refine lv_if_lt (tgt := 9) hx hb dX0_checkWhat_1 (by decide) (fun c_1 => ?_) (fun c_1 => ?_)
  · skip
    exact absurd c_1 (nI_pos (by omega))
  · skip
    refine lv_iload_n hx hb dX0_checkWhat_4 rfl (lv_at hl 0 rfl) ?_
    refine lv_iload_n hx hb dX0_checkWhat_5 rfl (lv_at hl 1 rfl) ?_
    refine lv_icmp_lt (tgt := 19) hx hb dX0_checkWhat_6 (by decide) (fun c_6 => ?_) (fun c_6 => ?_)
    · skip
      have n_6 : q < f := (nI_ltI (a := q) (b := f) (by omega) (by omega)).mp c_6
      exact W.vret hx hb hr (fun t ht hW => ⟨rfl, trivial, ht⟩) (fun q hq => absurd hq List.not_mem_nil) dX0_checkWhat_19
    · skip
      have n_6 : ¬ q < f := fun q__ => c_6 ((nI_ltI (a := q) (b := f) (by omega) (by omega)).mpr q__)
      exact absurd hq n_6
set_option maxHeartbeats 4000000 in
set_option maxRecDepth 100000 in
theorem t_X0_checkWhat (l : Launch) (B0 : Nat) (g : va_G) (ct ad : Nat → Nat) (cS mS : St_) (x : Ax_) (hflags : l.stackTraces = false) (q : Int32) (f : Nat) (h : q < 0 ∨ nI f ≤ q) : TX l yX0_checkWhat wsX0_checkWhat 6 B0 g ct ad cS mS x [.int q, .int (nI f)] EI_ := by
  refine vx_ofW (cc := cX0_checkWhat) (maxL := 2) (ret := none) (by decide) rfl ?_
  intro p e s m args below meth c s₁ B hml hxt hv
  obtain ⟨rfl, hC⟩ := hv
  have hx := B.exec
  have hb := B.bytes
  have hr := B.returns
  have hts := atoms_spec (ws := wsX0_checkWhat) B.pre
  have hown : s.vm.findClass RX0 = some m.cls := findClass_of_methodNamed B.named
  have hlocks := B.notSynchronized
  have hS : va_S (AA B0) s.heap s.heap [] := va_S.rf
  have hB : B0 ≤ s.heap.size := hC.1.2.2.1
  have hK0 := hC.2
  have hl := lv_entry ([.int q, .int (nI f)]) (n := 2) (Nat.le_of_ble_eq_true rfl)
  rw [lg_entry_eq]
  generalize (lg_sl ([.int q, .int (nI f)]) ++ List.replicate (2 - (lg_sl ([.int q, .int (nI f)])).length) Slot.unset).toArray = ls at hl ⊢
  have hl : lv_has ls 2 [(0, .int q), (1, .int (nI f))] := hl
  refine lv_iload_n hx hb dX0_checkWhat_0 rfl (lv_at hl 0 rfl) ?_
  refine lv_if_lt (tgt := 9) hx hb dX0_checkWhat_1 (by decide) (fun c_1 => ?_) (fun c_1 => ?_)
  · skip
    exact x_thr (E := EI_) (ik := 38) (ic := 42) (is := 137) (text := "nothing such is told") hC hS hK0 hx hb hflags hown (by decide) hts (by decide +kernel) (by decide +kernel) (by decide) (fun _ h => List.mem_cons_of_mem _ (List.mem_append_right _ h)) gb_42 go_42 (by decide +kernel) (hl.1.trans hml.symm) dX0_checkWhat_9 dX0_checkWhat_12 dX0_checkWhat_13 dX0_checkWhat_15 dX0_checkWhat_18 hxt (Nat.le_of_ble_eq_true rfl) (Nat.le_of_ble_eq_true rfl) (Nat.le_of_ble_eq_true rfl) (Nat.le_of_ble_eq_true rfl) hlocks (Nat.le_of_ble_eq_true rfl) (Nat.le_of_ble_eq_true rfl)
  · skip
    refine lv_iload_n hx hb dX0_checkWhat_4 rfl (lv_at hl 0 rfl) ?_
    refine lv_iload_n hx hb dX0_checkWhat_5 rfl (lv_at hl 1 rfl) ?_
    refine lv_icmp_lt (tgt := 19) hx hb dX0_checkWhat_6 (by decide) (fun c_6 => ?_) (fun c_6 => ?_)
    · skip
      exact h.elim (fun z => absurd z c_1) (fun z => absurd c_6 (Int32.not_lt.mpr z))
    · skip
      exact x_thr (E := EI_) (ik := 38) (ic := 42) (is := 137) (text := "nothing such is told") hC hS hK0 hx hb hflags hown (by decide) hts (by decide +kernel) (by decide +kernel) (by decide) (fun _ h => List.mem_cons_of_mem _ (List.mem_append_right _ h)) gb_42 go_42 (by decide +kernel) (hl.1.trans hml.symm) dX0_checkWhat_9 dX0_checkWhat_12 dX0_checkWhat_13 dX0_checkWhat_15 dX0_checkWhat_18 hxt (Nat.le_of_ble_eq_true rfl) (Nat.le_of_ble_eq_true rfl) (Nat.le_of_ble_eq_true rfl) (Nat.le_of_ble_eq_true rfl) hlocks (Nat.le_of_ble_eq_true rfl) (Nat.le_of_ble_eq_true rfl)
set_option maxHeartbeats 4000000 in
set_option maxRecDepth 100000 in
theorem c_X0_checkWord (l : Launch) (B0 : Nat) (g : va_G) (ct ad : Nat → Nat) (cS mS : St_) (x : Ax_) (w : Int32) (h : wd_ w = true) : RV l yX0_checkWord wsX0_checkWord 1 (PX B0 g ct ad cS mS x [.int w]) := by
  refine Met.ofW (cc := cX0_checkWord) (maxL := 1) (ret := none) (by decide) rfl ?_
  intro p e s m args below meth c s₁ B hml hv
  obtain ⟨rfl, hC⟩ := hv
  have hx := B.exec
  have hb := B.bytes
  have hr := B.returns
  have hts := atoms_spec (ws := wsX0_checkWord) B.pre
  have hown : s.vm.findClass RX0 = some m.cls := findClass_of_methodNamed B.named
  have hlocks := B.notSynchronized
  have hl := lv_entry ([.int w]) (n := 1) (Nat.le_of_ble_eq_true rfl)
  rw [lg_entry_eq]
  generalize (lg_sl ([.int w]) ++ List.replicate (1 - (lg_sl ([.int w])).length) Slot.unset).toArray = ls at hl ⊢
  have hl : lv_has ls 1 [(0, .int w)] := hl
  refine lv_iload_n hx hb dX0_checkWord_0 rfl (lv_at hl 0 rfl) ?_
  refine k_pS (As := [.int w]) (rest := []) (c_X0_isWord l w) ⟨hx, hb, hml, hown, hts⟩ (va_cwS 1 hts gX0_checkWord_X0_isWord rfl rfl rfl (by decide +kernel) ⟨Nat.le_of_ble_eq_true rfl, Nat.le_of_ble_eq_true rfl⟩) rfl hl.1 rfl (Nat.le_of_ble_eq_true rfl) dX0_checkWord_1 ⟨Nat.le_of_ble_eq_true rfl, Nat.le_of_ble_eq_true rfl⟩ ?_
  refine lv_if_ne (tgt := 17) hx hb dX0_checkWord_4 (by decide) (fun c_4 => ?_) (fun c_4 => ?_)
  · skip
    exact W.vret hx hb hr (fun t ht hW => ⟨rfl, trivial, ht⟩) (fun q hq => absurd hq List.not_mem_nil) dX0_checkWord_17
  · skip
    rw [h] at c_4; exact absurd c_4 (by decide)
set_option maxHeartbeats 4000000 in
set_option maxRecDepth 100000 in
theorem t_X0_checkWord (l : Launch) (B0 : Nat) (g : va_G) (ct ad : Nat → Nat) (cS mS : St_) (x : Ax_) (hflags : l.stackTraces = false) (w : Int32) (h : wd_ w = false) : TX l yX0_checkWord wsX0_checkWord 6 B0 g ct ad cS mS x [.int w] EA_ := by
  refine vx_ofW (cc := cX0_checkWord) (maxL := 1) (ret := none) (by decide) rfl ?_
  intro p e s m args below meth c s₁ B hml hxt hv
  obtain ⟨rfl, hC⟩ := hv
  have hx := B.exec
  have hb := B.bytes
  have hr := B.returns
  have hts := atoms_spec (ws := wsX0_checkWord) B.pre
  have hown : s.vm.findClass RX0 = some m.cls := findClass_of_methodNamed B.named
  have hlocks := B.notSynchronized
  have hS : va_S (AA B0) s.heap s.heap [] := va_S.rf
  have hB : B0 ≤ s.heap.size := hC.1.2.2.1
  have hK0 := hC.2
  have hl := lv_entry ([.int w]) (n := 1) (Nat.le_of_ble_eq_true rfl)
  rw [lg_entry_eq]
  generalize (lg_sl ([.int w]) ++ List.replicate (1 - (lg_sl ([.int w])).length) Slot.unset).toArray = ls at hl ⊢
  have hl : lv_has ls 1 [(0, .int w)] := hl
  refine lv_iload_n hx hb dX0_checkWord_0 rfl (lv_at hl 0 rfl) ?_
  refine k_pS (As := [.int w]) (rest := []) (c_X0_isWord l w) ⟨hx, hb, hml, hown, hts⟩ (va_cwS 1 hts gX0_checkWord_X0_isWord rfl rfl rfl (by decide +kernel) ⟨Nat.le_of_ble_eq_true rfl, Nat.le_of_ble_eq_true rfl⟩) rfl hl.1 rfl (Nat.le_of_ble_eq_true rfl) dX0_checkWord_1 ⟨Nat.le_of_ble_eq_true rfl, Nat.le_of_ble_eq_true rfl⟩ ?_
  refine lv_if_ne (tgt := 17) hx hb dX0_checkWord_4 (by decide) (fun c_4 => ?_) (fun c_4 => ?_)
  · skip
    rw [h] at c_4; exact absurd rfl c_4
  · skip
    exact x_thr (E := EA_) (ik := 143) (ic := 147) (is := 145) (text := "no word") hC hS hK0 hx hb hflags hown (by decide) hts (by decide +kernel) (by decide +kernel) (by decide) (fun _ h => List.mem_cons_of_mem _ (List.mem_append_right _ h)) gb_147 go_147 (by decide +kernel) (hl.1.trans hml.symm) dX0_checkWord_7 dX0_checkWord_10 dX0_checkWord_11 dX0_checkWord_13 dX0_checkWord_16 hxt (Nat.le_of_ble_eq_true rfl) (Nat.le_of_ble_eq_true rfl) (Nat.le_of_ble_eq_true rfl) (Nat.le_of_ble_eq_true rfl) hlocks (Nat.le_of_ble_eq_true rfl) (Nat.le_of_ble_eq_true rfl)
set_option maxHeartbeats 4000000 in
set_option maxRecDepth 100000 in
theorem c_X0_checkYear (l : Launch) (B0 : Nat) (g : va_G) (ct ad : Nat → Nat) (cS mS : St_) (x : Ax_) (y : Nat) (h1 : 1 ≤ y) (h2 : y ≤ 3000) : RV l yX0_checkYear wsX0_checkYear 0 (PX B0 g ct ad cS mS x [.int (nI y)]) := by
  refine Met.ofW (cc := cX0_checkYear) (maxL := 1) (ret := none) (by decide) rfl ?_
  intro p e s m args below meth c s₁ B hml hv
  obtain ⟨rfl, hC⟩ := hv
  have hx := B.exec
  have hb := B.bytes
  have hr := B.returns
  have hts := atoms_spec (ws := wsX0_checkYear) B.pre
  have hown : s.vm.findClass RX0 = some m.cls := findClass_of_methodNamed B.named
  have hlocks := B.notSynchronized
  have hl := lv_entry ([.int (nI y)]) (n := 1) (Nat.le_of_ble_eq_true rfl)
  rw [lg_entry_eq]
  generalize (lg_sl ([.int (nI y)]) ++ List.replicate (1 - (lg_sl ([.int (nI y)])).length) Slot.unset).toArray = ls at hl ⊢
  have hl : lv_has ls 1 [(0, .int (nI y))] := hl
  refine lv_iload_n hx hb dX0_checkYear_0 rfl (lv_at hl 0 rfl) ?_
  refine lv_iconst (v := nI 1) hx hb dX0_checkYear_1 (by decide) ?_
  refine lv_icmp_lt (tgt := 12) hx hb dX0_checkYear_2 (by decide) (fun c_2 => ?_) (fun c_2 => ?_)
  · skip
    have n_2 : y < 1 := (nI_ltI (a := y) (b := 1) (by omega) (by omega)).mp c_2
    exact absurd n_2 (by omega)
  · skip
    have n_2 : ¬ y < 1 := fun q__ => c_2 ((nI_ltI (a := y) (b := 1) (by omega) (by omega)).mpr q__)
    refine lv_iload_n hx hb dX0_checkYear_5 rfl (lv_at hl 0 rfl) ?_
    refine lv_sipush (v := nI 3000) hx hb dX0_checkYear_6 (by decide) ?_
    refine lv_icmp_le (tgt := 22) hx hb dX0_checkYear_9 (by decide) (fun c_9 => ?_) (fun c_9 => ?_)
    · skip
      have n_9 : y ≤ 3000 := (nI_leI (a := y) (b := 3000) (by omega) (by omega)).mp c_9
      exact W.vret hx hb hr (fun t ht hW => ⟨rfl, trivial, ht⟩) (fun q hq => absurd hq List.not_mem_nil) dX0_checkYear_22
    · skip
      have n_9 : ¬ y ≤ 3000 := fun q__ => c_9 ((nI_leI (a := y) (b := 3000) (by omega) (by omega)).mpr q__)
      exact absurd h2 n_9
set_option maxHeartbeats 4000000 in
set_option maxRecDepth 100000 in
theorem t_X0_checkYear (l : Launch) (B0 : Nat) (g : va_G) (ct ad : Nat → Nat) (cS mS : St_) (x : Ax_) (hflags : l.stackTraces = false) (y : Int32) (h : y < nI 1 ∨ nI 3000 < y) : TX l yX0_checkYear wsX0_checkYear 6 B0 g ct ad cS mS x [.int y] EA_ := by
  refine vx_ofW (cc := cX0_checkYear) (maxL := 1) (ret := none) (by decide) rfl ?_
  intro p e s m args below meth c s₁ B hml hxt hv
  obtain ⟨rfl, hC⟩ := hv
  have hx := B.exec
  have hb := B.bytes
  have hr := B.returns
  have hts := atoms_spec (ws := wsX0_checkYear) B.pre
  have hown : s.vm.findClass RX0 = some m.cls := findClass_of_methodNamed B.named
  have hlocks := B.notSynchronized
  have hS : va_S (AA B0) s.heap s.heap [] := va_S.rf
  have hB : B0 ≤ s.heap.size := hC.1.2.2.1
  have hK0 := hC.2
  have hl := lv_entry ([.int y]) (n := 1) (Nat.le_of_ble_eq_true rfl)
  rw [lg_entry_eq]
  generalize (lg_sl ([.int y]) ++ List.replicate (1 - (lg_sl ([.int y])).length) Slot.unset).toArray = ls at hl ⊢
  have hl : lv_has ls 1 [(0, .int y)] := hl
  refine lv_iload_n hx hb dX0_checkYear_0 rfl (lv_at hl 0 rfl) ?_
  refine lv_iconst (v := nI 1) hx hb dX0_checkYear_1 (by decide) ?_
  refine lv_icmp_lt (tgt := 12) hx hb dX0_checkYear_2 (by decide) (fun c_2 => ?_) (fun c_2 => ?_)
  · skip
    exact x_thr (E := EA_) (ik := 143) (ic := 147) (is := 148) (text := "no year that can be spelled") hC hS hK0 hx hb hflags hown (by decide) hts (by decide +kernel) (by decide +kernel) (by decide) (fun _ h => List.mem_cons_of_mem _ (List.mem_append_right _ h)) gb_147 go_147 (by decide +kernel) (hl.1.trans hml.symm) dX0_checkYear_12 dX0_checkYear_15 dX0_checkYear_16 dX0_checkYear_18 dX0_checkYear_21 hxt (Nat.le_of_ble_eq_true rfl) (Nat.le_of_ble_eq_true rfl) (Nat.le_of_ble_eq_true rfl) (Nat.le_of_ble_eq_true rfl) hlocks (Nat.le_of_ble_eq_true rfl) (Nat.le_of_ble_eq_true rfl)
  · skip
    refine lv_iload_n hx hb dX0_checkYear_5 rfl (lv_at hl 0 rfl) ?_
    refine lv_sipush (v := nI 3000) hx hb dX0_checkYear_6 (by decide) ?_
    refine lv_icmp_le (tgt := 22) hx hb dX0_checkYear_9 (by decide) (fun c_9 => ?_) (fun c_9 => ?_)
    · skip
      exact h.elim (fun z => absurd z c_2) (fun z => absurd c_9 (Int32.not_le.mpr z))
    · skip
      exact x_thr (E := EA_) (ik := 143) (ic := 147) (is := 148) (text := "no year that can be spelled") hC hS hK0 hx hb hflags hown (by decide) hts (by decide +kernel) (by decide +kernel) (by decide) (fun _ h => List.mem_cons_of_mem _ (List.mem_append_right _ h)) gb_147 go_147 (by decide +kernel) (hl.1.trans hml.symm) dX0_checkYear_12 dX0_checkYear_15 dX0_checkYear_16 dX0_checkYear_18 dX0_checkYear_21 hxt (Nat.le_of_ble_eq_true rfl) (Nat.le_of_ble_eq_true rfl) (Nat.le_of_ble_eq_true rfl) (Nat.le_of_ble_eq_true rfl) hlocks (Nat.le_of_ble_eq_true rfl) (Nat.le_of_ble_eq_true rfl)
set_option maxHeartbeats 4000000 in
set_option maxRecDepth 100000 in
theorem c_X0_letter (l : Launch) (B0 : Nat) (g : va_G) (ct ad : Nat → Nat) (cS mS : St_) (x : Ax_) (k : Nat) (h1 : 1 ≤ k) (h2 : k ≤ 26) : RI l yX0_letter wsX0_letter 1 (PX B0 g ct ad cS mS x [.ref (ad 0), .int (nI k)]) (nI (vl_ (so cS) k)) := by
  refine Met.ofW (cc := cX0_letter) (maxL := 2) (ret := (some .int)) (by decide) rfl ?_
  intro p e s m args below meth c s₁ B hml hv
  obtain ⟨rfl, hC⟩ := hv
  have hx := B.exec
  have hb := B.bytes
  have hr := B.returns
  have hts := atoms_spec (ws := wsX0_letter) B.pre
  have hown : s.vm.findClass RX0 = some m.cls := findClass_of_methodNamed B.named
  have hlocks := B.notSynchronized
  have hin : ∀ w ∈ wsX00, w ∈ wsX0_letter := fun _ h => List.mem_cons_of_mem _ (List.mem_append_left _ (List.mem_append_right _ h))
  have hl := lv_entry ([.ref (ad 0), .int (nI k)]) (n := 2) (Nat.le_of_ble_eq_true rfl)
  rw [lg_entry_eq]
  generalize (lg_sl ([.ref (ad 0), .int (nI k)]) ++ List.replicate (2 - (lg_sl ([.ref (ad 0), .int (nI k)])).length) Slot.unset).toArray = ls at hl ⊢
  have hl : lv_has ls 2 [(0, .ref (ad 0)), (1, .int (nI k))] := hl
  refine lv_iload_n hx hb dX0_letter_0 rfl (lv_at hl 1 rfl) ?_
  refine lv_iconst (v := nI 1) hx hb dX0_letter_1 (by decide) ?_
  refine lv_icmp_lt (tgt := 11) hx hb dX0_letter_2 (by decide) (fun c_2 => ?_) (fun c_2 => ?_)
  · skip
    have n_2 : k < 1 := (nI_ltI (a := k) (b := 1) (by omega) (by omega)).mp c_2
    exact absurd n_2 (by omega)
  · skip
    have n_2 : ¬ k < 1 := fun q__ => c_2 ((nI_ltI (a := k) (b := 1) (by omega) (by omega)).mpr q__)
    refine lv_iload_n hx hb dX0_letter_5 rfl (lv_at hl 1 rfl) ?_
    refine lv_bipush (v := nI 26) hx hb dX0_letter_6 (by decide) ?_
    refine lv_icmp_le (tgt := 21) hx hb dX0_letter_8 (by decide) (fun c_8 => ?_) (fun c_8 => ?_)
    · skip
      have n_8 : k ≤ 26 := (nI_leI (a := k) (b := 26) (by omega) (by omega)).mp c_8
      refine lv_aload_n hx hb dX0_letter_21 rfl (lv_at hl 0 rfl) ?_
      refine lv_iload_n hx hb dX0_letter_22 rfl (lv_at hl 1 rfl) ?_
      refine k_rV (As := [.int (nI k)]) (rest := []) (c_X0_worthOfLetter l B0 g ct ad cS mS x k (by omega)) hC ⟨hx, hb, hml, hown, hts⟩ (cwV 1 hts gX0_letter_X0_worthOfLetter rfl rfl rfl (by decide +kernel) ⟨Nat.le_of_ble_eq_true rfl, Nat.le_of_ble_eq_true rfl⟩) (rc0 hC) rfl hl.1 rfl (Nat.le_of_ble_eq_true rfl) dX0_letter_23 ⟨Nat.le_of_ble_eq_true rfl, Nat.le_of_ble_eq_true rfl⟩ ?_
      exact W.iret hx hb hr (fun t ht hW => ⟨_, rfl, rfl, ht⟩) (fun q hq => absurd hq List.not_mem_nil) dX0_letter_26
    · skip
      have n_8 : ¬ k ≤ 26 := fun q__ => c_8 ((nI_leI (a := k) (b := 26) (by omega) (by omega)).mpr q__)
      exact absurd h2 n_8
set_option maxHeartbeats 4000000 in
set_option maxRecDepth 100000 in
theorem t_X0_letter (l : Launch) (B0 : Nat) (g : va_G) (ct ad : Nat → Nat) (cS mS : St_) (x : Ax_) (hflags : l.stackTraces = false) (k : Int32) (h : k < nI 1 ∨ nI 26 < k) : TX l yX0_letter wsX0_letter 7 B0 g ct ad cS mS x [.ref (ad 0), .int k] EI_ := by
  refine vx_ofW (cc := cX0_letter) (maxL := 2) (ret := (some .int)) (by decide) rfl ?_
  intro p e s m args below meth c s₁ B hml hxt hv
  obtain ⟨rfl, hC⟩ := hv
  have hx := B.exec
  have hb := B.bytes
  have hr := B.returns
  have hts := atoms_spec (ws := wsX0_letter) B.pre
  have hown : s.vm.findClass RX0 = some m.cls := findClass_of_methodNamed B.named
  have hlocks := B.notSynchronized
  have hin : ∀ w ∈ wsX00, w ∈ wsX0_letter := fun _ h => List.mem_cons_of_mem _ (List.mem_append_left _ (List.mem_append_right _ h))
  have hS : va_S (AA B0) s.heap s.heap [] := va_S.rf
  have hB : B0 ≤ s.heap.size := hC.1.2.2.1
  have hK0 := hC.2
  have hl := lv_entry ([.ref (ad 0), .int k]) (n := 2) (Nat.le_of_ble_eq_true rfl)
  rw [lg_entry_eq]
  generalize (lg_sl ([.ref (ad 0), .int k]) ++ List.replicate (2 - (lg_sl ([.ref (ad 0), .int k])).length) Slot.unset).toArray = ls at hl ⊢
  have hl : lv_has ls 2 [(0, .ref (ad 0)), (1, .int k)] := hl
  refine lv_iload_n hx hb dX0_letter_0 rfl (lv_at hl 1 rfl) ?_
  refine lv_iconst (v := nI 1) hx hb dX0_letter_1 (by decide) ?_
  refine lv_icmp_lt (tgt := 11) hx hb dX0_letter_2 (by decide) (fun c_2 => ?_) (fun c_2 => ?_)
  · skip
    exact x_thr (E := EI_) (ik := 38) (ic := 42) (is := 45) (text := "no such letter") hC hS hK0 hx hb hflags hown (by decide) hts (by decide +kernel) (by decide +kernel) (by decide) (fun _ h => List.mem_cons_of_mem _ (List.mem_append_right _ h)) gb_42 go_42 (by decide +kernel) (hl.1.trans hml.symm) dX0_letter_11 dX0_letter_14 dX0_letter_15 dX0_letter_17 dX0_letter_20 hxt (Nat.le_of_ble_eq_true rfl) (Nat.le_of_ble_eq_true rfl) (Nat.le_of_ble_eq_true rfl) (Nat.le_of_ble_eq_true rfl) hlocks (Nat.le_of_ble_eq_true rfl) (Nat.le_of_ble_eq_true rfl)
  · skip
    refine lv_iload_n hx hb dX0_letter_5 rfl (lv_at hl 1 rfl) ?_
    refine lv_bipush (v := nI 26) hx hb dX0_letter_6 (by decide) ?_
    refine lv_icmp_le (tgt := 21) hx hb dX0_letter_8 (by decide) (fun c_8 => ?_) (fun c_8 => ?_)
    · skip
      exact h.elim (fun z => absurd z c_2) (fun z => absurd c_8 (Int32.not_le.mpr z))
    · skip
      exact x_thr (E := EI_) (ik := 38) (ic := 42) (is := 45) (text := "no such letter") hC hS hK0 hx hb hflags hown (by decide) hts (by decide +kernel) (by decide +kernel) (by decide) (fun _ h => List.mem_cons_of_mem _ (List.mem_append_right _ h)) gb_42 go_42 (by decide +kernel) (hl.1.trans hml.symm) dX0_letter_11 dX0_letter_14 dX0_letter_15 dX0_letter_17 dX0_letter_20 hxt (Nat.le_of_ble_eq_true rfl) (Nat.le_of_ble_eq_true rfl) (Nat.le_of_ble_eq_true rfl) (Nat.le_of_ble_eq_true rfl) hlocks (Nat.le_of_ble_eq_true rfl) (Nat.le_of_ble_eq_true rfl)
set_option maxHeartbeats 4000000 in
set_option maxRecDepth 100000 in
theorem c_X0_value (l : Launch) (B0 : Nat) (g : va_G) (ct ad : Nat → Nat) (cS mS : St_) (x : Ax_) (w : Nat) (hw : w < 387420489) (h : wd_ (nI w) = true) : RI l yX0_value wsX0_value 2 (PX B0 g ct ad cS mS x [.ref (ad 0), .int (nI w)]) (nI (ws0 (so cS) w)) := by
  refine Met.ofW (cc := cX0_value) (maxL := 2) (ret := (some .int)) (by decide) rfl ?_
  intro p e s m args below meth c s₁ B hml hv
  obtain ⟨rfl, hC⟩ := hv
  have hx := B.exec
  have hb := B.bytes
  have hr := B.returns
  have hts := atoms_spec (ws := wsX0_value) B.pre
  have hown : s.vm.findClass RX0 = some m.cls := findClass_of_methodNamed B.named
  have hlocks := B.notSynchronized
  have hin : ∀ w ∈ wsX00, w ∈ wsX0_value := fun _ h => List.mem_cons_of_mem _ (List.mem_append_left _ (List.mem_append_right _ h))
  have hl := lv_entry ([.ref (ad 0), .int (nI w)]) (n := 2) (Nat.le_of_ble_eq_true rfl)
  rw [lg_entry_eq]
  generalize (lg_sl ([.ref (ad 0), .int (nI w)]) ++ List.replicate (2 - (lg_sl ([.ref (ad 0), .int (nI w)])).length) Slot.unset).toArray = ls at hl ⊢
  have hl : lv_has ls 2 [(0, .ref (ad 0)), (1, .int (nI w))] := hl
  refine lv_iload_n hx hb dX0_value_0 rfl (lv_at hl 1 rfl) ?_
  refine k_vS (As := [.int (nI w)]) (rest := []) (c_X0_checkWord l B0 g ct ad cS mS x (nI w) h) hC ⟨hx, hb, hml, hown, hts⟩ (va_cwS 1 hts gX0_value_X0_checkWord rfl rfl rfl (by decide +kernel) ⟨Nat.le_of_ble_eq_true rfl, Nat.le_of_ble_eq_true rfl⟩) rfl hl.1 rfl (Nat.le_of_ble_eq_true rfl) dX0_value_1 ⟨Nat.le_of_ble_eq_true rfl, Nat.le_of_ble_eq_true rfl⟩ ?_
  refine lv_aload_n hx hb dX0_value_4 rfl (lv_at hl 0 rfl) ?_
  refine lv_iload_n hx hb dX0_value_5 rfl (lv_at hl 1 rfl) ?_
  refine lv_bipush (v := nI 63) hx hb dX0_value_6 (by decide) ?_
  refine k_rV (As := [.int (nI w), .int (nI 63)]) (rest := []) (c_X0_worthOfPlaces l B0 g ct ad cS mS x w 63 (by omega) (by omega)) hC ⟨hx, hb, hml, hown, hts⟩ (cwV 2 hts gX0_value_X0_worthOfPlaces rfl rfl rfl (by decide +kernel) ⟨Nat.le_of_ble_eq_true rfl, Nat.le_of_ble_eq_true rfl⟩) (rc0 hC) rfl hl.1 rfl (Nat.le_of_ble_eq_true rfl) dX0_value_8 ⟨Nat.le_of_ble_eq_true rfl, Nat.le_of_ble_eq_true rfl⟩ ?_
  exact W.iret hx hb hr (fun t ht hW => ⟨_, rfl, (congrArg nI (wm_63 hw)), ht⟩) (fun q hq => absurd hq List.not_mem_nil) dX0_value_11
set_option maxHeartbeats 4000000 in
set_option maxRecDepth 100000 in
theorem t_X0_value (l : Launch) (B0 : Nat) (g : va_G) (ct ad : Nat → Nat) (cS mS : St_) (x : Ax_) (hflags : l.stackTraces = false) (w : Int32) (h : wd_ w = false) : TX l yX0_value wsX0_value 7 B0 g ct ad cS mS x [.ref (ad 0), .int w] EA_ := by
  refine vx_ofW (cc := cX0_value) (maxL := 2) (ret := (some .int)) (by decide) rfl ?_
  intro p e s m args below meth c s₁ B hml hxt hv
  obtain ⟨rfl, hC⟩ := hv
  have hx := B.exec
  have hb := B.bytes
  have hr := B.returns
  have hts := atoms_spec (ws := wsX0_value) B.pre
  have hown : s.vm.findClass RX0 = some m.cls := findClass_of_methodNamed B.named
  have hlocks := B.notSynchronized
  have hin : ∀ w ∈ wsX00, w ∈ wsX0_value := fun _ h => List.mem_cons_of_mem _ (List.mem_append_left _ (List.mem_append_right _ h))
  have hS : va_S (AA B0) s.heap s.heap [] := va_S.rf
  have hB : B0 ≤ s.heap.size := hC.1.2.2.1
  have hK0 := hC.2
  have hl := lv_entry ([.ref (ad 0), .int w]) (n := 2) (Nat.le_of_ble_eq_true rfl)
  rw [lg_entry_eq]
  generalize (lg_sl ([.ref (ad 0), .int w]) ++ List.replicate (2 - (lg_sl ([.ref (ad 0), .int w])).length) Slot.unset).toArray = ls at hl ⊢
  have hl : lv_has ls 2 [(0, .ref (ad 0)), (1, .int w)] := hl
  refine lv_iload_n hx hb dX0_value_0 rfl (lv_at hl 1 rfl) ?_
  refine k_tS (As := [.int w]) (rest := []) (t_X0_checkWord l B0 g ct ad cS mS x hflags w h) hC hB hS ⟨hx, hb, hml, hown, hts⟩ (va_cwS 1 hts gX0_value_X0_checkWord rfl rfl rfl (by decide +kernel) ⟨Nat.le_of_ble_eq_true rfl, Nat.le_of_ble_eq_true rfl⟩) rfl hl.1 rfl (Nat.le_of_ble_eq_true rfl) dX0_value_1 ⟨Nat.le_of_ble_eq_true rfl, Nat.le_of_ble_eq_true rfl⟩ (fun ce_ q9_ H locs hC hS hce_ hcv_ hcl_ => ?_)
  exact vx_out (fun x hx_ => (hxt x hx_).elim) hlocks hce_ hcv_ hcl_ (fun t ht hA => ⟨(), trivial, ⟨rfl, by rw [ht]; exact hC.1⟩, hS.F ht⟩) hS.2.2 (Nat.le_of_ble_eq_true rfl) (Nat.le_of_ble_eq_true rfl)
set_option maxHeartbeats 4000000 in
set_option maxRecDepth 100000 in
theorem c_X0_alike (l : Launch) (B0 : Nat) (g : va_G) (ct ad : Nat → Nat) (cS mS : St_) (x : Ax_) (a b : Nat) (ha : a < 387420489) (hb_ : b < 387420489) (h : wd_ (nI a) = true) (h2 : wd_ (nI b) = true) : RI l yX0_alike wsX0_alike 2 (PX B0 g ct ad cS mS x [.ref (ad 0), .int (nI a), .int (nI b)]) (b2_ (ak_ a b 26 1)) := by
  refine Met.ofW (cc := cX0_alike) (maxL := 4) (ret := (some .boolean)) (by decide) rfl ?_
  intro p e s m args below meth c s₁ B hml hv
  obtain ⟨rfl, hC⟩ := hv
  have hx := B.exec
  have hb := B.bytes
  have hr := B.returns
  have hts := atoms_spec (ws := wsX0_alike) B.pre
  have hown : s.vm.findClass RX0 = some m.cls := findClass_of_methodNamed B.named
  have hlocks := B.notSynchronized
  have hl := lv_entry ([.ref (ad 0), .int (nI a), .int (nI b)]) (n := 4) (Nat.le_of_ble_eq_true rfl)
  rw [lg_entry_eq]
  generalize (lg_sl ([.ref (ad 0), .int (nI a), .int (nI b)]) ++ List.replicate (4 - (lg_sl ([.ref (ad 0), .int (nI a), .int (nI b)])).length) Slot.unset).toArray = ls at hl ⊢
  have hl : lv_has ls 4 [(0, .ref (ad 0)), (1, .int (nI a)), (2, .int (nI b))] := hl
  refine lv_iload_n hx hb dX0_alike_0 rfl (lv_at hl 1 rfl) ?_
  refine k_vS (As := [.int (nI a)]) (rest := []) (c_X0_checkWord l B0 g ct ad cS mS x (nI a) h) hC ⟨hx, hb, hml, hown, hts⟩ (va_cwS 1 hts gX0_alike_X0_checkWord rfl rfl rfl (by decide +kernel) ⟨Nat.le_of_ble_eq_true rfl, Nat.le_of_ble_eq_true rfl⟩) rfl hl.1 rfl (Nat.le_of_ble_eq_true rfl) dX0_alike_1 ⟨Nat.le_of_ble_eq_true rfl, Nat.le_of_ble_eq_true rfl⟩ ?_
  refine lv_iload_n hx hb dX0_alike_4 rfl (lv_at hl 2 rfl) ?_
  refine k_vS (As := [.int (nI b)]) (rest := []) (c_X0_checkWord l B0 g ct ad cS mS x (nI b) h2) hC ⟨hx, hb, hml, hown, hts⟩ (va_cwS 1 hts gX0_alike_X0_checkWord rfl rfl rfl (by decide +kernel) ⟨Nat.le_of_ble_eq_true rfl, Nat.le_of_ble_eq_true rfl⟩) rfl hl.1 rfl (Nat.le_of_ble_eq_true rfl) dX0_alike_5 ⟨Nat.le_of_ble_eq_true rfl, Nat.le_of_ble_eq_true rfl⟩ ?_
  refine lv_iconst (v := nI 1) hx hb dX0_alike_8 (by decide) ?_
  refine lv_istore_n (lv' := [(3, .int (nI 1)), (0, .ref (ad 0)), (1, .int (nI a)), (2, .int (nI b))]) hx hb dX0_alike_9 rfl hl (by decide) rfl (fun ls hl => ?_)
  have LP_10 : ∀ (n_ : Nat) (k : Nat), 27 - k < n_ → (ak_ a b (27 - k) k = ak_ a b 26 1) → (1 ≤ k ∧ k ≤ 27) → ∀ ls : Array Slot, lv_has ls 4 [(3, .int (nI k)), (0, .ref (ad 0)), (1, .int (nI a)), (2, .int (nI b))] → W p l e (headSpec wsX0_alike (rm_ 2 0 0)).room s m ([.ref (ad 0), .int (nI a), .int (nI b)] : List Value).toArray below meth c s.heap [] 0 0 (MQ below (vp_Si (fun r => r = b2_ (ak_ a b 26 1))) ([.ref (ad 0), .int (nI a), .int (nI b)] : List Value).toArray s 0 0 (fun _ => False)) (F0 m 10 ls []) := by
    intro n_
    induction n_ with
    | zero => intro k hm; exact absurd hm (Nat.not_lt_zero _)
    | succ n_ ih_10 =>
      intro k hm h1 hk ls hl
      have b1 := oc_b a k
      have b2 := oc_b b k
      refine lv_iload_n hx hb dX0_alike_10 rfl (lv_at hl 0 rfl) ?_
      refine lv_bipush (v := nI 26) hx hb dX0_alike_11 (by decide) ?_
      refine lv_icmp_gt (tgt := 37) hx hb dX0_alike_13 (by decide) (fun c_13 => ?_) (fun c_13 => ?_)
      · skip
        have n_13 : 26 < k := (nI_ltI (a := 26) (b := k) (by omega) (by omega)).mp c_13
        have hE : ak_ a b 26 1 = true := by rw [← h1, show 27 - k = 0 by omega]; rfl
        refine lv_iconst (v := nI 1) hx hb dX0_alike_37 (by decide) ?_
        exact W.zret hx hb hr rfl (fun t ht hW => ⟨_, rfl, (by show nI 1 = b2_ (ak_ a b 26 1); rw [hE]; rfl), ht⟩) (fun q hq => absurd hq List.not_mem_nil) dX0_alike_38
      · skip
        have n_13 : ¬ 26 < k := fun q__ => c_13 ((nI_ltI (a := 26) (b := k) (by omega) (by omega)).mpr q__)
        refine lv_iload_n hx hb dX0_alike_16 rfl (lv_at hl 2 rfl) ?_
        refine lv_iload_n hx hb dX0_alike_17 rfl (lv_at hl 0 rfl) ?_
        refine k_pS (As := [.int (nI a), .int (nI k)]) (rest := []) (c_X0_timesIn l a k (by omega) (by omega)) ⟨hx, hb, hml, hown, hts⟩ (va_cwS 2 hts gX0_alike_X0_timesIn rfl rfl rfl (by decide +kernel) ⟨Nat.le_of_ble_eq_true rfl, Nat.le_of_ble_eq_true rfl⟩) rfl hl.1 rfl (Nat.le_of_ble_eq_true rfl) dX0_alike_18 ⟨Nat.le_of_ble_eq_true rfl, Nat.le_of_ble_eq_true rfl⟩ ?_
        refine lv_iload_n hx hb dX0_alike_21 rfl (lv_at hl 3 rfl) ?_
        refine lv_iload_n hx hb dX0_alike_22 rfl (lv_at hl 0 rfl) ?_
        refine k_pS (As := [.int (nI b), .int (nI k)]) (rest := [.int (nI (oc_ a k))]) (c_X0_timesIn l b k (by omega) (by omega)) ⟨hx, hb, hml, hown, hts⟩ (va_cwS 2 hts gX0_alike_X0_timesIn rfl rfl rfl (by decide +kernel) ⟨Nat.le_of_ble_eq_true rfl, Nat.le_of_ble_eq_true rfl⟩) rfl hl.1 rfl (Nat.le_of_ble_eq_true rfl) dX0_alike_23 ⟨Nat.le_of_ble_eq_true rfl, Nat.le_of_ble_eq_true rfl⟩ ?_
        refine lv_icmp_eq (tgt := 31) hx hb dX0_alike_26 (by decide) (fun c_26 => ?_) (fun c_26 => ?_)
        · skip
          have n_26 : oc_ a k = oc_ b k := (nI_eq (a := oc_ a k) (b := oc_ b k) (by omega) (by omega)).mp c_26
          refine lv_iinc (v := nI (k + 1)) (lv' := [(3, .int (nI (k + 1))), (0, .ref (ad 0)), (1, .int (nI a)), (2, .int (nI b))]) hx hb dX0_alike_31 hl (k := 0) rfl (nI_1 _) (by decide) rfl (fun ls hl => ?_)
          refine lv_goto (tgt := 10) hx hb dX0_alike_34 (by decide) ?_
          exact ih_10 (k + 1) (by omega) (by rw [← h1, show 27 - k = (26 - k) + 1 by omega, ak_e n_26, show 27 - (k + 1) = 26 - k by omega]) (by omega) ls (lv_sub hl [0, 1, 2, 3] rfl)
        · skip
          have n_26 : ¬ oc_ a k = oc_ b k := fun q__ => c_26 ((nI_eq (a := oc_ a k) (b := oc_ b k) (by omega) (by omega)).mpr q__)
          have hE : ak_ a b 26 1 = false := by rw [← h1, show 27 - k = (26 - k) + 1 by omega, ak_n n_26]
          refine lv_iconst (v := nI 0) hx hb dX0_alike_29 (by decide) ?_
          exact W.zret hx hb hr rfl (fun t ht hW => ⟨_, rfl, (by show nI 0 = b2_ (ak_ a b 26 1); rw [hE]; rfl), ht⟩) (fun q hq => absurd hq List.not_mem_nil) dX0_alike_30
  exact LP_10 _ 1 (Nat.lt_succ_self _) rfl (by omega) ls (lv_sub hl [0, 1, 2, 3] rfl)
set_option maxHeartbeats 4000000 in
set_option maxRecDepth 100000 in
theorem t_X0_alike_1 (l : Launch) (B0 : Nat) (g : va_G) (ct ad : Nat → Nat) (cS mS : St_) (x : Ax_) (hflags : l.stackTraces = false) (a b : Int32) (h : wd_ a = false) : TX l yX0_alike wsX0_alike 7 B0 g ct ad cS mS x [.ref (ad 0), .int a, .int b] EA_ := by
  refine vx_ofW (cc := cX0_alike) (maxL := 4) (ret := (some .boolean)) (by decide) rfl ?_
  intro p e s m args below meth c s₁ B hml hxt hv
  obtain ⟨rfl, hC⟩ := hv
  have hx := B.exec
  have hb := B.bytes
  have hr := B.returns
  have hts := atoms_spec (ws := wsX0_alike) B.pre
  have hown : s.vm.findClass RX0 = some m.cls := findClass_of_methodNamed B.named
  have hlocks := B.notSynchronized
  have hS : va_S (AA B0) s.heap s.heap [] := va_S.rf
  have hB : B0 ≤ s.heap.size := hC.1.2.2.1
  have hK0 := hC.2
  have hl := lv_entry ([.ref (ad 0), .int a, .int b]) (n := 4) (Nat.le_of_ble_eq_true rfl)
  rw [lg_entry_eq]
  generalize (lg_sl ([.ref (ad 0), .int a, .int b]) ++ List.replicate (4 - (lg_sl ([.ref (ad 0), .int a, .int b])).length) Slot.unset).toArray = ls at hl ⊢
  have hl : lv_has ls 4 [(0, .ref (ad 0)), (1, .int a), (2, .int b)] := hl
  refine lv_iload_n hx hb dX0_alike_0 rfl (lv_at hl 1 rfl) ?_
  refine k_tS (As := [.int a]) (rest := []) (t_X0_checkWord l B0 g ct ad cS mS x hflags a h) hC hB hS ⟨hx, hb, hml, hown, hts⟩ (va_cwS 1 hts gX0_alike_X0_checkWord rfl rfl rfl (by decide +kernel) ⟨Nat.le_of_ble_eq_true rfl, Nat.le_of_ble_eq_true rfl⟩) rfl hl.1 rfl (Nat.le_of_ble_eq_true rfl) dX0_alike_1 ⟨Nat.le_of_ble_eq_true rfl, Nat.le_of_ble_eq_true rfl⟩ (fun ce_ q9_ H locs hC hS hce_ hcv_ hcl_ => ?_)
  exact vx_out (fun x hx_ => (hxt x hx_).elim) hlocks hce_ hcv_ hcl_ (fun t ht hA => ⟨(), trivial, ⟨rfl, by rw [ht]; exact hC.1⟩, hS.F ht⟩) hS.2.2 (Nat.le_of_ble_eq_true rfl) (Nat.le_of_ble_eq_true rfl)
set_option maxHeartbeats 4000000 in
set_option maxRecDepth 100000 in
theorem t_X0_alike_2 (l : Launch) (B0 : Nat) (g : va_G) (ct ad : Nat → Nat) (cS mS : St_) (x : Ax_) (hflags : l.stackTraces = false) (a b : Int32) (h : wd_ a = true) (h2 : wd_ b = false) : TX l yX0_alike wsX0_alike 7 B0 g ct ad cS mS x [.ref (ad 0), .int a, .int b] EA_ := by
  refine vx_ofW (cc := cX0_alike) (maxL := 4) (ret := (some .boolean)) (by decide) rfl ?_
  intro p e s m args below meth c s₁ B hml hxt hv
  obtain ⟨rfl, hC⟩ := hv
  have hx := B.exec
  have hb := B.bytes
  have hr := B.returns
  have hts := atoms_spec (ws := wsX0_alike) B.pre
  have hown : s.vm.findClass RX0 = some m.cls := findClass_of_methodNamed B.named
  have hlocks := B.notSynchronized
  have hS : va_S (AA B0) s.heap s.heap [] := va_S.rf
  have hB : B0 ≤ s.heap.size := hC.1.2.2.1
  have hK0 := hC.2
  have hl := lv_entry ([.ref (ad 0), .int a, .int b]) (n := 4) (Nat.le_of_ble_eq_true rfl)
  rw [lg_entry_eq]
  generalize (lg_sl ([.ref (ad 0), .int a, .int b]) ++ List.replicate (4 - (lg_sl ([.ref (ad 0), .int a, .int b])).length) Slot.unset).toArray = ls at hl ⊢
  have hl : lv_has ls 4 [(0, .ref (ad 0)), (1, .int a), (2, .int b)] := hl
  refine lv_iload_n hx hb dX0_alike_0 rfl (lv_at hl 1 rfl) ?_
  refine k_vS (As := [.int a]) (rest := []) (c_X0_checkWord l B0 g ct ad cS mS x a h) hC ⟨hx, hb, hml, hown, hts⟩ (va_cwS 1 hts gX0_alike_X0_checkWord rfl rfl rfl (by decide +kernel) ⟨Nat.le_of_ble_eq_true rfl, Nat.le_of_ble_eq_true rfl⟩) rfl hl.1 rfl (Nat.le_of_ble_eq_true rfl) dX0_alike_1 ⟨Nat.le_of_ble_eq_true rfl, Nat.le_of_ble_eq_true rfl⟩ ?_
  refine lv_iload_n hx hb dX0_alike_4 rfl (lv_at hl 2 rfl) ?_
  refine k_tS (As := [.int b]) (rest := []) (t_X0_checkWord l B0 g ct ad cS mS x hflags b h2) hC hB hS ⟨hx, hb, hml, hown, hts⟩ (va_cwS 1 hts gX0_alike_X0_checkWord rfl rfl rfl (by decide +kernel) ⟨Nat.le_of_ble_eq_true rfl, Nat.le_of_ble_eq_true rfl⟩) rfl hl.1 rfl (Nat.le_of_ble_eq_true rfl) dX0_alike_5 ⟨Nat.le_of_ble_eq_true rfl, Nat.le_of_ble_eq_true rfl⟩ (fun ce_ q9_ H locs hC hS hce_ hcv_ hcl_ => ?_)
  exact vx_out (fun x hx_ => (hxt x hx_).elim) hlocks hce_ hcv_ hcl_ (fun t ht hA => ⟨(), trivial, ⟨rfl, by rw [ht]; exact hC.1⟩, hS.F ht⟩) hS.2.2 (Nat.le_of_ble_eq_true rfl) (Nat.le_of_ble_eq_true rfl)
set_option maxHeartbeats 4000000 in
set_option maxRecDepth 100000 in
theorem c_X0_word (l : Launch) (B0 : Nat) (g : va_G) (ct ad : Nat → Nat) (cS mS : St_) (x : Ax_) (i w q : Nat) (hi : i < sn cS) (hw : w < ss cS i) (hq : q < 5) : RI l yX0_word wsX0_word 3 (PX B0 g ct ad cS mS x [.ref (ad 0), .int (nI i), .int (nI w), .int (nI q)]) (nI (wt_ cS i w q)) := by
  refine Met.ofW (cc := cX0_word) (maxL := 4) (ret := (some .int)) (by decide) rfl ?_
  intro p e s m args below meth c s₁ B hml hv
  obtain ⟨rfl, hC⟩ := hv
  have hx := B.exec
  have hb := B.bytes
  have hr := B.returns
  have hts := atoms_spec (ws := wsX0_word) B.pre
  have hown : s.vm.findClass RX0 = some m.cls := findClass_of_methodNamed B.named
  have hlocks := B.notSynchronized
  have hin : ∀ w ∈ wsX00, w ∈ wsX0_word := fun _ h => List.mem_cons_of_mem _ (List.mem_append_left _ (List.mem_append_right _ h))
  have hI := hC.1.2.2.2.1
  have hn := hI.2.1
  have hz := hI.2.2.1 i
  have hl := lv_entry ([.ref (ad 0), .int (nI i), .int (nI w), .int (nI q)]) (n := 4) (Nat.le_of_ble_eq_true rfl)
  rw [lg_entry_eq]
  generalize (lg_sl ([.ref (ad 0), .int (nI i), .int (nI w), .int (nI q)]) ++ List.replicate (4 - (lg_sl ([.ref (ad 0), .int (nI i), .int (nI w), .int (nI q)])).length) Slot.unset).toArray = ls at hl ⊢
  have hl : lv_has ls 4 [(0, .ref (ad 0)), (1, .int (nI i)), (2, .int (nI w)), (3, .int (nI q))] := hl
  refine lv_aload_n hx hb dX0_word_0 rfl (lv_at hl 0 rfl) ?_
  refine lv_iload_n hx hb dX0_word_1 rfl (lv_at hl 1 rfl) ?_
  refine lv_iload_n hx hb dX0_word_2 rfl (lv_at hl 2 rfl) ?_
  refine k_vV (As := [.int (nI i), .int (nI w)]) (rest := []) (c_X0_checkWordOfLine l B0 g ct ad cS mS x i w (by omega) (by omega)) hC ⟨hx, hb, hml, hown, hts⟩ (cwV 2 hts gX0_word_X0_checkWordOfLine rfl rfl rfl (by decide +kernel) ⟨Nat.le_of_ble_eq_true rfl, Nat.le_of_ble_eq_true rfl⟩) (rc0 hC) rfl hl.1 rfl (Nat.le_of_ble_eq_true rfl) dX0_word_3 ⟨Nat.le_of_ble_eq_true rfl, Nat.le_of_ble_eq_true rfl⟩ ?_
  refine lv_iload_n hx hb dX0_word_6 rfl (lv_at hl 3 rfl) ?_
  refine lv_iconst (v := nI 5) hx hb dX0_word_7 (by decide) ?_
  refine k_vS (As := [.int (nI q), .int (nI 5)]) (rest := []) (c_X0_checkWhat l B0 g ct ad cS mS x q 5 (by omega) (by omega)) hC ⟨hx, hb, hml, hown, hts⟩ (va_cwS 2 hts gX0_word_X0_checkWhat rfl rfl rfl (by decide +kernel) ⟨Nat.le_of_ble_eq_true rfl, Nat.le_of_ble_eq_true rfl⟩) rfl hl.1 rfl (Nat.le_of_ble_eq_true rfl) dX0_word_8 ⟨Nat.le_of_ble_eq_true rfl, Nat.le_of_ble_eq_true rfl⟩ ?_
  refine lv_aload_n hx hb dX0_word_11 rfl (lv_at hl 0 rfl) ?_
  refine lv_iload_n hx hb dX0_word_12 rfl (lv_at hl 1 rfl) ?_
  refine lv_iload_n hx hb dX0_word_13 rfl (lv_at hl 2 rfl) ?_
  refine lv_iload_n hx hb dX0_word_14 rfl (lv_at hl 3 rfl) ?_
  refine k_rV (As := [.int (nI i), .int (nI w), .int (nI q)]) (rest := []) (c_X0_figureOfWord l B0 g ct ad cS mS x i w q (by omega) (by omega) (by omega) (fun _ => hI.2.2.2.2.2 i w hw)) hC ⟨hx, hb, hml, hown, hts⟩ (cwV 3 hts gX0_word_X0_figureOfWord rfl rfl rfl (by decide +kernel) ⟨Nat.le_of_ble_eq_true rfl, Nat.le_of_ble_eq_true rfl⟩) (rc0 hC) rfl hl.1 rfl (Nat.le_of_ble_eq_true rfl) dX0_word_15 ⟨Nat.le_of_ble_eq_true rfl, Nat.le_of_ble_eq_true rfl⟩ ?_
  exact W.iret hx hb hr (fun t ht hW => ⟨_, rfl, rfl, ht⟩) (fun q hq => absurd hq List.not_mem_nil) dX0_word_18
set_option maxHeartbeats 4000000 in
set_option maxRecDepth 100000 in
theorem t_X0_word_1 (l : Launch) (B0 : Nat) (g : va_G) (ct ad : Nat → Nat) (cS mS : St_) (x : Ax_) (hflags : l.stackTraces = false) (li : Int32) (h : li < 0 ∨ nI (sn cS) ≤ li) (wi q : Int32) : TX l yX0_word wsX0_word 8 B0 g ct ad cS mS x [.ref (ad 0), .int li, .int wi, .int q] EI_ := by
  refine vx_ofW (cc := cX0_word) (maxL := 4) (ret := (some .int)) (by decide) rfl ?_
  intro p e s m args below meth c s₁ B hml hxt hv
  obtain ⟨rfl, hC⟩ := hv
  have hx := B.exec
  have hb := B.bytes
  have hr := B.returns
  have hts := atoms_spec (ws := wsX0_word) B.pre
  have hown : s.vm.findClass RX0 = some m.cls := findClass_of_methodNamed B.named
  have hlocks := B.notSynchronized
  have hin : ∀ w ∈ wsX00, w ∈ wsX0_word := fun _ h => List.mem_cons_of_mem _ (List.mem_append_left _ (List.mem_append_right _ h))
  have hS : va_S (AA B0) s.heap s.heap [] := va_S.rf
  have hB : B0 ≤ s.heap.size := hC.1.2.2.1
  have hK0 := hC.2
  have hl := lv_entry ([.ref (ad 0), .int li, .int wi, .int q]) (n := 4) (Nat.le_of_ble_eq_true rfl)
  rw [lg_entry_eq]
  generalize (lg_sl ([.ref (ad 0), .int li, .int wi, .int q]) ++ List.replicate (4 - (lg_sl ([.ref (ad 0), .int li, .int wi, .int q])).length) Slot.unset).toArray = ls at hl ⊢
  have hl : lv_has ls 4 [(0, .ref (ad 0)), (1, .int li), (2, .int wi), (3, .int q)] := hl
  refine lv_aload_n hx hb dX0_word_0 rfl (lv_at hl 0 rfl) ?_
  refine lv_iload_n hx hb dX0_word_1 rfl (lv_at hl 1 rfl) ?_
  refine lv_iload_n hx hb dX0_word_2 rfl (lv_at hl 2 rfl) ?_
  refine k_tV (As := [.int li, .int wi]) (rest := []) (t_X0_checkWordOfLine_1 l B0 g ct ad cS mS x hflags li h wi) hC hB hS ⟨hx, hb, hml, hown, hts⟩ (cwV 2 hts gX0_word_X0_checkWordOfLine rfl rfl rfl (by decide +kernel) ⟨Nat.le_of_ble_eq_true rfl, Nat.le_of_ble_eq_true rfl⟩) (rc0 hC) rfl hl.1 rfl (Nat.le_of_ble_eq_true rfl) dX0_word_3 ⟨Nat.le_of_ble_eq_true rfl, Nat.le_of_ble_eq_true rfl⟩ (fun ce_ q9_ H locs hC hS hce_ hcv_ hcl_ => ?_)
  exact vx_out (fun x hx_ => (hxt x hx_).elim) hlocks hce_ hcv_ hcl_ (fun t ht hA => ⟨(), trivial, ⟨rfl, by rw [ht]; exact hC.1⟩, hS.F ht⟩) hS.2.2 (Nat.le_of_ble_eq_true rfl) (Nat.le_of_ble_eq_true rfl)
set_option maxHeartbeats 4000000 in
set_option maxRecDepth 100000 in
theorem t_X0_word_2 (l : Launch) (B0 : Nat) (g : va_G) (ct ad : Nat → Nat) (cS mS : St_) (x : Ax_) (hflags : l.stackTraces = false) (i : Nat) (hi : i < sn cS) (wi q : Int32) (h : wi < 0 ∨ nI (ss cS i) ≤ wi) : TX l yX0_word wsX0_word 8 B0 g ct ad cS mS x [.ref (ad 0), .int (nI i), .int wi, .int q] EI_ := by
  refine vx_ofW (cc := cX0_word) (maxL := 4) (ret := (some .int)) (by decide) rfl ?_
  intro p e s m args below meth c s₁ B hml hxt hv
  obtain ⟨rfl, hC⟩ := hv
  have hx := B.exec
  have hb := B.bytes
  have hr := B.returns
  have hts := atoms_spec (ws := wsX0_word) B.pre
  have hown : s.vm.findClass RX0 = some m.cls := findClass_of_methodNamed B.named
  have hlocks := B.notSynchronized
  have hin : ∀ w ∈ wsX00, w ∈ wsX0_word := fun _ h => List.mem_cons_of_mem _ (List.mem_append_left _ (List.mem_append_right _ h))
  have hS : va_S (AA B0) s.heap s.heap [] := va_S.rf
  have hB : B0 ≤ s.heap.size := hC.1.2.2.1
  have hK0 := hC.2
  have hl := lv_entry ([.ref (ad 0), .int (nI i), .int wi, .int q]) (n := 4) (Nat.le_of_ble_eq_true rfl)
  rw [lg_entry_eq]
  generalize (lg_sl ([.ref (ad 0), .int (nI i), .int wi, .int q]) ++ List.replicate (4 - (lg_sl ([.ref (ad 0), .int (nI i), .int wi, .int q])).length) Slot.unset).toArray = ls at hl ⊢
  have hl : lv_has ls 4 [(0, .ref (ad 0)), (1, .int (nI i)), (2, .int wi), (3, .int q)] := hl
  refine lv_aload_n hx hb dX0_word_0 rfl (lv_at hl 0 rfl) ?_
  refine lv_iload_n hx hb dX0_word_1 rfl (lv_at hl 1 rfl) ?_
  refine lv_iload_n hx hb dX0_word_2 rfl (lv_at hl 2 rfl) ?_
  refine k_tV (As := [.int (nI i), .int wi]) (rest := []) (t_X0_checkWordOfLine_2 l B0 g ct ad cS mS x hflags i hi wi h) hC hB hS ⟨hx, hb, hml, hown, hts⟩ (cwV 2 hts gX0_word_X0_checkWordOfLine rfl rfl rfl (by decide +kernel) ⟨Nat.le_of_ble_eq_true rfl, Nat.le_of_ble_eq_true rfl⟩) (rc0 hC) rfl hl.1 rfl (Nat.le_of_ble_eq_true rfl) dX0_word_3 ⟨Nat.le_of_ble_eq_true rfl, Nat.le_of_ble_eq_true rfl⟩ (fun ce_ q9_ H locs hC hS hce_ hcv_ hcl_ => ?_)
  exact vx_out (fun x hx_ => (hxt x hx_).elim) hlocks hce_ hcv_ hcl_ (fun t ht hA => ⟨(), trivial, ⟨rfl, by rw [ht]; exact hC.1⟩, hS.F ht⟩) hS.2.2 (Nat.le_of_ble_eq_true rfl) (Nat.le_of_ble_eq_true rfl)
set_option maxHeartbeats 4000000 in
set_option maxRecDepth 100000 in
theorem t_X0_word_3 (l : Launch) (B0 : Nat) (g : va_G) (ct ad : Nat → Nat) (cS mS : St_) (x : Ax_) (hflags : l.stackTraces = false) (i w : Nat) (hi : i < sn cS) (hw : w < ss cS i) (q : Int32) (h : q < 0 ∨ nI 5 ≤ q) : TX l yX0_word wsX0_word 8 B0 g ct ad cS mS x [.ref (ad 0), .int (nI i), .int (nI w), .int q] EI_ := by
  refine vx_ofW (cc := cX0_word) (maxL := 4) (ret := (some .int)) (by decide) rfl ?_
  intro p e s m args below meth c s₁ B hml hxt hv
  obtain ⟨rfl, hC⟩ := hv
  have hx := B.exec
  have hb := B.bytes
  have hr := B.returns
  have hts := atoms_spec (ws := wsX0_word) B.pre
  have hown : s.vm.findClass RX0 = some m.cls := findClass_of_methodNamed B.named
  have hlocks := B.notSynchronized
  have hin : ∀ w ∈ wsX00, w ∈ wsX0_word := fun _ h => List.mem_cons_of_mem _ (List.mem_append_left _ (List.mem_append_right _ h))
  have hS : va_S (AA B0) s.heap s.heap [] := va_S.rf
  have hB : B0 ≤ s.heap.size := hC.1.2.2.1
  have hK0 := hC.2
  have hl := lv_entry ([.ref (ad 0), .int (nI i), .int (nI w), .int q]) (n := 4) (Nat.le_of_ble_eq_true rfl)
  rw [lg_entry_eq]
  generalize (lg_sl ([.ref (ad 0), .int (nI i), .int (nI w), .int q]) ++ List.replicate (4 - (lg_sl ([.ref (ad 0), .int (nI i), .int (nI w), .int q])).length) Slot.unset).toArray = ls at hl ⊢
  have hl : lv_has ls 4 [(0, .ref (ad 0)), (1, .int (nI i)), (2, .int (nI w)), (3, .int q)] := hl
  refine lv_aload_n hx hb dX0_word_0 rfl (lv_at hl 0 rfl) ?_
  refine lv_iload_n hx hb dX0_word_1 rfl (lv_at hl 1 rfl) ?_
  refine lv_iload_n hx hb dX0_word_2 rfl (lv_at hl 2 rfl) ?_
  refine k_vV (As := [.int (nI i), .int (nI w)]) (rest := []) (c_X0_checkWordOfLine l B0 g ct ad cS mS x i w (by omega) (by omega)) hC ⟨hx, hb, hml, hown, hts⟩ (cwV 2 hts gX0_word_X0_checkWordOfLine rfl rfl rfl (by decide +kernel) ⟨Nat.le_of_ble_eq_true rfl, Nat.le_of_ble_eq_true rfl⟩) (rc0 hC) rfl hl.1 rfl (Nat.le_of_ble_eq_true rfl) dX0_word_3 ⟨Nat.le_of_ble_eq_true rfl, Nat.le_of_ble_eq_true rfl⟩ ?_
  refine lv_iload_n hx hb dX0_word_6 rfl (lv_at hl 3 rfl) ?_
  refine lv_iconst (v := nI 5) hx hb dX0_word_7 (by decide) ?_
  refine k_tS (As := [.int q, .int (nI 5)]) (rest := []) (t_X0_checkWhat l B0 g ct ad cS mS x hflags q 5 h) hC hB hS ⟨hx, hb, hml, hown, hts⟩ (va_cwS 2 hts gX0_word_X0_checkWhat rfl rfl rfl (by decide +kernel) ⟨Nat.le_of_ble_eq_true rfl, Nat.le_of_ble_eq_true rfl⟩) rfl hl.1 rfl (Nat.le_of_ble_eq_true rfl) dX0_word_8 ⟨Nat.le_of_ble_eq_true rfl, Nat.le_of_ble_eq_true rfl⟩ (fun ce_ q9_ H locs hC hS hce_ hcv_ hcl_ => ?_)
  exact vx_out (fun x hx_ => (hxt x hx_).elim) hlocks hce_ hcv_ hcl_ (fun t ht hA => ⟨(), trivial, ⟨rfl, by rw [ht]; exact hC.1⟩, hS.F ht⟩) hS.2.2 (Nat.le_of_ble_eq_true rfl) (Nat.le_of_ble_eq_true rfl)
set_option maxHeartbeats 4000000 in
set_option maxRecDepth 100000 in
theorem c_X0_line (l : Launch) (B0 : Nat) (g : va_G) (ct ad : Nat → Nat) (cS mS : St_) (x : Ax_) (i q : Nat) (hi : i < sn cS) (hq : q < 5) : RI l yX0_line wsX0_line 4 (PX B0 g ct ad cS mS x [.ref (ad 0), .int (nI i), .int (nI q)]) (nI (lt_ cS i q)) := by
  refine Met.ofW (cc := cX0_line) (maxL := 3) (ret := (some .int)) (by decide) rfl ?_
  intro p e s m args below meth c s₁ B hml hv
  obtain ⟨rfl, hC⟩ := hv
  have hx := B.exec
  have hb := B.bytes
  have hr := B.returns
  have hts := atoms_spec (ws := wsX0_line) B.pre
  have hown : s.vm.findClass RX0 = some m.cls := findClass_of_methodNamed B.named
  have hlocks := B.notSynchronized
  have hin : ∀ w ∈ wsX00, w ∈ wsX0_line := fun _ h => List.mem_cons_of_mem _ (List.mem_append_left _ (List.mem_append_right _ h))
  have hI := hC.1.2.2.2.1
  have hn := hI.2.1
  have hl := lv_entry ([.ref (ad 0), .int (nI i), .int (nI q)]) (n := 3) (Nat.le_of_ble_eq_true rfl)
  rw [lg_entry_eq]
  generalize (lg_sl ([.ref (ad 0), .int (nI i), .int (nI q)]) ++ List.replicate (3 - (lg_sl ([.ref (ad 0), .int (nI i), .int (nI q)])).length) Slot.unset).toArray = ls at hl ⊢
  have hl : lv_has ls 3 [(0, .ref (ad 0)), (1, .int (nI i)), (2, .int (nI q))] := hl
  refine lv_aload_n hx hb dX0_line_0 rfl (lv_at hl 0 rfl) ?_
  refine lv_iload_n hx hb dX0_line_1 rfl (lv_at hl 1 rfl) ?_
  refine k_vV (As := [.int (nI i)]) (rest := []) (c_X0_checkLine l B0 g ct ad cS mS x i (by omega)) hC ⟨hx, hb, hml, hown, hts⟩ (cwV 1 hts gX0_line_X0_checkLine rfl rfl rfl (by decide +kernel) ⟨Nat.le_of_ble_eq_true rfl, Nat.le_of_ble_eq_true rfl⟩) (rc0 hC) rfl hl.1 rfl (Nat.le_of_ble_eq_true rfl) dX0_line_2 ⟨Nat.le_of_ble_eq_true rfl, Nat.le_of_ble_eq_true rfl⟩ ?_
  refine lv_iload_n hx hb dX0_line_5 rfl (lv_at hl 2 rfl) ?_
  refine lv_iconst (v := nI 5) hx hb dX0_line_6 (by decide) ?_
  refine k_vS (As := [.int (nI q), .int (nI 5)]) (rest := []) (c_X0_checkWhat l B0 g ct ad cS mS x q 5 (by omega) (by omega)) hC ⟨hx, hb, hml, hown, hts⟩ (va_cwS 2 hts gX0_line_X0_checkWhat rfl rfl rfl (by decide +kernel) ⟨Nat.le_of_ble_eq_true rfl, Nat.le_of_ble_eq_true rfl⟩) rfl hl.1 rfl (Nat.le_of_ble_eq_true rfl) dX0_line_7 ⟨Nat.le_of_ble_eq_true rfl, Nat.le_of_ble_eq_true rfl⟩ ?_
  refine lv_aload_n hx hb dX0_line_10 rfl (lv_at hl 0 rfl) ?_
  refine lv_iload_n hx hb dX0_line_11 rfl (lv_at hl 1 rfl) ?_
  refine lv_iload_n hx hb dX0_line_12 rfl (lv_at hl 2 rfl) ?_
  refine k_rV (As := [.int (nI i), .int (nI q)]) (rest := []) (c_X0_figureOfLine l B0 g ct ad cS mS x i q (by omega) (by omega)) hC ⟨hx, hb, hml, hown, hts⟩ (cwV 2 hts gX0_line_X0_figureOfLine rfl rfl rfl (by decide +kernel) ⟨Nat.le_of_ble_eq_true rfl, Nat.le_of_ble_eq_true rfl⟩) (rc0 hC) rfl hl.1 rfl (Nat.le_of_ble_eq_true rfl) dX0_line_13 ⟨Nat.le_of_ble_eq_true rfl, Nat.le_of_ble_eq_true rfl⟩ ?_
  exact W.iret hx hb hr (fun t ht hW => ⟨_, rfl, rfl, ht⟩) (fun q hq => absurd hq List.not_mem_nil) dX0_line_16
set_option maxHeartbeats 4000000 in
set_option maxRecDepth 100000 in
theorem t_X0_line_1 (l : Launch) (B0 : Nat) (g : va_G) (ct ad : Nat → Nat) (cS mS : St_) (x : Ax_) (hflags : l.stackTraces = false) (li : Int32) (h : li < 0 ∨ nI (sn cS) ≤ li) (q : Int32) : TX l yX0_line wsX0_line 7 B0 g ct ad cS mS x [.ref (ad 0), .int li, .int q] EI_ := by
  refine vx_ofW (cc := cX0_line) (maxL := 3) (ret := (some .int)) (by decide) rfl ?_
  intro p e s m args below meth c s₁ B hml hxt hv
  obtain ⟨rfl, hC⟩ := hv
  have hx := B.exec
  have hb := B.bytes
  have hr := B.returns
  have hts := atoms_spec (ws := wsX0_line) B.pre
  have hown : s.vm.findClass RX0 = some m.cls := findClass_of_methodNamed B.named
  have hlocks := B.notSynchronized
  have hin : ∀ w ∈ wsX00, w ∈ wsX0_line := fun _ h => List.mem_cons_of_mem _ (List.mem_append_left _ (List.mem_append_right _ h))
  have hS : va_S (AA B0) s.heap s.heap [] := va_S.rf
  have hB : B0 ≤ s.heap.size := hC.1.2.2.1
  have hK0 := hC.2
  have hl := lv_entry ([.ref (ad 0), .int li, .int q]) (n := 3) (Nat.le_of_ble_eq_true rfl)
  rw [lg_entry_eq]
  generalize (lg_sl ([.ref (ad 0), .int li, .int q]) ++ List.replicate (3 - (lg_sl ([.ref (ad 0), .int li, .int q])).length) Slot.unset).toArray = ls at hl ⊢
  have hl : lv_has ls 3 [(0, .ref (ad 0)), (1, .int li), (2, .int q)] := hl
  refine lv_aload_n hx hb dX0_line_0 rfl (lv_at hl 0 rfl) ?_
  refine lv_iload_n hx hb dX0_line_1 rfl (lv_at hl 1 rfl) ?_
  refine k_tV (As := [.int li]) (rest := []) (t_X0_checkLine l B0 g ct ad cS mS x hflags li h) hC hB hS ⟨hx, hb, hml, hown, hts⟩ (cwV 1 hts gX0_line_X0_checkLine rfl rfl rfl (by decide +kernel) ⟨Nat.le_of_ble_eq_true rfl, Nat.le_of_ble_eq_true rfl⟩) (rc0 hC) rfl hl.1 rfl (Nat.le_of_ble_eq_true rfl) dX0_line_2 ⟨Nat.le_of_ble_eq_true rfl, Nat.le_of_ble_eq_true rfl⟩ (fun ce_ q9_ H locs hC hS hce_ hcv_ hcl_ => ?_)
  exact vx_out (fun x hx_ => (hxt x hx_).elim) hlocks hce_ hcv_ hcl_ (fun t ht hA => ⟨(), trivial, ⟨rfl, by rw [ht]; exact hC.1⟩, hS.F ht⟩) hS.2.2 (Nat.le_of_ble_eq_true rfl) (Nat.le_of_ble_eq_true rfl)
set_option maxHeartbeats 4000000 in
set_option maxRecDepth 100000 in
theorem t_X0_line_2 (l : Launch) (B0 : Nat) (g : va_G) (ct ad : Nat → Nat) (cS mS : St_) (x : Ax_) (hflags : l.stackTraces = false) (i : Nat) (hi : i < sn cS) (q : Int32) (h : q < 0 ∨ nI 5 ≤ q) : TX l yX0_line wsX0_line 7 B0 g ct ad cS mS x [.ref (ad 0), .int (nI i), .int q] EI_ := by
  refine vx_ofW (cc := cX0_line) (maxL := 3) (ret := (some .int)) (by decide) rfl ?_
  intro p e s m args below meth c s₁ B hml hxt hv
  obtain ⟨rfl, hC⟩ := hv
  have hx := B.exec
  have hb := B.bytes
  have hr := B.returns
  have hts := atoms_spec (ws := wsX0_line) B.pre
  have hown : s.vm.findClass RX0 = some m.cls := findClass_of_methodNamed B.named
  have hlocks := B.notSynchronized
  have hin : ∀ w ∈ wsX00, w ∈ wsX0_line := fun _ h => List.mem_cons_of_mem _ (List.mem_append_left _ (List.mem_append_right _ h))
  have hS : va_S (AA B0) s.heap s.heap [] := va_S.rf
  have hB : B0 ≤ s.heap.size := hC.1.2.2.1
  have hK0 := hC.2
  have hl := lv_entry ([.ref (ad 0), .int (nI i), .int q]) (n := 3) (Nat.le_of_ble_eq_true rfl)
  rw [lg_entry_eq]
  generalize (lg_sl ([.ref (ad 0), .int (nI i), .int q]) ++ List.replicate (3 - (lg_sl ([.ref (ad 0), .int (nI i), .int q])).length) Slot.unset).toArray = ls at hl ⊢
  have hl : lv_has ls 3 [(0, .ref (ad 0)), (1, .int (nI i)), (2, .int q)] := hl
  refine lv_aload_n hx hb dX0_line_0 rfl (lv_at hl 0 rfl) ?_
  refine lv_iload_n hx hb dX0_line_1 rfl (lv_at hl 1 rfl) ?_
  refine k_vV (As := [.int (nI i)]) (rest := []) (c_X0_checkLine l B0 g ct ad cS mS x i (by omega)) hC ⟨hx, hb, hml, hown, hts⟩ (cwV 1 hts gX0_line_X0_checkLine rfl rfl rfl (by decide +kernel) ⟨Nat.le_of_ble_eq_true rfl, Nat.le_of_ble_eq_true rfl⟩) (rc0 hC) rfl hl.1 rfl (Nat.le_of_ble_eq_true rfl) dX0_line_2 ⟨Nat.le_of_ble_eq_true rfl, Nat.le_of_ble_eq_true rfl⟩ ?_
  refine lv_iload_n hx hb dX0_line_5 rfl (lv_at hl 2 rfl) ?_
  refine lv_iconst (v := nI 5) hx hb dX0_line_6 (by decide) ?_
  refine k_tS (As := [.int q, .int (nI 5)]) (rest := []) (t_X0_checkWhat l B0 g ct ad cS mS x hflags q 5 h) hC hB hS ⟨hx, hb, hml, hown, hts⟩ (va_cwS 2 hts gX0_line_X0_checkWhat rfl rfl rfl (by decide +kernel) ⟨Nat.le_of_ble_eq_true rfl, Nat.le_of_ble_eq_true rfl⟩) rfl hl.1 rfl (Nat.le_of_ble_eq_true rfl) dX0_line_7 ⟨Nat.le_of_ble_eq_true rfl, Nat.le_of_ble_eq_true rfl⟩ (fun ce_ q9_ H locs hC hS hce_ hcv_ hcl_ => ?_)
  exact vx_out (fun x hx_ => (hxt x hx_).elim) hlocks hce_ hcv_ hcl_ (fun t ht hA => ⟨(), trivial, ⟨rfl, by rw [ht]; exact hC.1⟩, hS.F ht⟩) hS.2.2 (Nat.le_of_ble_eq_true rfl) (Nat.le_of_ble_eq_true rfl)
set_option maxHeartbeats 4000000 in
set_option maxRecDepth 100000 in
theorem c_X0_hidden (l : Launch) (B0 : Nat) (g : va_G) (ct ad : Nat → Nat) (cS mS : St_) (x : Ax_) (i : Nat) (hi : i < sn cS) (yr : Int32) : RI l yX0_hidden wsX0_hidden 3 (PX B0 g ct ad cS mS x [.ref (ad 0), .int (nI i), .int yr]) (hd_ cS i yr (ss cS i) 0) := by
  refine Met.ofW (cc := cX0_hidden) (maxL := 5) (ret := (some .int)) (by decide) rfl ?_
  intro p e s m args below meth c s₁ B hml hv
  obtain ⟨rfl, hC⟩ := hv
  have hx := B.exec
  have hb := B.bytes
  have hr := B.returns
  have hts := atoms_spec (ws := wsX0_hidden) B.pre
  have hown : s.vm.findClass RX0 = some m.cls := findClass_of_methodNamed B.named
  have hlocks := B.notSynchronized
  have hin : ∀ w ∈ wsX00, w ∈ wsX0_hidden := fun _ h => List.mem_cons_of_mem _ (List.mem_append_left _ (List.mem_append_right _ h))
  have hI := hC.1.2.2.2.1
  have hn := hI.2.1
  have hz := hI.2.2.1 i
  have hl := lv_entry ([.ref (ad 0), .int (nI i), .int yr]) (n := 5) (Nat.le_of_ble_eq_true rfl)
  rw [lg_entry_eq]
  generalize (lg_sl ([.ref (ad 0), .int (nI i), .int yr]) ++ List.replicate (5 - (lg_sl ([.ref (ad 0), .int (nI i), .int yr])).length) Slot.unset).toArray = ls at hl ⊢
  have hl : lv_has ls 5 [(0, .ref (ad 0)), (1, .int (nI i)), (2, .int yr)] := hl
  refine lv_aload_n hx hb dX0_hidden_0 rfl (lv_at hl 0 rfl) ?_
  refine lv_iload_n hx hb dX0_hidden_1 rfl (lv_at hl 1 rfl) ?_
  refine k_vV (As := [.int (nI i)]) (rest := []) (c_X0_checkLine l B0 g ct ad cS mS x i (by omega)) hC ⟨hx, hb, hml, hown, hts⟩ (cwV 1 hts gX0_hidden_X0_checkLine rfl rfl rfl (by decide +kernel) ⟨Nat.le_of_ble_eq_true rfl, Nat.le_of_ble_eq_true rfl⟩) (rc0 hC) rfl hl.1 rfl (Nat.le_of_ble_eq_true rfl) dX0_hidden_2 ⟨Nat.le_of_ble_eq_true rfl, Nat.le_of_ble_eq_true rfl⟩ ?_
  refine lv_iconst (v := nI 0) hx hb dX0_hidden_5 (by decide) ?_
  refine lv_istore_n (lv' := [(3, .int (nI 0)), (0, .ref (ad 0)), (1, .int (nI i)), (2, .int yr)]) hx hb dX0_hidden_6 rfl hl (by decide) rfl (fun ls hl => ?_)
  have LP_7 : ∀ (n_ : Nat) (w : Nat), ss cS i - w < n_ → (hd_ cS i yr (ss cS i - w) w = hd_ cS i yr (ss cS i) 0) → (w ≤ 10) → ∀ ls : Array Slot, lv_has ls 5 [(3, .int (nI w)), (0, .ref (ad 0)), (1, .int (nI i)), (2, .int yr)] → W p l e (headSpec wsX0_hidden (rm_ 3 0 0)).room s m ([.ref (ad 0), .int (nI i), .int yr] : List Value).toArray below meth c s.heap [] 0 0 (MQ below (vp_Si (fun r => r = hd_ cS i yr (ss cS i) 0)) ([.ref (ad 0), .int (nI i), .int yr] : List Value).toArray s 0 0 (fun _ => False)) (F0 m 7 ls []) := by
    intro n_
    induction n_ with
    | zero => intro w hm; exact absurd hm (Nat.not_lt_zero _)
    | succ n_ ih_7 =>
      intro w hm h1 hw_ ls hl
      refine lv_iload_n hx hb dX0_hidden_7 rfl (lv_at hl 0 rfl) ?_
      refine lv_aload_n hx hb dX0_hidden_8 rfl (lv_at hl 1 rfl) ?_
      refine r_g0 hC hx hb hts hin hown 2 (by decide) (hts (.fieldLink RX0 16 "AbjadPoems" "sizes" "[I") (by decide +kernel)) rfl dX0_hidden_9 ?_
      refine lv_iload_n hx hb dX0_hidden_12 rfl (lv_at hl 2 rfl) ?_
      refine r_sz hC hx hb dX0_hidden_13 (j := i) (by omega) ?_
      refine lv_icmp_ge (tgt := 45) hx hb dX0_hidden_14 (by decide) (fun c_14 => ?_) (fun c_14 => ?_)
      · skip
        have n_14 : ss cS i ≤ w := (nI_leI (a := ss cS i) (b := w) (by omega) (by omega)).mp c_14
        have hE : hd_ cS i yr (ss cS i) 0 = -1 := by rw [← h1, hd_e (by omega)]
        refine lv_iconst (v := -1) hx hb dX0_hidden_45 (by decide) ?_
        exact W.iret hx hb hr (fun t ht hW => ⟨_, rfl, (by show (-1) = hd_ cS i yr (ss cS i) 0; rw [hE]), ht⟩) (fun q hq => absurd hq List.not_mem_nil) dX0_hidden_46
      · skip
        have n_14 : ¬ ss cS i ≤ w := fun q__ => c_14 ((nI_leI (a := ss cS i) (b := w) (by omega) (by omega)).mpr q__)
        refine lv_aload_n hx hb dX0_hidden_17 rfl (lv_at hl 1 rfl) ?_
        refine lv_iload_n hx hb dX0_hidden_18 rfl (lv_at hl 2 rfl) ?_
        refine lv_iload_n hx hb dX0_hidden_19 rfl (lv_at hl 0 rfl) ?_
        refine lv_iload_n hx hb dX0_hidden_20 rfl (lv_at hl 3 rfl) ?_
        refine k_rV (As := [.int (nI i), .int (nI w), .int yr]) (rest := []) (c_X0_lastOfRun l B0 g ct ad cS mS x i w yr (by omega) (by omega)) hC ⟨hx, hb, hml, hown, hts⟩ (cwV 3 hts gX0_hidden_X0_lastOfRun rfl rfl rfl (by decide +kernel) ⟨Nat.le_of_ble_eq_true rfl, Nat.le_of_ble_eq_true rfl⟩) (rc0 hC) rfl hl.1 rfl (Nat.le_of_ble_eq_true rfl) dX0_hidden_21 ⟨Nat.le_of_ble_eq_true rfl, Nat.le_of_ble_eq_true rfl⟩ ?_
        refine lv_istore (lv' := [(4, .int (ru_ cS i yr w)), (3, .int (nI w)), (0, .ref (ad 0)), (1, .int (nI i)), (2, .int yr)]) hx hb dX0_hidden_24 hl (by decide) rfl (fun ls hl => ?_)
        refine lv_iload hx hb dX0_hidden_26 (lv_at hl 0 rfl) ?_
        refine lv_if_lt (tgt := 39) hx hb dX0_hidden_28 (by decide) (fun c_28 => ?_) (fun c_28 => ?_)
        · skip
          have n_28 := (ru_i (y := yr) hI.2.2.1 (show w < ss cS i by omega)).mp c_28
          refine lv_iinc (v := nI (w + 1)) (lv' := [(3, .int (nI (w + 1))), (4, .int (ru_ cS i yr w)), (0, .ref (ad 0)), (1, .int (nI i)), (2, .int yr)]) hx hb dX0_hidden_39 hl (k := 1) rfl (nI_1 _) (by decide) rfl (fun ls hl => ?_)
          refine lv_goto (tgt := 7) hx hb dX0_hidden_42 (by decide) ?_
          exact ih_7 (w + 1) (by omega) (by rw [← h1, hd_s (show w < ss cS i by omega), if_pos n_28]) (by omega) ls (lv_sub hl [0, 2, 3, 4] rfl)
        · skip
          have n_28 : ¬ ru_ cS i yr w = -1 := fun q => c_28 ((ru_i hI.2.2.1 (show w < ss cS i by omega)).mpr q)
          have hE : hd_ cS i yr (ss cS i) 0 = nI (10 * w) + ru_ cS i yr w := by rw [← h1, hd_s (show w < ss cS i by omega), if_neg n_28]
          refine lv_bipush (v := nI 10) hx hb dX0_hidden_31 (by decide) ?_
          refine lv_iload_n hx hb dX0_hidden_33 rfl (lv_at hl 1 rfl) ?_
          refine lv_imul hx hb dX0_hidden_34 ?_
          refine lv_tn (pk_mul _ _) ?_
          refine lv_iload hx hb dX0_hidden_35 (lv_at hl 0 rfl) ?_
          refine lv_iadd hx hb dX0_hidden_37 ?_
          exact W.iret hx hb hr (fun t ht hW => ⟨_, rfl, (by show (nI (10 * w)) + (ru_ cS i yr w) = hd_ cS i yr (ss cS i) 0; rw [hE]), ht⟩) (fun q hq => absurd hq List.not_mem_nil) dX0_hidden_38
  exact LP_7 _ 0 (Nat.lt_succ_self _) rfl (by omega) ls (lv_sub hl [0, 1, 2, 3] rfl)
set_option maxHeartbeats 4000000 in
set_option maxRecDepth 100000 in
theorem t_X0_hidden (l : Launch) (B0 : Nat) (g : va_G) (ct ad : Nat → Nat) (cS mS : St_) (x : Ax_) (hflags : l.stackTraces = false) (li : Int32) (h : li < 0 ∨ nI (sn cS) ≤ li) (yr : Int32) : TX l yX0_hidden wsX0_hidden 7 B0 g ct ad cS mS x [.ref (ad 0), .int li, .int yr] EI_ := by
  refine vx_ofW (cc := cX0_hidden) (maxL := 5) (ret := (some .int)) (by decide) rfl ?_
  intro p e s m args below meth c s₁ B hml hxt hv
  obtain ⟨rfl, hC⟩ := hv
  have hx := B.exec
  have hb := B.bytes
  have hr := B.returns
  have hts := atoms_spec (ws := wsX0_hidden) B.pre
  have hown : s.vm.findClass RX0 = some m.cls := findClass_of_methodNamed B.named
  have hlocks := B.notSynchronized
  have hin : ∀ w ∈ wsX00, w ∈ wsX0_hidden := fun _ h => List.mem_cons_of_mem _ (List.mem_append_left _ (List.mem_append_right _ h))
  have hS : va_S (AA B0) s.heap s.heap [] := va_S.rf
  have hB : B0 ≤ s.heap.size := hC.1.2.2.1
  have hK0 := hC.2
  have hl := lv_entry ([.ref (ad 0), .int li, .int yr]) (n := 5) (Nat.le_of_ble_eq_true rfl)
  rw [lg_entry_eq]
  generalize (lg_sl ([.ref (ad 0), .int li, .int yr]) ++ List.replicate (5 - (lg_sl ([.ref (ad 0), .int li, .int yr])).length) Slot.unset).toArray = ls at hl ⊢
  have hl : lv_has ls 5 [(0, .ref (ad 0)), (1, .int li), (2, .int yr)] := hl
  refine lv_aload_n hx hb dX0_hidden_0 rfl (lv_at hl 0 rfl) ?_
  refine lv_iload_n hx hb dX0_hidden_1 rfl (lv_at hl 1 rfl) ?_
  refine k_tV (As := [.int li]) (rest := []) (t_X0_checkLine l B0 g ct ad cS mS x hflags li h) hC hB hS ⟨hx, hb, hml, hown, hts⟩ (cwV 1 hts gX0_hidden_X0_checkLine rfl rfl rfl (by decide +kernel) ⟨Nat.le_of_ble_eq_true rfl, Nat.le_of_ble_eq_true rfl⟩) (rc0 hC) rfl hl.1 rfl (Nat.le_of_ble_eq_true rfl) dX0_hidden_2 ⟨Nat.le_of_ble_eq_true rfl, Nat.le_of_ble_eq_true rfl⟩ (fun ce_ q9_ H locs hC hS hce_ hcv_ hcl_ => ?_)
  exact vx_out (fun x hx_ => (hxt x hx_).elim) hlocks hce_ hcv_ hcl_ (fun t ht hA => ⟨(), trivial, ⟨rfl, by rw [ht]; exact hC.1⟩, hS.F ht⟩) hS.2.2 (Nat.le_of_ble_eq_true rfl) (Nat.le_of_ble_eq_true rfl)
set_option maxHeartbeats 4000000 in
set_option maxRecDepth 100000 in
theorem c_X0_hides (l : Launch) (B0 : Nat) (g : va_G) (ct ad : Nat → Nat) (cS mS : St_) (x : Ax_) (yr : Int32) : RI l yX0_hides wsX0_hides 3 (PX B0 g ct ad cS mS x [.ref (ad 0), .int yr]) (nI (hs_ cS yr)) := by
  refine Met.ofW (cc := cX0_hides) (maxL := 5) (ret := (some .int)) (by decide) rfl ?_
  intro p e s m args below meth c s₁ B hml hv
  obtain ⟨rfl, hC⟩ := hv
  have hx := B.exec
  have hb := B.bytes
  have hr := B.returns
  have hts := atoms_spec (ws := wsX0_hides) B.pre
  have hown : s.vm.findClass RX0 = some m.cls := findClass_of_methodNamed B.named
  have hlocks := B.notSynchronized
  have hin : ∀ w ∈ wsX00, w ∈ wsX0_hides := fun _ h => List.mem_cons_of_mem _ (List.mem_append_right _ h)
  have hI := hC.1.2.2.2.1
  have hn := hI.2.1
  have hl := lv_entry ([.ref (ad 0), .int yr]) (n := 5) (Nat.le_of_ble_eq_true rfl)
  rw [lg_entry_eq]
  generalize (lg_sl ([.ref (ad 0), .int yr]) ++ List.replicate (5 - (lg_sl ([.ref (ad 0), .int yr])).length) Slot.unset).toArray = ls at hl ⊢
  have hl : lv_has ls 5 [(0, .ref (ad 0)), (1, .int yr)] := hl
  refine lv_iconst (v := nI 0) hx hb dX0_hides_0 (by decide) ?_
  refine lv_istore_n (lv' := [(2, .int (nI 0)), (0, .ref (ad 0)), (1, .int yr)]) hx hb dX0_hides_1 rfl hl (by decide) rfl (fun ls hl => ?_)
  refine lv_iconst (v := nI 0) hx hb dX0_hides_2 (by decide) ?_
  refine lv_istore_n (lv' := [(3, .int (nI 0)), (2, .int (nI 0)), (0, .ref (ad 0)), (1, .int yr)]) hx hb dX0_hides_3 rfl hl (by decide) rfl (fun ls hl => ?_)
  have LP_4 : ∀ (n_ : Nat) (t : Nat) (k : Nat), sn cS - k < n_ → (t = qs_ (fun l => hl_ cS yr l) k) → (k ≤ sn cS) → ∀ ls : Array Slot, lv_has ls 5 [(3, .int (nI k)), (2, .int (nI t)), (0, .ref (ad 0)), (1, .int yr)] → W p l e (headSpec wsX0_hides (rm_ 3 0 0)).room s m ([.ref (ad 0), .int yr] : List Value).toArray below meth c s.heap [] 0 0 (MQ below (vp_Si (fun r => r = nI (hs_ cS yr))) ([.ref (ad 0), .int yr] : List Value).toArray s 0 0 (fun _ => False)) (F0 m 4 ls []) := by
    intro n_
    induction n_ with
    | zero => intro t k hm; exact absurd hm (Nat.not_lt_zero _)
    | succ n_ ih_4 =>
      intro t k hm ht hk ls hl
      have hz := hI.2.2.1 k
      refine lv_iload_n hx hb dX0_hides_4 rfl (lv_at hl 0 rfl) ?_
      refine lv_aload_n hx hb dX0_hides_5 rfl (lv_at hl 2 rfl) ?_
      refine r_g0 hC hx hb hts hin hown 1 (by decide) (hts (.fieldLink RX0 13 "AbjadPoems" "lines" "I") (by decide +kernel)) rfl dX0_hides_6 ?_
      refine lv_icmp_ge (tgt := 52) hx hb dX0_hides_9 (by decide) (fun c_9 => ?_) (fun c_9 => ?_)
      · skip
        have n_9 : sn cS ≤ k := (nI_leI (a := sn cS) (b := k) (by omega) (by omega)).mp c_9
        have hE : t = hs_ cS yr := by rw [ht, show k = sn cS by omega]; rfl
        refine lv_iload_n hx hb dX0_hides_52 rfl (lv_at hl 1 rfl) ?_
        exact W.iret hx hb hr (fun t ht hW => ⟨_, rfl, (congrArg nI hE), ht⟩) (fun q hq => absurd hq List.not_mem_nil) dX0_hides_53
      · skip
        have n_9 : ¬ sn cS ≤ k := fun q__ => c_9 ((nI_leI (a := sn cS) (b := k) (by omega) (by omega)).mpr q__)
        refine lv_iconst (v := nI 0) hx hb dX0_hides_12 (by decide) ?_
        refine lv_istore (lv' := [(4, .int (nI 0)), (3, .int (nI k)), (2, .int (nI t)), (0, .ref (ad 0)), (1, .int yr)]) hx hb dX0_hides_13 hl (by decide) rfl (fun ls hl => ?_)
        have LP_15 : ∀ (n_ : Nat) (u : Nat) (w : Nat), ss cS k - w < n_ → (u = t + qs_ (hf_ cS yr k) w) → (w ≤ ss cS k) → ∀ ls : Array Slot, lv_has ls 5 [(4, .int (nI w)), (3, .int (nI k)), (2, .int (nI u)), (0, .ref (ad 0)), (1, .int yr)] → W p l e (headSpec wsX0_hides (rm_ 3 0 0)).room s m ([.ref (ad 0), .int yr] : List Value).toArray below meth c s.heap [] 0 0 (MQ below (vp_Si (fun r => r = nI (hs_ cS yr))) ([.ref (ad 0), .int yr] : List Value).toArray s 0 0 (fun _ => False)) (F0 m 15 ls []) := by
          intro n_
          induction n_ with
          | zero => intro u w hm; exact absurd hm (Nat.not_lt_zero _)
          | succ n_ ih_15 =>
            intro u w hm hu hw_ ls hl
            refine lv_iload hx hb dX0_hides_15 (lv_at hl 0 rfl) ?_
            refine lv_aload_n hx hb dX0_hides_17 rfl (lv_at hl 3 rfl) ?_
            refine r_g0 hC hx hb hts hin hown 2 (by decide) (hts (.fieldLink RX0 16 "AbjadPoems" "sizes" "[I") (by decide +kernel)) rfl dX0_hides_18 ?_
            refine lv_iload_n hx hb dX0_hides_21 rfl (lv_at hl 1 rfl) ?_
            refine r_sz hC hx hb dX0_hides_22 (j := k) (by omega) ?_
            refine lv_icmp_ge (tgt := 46) hx hb dX0_hides_23 (by decide) (fun c_23 => ?_) (fun c_23 => ?_)
            · skip
              have n_23 : ss cS k ≤ w := (nI_leI (a := ss cS k) (b := w) (by omega) (by omega)).mp c_23
              refine lv_iinc (v := nI (k + 1)) (lv' := [(3, .int (nI (k + 1))), (4, .int (nI w)), (2, .int (nI u)), (0, .ref (ad 0)), (1, .int yr)]) hx hb dX0_hides_46 hl (k := 1) rfl (nI_1 _) (by decide) rfl (fun ls hl => ?_)
              refine lv_goto (tgt := 4) hx hb dX0_hides_49 (by decide) ?_
              exact ih_4 u (k + 1) (by omega) (by rw [hu, show w = ss cS k by omega, ht]; rfl) (by omega) ls (lv_sub hl [0, 2, 3, 4] rfl)
            · skip
              have n_23 : ¬ ss cS k ≤ w := fun q__ => c_23 ((nI_leI (a := ss cS k) (b := w) (by omega) (by omega)).mpr q__)
              refine lv_aload_n hx hb dX0_hides_26 rfl (lv_at hl 3 rfl) ?_
              refine lv_iload_n hx hb dX0_hides_27 rfl (lv_at hl 1 rfl) ?_
              refine lv_iload hx hb dX0_hides_28 (lv_at hl 0 rfl) ?_
              refine lv_iload_n hx hb dX0_hides_30 rfl (lv_at hl 4 rfl) ?_
              refine k_rV (As := [.int (nI k), .int (nI w), .int yr]) (rest := []) (c_X0_lastOfRun l B0 g ct ad cS mS x k w yr (by omega) (by omega)) hC ⟨hx, hb, hml, hown, hts⟩ (cwV 3 hts gX0_hides_X0_lastOfRun rfl rfl rfl (by decide +kernel) ⟨Nat.le_of_ble_eq_true rfl, Nat.le_of_ble_eq_true rfl⟩) (rc0 hC) rfl hl.1 rfl (Nat.le_of_ble_eq_true rfl) dX0_hides_31 ⟨Nat.le_of_ble_eq_true rfl, Nat.le_of_ble_eq_true rfl⟩ ?_
              refine lv_if_lt (tgt := 40) hx hb dX0_hides_34 (by decide) (fun c_34 => ?_) (fun c_34 => ?_)
              · skip
                have n_34 := (ru_i (y := yr) hI.2.2.1 (show w < ss cS k by omega)).mp c_34
                refine lv_iinc (v := nI (w + 1)) (lv' := [(4, .int (nI (w + 1))), (3, .int (nI k)), (2, .int (nI u)), (0, .ref (ad 0)), (1, .int yr)]) hx hb dX0_hides_40 hl (k := 0) rfl (nI_1 _) (by decide) rfl (fun ls hl => ?_)
                refine lv_goto (tgt := 15) hx hb dX0_hides_43 (by decide) ?_
                exact ih_15 u (w + 1) (by omega) (by first | rw [hf_t n_34]; exact hu | rw [hf_f n_34, hu]; rfl) (by omega) ls (lv_sub hl [0, 1, 2, 3, 4] rfl)
              · skip
                have n_34 : ¬ ru_ cS k yr w = -1 := fun q => c_34 ((ru_i hI.2.2.1 (show w < ss cS k by omega)).mpr q)
                refine lv_iinc (v := nI (u + 1)) (lv' := [(2, .int (nI (u + 1))), (4, .int (nI w)), (3, .int (nI k)), (0, .ref (ad 0)), (1, .int yr)]) hx hb dX0_hides_37 hl (k := 2) rfl (nI_1 _) (by decide) rfl (fun ls hl => ?_)
                refine lv_iinc (v := nI (w + 1)) (lv' := [(4, .int (nI (w + 1))), (2, .int (nI (u + 1))), (3, .int (nI k)), (0, .ref (ad 0)), (1, .int yr)]) hx hb dX0_hides_40 hl (k := 1) rfl (nI_1 _) (by decide) rfl (fun ls hl => ?_)
                refine lv_goto (tgt := 15) hx hb dX0_hides_43 (by decide) ?_
                exact ih_15 (u + 1) (w + 1) (by omega) (by first | rw [hf_t n_34]; exact hu | rw [hf_f n_34, hu]; rfl) (by omega) ls (lv_sub hl [0, 2, 1, 3, 4] rfl)
        exact LP_15 _ t 0 (Nat.lt_succ_self _) rfl (Nat.zero_le _) ls (lv_sub hl [0, 1, 2, 3, 4] rfl)
  exact LP_4 _ 0 0 (Nat.lt_succ_self _) rfl (Nat.zero_le _) ls (lv_sub hl [0, 1, 2, 3] rfl)
set_option maxHeartbeats 4000000 in
set_option maxRecDepth 100000 in
theorem c_X0_lacks (l : Launch) (B0 : Nat) (g : va_G) (ct ad : Nat → Nat) (cS mS : St_) (x : Ax_) (i : Nat) (hi : i < sn cS) (yr : Int32) : RI l yX0_lacks wsX0_lacks 4 (PX B0 g ct ad cS mS x [.ref (ad 0), .int (nI i), .int yr]) (lk_ cS i yr 26 1) := by
  refine Met.ofW (cc := cX0_lacks) (maxL := 5) (ret := (some .int)) (by decide) rfl ?_
  intro p e s m args below meth c s₁ B hml hv
  obtain ⟨rfl, hC⟩ := hv
  have hx := B.exec
  have hb := B.bytes
  have hr := B.returns
  have hts := atoms_spec (ws := wsX0_lacks) B.pre
  have hown : s.vm.findClass RX0 = some m.cls := findClass_of_methodNamed B.named
  have hlocks := B.notSynchronized
  have hin : ∀ w ∈ wsX00, w ∈ wsX0_lacks := fun _ h => List.mem_cons_of_mem _ (List.mem_append_left _ (List.mem_append_right _ h))
  have hI := hC.1.2.2.2.1
  have hn := hI.2.1
  have hl := lv_entry ([.ref (ad 0), .int (nI i), .int yr]) (n := 5) (Nat.le_of_ble_eq_true rfl)
  rw [lg_entry_eq]
  generalize (lg_sl ([.ref (ad 0), .int (nI i), .int yr]) ++ List.replicate (5 - (lg_sl ([.ref (ad 0), .int (nI i), .int yr])).length) Slot.unset).toArray = ls at hl ⊢
  have hl : lv_has ls 5 [(0, .ref (ad 0)), (1, .int (nI i)), (2, .int yr)] := hl
  refine lv_aload_n hx hb dX0_lacks_0 rfl (lv_at hl 0 rfl) ?_
  refine lv_iload_n hx hb dX0_lacks_1 rfl (lv_at hl 1 rfl) ?_
  refine k_vV (As := [.int (nI i)]) (rest := []) (c_X0_checkLine l B0 g ct ad cS mS x i (by omega)) hC ⟨hx, hb, hml, hown, hts⟩ (cwV 1 hts gX0_lacks_X0_checkLine rfl rfl rfl (by decide +kernel) ⟨Nat.le_of_ble_eq_true rfl, Nat.le_of_ble_eq_true rfl⟩) (rc0 hC) rfl hl.1 rfl (Nat.le_of_ble_eq_true rfl) dX0_lacks_2 ⟨Nat.le_of_ble_eq_true rfl, Nat.le_of_ble_eq_true rfl⟩ ?_
  refine lv_aload_n hx hb dX0_lacks_5 rfl (lv_at hl 0 rfl) ?_
  refine lv_iload_n hx hb dX0_lacks_6 rfl (lv_at hl 1 rfl) ?_
  refine lv_iconst (v := nI 2) hx hb dX0_lacks_7 (by decide) ?_
  refine k_rV (As := [.int (nI i), .int (nI 2)]) (rest := []) (c_X0_figureOfLine l B0 g ct ad cS mS x i 2 (by omega) (by omega)) hC ⟨hx, hb, hml, hown, hts⟩ (cwV 2 hts gX0_lacks_X0_figureOfLine rfl rfl rfl (by decide +kernel) ⟨Nat.le_of_ble_eq_true rfl, Nat.le_of_ble_eq_true rfl⟩) (rc0 hC) rfl hl.1 rfl (Nat.le_of_ble_eq_true rfl) dX0_lacks_8 ⟨Nat.le_of_ble_eq_true rfl, Nat.le_of_ble_eq_true rfl⟩ ?_
  refine lv_istore_n (lv' := [(3, .int (nI (lt_ cS i 2))), (0, .ref (ad 0)), (1, .int (nI i)), (2, .int yr)]) hx hb dX0_lacks_11 rfl hl (by decide) rfl (fun ls hl => ?_)
  refine lv_iconst (v := nI 1) hx hb dX0_lacks_12 (by decide) ?_
  refine lv_istore (lv' := [(4, .int (nI 1)), (3, .int (nI (lt_ cS i 2))), (0, .ref (ad 0)), (1, .int (nI i)), (2, .int yr)]) hx hb dX0_lacks_13 hl (by decide) rfl (fun ls hl => ?_)
  have LP_15 : ∀ (n_ : Nat) (k : Nat), 27 - k < n_ → (lk_ cS i yr (27 - k) k = lk_ cS i yr 26 1) → (1 ≤ k ∧ k ≤ 27) → ∀ ls : Array Slot, lv_has ls 5 [(4, .int (nI k)), (3, .int (nI (lt_ cS i 2))), (0, .ref (ad 0)), (1, .int (nI i)), (2, .int yr)] → W p l e (headSpec wsX0_lacks (rm_ 4 0 0)).room s m ([.ref (ad 0), .int (nI i), .int yr] : List Value).toArray below meth c s.heap [] 0 0 (MQ below (vp_Si (fun r => r = lk_ cS i yr 26 1)) ([.ref (ad 0), .int (nI i), .int yr] : List Value).toArray s 0 0 (fun _ => False)) (F0 m 15 ls []) := by
    intro n_
    induction n_ with
    | zero => intro k hm; exact absurd hm (Nat.not_lt_zero _)
    | succ n_ ih_15 =>
      intro k hm h1 hk ls hl
      refine lv_iload hx hb dX0_lacks_15 (lv_at hl 0 rfl) ?_
      refine lv_bipush (v := nI 26) hx hb dX0_lacks_17 (by decide) ?_
      refine lv_icmp_gt (tgt := 43) hx hb dX0_lacks_19 (by decide) (fun c_19 => ?_) (fun c_19 => ?_)
      · skip
        have n_19 : 26 < k := (nI_ltI (a := 26) (b := k) (by omega) (by omega)).mp c_19
        have hE : lk_ cS i yr 26 1 = -1 := by rw [← h1, show 27 - k = 0 by omega]; rfl
        refine lv_iconst (v := -1) hx hb dX0_lacks_43 (by decide) ?_
        exact W.iret hx hb hr (fun t ht hW => ⟨_, rfl, (by show (-1) = lk_ cS i yr 26 1; rw [hE]), ht⟩) (fun q hq => absurd hq List.not_mem_nil) dX0_lacks_44
      · skip
        have n_19 : ¬ 26 < k := fun q__ => c_19 ((nI_ltI (a := 26) (b := k) (by omega) (by omega)).mpr q__)
        refine lv_iload_n hx hb dX0_lacks_22 rfl (lv_at hl 1 rfl) ?_
        refine lv_aload_n hx hb dX0_lacks_23 rfl (lv_at hl 2 rfl) ?_
        refine lv_iload hx hb dX0_lacks_24 (lv_at hl 0 rfl) ?_
        refine k_rV (As := [.int (nI k)]) (rest := [.int (nI (lt_ cS i 2))]) (c_X0_worthOfLetter l B0 g ct ad cS mS x k (by omega)) hC ⟨hx, hb, hml, hown, hts⟩ (cwV 1 hts gX0_lacks_X0_worthOfLetter rfl rfl rfl (by decide +kernel) ⟨Nat.le_of_ble_eq_true rfl, Nat.le_of_ble_eq_true rfl⟩) (rc0 hC) rfl hl.1 rfl (Nat.le_of_ble_eq_true rfl) dX0_lacks_26 ⟨Nat.le_of_ble_eq_true rfl, Nat.le_of_ble_eq_true rfl⟩ ?_
        refine lv_iadd hx hb dX0_lacks_29 ?_
        refine lv_tn (nI_add _ _) ?_
        refine lv_iload_n hx hb dX0_lacks_30 rfl (lv_at hl 4 rfl) ?_
        refine lv_icmp_ne (tgt := 37) hx hb dX0_lacks_31 (by decide) (fun c_31 => ?_) (fun c_31 => ?_)
        · skip
          refine lv_iinc (v := nI (k + 1)) (lv' := [(4, .int (nI (k + 1))), (3, .int (nI (lt_ cS i 2))), (0, .ref (ad 0)), (1, .int (nI i)), (2, .int yr)]) hx hb dX0_lacks_37 hl (k := 0) rfl (nI_1 _) (by decide) rfl (fun ls hl => ?_)
          refine lv_goto (tgt := 15) hx hb dX0_lacks_40 (by decide) ?_
          exact ih_15 (k + 1) (by omega) (by rw [← h1, lk_s (show k < 27 by omega), if_neg c_31]) (by omega) ls (lv_sub hl [0, 1, 2, 3, 4] rfl)
        · skip
          have hE : lk_ cS i yr 26 1 = nI k := by rw [← h1, lk_s (show k < 27 by omega), if_pos c_31]
          refine lv_iload hx hb dX0_lacks_34 (lv_at hl 0 rfl) ?_
          exact W.iret hx hb hr (fun t ht hW => ⟨_, rfl, (by show nI k = lk_ cS i yr 26 1; rw [hE]), ht⟩) (fun q hq => absurd hq List.not_mem_nil) dX0_lacks_36
  exact LP_15 _ 1 (Nat.lt_succ_self _) rfl (by omega) ls (lv_sub hl [0, 1, 2, 3, 4] rfl)
set_option maxHeartbeats 4000000 in
set_option maxRecDepth 100000 in
theorem t_X0_lacks (l : Launch) (B0 : Nat) (g : va_G) (ct ad : Nat → Nat) (cS mS : St_) (x : Ax_) (hflags : l.stackTraces = false) (li : Int32) (h : li < 0 ∨ nI (sn cS) ≤ li) (yr : Int32) : TX l yX0_lacks wsX0_lacks 7 B0 g ct ad cS mS x [.ref (ad 0), .int li, .int yr] EI_ := by
  refine vx_ofW (cc := cX0_lacks) (maxL := 5) (ret := (some .int)) (by decide) rfl ?_
  intro p e s m args below meth c s₁ B hml hxt hv
  obtain ⟨rfl, hC⟩ := hv
  have hx := B.exec
  have hb := B.bytes
  have hr := B.returns
  have hts := atoms_spec (ws := wsX0_lacks) B.pre
  have hown : s.vm.findClass RX0 = some m.cls := findClass_of_methodNamed B.named
  have hlocks := B.notSynchronized
  have hin : ∀ w ∈ wsX00, w ∈ wsX0_lacks := fun _ h => List.mem_cons_of_mem _ (List.mem_append_left _ (List.mem_append_right _ h))
  have hS : va_S (AA B0) s.heap s.heap [] := va_S.rf
  have hB : B0 ≤ s.heap.size := hC.1.2.2.1
  have hK0 := hC.2
  have hl := lv_entry ([.ref (ad 0), .int li, .int yr]) (n := 5) (Nat.le_of_ble_eq_true rfl)
  rw [lg_entry_eq]
  generalize (lg_sl ([.ref (ad 0), .int li, .int yr]) ++ List.replicate (5 - (lg_sl ([.ref (ad 0), .int li, .int yr])).length) Slot.unset).toArray = ls at hl ⊢
  have hl : lv_has ls 5 [(0, .ref (ad 0)), (1, .int li), (2, .int yr)] := hl
  refine lv_aload_n hx hb dX0_lacks_0 rfl (lv_at hl 0 rfl) ?_
  refine lv_iload_n hx hb dX0_lacks_1 rfl (lv_at hl 1 rfl) ?_
  refine k_tV (As := [.int li]) (rest := []) (t_X0_checkLine l B0 g ct ad cS mS x hflags li h) hC hB hS ⟨hx, hb, hml, hown, hts⟩ (cwV 1 hts gX0_lacks_X0_checkLine rfl rfl rfl (by decide +kernel) ⟨Nat.le_of_ble_eq_true rfl, Nat.le_of_ble_eq_true rfl⟩) (rc0 hC) rfl hl.1 rfl (Nat.le_of_ble_eq_true rfl) dX0_lacks_2 ⟨Nat.le_of_ble_eq_true rfl, Nat.le_of_ble_eq_true rfl⟩ (fun ce_ q9_ H locs hC hS hce_ hcv_ hcl_ => ?_)
  exact vx_out (fun x hx_ => (hxt x hx_).elim) hlocks hce_ hcv_ hcl_ (fun t ht hA => ⟨(), trivial, ⟨rfl, by rw [ht]; exact hC.1⟩, hS.F ht⟩) hS.2.2 (Nat.le_of_ble_eq_true rfl) (Nat.le_of_ble_eq_true rfl)
set_option maxHeartbeats 4000000 in
set_option maxRecDepth 100000 in
theorem c_X0_nearest (l : Launch) (B0 : Nat) (g : va_G) (ct ad : Nat → Nat) (cS mS : St_) (x : Ax_) (yr : Int32) : RI l yX0_nearest wsX0_nearest 4 (PX B0 g ct ad cS mS x [.ref (ad 0), .int yr]) (ni_ (nr_ cS yr (sn cS))) := by
  refine Met.ofW (cc := cX0_nearest) (maxL := 8) (ret := (some .int)) (by decide) rfl ?_
  intro p e s m args below meth c s₁ B hml hv
  obtain ⟨rfl, hC⟩ := hv
  have hx := B.exec
  have hb := B.bytes
  have hr := B.returns
  have hts := atoms_spec (ws := wsX0_nearest) B.pre
  have hown : s.vm.findClass RX0 = some m.cls := findClass_of_methodNamed B.named
  have hlocks := B.notSynchronized
  have hin : ∀ w ∈ wsX00, w ∈ wsX0_nearest := fun _ h => List.mem_cons_of_mem _ (List.mem_append_right _ h)
  have hI := hC.1.2.2.2.1
  have hn := hI.2.1
  have hl := lv_entry ([.ref (ad 0), .int yr]) (n := 8) (Nat.le_of_ble_eq_true rfl)
  rw [lg_entry_eq]
  generalize (lg_sl ([.ref (ad 0), .int yr]) ++ List.replicate (8 - (lg_sl ([.ref (ad 0), .int yr])).length) Slot.unset).toArray = ls at hl ⊢
  have hl : lv_has ls 8 [(0, .ref (ad 0)), (1, .int yr)] := hl
  refine lv_iconst (v := -1) hx hb dX0_nearest_0 (by decide) ?_
  refine lv_istore_n (lv' := [(2, .int ((-1))), (0, .ref (ad 0)), (1, .int yr)]) hx hb dX0_nearest_1 rfl hl (by decide) rfl (fun ls hl => ?_)
  refine lv_lconst (v := 0) hx hb dX0_nearest_2 rfl ?_
  refine lv_lstore_n (lv' := [(3, .long 0), (2, .int ((-1))), (0, .ref (ad 0)), (1, .int yr)]) hx hb dX0_nearest_3 rfl hl (by decide) rfl (fun ls hl => ?_)
  refine lv_iconst (v := nI 0) hx hb dX0_nearest_4 (by decide) ?_
  refine lv_istore (lv' := [(5, .int (nI 0)), (3, .long 0), (2, .int ((-1))), (0, .ref (ad 0)), (1, .int yr)]) hx hb dX0_nearest_5 hl (by decide) rfl (fun ls hl => ?_)
  have LP_7 : ∀ (n_ : Nat) (bi : Int32) (bg : Int64) (k : Nat), sn cS - k < n_ → (bi = ni_ (nr_ cS yr k)) → (∀ b, nr_ cS yr k = some b → bg = gp_ cS yr b) → (k ≤ sn cS) → ∀ ls : Array Slot, lv_has ls 8 [(5, .int (nI k)), (3, .long bg), (2, .int bi), (0, .ref (ad 0)), (1, .int yr)] → W p l e (headSpec wsX0_nearest (rm_ 4 0 0)).room s m ([.ref (ad 0), .int yr] : List Value).toArray below meth c s.heap [] 0 0 (MQ below (vp_Si (fun r => r = ni_ (nr_ cS yr (sn cS)))) ([.ref (ad 0), .int yr] : List Value).toArray s 0 0 (fun _ => False)) (F0 m 7 ls []) := by
    intro n_
    induction n_ with
    | zero => intro bi bg k hm; exact absurd hm (Nat.not_lt_zero _)
    | succ n_ ih_7 =>
      intro bi bg k hm hb_ hg hk ls hl
      have hlt : ∀ b, nr_ cS yr k = some b → b < 2 ^ 31 := fun b q => by have := nr_lt q; omega
      refine lv_iload hx hb dX0_nearest_7 (lv_at hl 0 rfl) ?_
      refine lv_aload_n hx hb dX0_nearest_9 rfl (lv_at hl 3 rfl) ?_
      refine r_g0 hC hx hb hts hin hown 1 (by decide) (hts (.fieldLink RX0 13 "AbjadPoems" "lines" "I") (by decide +kernel)) rfl dX0_nearest_10 ?_
      refine lv_icmp_ge (tgt := 55) hx hb dX0_nearest_13 (by decide) (fun c_13 => ?_) (fun c_13 => ?_)
      · skip
        have n_13 : sn cS ≤ k := (nI_leI (a := sn cS) (b := k) (by omega) (by omega)).mp c_13
        have hE : bi = ni_ (nr_ cS yr (sn cS)) := by rw [hb_, show k = sn cS by omega]
        refine lv_iload_n hx hb dX0_nearest_55 rfl (lv_at hl 2 rfl) ?_
        exact W.iret hx hb hr (fun t ht hW => ⟨_, rfl, hE, ht⟩) (fun q hq => absurd hq List.not_mem_nil) dX0_nearest_56
      · skip
        have n_13 : ¬ sn cS ≤ k := fun q__ => c_13 ((nI_leI (a := sn cS) (b := k) (by omega) (by omega)).mpr q__)
        refine lv_aload_n hx hb dX0_nearest_16 rfl (lv_at hl 3 rfl) ?_
        refine lv_iload hx hb dX0_nearest_17 (lv_at hl 0 rfl) ?_
        refine lv_iconst (v := nI 2) hx hb dX0_nearest_19 (by decide) ?_
        refine k_rV (As := [.int (nI k), .int (nI 2)]) (rest := []) (c_X0_figureOfLine l B0 g ct ad cS mS x k 2 (by omega) (by omega)) hC ⟨hx, hb, hml, hown, hts⟩ (cwV 2 hts gX0_nearest_X0_figureOfLine rfl rfl rfl (by decide +kernel) ⟨Nat.le_of_ble_eq_true rfl, Nat.le_of_ble_eq_true rfl⟩) (rc0 hC) rfl hl.1 rfl (Nat.le_of_ble_eq_true rfl) dX0_nearest_20 ⟨Nat.le_of_ble_eq_true rfl, Nat.le_of_ble_eq_true rfl⟩ ?_
        refine lv_i2l (v := (nI (lt_ cS k 2)).toInt64) hx hb dX0_nearest_23 rfl ?_
        refine lv_iload_n hx hb dX0_nearest_24 rfl (lv_at hl 4 rfl) ?_
        refine lv_i2l (v := (yr).toInt64) hx hb dX0_nearest_25 rfl ?_
        refine lv_lsub hx hb dX0_nearest_26 ?_
        refine va_mabs_long hx hb (hml.trans hl.1.symm) hown (hts (.methodLink RX0 107 Lib.MathLoose.abs_long.x) (by decide +kernel)) (hts (.static Lib.MathLoose.abs_long.x) (by decide +kernel)) (hts (.initialized "java/lang/Math") (by decide +kernel)) (hts (.code Lib.MathLoose.abs_long.x Lib.MathLoose.abs_long.code 2 (some .long)) (by decide +kernel)) (Nat.le_of_ble_eq_true rfl) (Nat.le_of_ble_eq_true rfl) (Nat.zero_le _) (Nat.zero_le _) dX0_nearest_27 ?_
        refine lv_tl (w := gp_ cS yr k) rfl ?_
        refine lv_lstore (lv' := [(6, .long (gp_ cS yr k)), (5, .int (nI k)), (3, .long bg), (2, .int bi), (0, .ref (ad 0)), (1, .int yr)]) hx hb dX0_nearest_30 hl (by decide) rfl (fun ls hl => ?_)
        refine lv_iload_n hx hb dX0_nearest_32 rfl (lv_at hl 3 rfl) ?_
        refine lv_if_lt (tgt := 43) hx hb dX0_nearest_33 (by decide) (fun c_33 => ?_) (fun c_33 => ?_)
        · skip
          have n_33 : nr_ cS yr k = none := (ni_neg hlt).mp (by rw [← hb_]; exact c_33)
          have hN : nr_ cS yr (k + 1) = some k := by rw [nr_, n_33]
          have hS1 : nI k = ni_ (nr_ cS yr (k + 1)) := by rw [hN]; rfl
          have hS2 : ∀ b, nr_ cS yr (k + 1) = some b → gp_ cS yr k = gp_ cS yr b := fun b q => by rw [hN] at q; cases q; rfl
          refine lv_iload hx hb dX0_nearest_43 (lv_at hl 1 rfl) ?_
          refine lv_istore_n (lv' := [(2, .int (nI k)), (6, .long (gp_ cS yr k)), (5, .int (nI k)), (3, .long bg), (0, .ref (ad 0)), (1, .int yr)]) hx hb dX0_nearest_45 rfl hl (by decide) rfl (fun ls hl => ?_)
          refine lv_lload hx hb dX0_nearest_46 (lv_at hl 1 rfl) ?_
          refine lv_lstore_n (lv' := [(3, .long (gp_ cS yr k)), (2, .int (nI k)), (6, .long (gp_ cS yr k)), (5, .int (nI k)), (0, .ref (ad 0)), (1, .int yr)]) hx hb dX0_nearest_48 rfl hl (by decide) rfl (fun ls hl => ?_)
          refine lv_iinc (v := nI (k + 1)) (lv' := [(5, .int (nI (k + 1))), (3, .long (gp_ cS yr k)), (2, .int (nI k)), (6, .long (gp_ cS yr k)), (0, .ref (ad 0)), (1, .int yr)]) hx hb dX0_nearest_49 hl (k := 3) rfl (nI_1 _) (by decide) rfl (fun ls hl => ?_)
          refine lv_goto (tgt := 7) hx hb dX0_nearest_52 (by decide) ?_
          exact ih_7 (nI k) (gp_ cS yr k) (k + 1) (by omega) (hS1) (hS2) (by omega) ls (lv_sub hl [0, 1, 2, 4, 5] rfl)
        · skip
          obtain ⟨b0, n_33⟩ : ∃ b0, nr_ cS yr k = some b0 := by
            cases e9 : nr_ cS yr k with
            | none => exact absurd (by rw [hb_, e9]; decide) c_33
            | some b0 => exact ⟨b0, rfl⟩
          have hg0 := hg b0 n_33
          refine lv_lload hx hb dX0_nearest_36 (lv_at hl 0 rfl) ?_
          refine lv_lload_n hx hb dX0_nearest_38 rfl (lv_at hl 2 rfl) ?_
          refine W.lcmp hx hb dX0_nearest_39 ?_
          refine lv_if_ge (tgt := 49) hx hb dX0_nearest_40 (by decide) (fun c_40 => ?_) (fun c_40 => ?_)
          · skip
            have n_40 := (lc_ _ _).mp c_40
            rw [hg0] at n_40
            have hN : nr_ cS yr (k + 1) = some b0 := by rw [nr_, n_33]; exact if_neg n_40
            have hS1 : bi = ni_ (nr_ cS yr (k + 1)) := by rw [hN, hb_, n_33]
            have hS2 : ∀ b, nr_ cS yr (k + 1) = some b → bg = gp_ cS yr b := fun b q => by rw [hN] at q; cases q; exact hg0
            refine lv_iinc (v := nI (k + 1)) (lv' := [(5, .int (nI (k + 1))), (6, .long (gp_ cS yr k)), (3, .long bg), (2, .int bi), (0, .ref (ad 0)), (1, .int yr)]) hx hb dX0_nearest_49 hl (k := 1) rfl (nI_1 _) (by decide) rfl (fun ls hl => ?_)
            refine lv_goto (tgt := 7) hx hb dX0_nearest_52 (by decide) ?_
            exact ih_7 bi bg (k + 1) (by omega) (hS1) (hS2) (by omega) ls (lv_sub hl [0, 2, 3, 4, 5] rfl)
          · skip
            have n_40 : gp_ cS yr k < gp_ cS yr b0 := by
              rw [← hg0]
              exact Decidable.of_not_not (fun q => c_40 ((lc_ _ _).mpr q))
            have hN : nr_ cS yr (k + 1) = some k := by rw [nr_, n_33]; exact if_pos n_40
            have hS1 : nI k = ni_ (nr_ cS yr (k + 1)) := by rw [hN]; rfl
            have hS2 : ∀ b, nr_ cS yr (k + 1) = some b → gp_ cS yr k = gp_ cS yr b := fun b q => by rw [hN] at q; cases q; rfl
            refine lv_iload hx hb dX0_nearest_43 (lv_at hl 1 rfl) ?_
            refine lv_istore_n (lv' := [(2, .int (nI k)), (6, .long (gp_ cS yr k)), (5, .int (nI k)), (3, .long bg), (0, .ref (ad 0)), (1, .int yr)]) hx hb dX0_nearest_45 rfl hl (by decide) rfl (fun ls hl => ?_)
            refine lv_lload hx hb dX0_nearest_46 (lv_at hl 1 rfl) ?_
            refine lv_lstore_n (lv' := [(3, .long (gp_ cS yr k)), (2, .int (nI k)), (6, .long (gp_ cS yr k)), (5, .int (nI k)), (0, .ref (ad 0)), (1, .int yr)]) hx hb dX0_nearest_48 rfl hl (by decide) rfl (fun ls hl => ?_)
            refine lv_iinc (v := nI (k + 1)) (lv' := [(5, .int (nI (k + 1))), (3, .long (gp_ cS yr k)), (2, .int (nI k)), (6, .long (gp_ cS yr k)), (0, .ref (ad 0)), (1, .int yr)]) hx hb dX0_nearest_49 hl (k := 3) rfl (nI_1 _) (by decide) rfl (fun ls hl => ?_)
            refine lv_goto (tgt := 7) hx hb dX0_nearest_52 (by decide) ?_
            exact ih_7 (nI k) (gp_ cS yr k) (k + 1) (by omega) (hS1) (hS2) (by omega) ls (lv_sub hl [0, 1, 2, 4, 5] rfl)
  exact LP_7 _ (-1) 0 0 (Nat.lt_succ_self _) rfl (fun b q => by cases q) (Nat.zero_le _) ls (lv_sub hl [0, 1, 2, 3, 4] rfl)
set_option maxHeartbeats 4000000 in
set_option maxRecDepth 100000 in
theorem c_X0_fewestBySmaller (l : Launch) (B0 : Nat) (g : va_G) (ct ad : Nat → Nat) (cS mS : St_) (x : Ax_) (y : Nat) (h1 : 0 < y) (h2 : y ≤ 3000) (hrow : ∀ j, j < y → xf x (so cS) j = en_ (fe_ (so cS) j)) : RI l yX0_fewestBySmaller wsX0_fewestBySmaller 1 (PX B0 g ct ad cS mS x [.ref (ad 0), .int (nI y)]) (en_ (fe_ (so cS) y)) := by
  refine Met.ofW (cc := cX0_fewestBySmaller) (maxL := 5) (ret := (some .int)) (by decide) rfl ?_
  intro p e s m args below meth c s₁ B hml hv
  obtain ⟨rfl, hC⟩ := hv
  have hx := B.exec
  have hb := B.bytes
  have hr := B.returns
  have hts := atoms_spec (ws := wsX0_fewestBySmaller) B.pre
  have hown : s.vm.findClass RX0 = some m.cls := findClass_of_methodNamed B.named
  have hlocks := B.notSynchronized
  have hin : ∀ w ∈ wsX00, w ∈ wsX0_fewestBySmaller := fun _ h => List.mem_cons_of_mem _ (List.mem_append_right _ h)
  have hI := hC.1.2.2.2.1
  have ho := hI.1
  have hl := lv_entry ([.ref (ad 0), .int (nI y)]) (n := 5) (Nat.le_of_ble_eq_true rfl)
  rw [lg_entry_eq]
  generalize (lg_sl ([.ref (ad 0), .int (nI y)]) ++ List.replicate (5 - (lg_sl ([.ref (ad 0), .int (nI y)])).length) Slot.unset).toArray = ls at hl ⊢
  have hl : lv_has ls 5 [(0, .ref (ad 0)), (1, .int (nI y))] := hl
  refine lv_iconst (v := -1) hx hb dX0_fewestBySmaller_0 (by decide) ?_
  refine lv_istore_n (lv' := [(2, .int ((-1))), (0, .ref (ad 0)), (1, .int (nI y))]) hx hb dX0_fewestBySmaller_1 rfl hl (by decide) rfl (fun ls hl => ?_)
  refine lv_iconst (v := nI 1) hx hb dX0_fewestBySmaller_2 (by decide) ?_
  refine lv_istore_n (lv' := [(3, .int (nI 1)), (2, .int ((-1))), (0, .ref (ad 0)), (1, .int (nI y))]) hx hb dX0_fewestBySmaller_3 rfl hl (by decide) rfl (fun ls hl => ?_)
  have LP_4 : ∀ (n_ : Nat) (bi : Int32) (k : Nat), 27 - k < n_ → (bi = en_ (bs_ (so cS) (fe_ (so cS)) y (k - 1))) → (1 ≤ k ∧ k ≤ 27) → ∀ ls : Array Slot, lv_has ls 5 [(3, .int (nI k)), (2, .int bi), (0, .ref (ad 0)), (1, .int (nI y))] → W p l e (headSpec wsX0_fewestBySmaller (rm_ 1 0 0)).room s m ([.ref (ad 0), .int (nI y)] : List Value).toArray below meth c s.heap [] 0 0 (MQ below (vp_Si (fun r => r = en_ (fe_ (so cS) y))) ([.ref (ad 0), .int (nI y)] : List Value).toArray s 0 0 (fun _ => False)) (F0 m 4 ls []) := by
    intro n_
    induction n_ with
    | zero => intro bi k hm; exact absurd hm (Nat.not_lt_zero _)
    | succ n_ ih_4 =>
      intro bi k hm hb_ hk ls hl
      refine lv_iload_n hx hb dX0_fewestBySmaller_4 rfl (lv_at hl 0 rfl) ?_
      refine lv_bipush (v := nI 26) hx hb dX0_fewestBySmaller_5 (by decide) ?_
      refine lv_icmp_gt (tgt := 82) hx hb dX0_fewestBySmaller_7 (by decide) (fun c_7 => ?_) (fun c_7 => ?_)
      · skip
        have n_7 : 26 < k := (nI_ltI (a := 26) (b := k) (by omega) (by omega)).mp c_7
        have hE : bi = en_ (fe_ (so cS) y) := by rw [hb_, show k - 1 = 26 by omega, ← fe_s ho h1]
        refine lv_iload_n hx hb dX0_fewestBySmaller_82 rfl (lv_at hl 1 rfl) ?_
        exact W.iret hx hb hr (fun t ht hW => ⟨_, rfl, hE, ht⟩) (fun q hq => absurd hq List.not_mem_nil) dX0_fewestBySmaller_83
      · skip
        have n_7 : ¬ 26 < k := fun q__ => c_7 ((nI_ltI (a := 26) (b := k) (by omega) (by omega)).mpr q__)
        have hv := vl_pos _ ho k (by omega) (by omega)
        have hv2 := vl_le _ ho k (by omega)
        have hb9 := bs_le (so cS) (fe_ (so cS)) y (k - 1)
        refine lv_iload_n hx hb dX0_fewestBySmaller_10 rfl (lv_at hl 3 rfl) ?_
        refine lv_aload_n hx hb dX0_fewestBySmaller_11 rfl (lv_at hl 2 rfl) ?_
        refine lv_iload_n hx hb dX0_fewestBySmaller_12 rfl (lv_at hl 0 rfl) ?_
        refine k_rV (As := [.int (nI k)]) (rest := [.int (nI y)]) (c_X0_worthOfLetter l B0 g ct ad cS mS x k (by omega)) hC ⟨hx, hb, hml, hown, hts⟩ (cwV 1 hts gX0_fewestBySmaller_X0_worthOfLetter rfl rfl rfl (by decide +kernel) ⟨Nat.le_of_ble_eq_true rfl, Nat.le_of_ble_eq_true rfl⟩) (rc0 hC) rfl hl.1 rfl (Nat.le_of_ble_eq_true rfl) dX0_fewestBySmaller_13 ⟨Nat.le_of_ble_eq_true rfl, Nat.le_of_ble_eq_true rfl⟩ ?_
        refine lv_isub hx hb dX0_fewestBySmaller_16 ?_
        refine lv_istore (lv' := [(4, .int ((nI y) - (nI (vl_ (so cS) k)))), (3, .int (nI k)), (2, .int bi), (0, .ref (ad 0)), (1, .int (nI y))]) hx hb dX0_fewestBySmaller_17 hl (by decide) rfl (fun ls hl => ?_)
        refine lv_iload hx hb dX0_fewestBySmaller_19 (lv_at hl 0 rfl) ?_
        refine lv_if_lt (tgt := 76) hx hb dX0_fewestBySmaller_21 (by decide) (fun c_21 => ?_) (fun c_21 => ?_)
        · skip
          have n_21 := (sb_lt (by omega) (by omega)).mp c_21
          have hN : bs_ (so cS) (fe_ (so cS)) y k = bs_ (so cS) (fe_ (so cS)) y (k - 1) := bs_0 (by omega) (by omega)
          refine lv_iinc (v := nI (k + 1)) (lv' := [(3, .int (nI (k + 1))), (4, .int ((nI y) - (nI (vl_ (so cS) k)))), (2, .int bi), (0, .ref (ad 0)), (1, .int (nI y))]) hx hb dX0_fewestBySmaller_76 hl (k := 1) rfl (nI_1 _) (by decide) rfl (fun ls hl => ?_)
          refine lv_goto (tgt := 4) hx hb dX0_fewestBySmaller_79 (by decide) ?_
          exact ih_4 bi (k + 1) (by omega) (by first | (rw [Nat.add_sub_cancel, hN]; exact hb_) | (rw [Nat.add_sub_cancel]; exact hN2)) (by omega) ls (lv_sub hl [0, 2, 3, 4] rfl)
        · skip
          have n_21 : ¬ y < vl_ (so cS) k := fun q => c_21 ((sb_lt (by omega) (by omega)).mpr q)
          have hg9 := fe_le (so cS) (y - vl_ (so cS) k) ho
          have hgy := fe_y (o := so cS) (y := y - vl_ (so cS) k) ho
          have hl : lv_has ls 5 [(4, .int (nI (y - vl_ (so cS) k))), (3, .int (nI k)), (2, .int bi), (0, .ref (ad 0)), (1, .int (nI y))] := (by rw [pk_sub (show vl_ (so cS) k ≤ y by omega)] at hl; exact hl)
          refine lv_aload_n hx hb dX0_fewestBySmaller_24 rfl (lv_at hl 3 rfl) ?_
          refine r_g0 hC hx hb hts hin hown 6 (by decide) (hts (.fieldLink RX0 31 "AbjadPoems" "fewest" "[[I") (by decide +kernel)) rfl dX0_fewestBySmaller_25 ?_
          refine lv_aload_n hx hb dX0_fewestBySmaller_28 rfl (lv_at hl 3 rfl) ?_
          refine r_g0 hC hx hb hts hin hown 0 (by decide) (hts (.fieldLink RX0 9 "AbjadPoems" "order" "I") (by decide +kernel)) rfl dX0_fewestBySmaller_29 ?_
          refine r_fo hC hx hb dX0_fewestBySmaller_32 (j := so cS) (by omega) ?_
          refine lv_iload hx hb dX0_fewestBySmaller_33 (lv_at hl 0 rfl) ?_
          refine r_fr hC hx hb dX0_fewestBySmaller_35 (i := (so cS)) (j := y - vl_ (so cS) k) (by omega) (by omega) ?_
          refine lv_tn (w := en_ (fe_ (so cS) (y - vl_ (so cS) k))) (hrow _ (by omega)) ?_
          refine lv_if_lt (tgt := 76) hx hb dX0_fewestBySmaller_36 (by decide) (fun c_36 => ?_) (fun c_36 => ?_)
          · skip
            have n_36 := (en_neg hg9).mp c_36
            have hN : bs_ (so cS) (fe_ (so cS)) y k = bs_ (so cS) (fe_ (so cS)) y (k - 1) := bs_1 (by omega) (by omega) (by omega)
            refine lv_iinc (v := nI (k + 1)) (lv' := [(3, .int (nI (k + 1))), (4, .int (nI (y - vl_ (so cS) k))), (2, .int bi), (0, .ref (ad 0)), (1, .int (nI y))]) hx hb dX0_fewestBySmaller_76 hl (k := 1) rfl (nI_1 _) (by decide) rfl (fun ls hl => ?_)
            refine lv_goto (tgt := 4) hx hb dX0_fewestBySmaller_79 (by decide) ?_
            exact ih_4 bi (k + 1) (by omega) (by first | (rw [Nat.add_sub_cancel, hN]; exact hb_) | (rw [Nat.add_sub_cancel]; exact hN2)) (by omega) ls (lv_sub hl [0, 2, 3, 4] rfl)
          · skip
            have n_36 : fe_ (so cS) (y - vl_ (so cS) k) < 9999 := Decidable.of_not_not (fun q => c_36 ((en_neg hg9).mpr q))
            have hgy2 := hgy n_36
            refine lv_iload_n hx hb dX0_fewestBySmaller_39 rfl (lv_at hl 2 rfl) ?_
            refine lv_if_lt (tgt := 61) hx hb dX0_fewestBySmaller_40 (by decide) (fun c_40 => ?_) (fun c_40 => ?_)
            · skip
              have n_40 : ¬ bs_ (so cS) (fe_ (so cS)) y (k - 1) < 9999 := (en_neg hb9).mp (by rw [← hb_]; exact c_40)
              have hN2 : en_ (fe_ (so cS) (y - vl_ (so cS) k)) + nI 1 = en_ (bs_ (so cS) (fe_ (so cS)) y k) := by rw [bs_2 (by omega) (by omega) (by omega), en_t n_36, en_t (by omega), nI_add]
              refine lv_aload_n hx hb dX0_fewestBySmaller_61 rfl (lv_at hl 3 rfl) ?_
              refine r_g0 hC hx hb hts hin hown 6 (by decide) (hts (.fieldLink RX0 31 "AbjadPoems" "fewest" "[[I") (by decide +kernel)) rfl dX0_fewestBySmaller_62 ?_
              refine lv_aload_n hx hb dX0_fewestBySmaller_65 rfl (lv_at hl 3 rfl) ?_
              refine r_g0 hC hx hb hts hin hown 0 (by decide) (hts (.fieldLink RX0 9 "AbjadPoems" "order" "I") (by decide +kernel)) rfl dX0_fewestBySmaller_66 ?_
              refine r_fo hC hx hb dX0_fewestBySmaller_69 (j := so cS) (by omega) ?_
              refine lv_iload hx hb dX0_fewestBySmaller_70 (lv_at hl 0 rfl) ?_
              refine r_fr hC hx hb dX0_fewestBySmaller_72 (i := (so cS)) (j := y - vl_ (so cS) k) (by omega) (by omega) ?_
              refine lv_tn (w := en_ (fe_ (so cS) (y - vl_ (so cS) k))) (hrow _ (by omega)) ?_
              refine lv_iconst (v := nI 1) hx hb dX0_fewestBySmaller_73 (by decide) ?_
              refine lv_iadd hx hb dX0_fewestBySmaller_74 ?_
              refine lv_istore_n (lv' := [(2, .int ((en_ (fe_ (so cS) (y - vl_ (so cS) k))) + (nI 1))), (4, .int (nI (y - vl_ (so cS) k))), (3, .int (nI k)), (0, .ref (ad 0)), (1, .int (nI y))]) hx hb dX0_fewestBySmaller_75 rfl hl (by decide) rfl (fun ls hl => ?_)
              refine lv_iinc (v := nI (k + 1)) (lv' := [(3, .int (nI (k + 1))), (2, .int ((en_ (fe_ (so cS) (y - vl_ (so cS) k))) + (nI 1))), (4, .int (nI (y - vl_ (so cS) k))), (0, .ref (ad 0)), (1, .int (nI y))]) hx hb dX0_fewestBySmaller_76 hl (k := 2) rfl (nI_1 _) (by decide) rfl (fun ls hl => ?_)
              refine lv_goto (tgt := 4) hx hb dX0_fewestBySmaller_79 (by decide) ?_
              exact ih_4 ((en_ (fe_ (so cS) (y - vl_ (so cS) k))) + (nI 1)) (k + 1) (by omega) (by first | (rw [Nat.add_sub_cancel, hN]; exact hb_) | (rw [Nat.add_sub_cancel]; exact hN2)) (by omega) ls (lv_sub hl [0, 1, 3, 4] rfl)
            · skip
              have n_40 : bs_ (so cS) (fe_ (so cS)) y (k - 1) < 9999 := Decidable.of_not_not (fun q => c_40 (by rw [hb_]; exact (en_neg hb9).mpr q))
              refine lv_aload_n hx hb dX0_fewestBySmaller_43 rfl (lv_at hl 3 rfl) ?_
              refine r_g0 hC hx hb hts hin hown 6 (by decide) (hts (.fieldLink RX0 31 "AbjadPoems" "fewest" "[[I") (by decide +kernel)) rfl dX0_fewestBySmaller_44 ?_
              refine lv_aload_n hx hb dX0_fewestBySmaller_47 rfl (lv_at hl 3 rfl) ?_
              refine r_g0 hC hx hb hts hin hown 0 (by decide) (hts (.fieldLink RX0 9 "AbjadPoems" "order" "I") (by decide +kernel)) rfl dX0_fewestBySmaller_48 ?_
              refine r_fo hC hx hb dX0_fewestBySmaller_51 (j := so cS) (by omega) ?_
              refine lv_iload hx hb dX0_fewestBySmaller_52 (lv_at hl 0 rfl) ?_
              refine r_fr hC hx hb dX0_fewestBySmaller_54 (i := (so cS)) (j := y - vl_ (so cS) k) (by omega) (by omega) ?_
              refine lv_tn (w := en_ (fe_ (so cS) (y - vl_ (so cS) k))) (hrow _ (by omega)) ?_
              refine lv_iconst (v := nI 1) hx hb dX0_fewestBySmaller_55 (by decide) ?_
              refine lv_iadd hx hb dX0_fewestBySmaller_56 ?_
              refine lv_iload_n hx hb dX0_fewestBySmaller_57 rfl (lv_at hl 2 rfl) ?_
              refine lv_icmp_ge (tgt := 76) hx hb dX0_fewestBySmaller_58 (by decide) (fun c_58 => ?_) (fun c_58 => ?_)
              · skip
                have n_58 : bs_ (so cS) (fe_ (so cS)) y (k - 1) ≤ fe_ (so cS) (y - vl_ (so cS) k) + 1 := by
                  rw [hb_, en_t n_40, en_t n_36, nI_add, nI_leI (by omega) (by omega)] at c_58
                  exact c_58
                have hN : bs_ (so cS) (fe_ (so cS)) y k = bs_ (so cS) (fe_ (so cS)) y (k - 1) := bs_1 (by omega) (by omega) n_58
                refine lv_iinc (v := nI (k + 1)) (lv' := [(3, .int (nI (k + 1))), (4, .int (nI (y - vl_ (so cS) k))), (2, .int bi), (0, .ref (ad 0)), (1, .int (nI y))]) hx hb dX0_fewestBySmaller_76 hl (k := 1) rfl (nI_1 _) (by decide) rfl (fun ls hl => ?_)
                refine lv_goto (tgt := 4) hx hb dX0_fewestBySmaller_79 (by decide) ?_
                exact ih_4 bi (k + 1) (by omega) (by first | (rw [Nat.add_sub_cancel, hN]; exact hb_) | (rw [Nat.add_sub_cancel]; exact hN2)) (by omega) ls (lv_sub hl [0, 2, 3, 4] rfl)
              · skip
                have n_58 : ¬ bs_ (so cS) (fe_ (so cS)) y (k - 1) ≤ fe_ (so cS) (y - vl_ (so cS) k) + 1 := fun q => c_58 (by rw [hb_, en_t n_40, en_t n_36, nI_add, nI_leI (by omega) (by omega)]; exact q)
                have hN2 : en_ (fe_ (so cS) (y - vl_ (so cS) k)) + nI 1 = en_ (bs_ (so cS) (fe_ (so cS)) y k) := by rw [bs_2 (by omega) (by omega) n_58, en_t n_36, en_t (by omega), nI_add]
                refine lv_aload_n hx hb dX0_fewestBySmaller_61 rfl (lv_at hl 3 rfl) ?_
                refine r_g0 hC hx hb hts hin hown 6 (by decide) (hts (.fieldLink RX0 31 "AbjadPoems" "fewest" "[[I") (by decide +kernel)) rfl dX0_fewestBySmaller_62 ?_
                refine lv_aload_n hx hb dX0_fewestBySmaller_65 rfl (lv_at hl 3 rfl) ?_
                refine r_g0 hC hx hb hts hin hown 0 (by decide) (hts (.fieldLink RX0 9 "AbjadPoems" "order" "I") (by decide +kernel)) rfl dX0_fewestBySmaller_66 ?_
                refine r_fo hC hx hb dX0_fewestBySmaller_69 (j := so cS) (by omega) ?_
                refine lv_iload hx hb dX0_fewestBySmaller_70 (lv_at hl 0 rfl) ?_
                refine r_fr hC hx hb dX0_fewestBySmaller_72 (i := (so cS)) (j := y - vl_ (so cS) k) (by omega) (by omega) ?_
                refine lv_tn (w := en_ (fe_ (so cS) (y - vl_ (so cS) k))) (hrow _ (by omega)) ?_
                refine lv_iconst (v := nI 1) hx hb dX0_fewestBySmaller_73 (by decide) ?_
                refine lv_iadd hx hb dX0_fewestBySmaller_74 ?_
                refine lv_istore_n (lv' := [(2, .int ((en_ (fe_ (so cS) (y - vl_ (so cS) k))) + (nI 1))), (4, .int (nI (y - vl_ (so cS) k))), (3, .int (nI k)), (0, .ref (ad 0)), (1, .int (nI y))]) hx hb dX0_fewestBySmaller_75 rfl hl (by decide) rfl (fun ls hl => ?_)
                refine lv_iinc (v := nI (k + 1)) (lv' := [(3, .int (nI (k + 1))), (2, .int ((en_ (fe_ (so cS) (y - vl_ (so cS) k))) + (nI 1))), (4, .int (nI (y - vl_ (so cS) k))), (0, .ref (ad 0)), (1, .int (nI y))]) hx hb dX0_fewestBySmaller_76 hl (k := 2) rfl (nI_1 _) (by decide) rfl (fun ls hl => ?_)
                refine lv_goto (tgt := 4) hx hb dX0_fewestBySmaller_79 (by decide) ?_
                exact ih_4 ((en_ (fe_ (so cS) (y - vl_ (so cS) k))) + (nI 1)) (k + 1) (by omega) (by first | (rw [Nat.add_sub_cancel, hN]; exact hb_) | (rw [Nat.add_sub_cancel]; exact hN2)) (by omega) ls (lv_sub hl [0, 1, 3, 4] rfl)
  exact LP_4 _ (-1) 1 (Nat.lt_succ_self _) rfl (by omega) ls (lv_sub hl [0, 1, 2, 3] rfl)
set_option maxHeartbeats 4000000 in
set_option maxRecDepth 100000 in
theorem c_X0_greatestFirst (l : Launch) (B0 : Nat) (g : va_G) (ct ad : Nat → Nat) (cS mS : St_) (x : Ax_) (y : Nat) (h2 : y ≤ 3000) (h3 : 0 < fe_ (so cS) y) (h4 : fe_ (so cS) y < 9999) (hrow : ∀ j, j ≤ 3000 → xf x (so cS) j = en_ (fe_ (so cS) j)) : RI l yX0_greatestFirst wsX0_greatestFirst 1 (PX B0 g ct ad cS mS x [.ref (ad 0), .int (nI y)]) (nI (gf_ (so cS) y)) := by
  refine Met.ofW (cc := cX0_greatestFirst) (maxL := 4) (ret := (some .int)) (by decide) rfl ?_
  intro p e s m args below meth c s₁ B hml hv
  obtain ⟨rfl, hC⟩ := hv
  have hx := B.exec
  have hb := B.bytes
  have hr := B.returns
  have hts := atoms_spec (ws := wsX0_greatestFirst) B.pre
  have hown : s.vm.findClass RX0 = some m.cls := findClass_of_methodNamed B.named
  have hlocks := B.notSynchronized
  have hin : ∀ w ∈ wsX00, w ∈ wsX0_greatestFirst := fun _ h => List.mem_cons_of_mem _ (List.mem_append_right _ h)
  have hI := hC.1.2.2.2.1
  have ho := hI.1
  have hl := lv_entry ([.ref (ad 0), .int (nI y)]) (n := 4) (Nat.le_of_ble_eq_true rfl)
  rw [lg_entry_eq]
  generalize (lg_sl ([.ref (ad 0), .int (nI y)]) ++ List.replicate (4 - (lg_sl ([.ref (ad 0), .int (nI y)])).length) Slot.unset).toArray = ls at hl ⊢
  have hl : lv_has ls 4 [(0, .ref (ad 0)), (1, .int (nI y))] := hl
  refine lv_bipush (v := nI 26) hx hb dX0_greatestFirst_0 (by decide) ?_
  refine lv_istore_n (lv' := [(2, .int (nI 26)), (0, .ref (ad 0)), (1, .int (nI y))]) hx hb dX0_greatestFirst_2 rfl hl (by decide) rfl (fun ls hl => ?_)
  have LP_3 : ∀ (n_ : Nat) (k : Nat), k < n_ → (gs_ (so cS) y k = gf_ (so cS) y) → (k ≤ 26) → ∀ ls : Array Slot, lv_has ls 4 [(2, .int (nI k)), (0, .ref (ad 0)), (1, .int (nI y))] → W p l e (headSpec wsX0_greatestFirst (rm_ 1 0 0)).room s m ([.ref (ad 0), .int (nI y)] : List Value).toArray below meth c s.heap [] 0 0 (MQ below (vp_Si (fun r => r = nI (gf_ (so cS) y))) ([.ref (ad 0), .int (nI y)] : List Value).toArray s 0 0 (fun _ => False)) (F0 m 3 ls []) := by
    intro n_
    induction n_ with
    | zero => intro k hm; exact absurd hm (Nat.not_lt_zero _)
    | succ n_ ih_3 =>
      intro k hm h1 hk ls hl
      refine lv_iload_n hx hb dX0_greatestFirst_3 rfl (lv_at hl 0 rfl) ?_
      refine lv_iconst (v := nI 1) hx hb dX0_greatestFirst_4 (by decide) ?_
      refine lv_icmp_lt (tgt := 55) hx hb dX0_greatestFirst_5 (by decide) (fun c_5 => ?_) (fun c_5 => ?_)
      · skip
        have n_5 : k < 1 := (nI_ltI (a := k) (b := 1) (by omega) (by omega)).mp c_5
        have hE : gf_ (so cS) y = 0 := by rw [← h1, show k = 0 by omega]; rfl
        refine lv_iconst (v := nI 0) hx hb dX0_greatestFirst_55 (by decide) ?_
        exact W.iret hx hb hr (fun t ht hW => ⟨_, rfl, (by show nI 0 = nI (gf_ (so cS) y); rw [hE]), ht⟩) (fun q hq => absurd hq List.not_mem_nil) dX0_greatestFirst_56
      · skip
        have n_5 : ¬ k < 1 := fun q__ => c_5 ((nI_ltI (a := k) (b := 1) (by omega) (by omega)).mpr q__)
        have hv := vl_pos _ ho k (by omega) (by omega)
        have hv2 := vl_le _ ho k (by omega)
        refine lv_iload_n hx hb dX0_greatestFirst_8 rfl (lv_at hl 2 rfl) ?_
        refine lv_aload_n hx hb dX0_greatestFirst_9 rfl (lv_at hl 1 rfl) ?_
        refine lv_iload_n hx hb dX0_greatestFirst_10 rfl (lv_at hl 0 rfl) ?_
        refine k_rV (As := [.int (nI k)]) (rest := [.int (nI y)]) (c_X0_worthOfLetter l B0 g ct ad cS mS x k (by omega)) hC ⟨hx, hb, hml, hown, hts⟩ (cwV 1 hts gX0_greatestFirst_X0_worthOfLetter rfl rfl rfl (by decide +kernel) ⟨Nat.le_of_ble_eq_true rfl, Nat.le_of_ble_eq_true rfl⟩) (rc0 hC) rfl hl.1 rfl (Nat.le_of_ble_eq_true rfl) dX0_greatestFirst_11 ⟨Nat.le_of_ble_eq_true rfl, Nat.le_of_ble_eq_true rfl⟩ ?_
        refine lv_isub hx hb dX0_greatestFirst_14 ?_
        refine lv_istore_n (lv' := [(3, .int ((nI y) - (nI (vl_ (so cS) k)))), (2, .int (nI k)), (0, .ref (ad 0)), (1, .int (nI y))]) hx hb dX0_greatestFirst_15 rfl hl (by decide) rfl (fun ls hl => ?_)
        refine lv_iload_n hx hb dX0_greatestFirst_16 rfl (lv_at hl 0 rfl) ?_
        refine lv_if_lt (tgt := 49) hx hb dX0_greatestFirst_17 (by decide) (fun c_17 => ?_) (fun c_17 => ?_)
        · skip
          have n_17 := (sb_lt (by omega) (by omega)).mp c_17
          have hN : ¬ (vl_ (so cS) k ≤ y ∧ fe_ (so cS) (y - vl_ (so cS) k) + 1 = fe_ (so cS) y) := fun q => absurd q.1 (by omega)
          refine lv_iinc (v := nI (k - 1)) (lv' := [(2, .int (nI (k - 1))), (3, .int ((nI y) - (nI (vl_ (so cS) k)))), (0, .ref (ad 0)), (1, .int (nI y))]) hx hb dX0_greatestFirst_49 hl (k := 1) rfl (im2_ (by omega)) (by decide) rfl (fun ls hl => ?_)
          refine lv_goto (tgt := 3) hx hb dX0_greatestFirst_52 (by decide) ?_
          exact ih_3 (k - 1) (by omega) (by rw [← h1, gs_f (show 0 < k by omega) hN]) (by omega) ls (lv_sub hl [0, 2, 3] rfl)
        · skip
          have n_17 : ¬ y < vl_ (so cS) k := fun q => c_17 ((sb_lt (by omega) (by omega)).mpr q)
          have hl : lv_has ls 4 [(3, .int (nI (y - vl_ (so cS) k))), (2, .int (nI k)), (0, .ref (ad 0)), (1, .int (nI y))] := (by rw [pk_sub (show vl_ (so cS) k ≤ y by omega)] at hl; exact hl)
          refine lv_aload_n hx hb dX0_greatestFirst_20 rfl (lv_at hl 2 rfl) ?_
          refine r_g0 hC hx hb hts hin hown 6 (by decide) (hts (.fieldLink RX0 31 "AbjadPoems" "fewest" "[[I") (by decide +kernel)) rfl dX0_greatestFirst_21 ?_
          refine lv_aload_n hx hb dX0_greatestFirst_24 rfl (lv_at hl 2 rfl) ?_
          refine r_g0 hC hx hb hts hin hown 0 (by decide) (hts (.fieldLink RX0 9 "AbjadPoems" "order" "I") (by decide +kernel)) rfl dX0_greatestFirst_25 ?_
          refine r_fo hC hx hb dX0_greatestFirst_28 (j := so cS) (by omega) ?_
          refine lv_iload_n hx hb dX0_greatestFirst_29 rfl (lv_at hl 0 rfl) ?_
          refine r_fr hC hx hb dX0_greatestFirst_30 (i := (so cS)) (j := y - vl_ (so cS) k) (by omega) (by omega) ?_
          refine lv_tn (w := en_ (fe_ (so cS) (y - vl_ (so cS) k))) (hrow _ (by omega)) ?_
          refine lv_aload_n hx hb dX0_greatestFirst_31 rfl (lv_at hl 2 rfl) ?_
          refine r_g0 hC hx hb hts hin hown 6 (by decide) (hts (.fieldLink RX0 31 "AbjadPoems" "fewest" "[[I") (by decide +kernel)) rfl dX0_greatestFirst_32 ?_
          refine lv_aload_n hx hb dX0_greatestFirst_35 rfl (lv_at hl 2 rfl) ?_
          refine r_g0 hC hx hb hts hin hown 0 (by decide) (hts (.fieldLink RX0 9 "AbjadPoems" "order" "I") (by decide +kernel)) rfl dX0_greatestFirst_36 ?_
          refine r_fo hC hx hb dX0_greatestFirst_39 (j := so cS) (by omega) ?_
          refine lv_iload_n hx hb dX0_greatestFirst_40 rfl (lv_at hl 3 rfl) ?_
          refine r_fr hC hx hb dX0_greatestFirst_41 (i := (so cS)) (j := y) (by omega) (by omega) ?_
          refine lv_tn (w := en_ (fe_ (so cS) y)) (hrow _ (by omega)) ?_
          refine lv_iconst (v := nI 1) hx hb dX0_greatestFirst_42 (by decide) ?_
          refine lv_isub hx hb dX0_greatestFirst_43 ?_
          refine lv_icmp_ne (tgt := 49) hx hb dX0_greatestFirst_44 (by decide) (fun c_44 => ?_) (fun c_44 => ?_)
          · skip
            have hN : ¬ (vl_ (so cS) k ≤ y ∧ fe_ (so cS) (y - vl_ (so cS) k) + 1 = fe_ (so cS) y) := fun q => c_44 ((en_eq h3 h4).mpr q.2)
            refine lv_iinc (v := nI (k - 1)) (lv' := [(2, .int (nI (k - 1))), (3, .int (nI (y - vl_ (so cS) k))), (0, .ref (ad 0)), (1, .int (nI y))]) hx hb dX0_greatestFirst_49 hl (k := 1) rfl (im2_ (by omega)) (by decide) rfl (fun ls hl => ?_)
            refine lv_goto (tgt := 3) hx hb dX0_greatestFirst_52 (by decide) ?_
            exact ih_3 (k - 1) (by omega) (by rw [← h1, gs_f (show 0 < k by omega) hN]) (by omega) ls (lv_sub hl [0, 2, 3] rfl)
          · skip
            have hE : gf_ (so cS) y = k := by rw [← h1, gs_t (show 0 < k by omega) ⟨by omega, (en_eq h3 h4).mp c_44⟩]
            refine lv_iload_n hx hb dX0_greatestFirst_47 rfl (lv_at hl 1 rfl) ?_
            exact W.iret hx hb hr (fun t ht hW => ⟨_, rfl, (by show nI k = nI (gf_ (so cS) y); rw [hE]), ht⟩) (fun q hq => absurd hq List.not_mem_nil) dX0_greatestFirst_48
  exact LP_3 _ 26 (Nat.lt_succ_self _) rfl (by omega) ls (lv_sub hl [0, 1, 2] rfl)
end
section
theorem zz_last : True := trivial
end
