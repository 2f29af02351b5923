/-! ===== the two constructors ===== -/
def eI_ (c n : Nat) : va_E := .inl (c, n, .inl (fun _ => 0))
def eQ_ (c n : Nat) (r : Nat → Nat) : va_E := .inl (c, n, .inr (.inr (.inr (.inr (fun i => if i < n then some (r i) else none)))))
def rw_s (n : Nat) (r : Nat → Nat) (c k : Nat) : va_W := (List.range n).map (fun i => (r i, eI_ c k))
section RW7
variable {p : Program} {l : Launch} {e : Env} {R : Room} {s : State} {m : MethodId} {args : Array Value} {below : List Frame} {meth : Method} {c : Code} {H : Heap} {locs : List Loc} {cells slots : Nat} {Q : State → Prop}
variable {cc : ByteArray} {pc : Nat} {ls : Array Slot} {rest : List Value} {g : va_G} {A : Nat → Prop} {tys : List (ClassId × FieldType)} {H0 : Heap}
theorem n_mna {X : va_W} {own : String} {index : Nat} {cy : ClassId} (hexec : p.tables.exec = Jvm.exec) (hb : c.code = cc) (hown : s.vm.findClass own = some m.cls) (hclink : (Cond.classLink own index "[[I").before args s = true) (hover : va_AOA .int s) (harr : (Cond.arrayClass .int).before args s = true) (t0 : Nat) (hcy : tys[t0]? = some (cy, .int))
    (hK : va_K g vwCl tys s) (hP : va_P g vwCl X H) (hD : va_D A X) (hS : va_S A H0 H locs) (hA : ∀ q, H0.size ≤ q → A q) {N' K' : Nat} (hN : N' ≤ 12) (hK' : K' ≤ 3001) (hcells : cells + (1 + N') ≤ R.cells) (hslots : slots + (N' + N' * K') ≤ R.slots) (hdg : decode cc pc = .ok (.multianewarray index 2, 4))
    (kk : ∀ (q : Nat) (r : Nat → Nat) (cA : ClassId) (H1 : Heap), va_K g vwCl (tys ++ [(cA, .array .int)]) s → va_P g vwCl ((X ++ [(q, eQ_ cA N' r)]) ++ rw_s N' r cy K') H1 → va_D A ((X ++ [(q, eQ_ cA N' r)]) ++ rw_s N' r cy K') → va_S A H0 H1 locs → W p l e R s m args below meth c H1 locs (cells + 1 + N') (slots + N' + N' * K') Q (F0 m (pc + 4) ls (.ref q :: rest))) : W p l e R s m args below meth c H locs cells slots Q (F0 m pc ls (.int (nI K') :: .int (nI N') :: rest)) := by
  have hcy2 : s.vm.findClass (FieldType.array .int).toString = some cy := (hK.2 t0 _ hcy).2
  have hcl2 : (Cond.classLink own index ("[" ++ (FieldType.array .int).toString)).before args s = true := by
    have e1 : "[" ++ (FieldType.array FieldType.int).toString = "[[I" := by decide +kernel
    rw [e1]; exact hclink
  refine va_mna (X := X) (L := []) (f := fun _ => eI_ cy K') (N' := N') (K' := K') (z := (K', .inl (fun _ => 0))) hexec hb hown hcl2 hover harr hcy2 hK (by rw [show X ++ va_pl [] (fun _ => eI_ cy K') = X from List.append_nil X]; exact hP) (by rw [show X ++ va_pl [] (fun _ => eI_ cy K') = X from List.append_nil X]; exact hD) hS hA (nI_pos (by omega)) (nI_pos (by omega)) (nI_clamp (by omega)) (nI_clamp (by omega)) (by omega) (by show K' * 4 ≤ _; omega) (by omega) rfl rfl hcells hslots (fun c => by rw [vp_cell_i]; exact arrV_new _ _ _) hdg (fun q r cA H1 h1 h2 hK1 hP1 hD1 hS1 => ?_)
  have e2 : va_pl ([] ++ (List.range N').map r) (vr_up (fun _ => eI_ cy K') ((List.range N').map r) (eI_ cy K')) = rw_s N' r cy K' := by
    rw [← vr_rows (L := []) (fun a _ h => by cases h)]
    show [] ++ ((List.range N').map r).map (fun a => (a, eI_ cy K')) = _
    rw [List.nil_append, List.map_map]
    rfl
  have hP2 : va_P g vwCl ((X ++ [(q, eQ_ cA N' r)]) ++ rw_s N' r cy K') H1 := by rw [← e2]; exact hP1
  have hD2 : va_D A ((X ++ [(q, eQ_ cA N' r)]) ++ rw_s N' r cy K') := by rw [← e2]; exact hD1
  exact kk q r cA H1 hK1 hP2 hD2 hS1
end RW7
/-- what the class's constructor has made, behind its object -/
def OT_ (q : Nat → Nat) (r : Nat → Nat → Nat) (ct : Nat → Nat) : va_W := (((((((((([] : va_W) ++ [(q 1, eI_ (ct 0) 12)]) ++ [(q 2, eQ_ (ct 1) 12 (r 0))]) ++ rw_s 12 (r 0) (ct 0) 10) ++ [(q 3, eQ_ (ct 1) 12 (r 1))]) ++ rw_s 12 (r 1) (ct 0) 10) ++ [(q 4, eI_ (ct 0) 120)]) ++ [(q 5, eQ_ (ct 1) 3 (r 2))]) ++ rw_s 3 (r 2) (ct 0) 3001) ++ [(q 6, eI_ (ct 2) 3)])
def MT_ (q : Nat → Nat) (ct : Nat → Nat) : va_W := ((([] : va_W) ++ [(q 1, eI_ (ct 0) 12)]) ++ [(q 2, eI_ (ct 0) 120)]) ++ [(q 3, eI_ (ct 1) 720)]
set_option maxHeartbeats 4000000 in
set_option maxRecDepth 100000 in
theorem c_X0_init (l : Launch) (B0 : Nat) (g : va_G) (h0 : Nat) : Met l yX0_init wsX0_init (rm_ 1 33 9405) (va_Pc [.ref h0] (fun U => va_P g vwCl [(h0, .inr (0, [.int 0, .int 0, .null, .null, .null, .null, .null, .null]))] U.heap ∧ va_K g vwCl [] U ∧ va_D (AA B0) [(h0, .inr (0, [.int 0, .int 0, .null, .null, .null, .null, .null, .null]))] ∧ B0 ≤ U.heap.size ∧ va_AOA .int U)) (va_Qv (fun (_ : (Nat → Nat) × (Nat → Nat → Nat) × (Nat → Nat)) => True) (fun u t => va_P g vwCl ((h0, .inr (0, [.int 0, .int 0, .ref (u.1 1), .ref (u.1 2), .ref (u.1 3), .ref (u.1 4), .ref (u.1 5), .ref (u.1 6)])) :: OT_ u.1 u.2.1 u.2.2) t.heap ∧ va_D (AA B0) ((h0, .inr (0, [.int 0, .int 0, .ref (u.1 1), .ref (u.1 2), .ref (u.1 3), .ref (u.1 4), .ref (u.1 5), .ref (u.1 6)])) :: OT_ u.1 u.2.1 u.2.2) ∧ va_K g vwCl [(u.2.2 0, .int), (u.2.2 1, .array .int), (u.2.2 2, .boolean)] t) (AA B0)) 33 9405 (AA B0) := by
  refine Met.ofW (cc := cX0_init) (maxL := 1) (ret := none) (by decide) rfl ?_
  intro p e s m args below meth c s₁ B hml hv
  obtain ⟨rfl, hP, hK, hD, hBs, hAO⟩ := hv
  have hx := B.exec
  have hb := B.bytes
  have hr := B.returns
  have hts := atoms_spec (ws := wsX0_init) B.pre
  have hown : s.vm.findClass RX0 = some m.cls := findClass_of_methodNamed B.named
  have hlocks := B.notSynchronized
  have hin2 : meth.name = "<init>" := (name_of_methodNamed B.named B.method).1
  have hin : ∀ w ∈ wsX00, w ∈ wsX0_init := fun _ h => List.mem_cons_of_mem _ (List.mem_append_right _ h)
  have hS : va_S (AA B0) s.heap s.heap [] := va_S.rf
  have hA : ∀ q : Nat, s.heap.size ≤ q → AA B0 q := fun q h => Nat.le_trans hBs h
  have hl := lv_entry ([.ref h0]) (n := 1) (Nat.le_of_ble_eq_true rfl)
  rw [lg_entry_eq]
  generalize (lg_sl ([.ref h0]) ++ List.replicate (1 - (lg_sl ([.ref h0])).length) Slot.unset).toArray = ls at hl ⊢
  have hl : lv_has ls 1 [(0, .ref h0)] := hl
  refine lv_aload_n hx hb dX0_init_0 rfl (lv_at hl 0 rfl) ?_
  refine W.objInit hx hb hown (hts (.methodLink RX0 1 objectInit) (by decide +kernel)) (hts (.instanceMethod objectInit) (by decide +kernel)) (hts (.code objectInit ⟨#[0xb1]⟩ 1 none) (by decide +kernel)) rfl (by rw [hml]; exact hl.1) rfl dX0_init_1 (Nat.le_of_ble_eq_true rfl) (Nat.le_of_ble_eq_true rfl) ?_
  refine W.eq (g2 := F0 m 4 ls []) rfl ?_
  refine lv_aload_n hx hb dX0_init_4 rfl (lv_at hl 0 rfl) ?_
  refine lv_iconst (v := 0) hx hb dX0_init_5 (by decide) ?_
  refine va_put (D := g) (ci := 0) (v := .int 0) (ty := .int) (C := RX0) (T := TX0) (N := 8) hx hb hts hin tyX0 tyX0_ok nmX0 hown hK hP hD hS 0 rfl rfl 0 (by decide) (hts (.fieldLink RX0 9 "AbjadPoems" "order" "I") (by decide +kernel)) (fun _ h9 => h9) rfl (by decide +kernel) rfl rfl (Nat.le_of_ble_eq_true rfl) dX0_init_6 (fun H locs hP hD hS => ?_)
  have hP : va_P g vwCl ((h0, .inr (0, [.int 0, .int 0, .null, .null, .null, .null, .null, .null])) :: ([] : va_W)) H := hP
  have hD : va_D (AA B0) ((h0, .inr (0, [.int 0, .int 0, .null, .null, .null, .null, .null, .null])) :: ([] : va_W)) := hD
  refine lv_aload_n hx hb dX0_init_9 rfl (lv_at hl 0 rfl) ?_
  refine lv_iconst (v := 0) hx hb dX0_init_10 (by decide) ?_
  refine va_put (D := g) (ci := 0) (v := .int 0) (ty := .int) (C := RX0) (T := TX0) (N := 8) hx hb hts hin tyX0 tyX0_ok nmX0 hown hK hP hD hS 0 rfl rfl 1 (by decide) (hts (.fieldLink RX0 13 "AbjadPoems" "lines" "I") (by decide +kernel)) (fun _ h9 => h9) rfl (by decide +kernel) rfl rfl (Nat.le_of_ble_eq_true rfl) dX0_init_11 (fun H locs hP hD hS => ?_)
  have hP : va_P g vwCl ((h0, .inr (0, [.int 0, .int 0, .null, .null, .null, .null, .null, .null])) :: ([] : va_W)) H := hP
  have hD : va_D (AA B0) ((h0, .inr (0, [.int 0, .int 0, .null, .null, .null, .null, .null, .null])) :: ([] : va_W)) := hD
  refine lv_aload_n hx hb dX0_init_14 rfl (lv_at hl 0 rfl) ?_
  refine lv_bipush (v := nI 12) hx hb dX0_init_15 (by decide) ?_
  refine va_newa (atype := .int) (ty := .int) (N' := 12) (a0 := (12, .inl (fun _ => 0))) hx hb (hts (.arrayClass .int) (by decide +kernel)) rfl hK hP hD hS hA (fun cA => rfl) (nI_pos (by omega)) (nI_clamp (by omega)) (by decide) (Nat.le_of_ble_eq_true rfl) (Nat.le_of_ble_eq_true rfl) dX0_init_17 (fun q1 c1 H hK hP hD hS => ?_)
  have hP : va_P g vwCl ((h0, .inr (0, [.int 0, .int 0, .null, .null, .null, .null, .null, .null])) :: (([] : va_W) ++ [(q1, eI_ c1 12)])) H := hP
  have hD : va_D (AA B0) ((h0, .inr (0, [.int 0, .int 0, .null, .null, .null, .null, .null, .null])) :: (([] : va_W) ++ [(q1, eI_ c1 12)])) := hD
  refine va_putF (D := g) (ci := 0) (v := .ref q1) (ty := .array .int) (C := RX0) (T := TX0) (N := 8) hx hb hts hin tyX0 tyX0_ok nmX0 hown hK hP hD hS 0 rfl rfl 2 (by decide) (hts (.fieldLink RX0 16 "AbjadPoems" "sizes" "[I") (by decide +kernel)) (fun _ h9 => h9) rfl hin2 rfl (by decide +kernel) rfl rfl (Nat.le_of_ble_eq_true rfl) dX0_init_19 (fun H locs hP hD hS => ?_)
  have hP : va_P g vwCl ((h0, .inr (0, [.int 0, .int 0, .ref q1, .null, .null, .null, .null, .null])) :: (([] : va_W) ++ [(q1, eI_ c1 12)])) H := hP
  have hD : va_D (AA B0) ((h0, .inr (0, [.int 0, .int 0, .ref q1, .null, .null, .null, .null, .null])) :: (([] : va_W) ++ [(q1, eI_ c1 12)])) := hD
  refine lv_aload_n hx hb dX0_init_22 rfl (lv_at hl 0 rfl) ?_
  refine lv_bipush (v := nI 12) hx hb dX0_init_23 (by decide) ?_
  refine lv_bipush (v := nI 10) hx hb dX0_init_25 (by decide) ?_
  refine n_mna (N' := 12) (K' := 10) hx hb hown (hts (.classLink RX0 20 "[[I") (by decide +kernel)) hAO (hts (.arrayClass .int) (by decide +kernel)) 0 rfl hK hP hD hS hA (by omega) (by omega) (Nat.le_of_ble_eq_true rfl) (Nat.le_of_ble_eq_true rfl) dX0_init_27 (fun q2 r0 c2 H hK hP hD hS => ?_)
  have hP : va_P g vwCl ((h0, .inr (0, [.int 0, .int 0, .ref q1, .null, .null, .null, .null, .null])) :: (((([] : va_W) ++ [(q1, eI_ c1 12)]) ++ [(q2, eQ_ c2 12 r0)]) ++ rw_s 12 r0 c1 10)) H := hP
  have hD : va_D (AA B0) ((h0, .inr (0, [.int 0, .int 0, .ref q1, .null, .null, .null, .null, .null])) :: (((([] : va_W) ++ [(q1, eI_ c1 12)]) ++ [(q2, eQ_ c2 12 r0)]) ++ rw_s 12 r0 c1 10)) := hD
  refine va_putF (D := g) (ci := 0) (v := .ref q2) (ty := .array (.array .int)) (C := RX0) (T := TX0) (N := 8) hx hb hts hin tyX0 tyX0_ok nmX0 hown hK hP hD hS 0 rfl rfl 3 (by decide) (hts (.fieldLink RX0 22 "AbjadPoems" "words" "[[I") (by decide +kernel)) (fun _ h9 => h9) rfl hin2 rfl (by decide +kernel) rfl rfl (Nat.le_of_ble_eq_true rfl) dX0_init_31 (fun H locs hP hD hS => ?_)
  have hP : va_P g vwCl ((h0, .inr (0, [.int 0, .int 0, .ref q1, .ref q2, .null, .null, .null, .null])) :: (((([] : va_W) ++ [(q1, eI_ c1 12)]) ++ [(q2, eQ_ c2 12 r0)]) ++ rw_s 12 r0 c1 10)) H := hP
  have hD : va_D (AA B0) ((h0, .inr (0, [.int 0, .int 0, .ref q1, .ref q2, .null, .null, .null, .null])) :: (((([] : va_W) ++ [(q1, eI_ c1 12)]) ++ [(q2, eQ_ c2 12 r0)]) ++ rw_s 12 r0 c1 10)) := hD
  refine lv_aload_n hx hb dX0_init_34 rfl (lv_at hl 0 rfl) ?_
  refine lv_bipush (v := nI 12) hx hb dX0_init_35 (by decide) ?_
  refine lv_bipush (v := nI 10) hx hb dX0_init_37 (by decide) ?_
  refine n_mna (N' := 12) (K' := 10) hx hb hown (hts (.classLink RX0 20 "[[I") (by decide +kernel)) hAO (hts (.arrayClass .int) (by decide +kernel)) 0 rfl hK hP hD hS hA (by omega) (by omega) (Nat.le_of_ble_eq_true rfl) (Nat.le_of_ble_eq_true rfl) dX0_init_39 (fun q3 r1 c3 H hK hP hD hS => ?_)
  have e3 : c3 = c2 := K_eq (i := 2) (j := 1) hK (fun C h => by cases h) rfl rfl
  rw [e3] at hK hP hD
  have hP : va_P g vwCl ((h0, .inr (0, [.int 0, .int 0, .ref q1, .ref q2, .null, .null, .null, .null])) :: (((((([] : va_W) ++ [(q1, eI_ c1 12)]) ++ [(q2, eQ_ c2 12 r0)]) ++ rw_s 12 r0 c1 10) ++ [(q3, eQ_ c2 12 r1)]) ++ rw_s 12 r1 c1 10)) H := hP
  have hD : va_D (AA B0) ((h0, .inr (0, [.int 0, .int 0, .ref q1, .ref q2, .null, .null, .null, .null])) :: (((((([] : va_W) ++ [(q1, eI_ c1 12)]) ++ [(q2, eQ_ c2 12 r0)]) ++ rw_s 12 r0 c1 10) ++ [(q3, eQ_ c2 12 r1)]) ++ rw_s 12 r1 c1 10)) := hD
  refine va_putF (D := g) (ci := 0) (v := .ref q3) (ty := .array (.array .int)) (C := RX0) (T := TX0) (N := 8) hx hb hts hin tyX0 tyX0_ok nmX0 hown hK hP hD hS 0 rfl rfl 4 (by decide) (hts (.fieldLink RX0 25 "AbjadPoems" "marks" "[[I") (by decide +kernel)) (fun _ h9 => h9) rfl hin2 rfl (by decide +kernel) rfl rfl (Nat.le_of_ble_eq_true rfl) dX0_init_43 (fun H locs hP hD hS => ?_)
  have hP : va_P g vwCl ((h0, .inr (0, [.int 0, .int 0, .ref q1, .ref q2, .ref q3, .null, .null, .null])) :: (((((([] : va_W) ++ [(q1, eI_ c1 12)]) ++ [(q2, eQ_ c2 12 r0)]) ++ rw_s 12 r0 c1 10) ++ [(q3, eQ_ c2 12 r1)]) ++ rw_s 12 r1 c1 10)) H := hP
  have hD : va_D (AA B0) ((h0, .inr (0, [.int 0, .int 0, .ref q1, .ref q2, .ref q3, .null, .null, .null])) :: (((((([] : va_W) ++ [(q1, eI_ c1 12)]) ++ [(q2, eQ_ c2 12 r0)]) ++ rw_s 12 r0 c1 10) ++ [(q3, eQ_ c2 12 r1)]) ++ rw_s 12 r1 c1 10)) := hD
  refine lv_aload_n hx hb dX0_init_46 rfl (lv_at hl 0 rfl) ?_
  refine lv_bipush (v := nI 120) hx hb dX0_init_47 (by decide) ?_
  refine va_newa (atype := .int) (ty := .int) (N' := 120) (a0 := (120, .inl (fun _ => 0))) hx hb (hts (.arrayClass .int) (by decide +kernel)) rfl hK hP hD hS hA (fun cA => rfl) (nI_pos (by omega)) (nI_clamp (by omega)) (by decide) (Nat.le_of_ble_eq_true rfl) (Nat.le_of_ble_eq_true rfl) dX0_init_49 (fun q4 c4 H hK hP hD hS => ?_)
  have e4 : c4 = c1 := K_eq (i := 3) (j := 0) hK (fun C h => by cases h) rfl rfl
  rw [e4] at hK hP hD
  have hP : va_P g vwCl ((h0, .inr (0, [.int 0, .int 0, .ref q1, .ref q2, .ref q3, .null, .null, .null])) :: ((((((([] : va_W) ++ [(q1, eI_ c1 12)]) ++ [(q2, eQ_ c2 12 r0)]) ++ rw_s 12 r0 c1 10) ++ [(q3, eQ_ c2 12 r1)]) ++ rw_s 12 r1 c1 10) ++ [(q4, eI_ c1 120)])) H := hP
  have hD : va_D (AA B0) ((h0, .inr (0, [.int 0, .int 0, .ref q1, .ref q2, .ref q3, .null, .null, .null])) :: ((((((([] : va_W) ++ [(q1, eI_ c1 12)]) ++ [(q2, eQ_ c2 12 r0)]) ++ rw_s 12 r0 c1 10) ++ [(q3, eQ_ c2 12 r1)]) ++ rw_s 12 r1 c1 10) ++ [(q4, eI_ c1 120)])) := hD
  refine va_putF (D := g) (ci := 0) (v := .ref q4) (ty := .array .int) (C := RX0) (T := TX0) (N := 8) hx hb hts hin tyX0 tyX0_ok nmX0 hown hK hP hD hS 0 rfl rfl 5 (by decide) (hts (.fieldLink RX0 28 "AbjadPoems" "worths" "[I") (by decide +kernel)) (fun _ h9 => h9) rfl hin2 rfl (by decide +kernel) rfl rfl (Nat.le_of_ble_eq_true rfl) dX0_init_51 (fun H locs hP hD hS => ?_)
  have hP : va_P g vwCl ((h0, .inr (0, [.int 0, .int 0, .ref q1, .ref q2, .ref q3, .ref q4, .null, .null])) :: ((((((([] : va_W) ++ [(q1, eI_ c1 12)]) ++ [(q2, eQ_ c2 12 r0)]) ++ rw_s 12 r0 c1 10) ++ [(q3, eQ_ c2 12 r1)]) ++ rw_s 12 r1 c1 10) ++ [(q4, eI_ c1 120)])) H := hP
  have hD : va_D (AA B0) ((h0, .inr (0, [.int 0, .int 0, .ref q1, .ref q2, .ref q3, .ref q4, .null, .null])) :: ((((((([] : va_W) ++ [(q1, eI_ c1 12)]) ++ [(q2, eQ_ c2 12 r0)]) ++ rw_s 12 r0 c1 10) ++ [(q3, eQ_ c2 12 r1)]) ++ rw_s 12 r1 c1 10) ++ [(q4, eI_ c1 120)])) := hD
  refine lv_aload_n hx hb dX0_init_54 rfl (lv_at hl 0 rfl) ?_
  refine lv_iconst (v := nI 3) hx hb dX0_init_55 (by decide) ?_
  refine lv_sipush (v := nI 3001) hx hb dX0_init_56 (by decide) ?_
  refine n_mna (N' := 3) (K' := 3001) hx hb hown (hts (.classLink RX0 20 "[[I") (by decide +kernel)) hAO (hts (.arrayClass .int) (by decide +kernel)) 0 rfl hK hP hD hS hA (by omega) (by omega) (Nat.le_of_ble_eq_true rfl) (Nat.le_of_ble_eq_true rfl) dX0_init_59 (fun q5 r2 c5 H hK hP hD hS => ?_)
  have e5 : c5 = c2 := K_eq (i := 4) (j := 1) hK (fun C h => by cases h) rfl rfl
  rw [e5] at hK hP hD
  have hP : va_P g vwCl ((h0, .inr (0, [.int 0, .int 0, .ref q1, .ref q2, .ref q3, .ref q4, .null, .null])) :: ((((((((([] : va_W) ++ [(q1, eI_ c1 12)]) ++ [(q2, eQ_ c2 12 r0)]) ++ rw_s 12 r0 c1 10) ++ [(q3, eQ_ c2 12 r1)]) ++ rw_s 12 r1 c1 10) ++ [(q4, eI_ c1 120)]) ++ [(q5, eQ_ c2 3 r2)]) ++ rw_s 3 r2 c1 3001)) H := hP
  have hD : va_D (AA B0) ((h0, .inr (0, [.int 0, .int 0, .ref q1, .ref q2, .ref q3, .ref q4, .null, .null])) :: ((((((((([] : va_W) ++ [(q1, eI_ c1 12)]) ++ [(q2, eQ_ c2 12 r0)]) ++ rw_s 12 r0 c1 10) ++ [(q3, eQ_ c2 12 r1)]) ++ rw_s 12 r1 c1 10) ++ [(q4, eI_ c1 120)]) ++ [(q5, eQ_ c2 3 r2)]) ++ rw_s 3 r2 c1 3001)) := hD
  refine va_putF (D := g) (ci := 0) (v := .ref q5) (ty := .array (.array .int)) (C := RX0) (T := TX0) (N := 8) hx hb hts hin tyX0 tyX0_ok nmX0 hown hK hP hD hS 0 rfl rfl 6 (by decide) (hts (.fieldLink RX0 31 "AbjadPoems" "fewest" "[[I") (by decide +kernel)) (fun _ h9 => h9) rfl hin2 rfl (by decide +kernel) rfl rfl (Nat.le_of_ble_eq_true rfl) dX0_init_63 (fun H locs hP hD hS => ?_)
  have hP : va_P g vwCl ((h0, .inr (0, [.int 0, .int 0, .ref q1, .ref q2, .ref q3, .ref q4, .ref q5, .null])) :: ((((((((([] : va_W) ++ [(q1, eI_ c1 12)]) ++ [(q2, eQ_ c2 12 r0)]) ++ rw_s 12 r0 c1 10) ++ [(q3, eQ_ c2 12 r1)]) ++ rw_s 12 r1 c1 10) ++ [(q4, eI_ c1 120)]) ++ [(q5, eQ_ c2 3 r2)]) ++ rw_s 3 r2 c1 3001)) H := hP
  have hD : va_D (AA B0) ((h0, .inr (0, [.int 0, .int 0, .ref q1, .ref q2, .ref q3, .ref q4, .ref q5, .null])) :: ((((((((([] : va_W) ++ [(q1, eI_ c1 12)]) ++ [(q2, eQ_ c2 12 r0)]) ++ rw_s 12 r0 c1 10) ++ [(q3, eQ_ c2 12 r1)]) ++ rw_s 12 r1 c1 10) ++ [(q4, eI_ c1 120)]) ++ [(q5, eQ_ c2 3 r2)]) ++ rw_s 3 r2 c1 3001)) := hD
  refine lv_aload_n hx hb dX0_init_66 rfl (lv_at hl 0 rfl) ?_
  refine lv_iconst (v := nI 3) hx hb dX0_init_67 (by decide) ?_
  refine va_newa (atype := .boolean) (ty := .boolean) (N' := 3) (a0 := (3, .inl (fun _ => 0))) hx hb (hts (.arrayClass .boolean) (by decide +kernel)) rfl hK hP hD hS hA (fun cA => rfl) (nI_pos (by omega)) (nI_clamp (by omega)) (by decide) (Nat.le_of_ble_eq_true rfl) (Nat.le_of_ble_eq_true rfl) dX0_init_68 (fun q6 c6 H hK hP hD hS => ?_)
  have hP : va_P g vwCl ((h0, .inr (0, [.int 0, .int 0, .ref q1, .ref q2, .ref q3, .ref q4, .ref q5, .null])) :: (((((((((([] : va_W) ++ [(q1, eI_ c1 12)]) ++ [(q2, eQ_ c2 12 r0)]) ++ rw_s 12 r0 c1 10) ++ [(q3, eQ_ c2 12 r1)]) ++ rw_s 12 r1 c1 10) ++ [(q4, eI_ c1 120)]) ++ [(q5, eQ_ c2 3 r2)]) ++ rw_s 3 r2 c1 3001) ++ [(q6, eI_ c6 3)])) H := hP
  have hD : va_D (AA B0) ((h0, .inr (0, [.int 0, .int 0, .ref q1, .ref q2, .ref q3, .ref q4, .ref q5, .null])) :: (((((((((([] : va_W) ++ [(q1, eI_ c1 12)]) ++ [(q2, eQ_ c2 12 r0)]) ++ rw_s 12 r0 c1 10) ++ [(q3, eQ_ c2 12 r1)]) ++ rw_s 12 r1 c1 10) ++ [(q4, eI_ c1 120)]) ++ [(q5, eQ_ c2 3 r2)]) ++ rw_s 3 r2 c1 3001) ++ [(q6, eI_ c6 3)])) := hD
  refine va_putF (D := g) (ci := 0) (v := .ref q6) (ty := .array .boolean) (C := RX0) (T := TX0) (N := 8) hx hb hts hin tyX0 tyX0_ok nmX0 hown hK hP hD hS 0 rfl rfl 7 (by decide) (hts (.fieldLink RX0 34 "AbjadPoems" "filled" "[Z") (by decide +kernel)) (fun _ h9 => h9) rfl hin2 rfl (by decide +kernel) rfl rfl (Nat.le_of_ble_eq_true rfl) dX0_init_70 (fun H locs hP hD hS => ?_)
  have hP : va_P g vwCl ((h0, .inr (0, [.int 0, .int 0, .ref q1, .ref q2, .ref q3, .ref q4, .ref q5, .ref q6])) :: (((((((((([] : va_W) ++ [(q1, eI_ c1 12)]) ++ [(q2, eQ_ c2 12 r0)]) ++ rw_s 12 r0 c1 10) ++ [(q3, eQ_ c2 12 r1)]) ++ rw_s 12 r1 c1 10) ++ [(q4, eI_ c1 120)]) ++ [(q5, eQ_ c2 3 r2)]) ++ rw_s 3 r2 c1 3001) ++ [(q6, eI_ c6 3)])) H := hP
  have hD : va_D (AA B0) ((h0, .inr (0, [.int 0, .int 0, .ref q1, .ref q2, .ref q3, .ref q4, .ref q5, .ref q6])) :: (((((((((([] : va_W) ++ [(q1, eI_ c1 12)]) ++ [(q2, eQ_ c2 12 r0)]) ++ rw_s 12 r0 c1 10) ++ [(q3, eQ_ c2 12 r1)]) ++ rw_s 12 r1 c1 10) ++ [(q4, eI_ c1 120)]) ++ [(q5, eQ_ c2 3 r2)]) ++ rw_s 3 r2 c1 3001) ++ [(q6, eI_ c6 3)])) := hD
  refine W.widen (k := 33) (n := 9405) (Nat.le_of_ble_eq_true rfl) (Nat.le_of_ble_eq_true rfl) ?_
  exact W.vret hx hb hr (fun t ht hW => ⟨⟨((fun k => match k with | 1 => q1 | 2 => q2 | 3 => q3 | 4 => q4 | 5 => q5 | _ => q6), (fun k => match k with | 0 => r0 | 1 => r1 | _ => r2), (fun k => match k with | 0 => c1 | 1 => c2 | _ => c6)), rfl, trivial, by show va_P g vwCl _ t.heap; rw [ht]; exact hP, hD, va_K.moved hW.alike (va_K.sub hK [0, 1, 5] rfl)⟩, hS.F ht⟩) hS.2.2 dX0_init_73
