/-! ===== the elementary changes of a poem, and their rows ===== -/
def st_w (c : St_) (i v : Nat) : St_ := (so c, sn c, ss c, up_ (sw c) i v, sk c)
def st_k (c : St_) (i v : Nat) : St_ := (so c, sn c, ss c, sw c, up_ (sk c) i v)
def st_s (c : St_) (l v : Nat) : St_ := (so c, sn c, up_ (ss c) l v, sw c, sk c)
theorem iv_o {c : St_} {o : Nat} (h : Iv_ c) (ho : o < 3) : Iv_ (st_count c o) := ⟨ho, h.2⟩
theorem iv_n {c : St_} (h : Iv_ c) (hn : sn c < 12) : Iv_ (st_write c) := ⟨h.1, hn, h.2.2⟩
theorem iv_w {c : St_} {i v : Nat} (h : Iv_ c) (hv : v < 387420489) (hi : ∀ l w, w < ss c l → 10 * l + w ≠ i) : Iv_ (st_w c i v) := by
  refine ⟨h.1, h.2.1, h.2.2.1, fun j => ?_, h.2.2.2.2.1, fun l w hw => ?_⟩
  · show up_ (sw c) i v j < _
    unfold up_
    split
    · exact hv
    · exact h.2.2.2.1 j
  · show sk c (10 * l + w) < 2 ^ ln_ (up_ (sw c) i v (10 * l + w))
    rw [up_n (hi l w hw)]
    exact h.2.2.2.2.2 l w hw
theorem iv_k {c : St_} {i v : Nat} (h : Iv_ c) (hv : v < 64) (hi : ∀ l w, w < ss c l → 10 * l + w = i → v < 2 ^ ln_ (sw c (10 * l + w))) : Iv_ (st_k c i v) := by
  refine ⟨h.1, h.2.1, h.2.2.1, h.2.2.2.1, fun j => ?_, fun l w hw => ?_⟩
  · show up_ (sk c) i v j < _
    unfold up_
    split
    · exact hv
    · exact h.2.2.2.2.1 j
  · show up_ (sk c) i v (10 * l + w) < 2 ^ ln_ (sw c (10 * l + w))
    unfold up_
    split
    · exact hi l w hw (by assumption)
    · exact h.2.2.2.2.2 l w hw
theorem iv_s {c : St_} {l v : Nat} (h : Iv_ c) (hv : v ≤ 10) (hi : ∀ w, w < v → sk c (10 * l + w) < 2 ^ ln_ (sw c (10 * l + w))) : Iv_ (st_s c l v) := by
  refine ⟨h.1, h.2.1, fun j => ?_, h.2.2.2.1, h.2.2.2.2.1, fun j w hw => ?_⟩
  · show up_ (ss c) l v j ≤ _
    unfold up_
    split
    · exact hv
    · exact h.2.2.1 j
  · have hw : w < up_ (ss c) l v j := hw
    show sk c (10 * j + w) < 2 ^ ln_ (sw c (10 * j + w))
    by_cases e : j = l
    · subst e; rw [up_s] at hw; exact hi w hw
    · rw [up_n e] at hw; exact h.2.2.2.2.2 j w hw
/-- the place behind a line's last word is no other word's -/
theorem ix_ {c : St_} (h : Iv_ c) {l0 : Nat} (h0 : ss c l0 < 10) : ∀ l w, w < ss c l → 10 * l + w ≠ 10 * l0 + ss c l0 := by
  intro l w hw e
  have := h.2.2.1 l
  have e1 : l = l0 := by omega
  subst e1
  omega
def sx_ (_ _ : Ax_) : Prop := True
theorem sx_r (x : Ax_) : sx_ x x := trivial
theorem sx_t {x u v : Ax_} (_ : sx_ x u) (_ : sx_ u v) : sx_ x v := trivial
theorem up_nI (f : Nat → Nat) (k v : Nat) : upd (fun l => nI (f l)) k (nI v) = fun l => nI (up_ f k v l) := by
  funext j
  unfold upd up_
  split <;> rfl
theorem up_gd {f : Nat → Nat} {i j v : Nat} (hj : j < 10) : upd (fun w => nI (gd_ f i w)) j (nI v) = fun w => nI (gd_ (up_ f (10 * i + j) v) i w) := by
  funext w
  unfold upd gd_ up_
  by_cases e : w = j
  · subst e; rw [if_pos rfl, if_pos hj, if_pos rfl]
  · rw [if_neg e, if_neg (show ¬ 10 * i + w = 10 * i + j by omega)]
section RW5
variable {p : Program} {l : Launch} {e : Env} {R : Room} {s : State} {m : MethodId} {args : Array Value} {below : List Frame} {meth : Method} {c : Code} {H : Heap} {locs : List Loc} {cells slots : Nat} {Q : State → Prop}
variable {cc : ByteArray} {pc : Nat} {ls : Array Slot} {rest : List Value} {B0 : Nat} {g : va_G} {ct ad : Nat → Nat} {cS c' : St_} {mS m' : Pl_} {x x' : Ax_} {Ts : List Cond}
theorem w_sz (hC : CX B0 g ct ad cS mS x s H) (hB : B0 ≤ s.heap.size) (hS : va_S (AA B0) s.heap H locs) (hexec : p.tables.exec = Jvm.exec) (hb : c.code = cc) (hdg : decode cc pc = .ok (.iastore, 1)) {j v : Nat} (hj : j < 12) (hI : Iv_ (st_s cS j v))
    (kk : ∀ (H1 : Heap) (locs1 : List Loc), CX B0 g ct ad (st_s cS j v) mS x s H1 → va_S (AA B0) s.heap H1 locs1 → W p l e R s m args below meth c H1 locs1 cells slots Q (F0 m (pc + 1) ls rest)) : W p l e R s m args below meth c H locs cells slots Q (F0 m pc ls (.int (nI v) :: .int (nI j) :: .ref (ad 1) :: rest)) :=
  w_ia (c' := st_s cS j v) (m' := mS) (x' := x) hC hB hS hexec hb 1 ((wl_0 (k := 1) (by omega)).trans rfl) hdg hj (by omega) (by rw [up_nI]; rfl) hI kk
theorem w_wr (hC : CX B0 g ct ad cS mS x s H) (hB : B0 ≤ s.heap.size) (hS : va_S (AA B0) s.heap H locs) (hexec : p.tables.exec = Jvm.exec) (hb : c.code = cc) (hdg : decode cc pc = .ok (.iastore, 1)) {i j v : Nat} (hi : i < 12) (hj : j < 10) (hI : Iv_ (st_w cS (10 * i + j) v))
    (kk : ∀ (H1 : Heap) (locs1 : List Loc), CX B0 g ct ad (st_w cS (10 * i + j) v) mS x s H1 → va_S (AA B0) s.heap H1 locs1 → W p l e R s m args below meth c H1 locs1 cells slots Q (F0 m (pc + 1) ls rest)) : W p l e R s m args below meth c H locs cells slots Q (F0 m pc ls (.int (nI v) :: .int (nI j) :: .ref (ad (12 + i)) :: rest)) := by
  have he : (wl_ ct ad cS mS x).set (5 + i) (ad (12 + i), e_i ct 10 (upd (fun w => nI (gd_ (sw cS) i w)) j (nI v))) = wl_ ct ad (st_w cS (10 * i + j) v) mS x := by
    refine wl_s1 (ct := ct) (ad := ad) (c := cS) (c' := st_w cS (10 * i + j) v) (m := mS) (x := x) hi rfl rfl (fun i' w hne hw => ?_) ?_
    · show sw cS (10 * i' + w) = up_ (sw cS) (10 * i + j) v (10 * i' + w)
      rw [up_n (show 10 * i' + w ≠ 10 * i + j by omega)]
    · rw [up_gd hj]; rfl
  exact w_ia hC hB hS hexec hb (5 + i) (wl_1 hi) hdg hj (by omega) he hI kk
theorem w_kr (hC : CX B0 g ct ad cS mS x s H) (hB : B0 ≤ s.heap.size) (hS : va_S (AA B0) s.heap H locs) (hexec : p.tables.exec = Jvm.exec) (hb : c.code = cc) (hdg : decode cc pc = .ok (.iastore, 1)) {i j v : Nat} (hi : i < 12) (hj : j < 10) (hI : Iv_ (st_k cS (10 * i + j) v))
    (kk : ∀ (H1 : Heap) (locs1 : List Loc), CX B0 g ct ad (st_k cS (10 * i + j) v) mS x s H1 → va_S (AA B0) s.heap H1 locs1 → W p l e R s m args below meth c H1 locs1 cells slots Q (F0 m (pc + 1) ls rest)) : W p l e R s m args below meth c H locs cells slots Q (F0 m pc ls (.int (nI v) :: .int (nI j) :: .ref (ad (24 + i)) :: rest)) := by
  have he : (wl_ ct ad cS mS x).set (17 + i) (ad (24 + i), e_i ct 10 (upd (fun w => nI (gd_ (sk cS) i w)) j (nI v))) = wl_ ct ad (st_k cS (10 * i + j) v) mS x := by
    refine wl_s2 (ct := ct) (ad := ad) (c := cS) (c' := st_k cS (10 * i + j) v) (m := mS) (x := x) hi rfl rfl (fun i' w hne hw => ?_) ?_
    · show sk cS (10 * i' + w) = up_ (sk cS) (10 * i + j) v (10 * i' + w)
      rw [up_n (show 10 * i' + w ≠ 10 * i + j by omega)]
    · rw [up_gd hj]; rfl
  exact w_ia hC hB hS hexec hb (17 + i) (wl_2 hi) hdg hj (by omega) he hI kk
theorem w_wt (hC : CX B0 g ct ad cS mS x s H) (hB : B0 ≤ s.heap.size) (hS : va_S (AA B0) s.heap H locs) (hexec : p.tables.exec = Jvm.exec) (hb : c.code = cc) (hdg : decode cc pc = .ok (.iastore, 1)) {j : Nat} {v : Int32} (hj : j < 120)
    (kk : ∀ (H1 : Heap) (locs1 : List Loc), CX B0 g ct ad cS mS (ax_w x (upd (xw x) j v)) s H1 → va_S (AA B0) s.heap H1 locs1 → W p l e R s m args below meth c H1 locs1 cells slots Q (F0 m (pc + 1) ls rest)) : W p l e R s m args below meth c H locs cells slots Q (F0 m pc ls (.int v :: .int (nI j) :: .ref (ad 4) :: rest)) :=
  w_ia (c' := cS) (m' := mS) (x' := ax_w x (upd (xw x) j v)) hC hB hS hexec hb 4 ((wl_0 (k := 4) (by omega)).trans rfl) hdg hj (by omega) rfl hC.1.2.2.2 kk
end RW5
