/-! ===== the world as the law has made it ===== -/
def zx_ : Ax_ := fun _ => 0
def zp_ : Pl_ := ([], fun _ => .inr (0, []))
theorem gd_z (i w : Nat) : nI (gd_ (fun _ => 0) i w) = 0 := by
  unfold gd_
  split <;> rfl
/-- the list in the world's order, with the outer arrays' form left open -/
def Z_ (ct ad : Nat → Nat) (oq : Nat → (Nat → Nat) → va_E) : va_W :=
  [(ad 0, .inr (0, [.int 0, .int 0, .ref (ad 1), .ref (ad 2), .ref (ad 3), .ref (ad 4), .ref (ad 5), .ref (ad 6)])),
   (ad 1, eI_ (ct 0) 12), (ad 2, oq 12 (fun i => ad (12 + i))), (ad 3, oq 12 (fun i => ad (24 + i))), (ad 4, eI_ (ct 0) 120)] ++
  (rw_s 12 (fun i => ad (12 + i)) (ct 0) 10 ++ rw_s 12 (fun i => ad (24 + i)) (ct 0) 10)
theorem wl_z (ct ad : Nat → Nat) : wl_ ct ad z0_ zp_ zx_ = Z_ ct ad (fun n f => e_q ct n f) := by
  have h1 : wl_w ct ad z0_ = rw_s 12 (fun i => ad (12 + i)) (ct 0) 10 := by
    unfold wl_w rw_s
    refine List.map_congr_left fun i _ => ?_
    have : (fun w => nI (gd_ (sw z0_) i w)) = fun _ => (0 : Int32) := funext fun w => gd_z i w
    rw [this]
    rfl
  have h2 : wl_k ct ad z0_ = rw_s 12 (fun i => ad (24 + i)) (ct 0) 10 := by
    unfold wl_k rw_s
    refine List.map_congr_left fun i _ => ?_
    have : (fun w => nI (gd_ (sk z0_) i w)) = fun _ => (0 : Int32) := funext fun w => gd_z i w
    rw [this]
    rfl
  unfold wl_ wl_c
  rw [h1, h2]
  exact List.append_nil _
theorem eQ_cg {c n : Nat} {f f' : Nat → Nat} (h : ∀ i, i < n → f i = f' i) : eQ_ c n f = eQ_ c n f' := by
  have : (fun i => if i < n then some (f i) else none) = (fun i => if i < n then some (f' i) else none) := funext fun i => by
    by_cases q : i < n
    · rw [if_pos q, if_pos q, h i q]
    · rw [if_neg q, if_neg q]
  unfold eQ_
  rw [this]
theorem rw_cg {n c k : Nat} {f f' : Nat → Nat} (h : ∀ i, i < n → f i = f' i) : rw_s n f c k = rw_s n f' c k := by
  unfold rw_s
  exact List.map_congr_left fun i hi => by rw [h i (List.mem_range.mp hi)]
theorem ar_cg {c n : Nat} {f f' : Nat → Value} (h : ∀ i, i < n → f i = f' i) : arrV c n f = arrV c n f' := by
  unfold arrV
  have : (Array.ofFn (n := n) fun j => f j.val) = (Array.ofFn (n := n) fun j => f' j.val) := by
    congr 1
    exact funext fun j => h j.val j.isLt
  rw [this]
theorem at_q {g : va_G} {ct : Nat → Nat} {a n : Nat} {f : Nat → Nat} {H : Heap} (h : va_at g vwCl (a, eQ_ (ct 1) n f) H) : va_at g vwCl (a, e_q ct n f) H := by
  have h1 : H[a]? = some (arrV (ct 1) n (fun j => va_rf (if j < n then some (f j) else none))) := h
  show H[a]? = some (arrV (ct 1) n (fun j => va_rf (some (f j))))
  rw [h1]
  exact congrArg some (ar_cg fun i hi => by rw [if_pos hi])
theorem Z_P {g : va_G} {ct ad : Nat → Nat} {H : Heap} (h : va_P g vwCl (Z_ ct ad (fun n f => eQ_ (ct 1) n f)) H) : va_P g vwCl (Z_ ct ad (fun n f => e_q ct n f)) H := fun k q hq => match k, hq with
  | 0, hq => h 0 q hq
  | 1, hq => h 1 q hq
  | 2, hq => by cases hq; exact at_q (h 2 _ rfl)
  | 3, hq => by cases hq; exact at_q (h 3 _ rfl)
  | k + 4, hq => h (k + 4) q hq
theorem va_D_fst {A : Nat → Prop} {W W' : va_W} (h : W.map Prod.fst = W'.map Prod.fst) (hD : va_D A W) : va_D A W' := by
  have key : ∀ (k : Nat) (q : Nat × va_E), W'[k]? = some q → ∃ p, W[k]? = some p ∧ p.1 = q.1 := by
    intro k q hq
    have h1 : (W'.map Prod.fst)[k]? = some q.1 := by rw [List.getElem?_map, hq]; rfl
    rw [← h, List.getElem?_map] at h1
    cases hp : W[k]? with
    | none => rw [hp] at h1; cases h1
    | some p => rw [hp] at h1; exact ⟨p, rfl, Option.some.inj h1⟩
  refine ⟨fun i j p q hp hq e => ?_, fun k q hq => ?_⟩
  · obtain ⟨p', hp', e1⟩ := key i p hp
    obtain ⟨q', hq', e2⟩ := key j q hq
    exact hD.1 i j p' q' hp' hq' (by rw [e1, e2, e])
  · obtain ⟨p, hp, e⟩ := key k q hq
    rw [← e]
    exact hD.2 k p hp
theorem Z_D {A : Nat → Prop} {ct ad : Nat → Nat} (h : va_D A (Z_ ct ad (fun n f => eQ_ (ct 1) n f))) : va_D A (Z_ ct ad (fun n f => e_q ct n f)) := va_D_fst (W := Z_ ct ad (fun n f => eQ_ (ct 1) n f)) (W' := Z_ ct ad (fun n f => e_q ct n f)) rfl h
def AD_ (h0 : Nat) (q : Nat → Nat) (r : Nat → Nat → Nat) : Nat → Nat := fun j => match j with
  | 0 => h0
  | 1 => q 1
  | 2 => q 2
  | 3 => q 3
  | 4 => q 4
  | 5 => q 5
  | 6 => q 6
  | 7 => 0
  | 8 => 0
  | 9 => 0
  | 10 => 0
  | 11 => 0
  | j + 12 => if j < 12 then r 0 j else if j < 24 then r 1 (j - 12) else r 2 (j - 24)
theorem AD_0 {h0 : Nat} {q : Nat → Nat} {r : Nat → Nat → Nat} {i : Nat} (h : i < 12) : r 0 i = AD_ h0 q r (12 + i) := by
  rw [Nat.add_comm]
  exact (if_pos h).symm
theorem AD_1 {h0 : Nat} {q : Nat → Nat} {r : Nat → Nat → Nat} {i : Nat} (h : i < 12) : r 1 i = AD_ h0 q r (24 + i) := by
  rw [show 24 + i = (12 + i) + 12 by omega]
  show r 1 i = if 12 + i < 12 then r 0 (12 + i) else if 12 + i < 24 then r 1 (12 + i - 12) else r 2 (12 + i - 24)
  rw [if_neg (by omega), if_pos (by omega), show 12 + i - 12 = i by omega]
theorem AD_2 {h0 : Nat} {q : Nat → Nat} {r : Nat → Nat → Nat} {i : Nat} : r 2 i = AD_ h0 q r (36 + i) := by
  rw [show 36 + i = (24 + i) + 12 by omega]
  show r 2 i = if 24 + i < 12 then r 0 (24 + i) else if 24 + i < 24 then r 1 (24 + i - 12) else r 2 (24 + i - 24)
  rw [if_neg (by omega), if_neg (by omega), show 24 + i - 24 = i by omega]
/-- what the constructor has made, cell by cell, in the order of its making -/
def F_ (ct : Nat → Nat) (ad : Nat → Nat) : va_W :=
  (ad 0, .inr (0, [.int 0, .int 0, .ref (ad 1), .ref (ad 2), .ref (ad 3), .ref (ad 4), .ref (ad 5), .ref (ad 6)])) :: OT_ (fun k => ad k) (fun k i => ad (12 + 12 * k + i)) ct
abbrev PM_ : List Nat := [0, 1, 2, 15, 28, 3, 4, 5, 6, 7, 8, 9, 10, 11, 12, 13, 14, 16, 17, 18, 19, 20, 21, 22, 23, 24, 25, 26, 27]
set_option maxRecDepth 100000 in
theorem F_P {g : va_G} {ct ad : Nat → Nat} {H : Heap} (h : va_P g vwCl (F_ ct ad) H) : va_P g vwCl (wl_ ct ad z0_ zp_ zx_) H := by
  rw [wl_z]
  exact Z_P (h.sub PM_ rfl)
set_option maxRecDepth 100000 in
theorem F_D {A : Nat → Prop} {ct ad : Nat → Nat} (h : va_D A (F_ ct ad)) : va_D A (wl_ ct ad z0_ zp_ zx_) := by
  rw [wl_z]
  exact Z_D (h.sub PM_ (by decide) rfl)
theorem OT_cg {q : Nat → Nat} {r r' : Nat → Nat → Nat} {ct : Nat → Nat} (h0 : ∀ i, i < 12 → r 0 i = r' 0 i) (h1 : ∀ i, i < 12 → r 1 i = r' 1 i) (h2 : ∀ i, i < 3 → r 2 i = r' 2 i) : OT_ q r ct = OT_ q r' ct := by
  unfold OT_
  rw [eQ_cg h0, eQ_cg h1, eQ_cg h2, rw_cg h0, rw_cg h1, rw_cg h2]
theorem OT_ad {h0 : Nat} {q : Nat → Nat} {r : Nat → Nat → Nat} {ct : Nat → Nat} : OT_ q r ct = OT_ (fun k => AD_ h0 q r k) (fun k i => AD_ h0 q r (12 + 12 * k + i)) ct :=
  (OT_cg (r' := fun k i => AD_ h0 q r (12 + 12 * k + i)) (fun i h => AD_0 h) (fun i h => AD_1 h) (fun i _ => AD_2)).trans rfl
set_option maxHeartbeats 4000000 in
set_option maxRecDepth 100000 in
theorem start_F {g : va_G} {A : Nat → Prop} {h0 : Nat} {q : Nat → Nat} {r : Nat → Nat → Nat} {ct : Nat → Nat} {c3 c4 : Nat} {H : Heap}
    (hP : va_P g vwCl ((h0, .inr (0, [.int 0, .int 0, .ref (q 1), .ref (q 2), .ref (q 3), .ref (q 4), .ref (q 5), .ref (q 6)])) :: OT_ q r ct) H)
    (hD : va_D A ((h0, .inr (0, [.int 0, .int 0, .ref (q 1), .ref (q 2), .ref (q 3), .ref (q 4), .ref (q 5), .ref (q 6)])) :: OT_ q r ct)) :
    va_P g vwCl (F_ (fun k => match k with | 0 => ct 0 | 1 => ct 1 | 2 => ct 2 | 3 => c3 | _ => c4) (AD_ h0 q r)) H ∧ va_D A (F_ (fun k => match k with | 0 => ct 0 | 1 => ct 1 | 2 => ct 2 | 3 => c3 | _ => c4) (AD_ h0 q r)) := by
  have a1 : OT_ q r ct = OT_ (fun k => AD_ h0 q r k) (fun k i => AD_ h0 q r (12 + 12 * k + i)) ct := OT_ad
  rw [a1] at hP hD
  exact ⟨hP, hD⟩
/-- the class of a row of rows, out of the tables -/
theorem ao_k {t : FieldType} {s : State} (h : va_AOA t s) : ∃ c : ClassId, ArrOfT s c (.array t) ∧ va_RA s c (.array t) := by
  obtain ⟨comp, c, k, h1, h2, h3, h4, h5⟩ := arrayOverA_spec h
  exact ⟨c, fun n z => ⟨fun k h => (by cases h), k, h3, comp, h4⟩, h5⟩
