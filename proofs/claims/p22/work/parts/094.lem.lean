/-! ===== facts for the model's walks ===== -/
def ii_ (v lo hi : Int32) : Bool := decide (lo ≤ v) && decide (v ≤ hi)
theorem ii_1 {v lo hi : Int32} (h : v < lo) : ii_ v lo hi = false := by
  unfold ii_; rw [decide_eq_false (fun q => Int32.not_le.mpr h q), Bool.false_and]
theorem ii_2 {v lo hi : Int32} (h : hi < v) : ii_ v lo hi = false := by
  unfold ii_; rw [decide_eq_false (p := v ≤ hi) (fun q => Int32.not_le.mpr h q), Bool.and_false]
theorem ii_3 {v lo hi : Int32} (h : ¬ v < lo) (h2 : ¬ hi < v) : ii_ v lo hi = true := by
  unfold ii_; rw [decide_eq_true (Int32.not_lt.mp h), decide_eq_true (Int32.not_lt.mp h2)]; rfl
def li_ (n : Nat) (v : Int32) : Bool := ii_ v (nI 0) (nI n - nI 1)
theorem li_t {n j : Nat} (h : j < n) (hn : n < 2 ^ 30) : li_ n (nI j) = true := by
  unfold li_
  refine ii_3 (nI_pos (by omega)) ?_
  rw [pk_sub (show 1 ≤ n by omega), nI_ltI (by omega) (by omega)]
  omega
theorem li_f {n : Nat} {v : Int32} (h : v < 0 ∨ nI n ≤ v) (hn : n < 2 ^ 30) : li_ n v = false := by
  unfold li_
  rcases h with h | h
  · exact ii_1 h
  · refine ii_2 (Int32.lt_of_lt_of_le ?_ h)
    rw [Int32.lt_iff_toInt_lt, pk_sub_toInt hn (by omega), nI_toInt (by omega)]
    omega
theorem li_i {n j : Nat} (hn : n < 2 ^ 30) (hj : j < 2 ^ 30) : li_ n (nI j) = decide (j < n) := by
  by_cases h : j < n
  · rw [li_t h hn, decide_eq_true h]
  · rw [li_f (Or.inr (by rw [nI_leI (by omega) (by omega)]; omega)) hn, decide_eq_false h]
theorem lnf_p {f r : Nat} (h2 : r < 27 ^ f) (h : ¬ r = 0) : lnf f r = lnf (f - 1) (r / 27) + 1 ∧ r / 27 < 27 ^ (f - 1) ∧ 0 < f := by
  cases f with
  | zero => exact absurd (by simpa using h2) h
  | succ f =>
    refine ⟨lnf_s h, ?_, by omega⟩
    rw [Nat.pow_succ] at h2
    show r / 27 < 27 ^ f
    omega
theorem nz_p {f r : Nat} (hf : 0 < f) (h : ¬ r = 0) (h2 : ¬ r % 27 = 0) : nz_ f r = nz_ (f - 1) (r / 27) := by
  obtain ⟨k, rfl⟩ : ∃ k, f = k + 1 := ⟨f - 1, by omega⟩
  exact nz_y h h2
theorem nz_q {f r : Nat} (hf : 0 < f) (h : ¬ r = 0) (h2 : r % 27 = 0) : nz_ f r = false := by
  obtain ⟨k, rfl⟩ : ∃ k, f = k + 1 := ⟨f - 1, by omega⟩
  exact nz_n h h2
theorem ln_i {n : Nat} (h : n < 2 ^ 31) : 6 < ln_ n ↔ ¬ n < 387420489 := by
  have h7 : n < 27 ^ 7 := by omega
  constructor
  · intro q e
    have := ln_le e
    omega
  · intro q
    exact lnf_gt 7 n 6 h7 (by omega) (by omega)
theorem ln_7 (n : Nat) : ln_ n ≤ 7 := lnf_le 7 n
/-- how often a letter stands in a word, from either end -/
theorem oc_at {w x : Nat} (hw : w < 387420489) (hx : 0 < x) : qs_ (fun p => if at_ w p = x then 1 else 0) (ln_ w) = oc_ w x := by
  have h6 := ln_le hw
  have h1 : qs_ (fun p => if at_ w p = x then 1 else 0) (ln_ w) = qs_ (of_ w x) (ln_ w) := by
    rw [← qs_r (of_ w x) (ln_ w)]
    rfl
  rw [h1]
  have h2 : qs_ (of_ w x) 6 = qs_ (of_ w x) (ln_ w) := by
    refine qs_z h6 (fun k hk _ => ?_)
    unfold of_
    have h3 : w < 27 ^ ln_ w := lnf_lt 7 w (by omega)
    have h4 : 27 ^ ln_ w ≤ 27 ^ k := Nat.pow_le_pow_right (by omega) hk
    rw [Nat.div_eq_of_lt (by omega), if_neg (by omega)]
  rw [← h2]
  rfl
theorem mb_i {f : Nat → Nat} {i k : Nat} (h : k < 6) : mb_ f (6 * i + k) = b2_ ((f i).testBit k) := by
  unfold mb_ b2_
  rw [show (6 * i + k) / 6 = i by omega, show (6 * i + k) % 6 = k by omega]
theorem wq_1 {o w m k : Nat} (h : m.testBit k = true) : wq_ o w m (k + 1) = wq_ o w m k + vl_ o (at_ w k) := by
  have := wq_t (o := o) (w := w) (m := m) (p := k + 1) (by omega) h
  exact this
theorem wq_2 {o w m k : Nat} (h : m.testBit k = false) : wq_ o w m (k + 1) = wq_ o w m k := by
  have := wq_f (o := o) (w := w) (m := m) (p := k + 1) (by omega) h
  exact this
def wb_ (m p : Nat) : Nat := if m.testBit p then 1 else 0
theorem wb_1 {m k : Nat} (h : m.testBit k = true) : qs_ (wb_ m) (k + 1) = qs_ (wb_ m) k + 1 := qs_1 (f := wb_ m) (if_pos h)
theorem wb_2 {m k : Nat} (h : m.testBit k = false) : qs_ (wb_ m) (k + 1) = qs_ (wb_ m) k := qs_1 (f := wb_ m) (v := 0) (if_neg (by rw [h]; decide))
theorem on_li {c : St_} {a : Nat} (h : Iv_ c) (ha : a < 10 * sn c) : li_ (ss c (a / 10)) (nI (a % 10)) = on_ c a := by
  have := h.2.2.1 (a / 10)
  rw [li_i (by omega) (by omega)]
  unfold on_
  rw [decide_eq_true (show a / 10 < sn c by omega), Bool.true_and]
theorem pF_f {c : St_} {a : Nat} (h : on_ c a = false) : qs_ (pF_ c) (a + 1) = qs_ (pF_ c) a := qs_1 (f := pF_ c) (v := 0) (if_neg (by rw [h]; decide))
theorem eq_1 {c : St_} {a b : Nat} (h : on_ c b = true) (h2 : ws0 (so c) (sw c a) = ws0 (so c) (sw c b)) : qs_ (fun b => eq_ c a b) (b + 1) = qs_ (fun b => eq_ c a b) b + 1 := qs_1 (f := fun b => eq_ c a b) (by unfold eq_; rw [h, decide_eq_true h2]; rfl)
theorem eq_2 {c : St_} {a b : Nat} (h : on_ c b = false) : qs_ (fun b => eq_ c a b) (b + 1) = qs_ (fun b => eq_ c a b) b := qs_1 (f := fun b => eq_ c a b) (v := 0) (by unfold eq_; rw [h]; rfl)
theorem eq_3 {c : St_} {a b : Nat} (h2 : ¬ ws0 (so c) (sw c a) = ws0 (so c) (sw c b)) : qs_ (fun b => eq_ c a b) (b + 1) = qs_ (fun b => eq_ c a b) b := qs_1 (f := fun b => eq_ c a b) (v := 0) (by unfold eq_; rw [decide_eq_false h2, Bool.and_false]; rfl)
