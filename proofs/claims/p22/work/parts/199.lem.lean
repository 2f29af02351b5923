/-! ===== what the law's checks rest on ===== -/
theorem dv27 (r j : Nat) : r / 27 / 27 ^ j = r / 27 ^ (j + 1) := by rw [Nat.div_div_eq_div_mul, Nat.pow_succ, Nat.mul_comm]
theorem ws_s {o r : Nat} (h : 0 < r) (h2 : r < 387420489) : ws0 o r = ws0 o (r / 27) + vl_ o (r % 27) := by
  have hl := ln_s h h2
  show qs_ (fun p => vl_ o (at_ r p)) (ln_ r) = qs_ (fun p => vl_ o (at_ (r / 27) p)) (ln_ (r / 27)) + _
  rw [hl, qs_s]
  congr 1
  · refine qs_c (fun p hp => ?_)
    show vl_ o (at_ r p) = vl_ o (at_ (r / 27) p)
    unfold at_
    rw [dv27, hl, show ln_ (r / 27) - 1 - p + 1 = ln_ (r / 27) + 1 - 1 - p by omega]
  · show vl_ o (at_ r (ln_ (r / 27))) = _
    unfold at_
    rw [hl, show ln_ (r / 27) + 1 - 1 - ln_ (r / 27) = 0 by omega, Nat.pow_zero, Nat.div_one]
theorem ws_0 (o : Nat) : ws0 o 0 = 0 := by
  unfold ws0
  rw [ln_0]
  rfl
theorem nz_d : ∀ (f r : Nat), nz_ f r = true → ∀ j, j < lnf f r → r / 27 ^ j % 27 ≠ 0
  | 0, _, _, j, hj => absurd hj (Nat.not_lt_zero j)
  | f + 1, r, h, j, hj => by
    by_cases e : r = 0
    · subst e; rw [lnf_0] at hj; omega
    · rw [lnf_s e] at hj
      rw [nz_, if_neg e] at h
      by_cases e2 : r % 27 = 0
      · rw [if_pos e2] at h; cases h
      · rw [if_neg e2] at h
        cases j with
        | zero => rw [Nat.pow_zero, Nat.div_one]; exact e2
        | succ j =>
          rw [← dv27]
          exact nz_d f (r / 27) h j (by omega)
/-- no letter of it is 0 -/
def ND_ (r : Nat) : Prop := ∀ j, j < ln_ r → r / 27 ^ j % 27 ≠ 0
theorem ND_.of {w : Nat} (h : iw_ w = true) : ND_ w := by
  simp only [iw_, Bool.and_eq_true, decide_eq_true_eq] at h
  exact nz_d 7 w h.2
theorem ND_.s {r : Nat} (h : ND_ r) (h0 : 0 < r) (h2 : r < 387420489) : ND_ (r / 27) := fun j hj => by
  rw [dv27]
  exact h (j + 1) (by rw [ln_s h0 h2]; omega)
theorem ND_.d {r : Nat} (h : ND_ r) (h0 : 0 < r) (h2 : r < 387420489) : 1 ≤ r % 27 := by
  have := h 0 (by rw [ln_s h0 h2]; omega)
  rw [Nat.pow_zero, Nat.div_one] at this
  omega
theorem ND_.at_ {w p : Nat} (h : ND_ w) (hp : p < ln_ w) : 0 < at_ w p := by
  have := h (ln_ w - 1 - p) (by omega)
  unfold Jvm.Pilot.CAbjadPoemsLaw_law_r4269_013c4d.at_
  omega
theorem qs_m {f g : Nat → Nat} : ∀ {n : Nat}, (∀ k, k < n → f k ≤ g k) → qs_ f n ≤ qs_ g n
  | 0, _ => Nat.le_refl _
  | n + 1, h => by
    rw [qs_s, qs_s]
    exact Nat.add_le_add (qs_m (fun k hk => h k (by omega))) (h n (by omega))
theorem qs_e {f g : Nat → Nat} : ∀ {n : Nat}, (∀ k, k < n → f k ≤ g k) → qs_ f n = qs_ g n → ∀ k, k < n → f k = g k
  | 0, _, _, k, hk => absurd hk (Nat.not_lt_zero k)
  | n + 1, h, he, k, hk => by
    rw [qs_s, qs_s] at he
    have h1 : qs_ f n ≤ qs_ g n := qs_m (fun k hk => h k (by omega))
    have h2 := h n (by omega)
    by_cases e : k = n
    · subst e; omega
    · exact qs_e (f := f) (g := g) (n := n) (fun k hk => h k (by omega)) (by omega) k (by omega)
theorem qs_1s : ∀ n, qs_ (fun _ => 1) n = n
  | 0 => rfl
  | n + 1 => by rw [qs_s, qs_1s n]
theorem qs_0s : ∀ n, qs_ (fun _ => 0) n = 0
  | 0 => rfl
  | n + 1 => by rw [qs_s, qs_0s n]
theorem wc_b (w m : Nat) : wc_ w m ≤ ln_ w := by
  have := qs_m (f := fun p => if m.testBit p then 1 else 0) (g := fun _ => 1) (n := ln_ w) (fun k _ => by show (if _ then 1 else 0) ≤ 1; split <;> omega)
  rw [qs_1s] at this
  exact this
theorem wm_f (o w m k : Nat) : (if m.testBit k then vl_ o (at_ w k) else 0) ≤ vl_ o (at_ w k) := by split <;> omega
theorem wm_b (o w m : Nat) : wm_ o w m ≤ ws0 o w := qs_m (fun k _ => wm_f o w m k)
theorem wm_0 {o w m : Nat} (ho : o < 3) (h : ND_ w) : wm_ o w m = 0 ↔ wc_ w m = 0 := by
  have hp : ∀ k, k < ln_ w → 0 < vl_ o (at_ w k) := fun k hk => vl_pos o ho _ (at_lt w k) (h.at_ hk)
  constructor
  · intro e
    have h1 := qs_e (f := fun _ => 0) (g := fun p => if m.testBit p then vl_ o (at_ w p) else 0) (n := ln_ w) (fun _ _ => Nat.zero_le _) (by rw [qs_0s]; exact e.symm)
    show qs_ _ _ = 0
    refine (qs_c (g := fun _ => 0) (fun k hk => ?_)).trans (qs_0s (ln_ w))
    have h2 := h1 k hk
    have h3 := hp k hk
    show (if m.testBit k then 1 else 0) = 0
    by_cases q : m.testBit k = true
    · simp only [q, if_true] at h2; omega
    · rw [if_neg q]
  · intro e
    have h1 := qs_e (f := fun _ => 0) (g := fun p => if m.testBit p then 1 else 0) (n := ln_ w) (fun _ _ => Nat.zero_le _) (by rw [qs_0s]; exact e.symm)
    show qs_ _ _ = 0
    refine (qs_c (g := fun _ => 0) (fun k hk => ?_)).trans (qs_0s (ln_ w))
    have h2 := h1 k hk
    show (if m.testBit k then vl_ o (at_ w k) else 0) = 0
    by_cases q : m.testBit k = true
    · simp only [q, if_true] at h2; omega
    · rw [if_neg q]
theorem wm_1 {o w m : Nat} (ho : o < 3) (h : ND_ w) : wm_ o w m = ws0 o w ↔ wc_ w m = ln_ w := by
  have hp : ∀ k, k < ln_ w → 0 < vl_ o (at_ w k) := fun k hk => vl_pos o ho _ (at_lt w k) (h.at_ hk)
  constructor
  · intro e
    have h1 := qs_e (fun k _ => wm_f o w m k) e
    have : qs_ (fun p => if m.testBit p then 1 else 0) (ln_ w) = qs_ (fun _ => 1) (ln_ w) := qs_c (fun k hk => by
      have h2 := h1 k hk
      have h3 := hp k hk
      show (if m.testBit k then 1 else 0) = 1
      by_cases q : m.testBit k = true
      · rw [if_pos q]
      · rw [if_neg q] at h2; omega)
    rw [qs_1s] at this
    exact this
  · intro e
    have h1 := qs_e (f := fun p => if m.testBit p then 1 else 0) (g := fun _ => 1) (n := ln_ w) (fun k _ => by show (if _ then 1 else 0) ≤ 1; split <;> omega) (by rw [qs_1s]; exact e)
    refine qs_c (fun k hk => ?_)
    have h2 := h1 k hk
    show (if m.testBit k then vl_ o (at_ w k) else 0) = vl_ o (at_ w k)
    by_cases q : m.testBit k = true
    · rw [if_pos q]
    · have h2 : (if m.testBit k then 1 else 0) = 1 := h2
      rw [if_neg q] at h2; omega
theorem ws_p {o w : Nat} (ho : o < 3) (h : iw_ w = true) : 0 < ws0 o w := by
  have hn := ND_.of h
  have hl := iw_lt h
  simp only [iw_, Bool.and_eq_true, decide_eq_true_eq] at h
  rw [ws_s h.1.1 hl]
  have := vl_pos o ho (w % 27) (Nat.mod_lt _ (by omega)) (hn.d h.1.1 hl)
  omega
/-- runs of words -/
theorem rn_hi {c : St_} {l y : Nat} (hI : Iv_ c) (hp : ∀ w, w < ss c l → 0 < ws0 (so c) (sw c (10 * l + w))) (hy : y < 500) : ∀ (n w x : Nat), w + n ≤ ss c l → y ≤ x → x + 5400 * n < 2 ^ 31 → rn_ c l (nI y) n w x = -1
  | 0, _, _, _, _, _ => rfl
  | n + 1, w, x, h1, h2, h3 => by
    have a1 := hp w (by omega)
    have a2 := ws_le hI.1 (hI.2.2.2.1 (10 * l + w))
    rw [rn_, if_neg (by rw [nI_eq (by omega) (by omega)]; omega)]
    exact rn_hi hI hp hy n (w + 1) _ (by omega) (by omega) (by omega)
def RJ_ (c : St_) (l y i : Nat) (fi : Int32) (h0 j sm : Nat) (fi2 : Int32) (h2 : Nat) : Prop :=
  (fi2 = fi ∧ h2 = h0 ∧ rn_ c l (nI y) (ss c l - j) j sm = ru_ c l (nI y) i) ∨ (fi2 = nI (10 * i) + ru_ c l (nI y) i ∧ h2 = h0 + 1 ∧ ¬ ru_ c l (nI y) i = -1 ∧ y ≤ sm)
section RJ
variable {c : St_} {l y i h0 j sm h2 : Nat} {fi fi2 : Int32}
theorem RJ_0 : RJ_ c l y i fi h0 i 0 fi h0 := Or.inl ⟨rfl, rfl, rfl⟩
theorem RJ_m (hI : Iv_ c) (h : RJ_ c l y i fi h0 j sm fi2 h2) (hj : j < ss c l) (hs : sm < y) (e : sm + ws0 (so c) (sw c (10 * l + j)) = y) : RJ_ c l y i fi h0 (j + 1) (sm + ws0 (so c) (sw c (10 * l + j))) (nI (10 * i + j)) (h2 + 1) := by
  rcases h with ⟨rfl, rfl, h⟩ | ⟨-, -, -, h⟩
  · have h10 := hI.2.2.1 l
    have hr : ru_ c l (nI y) i = nI j := by rw [← h, rn_s hj, if_pos (by rw [e])]
    refine Or.inr ⟨by rw [hr, nI_add], rfl, ?_, by omega⟩
    rw [hr]
    intro q
    exact nI_pos (n := j) (by omega) (by rw [q]; decide)
  · omega
theorem RJ_n (hI : Iv_ c) (h : RJ_ c l y i fi h0 j sm fi2 h2) (hj : j < ss c l) (hs : sm < y) (hy : y < 500) (e : ¬ sm + ws0 (so c) (sw c (10 * l + j)) = y) : RJ_ c l y i fi h0 (j + 1) (sm + ws0 (so c) (sw c (10 * l + j))) fi2 h2 := by
  rcases h with ⟨rfl, rfl, h⟩ | ⟨-, -, -, h⟩
  · have a2 := ws_le hI.1 (hI.2.2.2.1 (10 * l + j))
    refine Or.inl ⟨rfl, rfl, ?_⟩
    rw [← h, rn_s hj, if_neg (by rw [nI_eq (by omega) (by omega)]; exact e)]
  · omega
theorem RJ_e (hI : Iv_ c) (hZ : IZ_ c) (hl : l < sn c) (h : RJ_ c l y i fi h0 j sm fi2 h2) (hy : y < 500) (hj : j ≤ ss c l) (hb : sm ≤ 5400 * j) (e : ss c l ≤ j ∨ y ≤ sm) : fi2 = (if ru_ c l (nI y) i = -1 then fi else nI (10 * i) + ru_ c l (nI y) i) ∧ h2 = h0 + hf_ c (nI y) l i := by
  rcases h with ⟨rfl, rfl, h⟩ | ⟨rfl, rfl, h, -⟩
  · have h10 := hI.2.2.1 l
    have hr : ru_ c l (nI y) i = -1 := by
      rw [← h]
      rcases e with e | e
      · rw [show ss c l - j = 0 by omega]; rfl
      · exact rn_hi hI (fun w hw => ws_p hI.1 (hZ.2 l w hl hw)) hy _ _ _ (by omega) e (by omega)
    unfold hf_
    rw [if_pos hr, if_pos hr]
    exact ⟨rfl, rfl⟩
  · unfold hf_
    rw [if_neg h, if_neg h]
    exact ⟨rfl, rfl⟩
end RJ
theorem hd_p {c : St_} {l p : Nat} {y fi fi2 : Int32} (hp : 0 < p) (hs : p ≤ ss c l) (h : fi = hd_ c l y (ss c l - p) p) (h2 : fi2 = if ru_ c l y (p - 1) = -1 then fi else nI (10 * (p - 1)) + ru_ c l y (p - 1)) : fi2 = hd_ c l y (ss c l - (p - 1)) (p - 1) := by
  rw [hd_s (by omega), h2, h, show p - 1 + 1 = p by omega]
theorem hf_p {c : St_} {l p h0 h2 a b : Nat} {y : Int32} (hp : 0 < p) (h : h0 + qs_ (hf_ c y l) p = a + b) (e : h2 = h0 + hf_ c y l (p - 1)) : h2 + qs_ (hf_ c y l) (p - 1) = a + b := by
  obtain ⟨q, rfl⟩ : ∃ q, p = q + 1 := ⟨p - 1, by omega⟩
  rw [qs_s] at h
  simp only [Nat.add_sub_cancel] at e ⊢
  omega
/-- the letter that lacks -/
theorem lk_r (c : St_) (l : Nat) (y : Int32) : ∀ (n k : Nat), (lk_ c l y n k = -1 ∧ ∀ i, k ≤ i → i < k + n → ¬ nI (lt_ c l 2 + vl_ (so c) i) = y) ∨ ∃ j, k ≤ j ∧ j < k + n ∧ lk_ c l y n k = nI j ∧ nI (lt_ c l 2 + vl_ (so c) j) = y ∧ ∀ i, k ≤ i → i < j → ¬ nI (lt_ c l 2 + vl_ (so c) i) = y
  | 0, k => Or.inl ⟨rfl, fun i h1 h2 => absurd h2 (by omega)⟩
  | n + 1, k => by
    rw [lk_]
    by_cases e : nI (lt_ c l 2 + vl_ (so c) k) = y
    · rw [if_pos e]
      exact Or.inr ⟨k, by omega, by omega, rfl, e, fun i h1 h2 => absurd h2 (by omega)⟩
    · rw [if_neg e]
      rcases lk_r c l y n (k + 1) with ⟨h1, h2⟩ | ⟨j, h1, h2, h3, h4, h5⟩
      · refine Or.inl ⟨h1, fun i a b => ?_⟩
        by_cases q : i = k
        · subst q; exact e
        · exact h2 i (by omega) (by omega)
      · refine Or.inr ⟨j, by omega, by omega, h3, h4, fun i a b => ?_⟩
        by_cases q : i = k
        · subst q; exact e
        · exact h5 i (by omega) b
theorem sub_eq {a b : Nat} {v : Int32} (h : nI (a + b) = v) : nI b = v - nI a := by
  rw [← h, ← nI_add, Int32.add_comm, Int32.add_sub_cancel]
theorem eq_sub {a b : Nat} {v : Int32} (h : nI b = v - nI a) : nI (a + b) = v := by
  rw [← nI_add, h, Int32.add_comm, Int32.sub_add_cancel]
theorem lk_y {c : St_} {l : Nat} {y : Int32} (h : ¬ lk_ c l y 26 1 < 0) : ∃ j, 1 ≤ j ∧ j ≤ 26 ∧ lk_ c l y 26 1 = nI j ∧ nI (vl_ (so c) j) = y - nI (lt_ c l 2) := by
  rcases lk_r c l y 26 1 with ⟨h1, -⟩ | ⟨j, h1, h2, h3, h4, -⟩
  · rw [h1] at h; exact absurd (by decide) h
  · exact ⟨j, h1, by omega, h3, sub_eq h4⟩
theorem lk_m {c : St_} {l z : Nat} {y : Int32} (hz : 1 ≤ z) (hz2 : z ≤ 26) (h : nI (vl_ (so c) z) = y - nI (lt_ c l 2)) : ∃ j, 1 ≤ j ∧ j ≤ z ∧ lk_ c l y 26 1 = nI j := by
  have h := eq_sub h
  rcases lk_r c l y 26 1 with ⟨-, h2⟩ | ⟨j, h1, h2, h3, h4, h5⟩
  · exact absurd h (h2 z hz (by omega))
  · refine ⟨j, h1, ?_, h3⟩
    by_cases q : j ≤ z
    · exact q
    · exact absurd h (h5 z hz (by omega))
/-- how far a line is from a year -/
def di_ (a y : Nat) : Nat := if a ≤ y then y - a else a - y
def ai_ (v : Int32) : Int32 := if 0 ≤ v then v else 0 - v
theorem ai_d {a y : Nat} (ha : a < 2 ^ 30) (hy : y < 2 ^ 30) : ai_ (nI y - nI a) = nI (di_ a y) := by
  unfold ai_ di_
  by_cases e : a ≤ y
  · rw [if_pos e, pk_sub e, if_pos (nI_pos' (by omega))]
  · have h1 : nI y - nI a < 0 := pk_sneg ha (by omega)
    rw [if_neg e, if_neg (fun q => absurd h1 (Int32.not_lt.mpr q)), ← pk_sub (show y ≤ a by omega), Int32.zero_sub, Int32.neg_sub]
theorem gp_d {c : St_} {l y : Nat} (ha : lt_ c l 2 < 2 ^ 30) (hy : y < 2 ^ 30) : gp_ c (nI y) l = lN (di_ (lt_ c l 2) y) := by
  unfold gp_ di_
  rw [nI_l (by omega), nI_l (by omega)]
  by_cases e : y < lt_ c l 2
  · rw [if_neg (show ¬ lt_ c l 2 ≤ y by omega), lN_sub (by omega), if_pos]
    have : (0 : Int64) = lN 0 := rfl
    rw [this, lN_lt (by omega) (by omega)]
    omega
  · rw [if_pos (show lt_ c l 2 ≤ y by omega)]
    by_cases e2 : lt_ c l 2 = y
    · rw [e2, Int64.sub_self, if_neg (by decide), Nat.sub_self]; rfl
    · rw [if_neg, Int64.neg_sub, lN_sub (by omega)]
      intro q
      have h1 : lN (lt_ c l 2) - lN y = -(lN (y - lt_ c l 2)) := by rw [← lN_sub (by omega), Int64.neg_sub]
      rw [h1] at q
      rw [Int64.lt_iff_toInt_lt, Int64.toInt_neg] at q
      have h2 : (lN (y - lt_ c l 2)).toInt = ((y - lt_ c l 2 : Nat) : Int) := lN_toInt (by omega)
      rw [h2] at q
      have h3 : (0 : Int64).toInt = 0 := rfl
      rw [h3] at q
      have h4 : (-((y - lt_ c l 2 : Nat) : Int)).bmod (2 ^ 64) = -((y - lt_ c l 2 : Nat) : Int) := Int.bmod_eq_of_le (by omega) (by omega)
      rw [h4] at q
      omega
theorem lt2_b {c : St_} (hI : Iv_ c) (l : Nat) : lt_ c l 2 ≤ 54000 := by
  have h1 : lt_ c l 2 ≤ ss c l * 5400 := qs_b (fun w _ => ws_le hI.1 (hI.2.2.2.1 (10 * l + w)))
  have := hI.2.2.1 l
  omega
theorem ab_g {c : St_} (hI : Iv_ c) {k b y : Nat} (hy : y < 500) : ai_ (nI y - nI (lt_ c b 2)) ≤ ai_ (nI y - nI (lt_ c k 2)) ↔ ¬ gp_ c (nI y) k < gp_ c (nI y) b := by
  have h1 := lt2_b hI k
  have h2 := lt2_b hI b
  have d1 : di_ (lt_ c k 2) y ≤ 54500 := by unfold di_; split <;> omega
  have d2 : di_ (lt_ c b 2) y ≤ 54500 := by unfold di_; split <;> omega
  rw [ai_d (by omega) (by omega), ai_d (by omega) (by omega), gp_d (by omega) (by omega), gp_d (by omega) (by omega), nI_leI (by omega) (by omega), lN_lt (by omega) (by omega)]
  omega
/-- pairs are no more than all pairs -/
def ob1_ (c : St_) (a : Nat) : Nat := if on_ c a then 1 else 0
theorem tri_n (n : Nat) : 2 * n + n * (n - 1) = (n + 1) * (n + 1 - 1) := by
  cases n with
  | zero => rfl
  | succ d =>
    show 2 * (d + 1) + (d + 1) * d = (d + 1 + 1) * (d + 1)
    have e1 : (d + 1 + 1) * (d + 1) = (d + 1) * (d + 1) + (d + 1) := Nat.succ_mul _ _
    have e2 : (d + 1) * (d + 1) = (d + 1) * d + (d + 1) := Nat.mul_succ _ _
    omega
theorem pr_1 (c : St_) : ∀ n, 2 * qs_ (pF_ c) n ≤ qs_ (ob1_ c) n * (qs_ (ob1_ c) n - 1)
  | 0 => Nat.le_refl _
  | n + 1 => by
    have ih := pr_1 c n
    rw [qs_s, qs_s]
    by_cases e : on_ c n = true
    · have h1 : pF_ c n = qs_ (fun b => eq_ c n b) n := if_pos e
      have h2 : ob1_ c n = 1 := if_pos e
      have h3 : qs_ (fun b => eq_ c n b) n ≤ qs_ (ob1_ c) n := qs_m (fun b _ => by
        unfold eq_ ob1_
        by_cases q : on_ c b = true
        · rw [if_pos q]; split <;> omega
        · rw [if_neg q, if_neg (by simp [q])]; omega)
      rw [h1, h2, ← tri_n]
      omega
    · have h1 : pF_ c n = 0 := if_neg e
      have h2 : ob1_ c n = 0 := if_neg e
      rw [h1, h2]
      omega
theorem ob_l {c : St_} (h10 : ∀ l, ss c l ≤ 10) : ∀ k, k ≤ sn c → qs_ (ob1_ c) (10 * k) = qs_ (fun l => ss c l) k
  | 0, _ => rfl
  | k + 1, hk => by
    have h := h10 k
    have a1 : ∀ w, w ≤ ss c k → qs_ (ob1_ c) (10 * k + w) = qs_ (ob1_ c) (10 * k) + w := by
      intro w
      induction w with
      | zero => intro _; rfl
      | succ w ih =>
        intro hw
        show qs_ (ob1_ c) (10 * k + w + 1) = _
        rw [qs_s, ih (by omega)]
        have : ob1_ c (10 * k + w) = 1 := if_pos (on_t (by omega) (by omega) (by omega))
        omega
    have a2 : qs_ (ob1_ c) (10 * (k + 1)) = qs_ (ob1_ c) (10 * k + ss c k) := qs_z (by omega) (fun j h1 h2 => by
      have e : j = 10 * k + (j - 10 * k) := by omega
      rw [e]
      exact if_neg (by rw [on_f (by omega) (by omega)]; decide))
    rw [a2, a1 _ (Nat.le_refl _), ob_l h10 k (by omega), qs_s]
theorem pr_b {c : St_} (hI : Iv_ c) : pr_ c ≤ al_ c 0 * (al_ c 0 - 1) / 2 := by
  have h1 := pr_1 c (10 * sn c)
  have h2 : qs_ (ob1_ c) (10 * sn c) = al_ c 0 := ob_l hI.2.2.1 (sn c) (Nat.le_refl _)
  rw [h2] at h1
  have h3 : pr_ c = qs_ (pF_ c) (10 * sn c) := rfl
  rw [h3]
  omega
theorem tri_i : ∀ a, a < 121 → nI a * (nI a - nI 1) / nI 2 = nI (a * (a - 1) / 2) := by decide +kernel
theorem tri_b {a : Nat} (h : a ≤ 120) : a * (a - 1) / 2 ≤ 7140 := by
  have h1 : a * (a - 1) ≤ 120 * 119 := Nat.mul_le_mul h (by omega)
  omega
