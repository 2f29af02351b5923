/-! ===== plain facts ===== -/
theorem eq0_ {a : Nat} (h : a < 2 ^ 31) : nI a = 0 ↔ a = 0 := by rw [← nI_0]; exact nI_eq h (by omega)
theorem gt0_ {a : Nat} (h : a < 2 ^ 31) : 0 < nI a ↔ 0 < a := by rw [← nI_0]; exact nI_ltI (by omega) h
theorem nle0_ {a : Nat} (h : a < 2 ^ 31) : nI a ≤ 0 ↔ a = 0 := by
  rw [← nI_0, nI_leI h (by omega)]; omega
theorem le0_ {a : Nat} (h : a < 2 ^ 31) (q : ¬ 0 < nI a) : a = 0 := by rw [gt0_ h] at q; omega
def b2_ (b : Bool) : Int32 := if b then 1 else 0
theorem b2_t : b2_ true = 1 := rfl
theorem b2_f : b2_ false = 0 := rfl
theorem b2_0 {b : Bool} : b2_ b = 0 ↔ b = false := by cases b <;> decide
theorem b2_n {b : Bool} : narrow .boolean (.int (b2_ b)) = .int (b2_ b) := by cases b <;> rfl
theorem nI1 : nI 1 = 1 := rfl
theorem nI0 : nI 0 = 0 := rfl
/-- letters' values -/
theorem vl_pos : ∀ o, o < 3 → ∀ k, k < 27 → 0 < k → 0 < vl_ o k := by decide +kernel
theorem vl_le : ∀ o, o < 3 → ∀ k, k < 27 → vl_ o k ≤ 900 := by decide +kernel
theorem vA1 : ∀ o, o < 3 → ∀ k, k < 27 → o = 2 → k * k * 7 % 101 + 1 = vl_ o k := by decide +kernel
theorem vA2 : ∀ o, o < 3 → ∀ k, k < 27 → ¬ o = 2 → o = 1 → k = vl_ o k := by decide +kernel
theorem vA3 : ∀ o, o < 3 → ∀ k, k < 27 → ¬ o = 2 → ¬ o = 1 → k ≤ 9 → k = vl_ o k := by intro o _ k _ h1 h2 h3; unfold vl_; rw [if_neg h1, if_neg h2, if_pos h3]
theorem vA4 : ∀ o, o < 3 → ∀ k, k < 27 → ¬ o = 2 → ¬ o = 1 → ¬ k ≤ 9 → k ≤ 18 → (k - 9) * 10 = vl_ o k := by intro o _ k _ h1 h2 h3 h4; unfold vl_; rw [if_neg h1, if_neg h2, if_neg h3, if_pos h4]
theorem vA5 : ∀ o, o < 3 → ∀ k, k < 27 → ¬ o = 2 → ¬ o = 1 → ¬ k ≤ 9 → ¬ k ≤ 18 → (k - 18) * 100 = vl_ o k := by intro o _ k _ h1 h2 h3 h4; unfold vl_; rw [if_neg h1, if_neg h2, if_neg h3, if_neg h4]
theorem im_ : ∀ m, m < 64 → ∀ p, p < 6 → ((nI m >>> (nI p &&& 31)) &&& nI 1 = nI 1 ↔ m.testBit p = true) := by decide +kernel
theorem xm_ : ∀ m, m < 64 → ∀ p, p < 6 → (nI m ^^^ (nI 1 <<< (nI p &&& 31))) = nI (m ^^^ 2 ^ p) := by decide +kernel
theorem xl_ : ∀ m, m < 64 → ∀ p, p < 6 → m ^^^ 2 ^ p < 64 := by decide +kernel
theorem dv_ (w k : Nat) : w / 27 ^ k / 27 = w / 27 ^ (k + 1) := by rw [Nat.div_div_eq_div_mul, Nat.pow_succ]
theorem wm_63 {o w : Nat} (h : w < 387420489) : wm_ o w 63 = ws0 o w := by
  unfold wm_ ws0
  refine qs_c (fun k hk => ?_)
  have h6 := ln_le h
  have : ∀ p, p < 6 → (63 : Nat).testBit p = true := by decide
  rw [this k (by omega)]; rfl
theorem oc_b (w x : Nat) : oc_ w x ≤ 6 := by
  unfold oc_
  have := qs_b (f := fun k => if w / 27 ^ k % 27 = x then 1 else 0) (b := 1) (n := 6) (fun k _ => by show (if _ then 1 else 0) ≤ 1; split <;> omega)
  omega
theorem b2_ne {b : Bool} (h : ¬ b2_ b = 0) : b = true := by cases b with
  | false => exact absurd rfl h
  | true => rfl
theorem pm_ {p : Nat} (h : p < 2 ^ 31) : nI p - nI 1 < 0 ↔ p = 0 := by
  constructor
  · intro q
    by_cases e : p = 0
    · exact e
    · rw [pk_sub (show 1 ≤ p by omega)] at q
      exact absurd q (nI_pos (by omega))
  · intro e; subst e; decide
theorem im1_ (x : Int32) : x + Int32.ofInt (-1) = x - nI 1 := by
  rw [Int32.sub_eq_add_neg]; rfl
theorem im2_ {p : Nat} (h : 0 < p) : nI p + Int32.ofInt (-1) = nI (p - 1) := by
  rw [im1_, pk_sub h]
def wq_ (o w m n : Nat) : Nat := qs_ (fun p => if m.testBit p then vl_ o (at_ w p) else 0) n
theorem wq_t {o w m p : Nat} (h : 0 < p) (hb : m.testBit (p - 1) = true) : wq_ o w m p = wq_ o w m (p - 1) + vl_ o (at_ w (p - 1)) := by
  obtain ⟨q, rfl⟩ : ∃ q, p = q + 1 := ⟨p - 1, by omega⟩
  simp only [Nat.add_sub_cancel] at hb ⊢
  show qs_ _ (q + 1) = _
  rw [qs_s]
  simp only [hb, if_true]
  rfl
theorem wq_f {o w m p : Nat} (h : 0 < p) (hb : m.testBit (p - 1) = false) : wq_ o w m p = wq_ o w m (p - 1) := by
  obtain ⟨q, rfl⟩ : ∃ q, p = q + 1 := ⟨p - 1, by omega⟩
  simp only [Nat.add_sub_cancel] at hb ⊢
  show qs_ _ (q + 1) = _
  rw [qs_s]
  simp only [hb]
  rfl
theorem rn_s {c : St_} {l w x : Nat} {y : Int32} (h : w < ss c l) : rn_ c l y (ss c l - w) w x = if nI (x + ws0 (so c) (sw c (10 * l + w))) = y then nI w else rn_ c l y (ss c l - (w + 1)) (w + 1) (x + ws0 (so c) (sw c (10 * l + w))) := by
  obtain ⟨n, hn⟩ : ∃ n, ss c l - w = n + 1 := ⟨ss c l - w - 1, by omega⟩
  rw [hn, rn_, show ss c l - (w + 1) = n by omega]
theorem rn_e {c : St_} {l w x : Nat} {y : Int32} (h : ¬ w < ss c l) : rn_ c l y (ss c l - w) w x = -1 := by
  rw [show ss c l - w = 0 by omega]; rfl
theorem rn_r (c : St_) (l : Nat) (y : Int32) : ∀ (n w x : Nat), rn_ c l y n w x = -1 ∨ ∃ k, k < w + n ∧ rn_ c l y n w x = nI k
  | 0, _, _ => Or.inl rfl
  | n + 1, w, x => by
    rw [rn_]
    split
    · exact Or.inr ⟨w, by omega, rfl⟩
    · rcases rn_r c l y n (w + 1) _ with h | ⟨k, h1, h2⟩
      · exact Or.inl h
      · exact Or.inr ⟨k, by omega, h2⟩
theorem ru_r {c : St_} {l w : Nat} {y : Int32} (h : w < ss c l) : ru_ c l y w = -1 ∨ ∃ k, k < ss c l ∧ ru_ c l y w = nI k := by
  rcases rn_r c l y (ss c l - w) w 0 with h1 | ⟨k, h1, h2⟩
  · exact Or.inl h1
  · exact Or.inr ⟨k, by omega, h2⟩
theorem ru_i {c : St_} (hs : ∀ l, ss c l ≤ 10) {l w : Nat} {y : Int32} (h : w < ss c l) : ru_ c l y w < 0 ↔ ru_ c l y w = -1 := by
  rcases ru_r (y := y) h with h1 | ⟨k, h1, h2⟩
  · rw [h1]; decide
  · rw [h2]
    have := hs l
    constructor
    · intro q; exact absurd q (nI_pos (by omega))
    · intro q
      have h3 : nI k < 0 := by rw [q]; decide
      exact absurd h3 (nI_pos (by omega))
