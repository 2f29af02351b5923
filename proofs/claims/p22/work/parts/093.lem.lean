theorem iv_add {c : St_} {l v : Nat} (h : Iv_ c) (hs : ss c l < 10) (hv : v < 387420489) : Iv_ (st_add c l v) := by
  have h1 : Iv_ (st_w c (10 * l + ss c l) v) := iv_w h hv (ix_ h hs)
  have h2 : Iv_ (st_k (st_w c (10 * l + ss c l) v) (10 * l + ss c l) 0) := iv_k h1 (by omega) (fun l' w hw e => absurd e (ix_ h hs l' w hw))
  have h3 : Iv_ (st_s (st_k (st_w c (10 * l + ss c l) v) (10 * l + ss c l) 0) l (ss c l + 1)) := by
    refine iv_s h2 (by omega) (fun w hw => ?_)
    by_cases e : w = ss c l
    · subst e
      show up_ (sk c) (10 * l + ss c l) 0 (10 * l + ss c l) < _
      rw [up_s]
      exact Nat.pow_pos (by omega)
    · exact h2.2.2.2.2.2 l w (by show w < ss c l; omega)
  exact h3
theorem iv_mark {c : St_} {l w p : Nat} (h : Iv_ c) (hw : w < ss c l) (hp : p < ln_ (sw c (10 * l + w))) : Iv_ (st_k c (10 * l + w) (sk c (10 * l + w) ^^^ 2 ^ p)) := by
  have h6 := ln_le (h.2.2.2.1 (10 * l + w))
  have h10 := h.2.2.1 l
  refine iv_k h (xl_ _ (h.2.2.2.2.1 _) _ (by omega)) (fun l' w' hw' e => ?_)
  have h11 := h.2.2.1 l'
  have e1 : l' = l := by omega
  subst e1
  have e2 : w' = w := by omega
  subst e2
  exact Nat.xor_lt_two_pow (h.2.2.2.2.2 _ _ hw) (Nat.pow_lt_pow_right (by omega) hp)
theorem ws_le {o w : Nat} (ho : o < 3) (h : w < 387420489) : ws0 o w ≤ 5400 := by
  have h6 := ln_le h
  have h1 := qs_b (f := fun p => vl_ o (at_ w p)) (b := 900) (n := ln_ w) (fun k _ => vl_le o ho _ (at_lt _ _))
  unfold ws0
  omega
/-- pairs -/
def pF_ (c : St_) (a : Nat) : Nat := if on_ c a then qs_ (fun b => eq_ c a b) a else 0
def pV_ (c : St_) (v : Int32) (b : Nat) : Nat := if on_ c b && decide (nI (ws0 (so c) (sw c b)) = v) then 1 else 0
theorem on_i {c : St_} {k w : Nat} (hw : w < 10) : on_ c (10 * k + w) = (decide (k < sn c) && decide (w < ss c k)) := by
  unfold on_
  rw [show (10 * k + w) / 10 = k by omega, show (10 * k + w) % 10 = w by omega]
theorem on_t {c : St_} {k w : Nat} (hw : w < 10) (h1 : k < sn c) (h2 : w < ss c k) : on_ c (10 * k + w) = true := by
  rw [on_i hw, decide_eq_true h1, decide_eq_true h2]; rfl
theorem on_f {c : St_} {k w : Nat} (hw : w < 10) (h2 : ¬ w < ss c k) : on_ c (10 * k + w) = false := by
  rw [on_i hw, decide_eq_false h2, Bool.and_false]
theorem pF_e {c : St_} {k : Nat} (hz : ss c k ≤ 10) : qs_ (pF_ c) (10 * (k + 1)) = qs_ (pF_ c) (10 * k + ss c k) := by
  refine qs_z (by omega) (fun j h1 h2 => ?_)
  unfold pF_
  rw [show j = 10 * k + (j - 10 * k) by omega, on_f (by omega) (by omega)]
  rfl
theorem pV_e {c : St_} {k : Nat} {v : Int32} (hz : ss c k ≤ 10) : qs_ (pV_ c v) (10 * (k + 1)) = qs_ (pV_ c v) (10 * k + ss c k) := by
  refine qs_z (by omega) (fun j h1 h2 => ?_)
  unfold pV_
  rw [show j = 10 * k + (j - 10 * k) by omega, on_f (by omega) (by omega)]
  rfl
theorem pV_a {c : St_} (h : Iv_ c) (a n : Nat) : qs_ (pV_ c (nI (ws0 (so c) (sw c a)))) n = qs_ (fun b => eq_ c a b) n := by
  refine qs_c (fun b _ => ?_)
  unfold pV_ eq_
  have h1 := ws_le h.1 (h.2.2.2.1 a)
  have h2 := ws_le h.1 (h.2.2.2.1 b)
  by_cases e : ws0 (so c) (sw c a) = ws0 (so c) (sw c b)
  · rw [decide_eq_true e, decide_eq_true (show nI (ws0 (so c) (sw c b)) = nI (ws0 (so c) (sw c a)) by rw [e])]
  · rw [decide_eq_false e, decide_eq_false (fun q => e ((nI_eq (by omega) (by omega)).mp q).symm)]
theorem pF_t {c : St_} {a : Nat} (h : on_ c a = true) : qs_ (pF_ c) (a + 1) = qs_ (pF_ c) a + qs_ (fun b => eq_ c a b) a := qs_1 (f := pF_ c) (if_pos h)
/-- the worths seen so far, one more -/
theorem pw_n {c : St_} {a n : Nat} {f : Nat → Int32} (ho : on_ c a = true) (h : ∀ v : Int32, qs_ (fun j => if f j = v then 1 else 0) n = qs_ (pV_ c v) a) (v : Int32) : qs_ (fun j => if upd f n (nI (ws0 (so c) (sw c a))) j = v then 1 else 0) (n + 1) = qs_ (pV_ c v) (a + 1) := by
  rw [qs_s, qs_s, ← h v, qs_c (g := fun j => if f j = v then 1 else 0) (fun k hk => by
    have e : upd f n (nI (ws0 (so c) (sw c a))) k = f k := if_neg (by omega)
    simp only [e])]
  congr 1
  unfold pV_ upd
  rw [if_pos rfl, ho, Bool.true_and]
  by_cases e : nI (ws0 (so c) (sw c a)) = v
  · rw [if_pos e, decide_eq_true e]; rfl
  · rw [if_neg e, decide_eq_false e]; rfl
/-- spelling -/
theorem gs_in {o y : Nat} : ∀ n, (∃ k, 0 < k ∧ k ≤ n ∧ vl_ o k ≤ y ∧ fe_ o (y - vl_ o k) + 1 = fe_ o y) → 0 < gs_ o y n ∧ gs_ o y n ≤ n ∧ vl_ o (gs_ o y n) ≤ y ∧ fe_ o (y - vl_ o (gs_ o y n)) + 1 = fe_ o y
  | 0, ⟨k, h1, h2, _⟩ => by omega
  | n + 1, ⟨k, h1, h2, h3⟩ => by
    by_cases e : vl_ o (n + 1) ≤ y ∧ fe_ o (y - vl_ o (n + 1)) + 1 = fe_ o y
    · rw [gs_, if_pos e]; exact ⟨by omega, by omega, e.1, e.2⟩
    · rw [gs_, if_neg e]
      have h4 : k ≤ n := by
        by_cases e2 : k = n + 1
        · subst e2; exact absurd h3 e
        · omega
      have h5 := gs_in n ⟨k, h1, h4, h3⟩
      exact ⟨h5.1, by omega, h5.2.2⟩
theorem bs_in {o y : Nat} : ∀ n, bs_ o (fe_ o) y n < 9999 → ∃ k, 0 < k ∧ k ≤ n ∧ vl_ o k ≤ y ∧ fe_ o (y - vl_ o k) + 1 = bs_ o (fe_ o) y n
  | 0, h => by rw [bs_] at h; omega
  | n + 1, h => by
    by_cases e : vl_ o (n + 1) ≤ y
    · by_cases e2 : bs_ o (fe_ o) y n ≤ fe_ o (y - vl_ o (n + 1)) + 1
      · have h3 : bs_ o (fe_ o) y (n + 1) = bs_ o (fe_ o) y n := by rw [bs_, if_pos e]; exact Nat.min_eq_left e2
        rw [h3] at h ⊢
        obtain ⟨k, h4, h5, h6⟩ := bs_in n h
        exact ⟨k, h4, by omega, h6⟩
      · have h3 : bs_ o (fe_ o) y (n + 1) = fe_ o (y - vl_ o (n + 1)) + 1 := by rw [bs_, if_pos e]; exact Nat.min_eq_right (by omega)
        exact ⟨n + 1, by omega, by omega, e, h3.symm⟩
    · have h3 : bs_ o (fe_ o) y (n + 1) = bs_ o (fe_ o) y n := by rw [bs_, if_neg e]
      rw [h3] at h ⊢
      obtain ⟨k, h4, h5, h6⟩ := bs_in n h
      exact ⟨k, h4, by omega, h6⟩
theorem gf_in {o y : Nat} (ho : o < 3) (h0 : 0 < fe_ o y) (h : fe_ o y < 9999) : 0 < gf_ o y ∧ gf_ o y ≤ 26 ∧ vl_ o (gf_ o y) ≤ y ∧ fe_ o (y - vl_ o (gf_ o y)) + 1 = fe_ o y := by
  have hy : 0 < y := by
    by_cases e : y = 0
    · subst e; rw [fe_0] at h0; omega
    · omega
  have h2 := bs_in (o := o) (y := y) 26 (by rw [← fe_s ho hy]; exact h)
  rw [← fe_s ho hy] at h2
  exact gs_in 26 h2
/-- k letters on: what is left is spelled with k letters less -/
theorem sp_in {o y : Nat} (ho : o < 3) (h : fe_ o y < 9999) : ∀ k, k ≤ fe_ o y → fe_ o (sp_ o y k) + k = fe_ o y ∧ sp_ o y k ≤ y
  | 0, _ => ⟨rfl, Nat.le_refl _⟩
  | k + 1, hk => by
    obtain ⟨h1, h2⟩ := sp_in ho h k (by omega)
    obtain ⟨g1, g2, g3, g4⟩ := gf_in (o := o) (y := sp_ o y k) ho (by omega) (by omega)
    refine ⟨?_, ?_⟩
    · show fe_ o (sp_ o y k - vl_ o (gf_ o (sp_ o y k))) + (k + 1) = _
      omega
    · show sp_ o y k - vl_ o (gf_ o (sp_ o y k)) ≤ y
      omega
theorem to_n {c : St_} {q : Nat} (h : ¬ q = 0) (h2 : ¬ q = 6) : to_ c q = al_ c (q - 1) := by unfold to_; rw [if_neg h, if_neg h2]
theorem sl_c {o y p : Nat} (h9 : fe_ o y ≤ 9999) (hp : p < 2 ^ 31) : nI p < en_ (fe_ o y) ↔ fe_ o y < 9999 ∧ p < fe_ o y := by
  by_cases h : fe_ o y < 9999
  · rw [en_t h, nI_ltI hp (by omega)]
    exact ⟨fun q => ⟨h, q⟩, fun q => q.2⟩
  · rw [en_f h]
    constructor
    · intro q
      have h3 : nI p < 0 := Int32.lt_trans q (by decide)
      exact absurd h3 (nI_pos hp)
    · intro q; exact absurd q.1 h
theorem sl_0 {o y p : Nat} (h9 : fe_ o y ≤ 9999) (hp : p < 2 ^ 31) (h : ¬ nI p < en_ (fe_ o y)) : sl_ o y p = 0 := if_neg (fun q => h ((sl_c h9 hp).mpr q))
