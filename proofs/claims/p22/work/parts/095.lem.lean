theorem ii_n {j lo hi : Nat} (h1 : lo ≤ j) (h2 : j ≤ hi) (h3 : hi < 2 ^ 31) : ii_ (nI j) (nI lo) (nI hi) = true := by
  refine ii_3 ?_ ?_
  · rw [nI_ltI (by omega) (by omega)]; omega
  · rw [nI_ltI (by omega) (by omega)]; omega
theorem b2_u {b : Bool} (h : b2_ b = 0) : b = false := b2_0.mp h
theorem b2_w {b : Bool} (h : b = true) : ¬ b2_ b = 0 := by rw [h]; decide
theorem b2_v {b : Bool} (h : b = false) : b2_ b = 0 := by rw [h]; rfl
/-- the model's row of marks, when one word's mask changes -/
def cl_ (m k : Nat) : Nat := m / 2 ^ k * 2 ^ k
theorem cl_0 (m : Nat) : cl_ m 0 = m := by simp [cl_]
theorem cl_6 : ∀ m, m < 64 → cl_ m 6 = 0 := by decide +kernel
theorem cl_lt : ∀ m, m < 64 → ∀ k, k < 7 → cl_ m k < 64 := by decide +kernel
theorem cl_b : ∀ m, m < 64 → ∀ k, k < 6 → ∀ j, j < 6 → (cl_ m (k + 1)).testBit j = (if j = k then false else (cl_ m k).testBit j) := by decide +kernel
theorem xb_ : ∀ m, m < 64 → ∀ p, p < 6 → ∀ j, j < 6 → (m ^^^ 2 ^ p).testBit j = (if j = p then !m.testBit p else m.testBit j) := by decide +kernel
theorem st_kk (c : St_) (i a b : Nat) : st_k (st_k c i a) i b = st_k c i b := by
  unfold st_k
  have : up_ (up_ (sk c) i a) i b = up_ (sk c) i b := by
    funext j
    unfold up_
    by_cases e : j = i
    · rw [if_pos e, if_pos e]
    · rw [if_neg e, if_neg e, if_neg e]
  show (so c, sn c, ss c, sw c, up_ (up_ (sk c) i a) i b) = _
  rw [this]
theorem st_ks (c : St_) (i : Nat) : st_k c i (sk c i) = c := by
  have : up_ (sk c) i (sk c i) = sk c := by
    funext j
    unfold up_
    by_cases e : j = i
    · rw [if_pos e, e]
    · rw [if_neg e]
  unfold st_k
  rw [this]
  rfl
theorem mb_u {f : Nat → Nat} {i k b : Nat} {v : Int32} (hk : k < 6) (h : ∀ j, j < 6 → b2_ (b.testBit j) = if j = k then v else b2_ ((f i).testBit j)) : upd (mb_ f) (6 * i + k) v = mb_ (up_ f i b) := by
  funext q
  have hq : q = 6 * (q / 6) + q % 6 := by omega
  have h6 : q % 6 < 6 := Nat.mod_lt _ (by omega)
  unfold upd
  by_cases e : q / 6 = i
  · have h1 := h (q % 6) h6
    have h2 : mb_ (up_ f i b) q = b2_ (b.testBit (q % 6)) := by
      show b2_ ((up_ f i b (q / 6)).testBit (q % 6)) = _
      rw [e, up_s]
    rw [h2, h1]
    by_cases e2 : q % 6 = k
    · rw [if_pos (by omega), if_pos e2]
    · rw [if_neg (by omega), if_neg e2]
      show b2_ ((f (q / 6)).testBit (q % 6)) = _
      rw [e]
  · rw [if_neg (by omega)]
    show b2_ ((f (q / 6)).testBit (q % 6)) = b2_ ((up_ f i b (q / 6)).testBit (q % 6))
    rw [up_n e]
theorem mb_x {f : Nat → Nat} {i p : Nat} {v : Int32} (hp : p < 6) (hm : f i < 64) (hv : v = b2_ (!(f i).testBit p)) : upd (mb_ f) (6 * i + p) v = mb_ (up_ f i (f i ^^^ 2 ^ p)) := by
  refine mb_u hp (fun j hj => ?_)
  rw [xb_ _ hm p hp j hj, hv]
  by_cases e : j = p
  · rw [if_pos e, if_pos e]
  · rw [if_neg e, if_neg e]
theorem mb_c {f : Nat → Nat} {i k m : Nat} {v : Int32} (hk : k < 6) (hm : m < 64) (hf : f i = cl_ m k) (hv : v = 0) : upd (mb_ f) (6 * i + k) v = mb_ (up_ f i (cl_ m (k + 1))) := by
  refine mb_u hk (fun j hj => ?_)
  rw [cl_b m hm k hk j hj, hv, hf]
  by_cases e : j = k
  · rw [if_pos e, if_pos e]; rfl
  · rw [if_neg e, if_neg e]
theorem nr_1 {c : St_} {y : Int32} {k : Nat} (h : nr_ c y k = none) : nr_ c y (k + 1) = some k := by rw [nr_, h]
theorem nr_2 {c : St_} {y : Int32} {k b : Nat} (h : nr_ c y k = some b) (h2 : gp_ c y k < gp_ c y b) : nr_ c y (k + 1) = some k := by rw [nr_, h]; exact if_pos h2
theorem nr_3 {c : St_} {y : Int32} {k b : Nat} (h : nr_ c y k = some b) (h2 : ¬ gp_ c y k < gp_ c y b) : nr_ c y (k + 1) = some b := by rw [nr_, h]; exact if_neg h2
