theorem vv_ {ov k a t : Nat} (ho : ov < 3) (hk : k < 27) (h1 : ¬ ov = 1) (h2 : ¬ ov = 2) (h9 : a ≤ 9) (h : (a = k ∧ t = 1) ∨ (a + 9 = k ∧ t = 10 ∧ 0 < a) ∨ (a + 18 = k ∧ t = 100 ∧ 0 < a)) : a * t = vl_ ov k := by
  unfold vl_
  rw [if_neg h2, if_neg h1]
  rcases h with ⟨rfl, rfl⟩ | ⟨e, rfl, hp⟩ | ⟨e, rfl, hp⟩
  · rw [if_pos h9, Nat.mul_one]
  · by_cases q : k ≤ 9
    · omega
    · rw [if_neg q, if_pos (by omega), show k - 9 = a by omega]
  · by_cases q : k ≤ 9
    · omega
    · by_cases q2 : k ≤ 18
      · omega
      · rw [if_neg q, if_neg q2, show k - 18 = a by omega]
theorem lt_up {w k j : Nat} {N : Nat} (hj : j < N) : upd (fun j => if j < k then (0 : Int32) else nI (at_ w j)) (k - 1) (nI (at_ w (k - 1))) j = if j < k - 1 then 0 else nI (at_ w j) := by
  unfold upd
  by_cases e : j = k - 1
  · subst e
    rw [if_pos rfl, if_neg (by omega)]
  · rw [if_neg e]
    show (if j < k then (0 : Int32) else nI (at_ w j)) = _
    by_cases q : j < k
    · rw [if_pos q, if_pos (by omega)]
    · rw [if_neg q, if_neg (by omega)]
