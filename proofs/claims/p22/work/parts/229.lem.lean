section T2
variable {c : St_} {k p j : Nat}
theorem t2_0 : nI (qs_ (fun l => lt_ c l j) k) = if j < 0 then nI (qs_ (fun l => lt_ c l j) (k + 1)) else nI (qs_ (fun l => lt_ c l j) k) := by rw [if_neg (Nat.not_lt_zero j)]
theorem t2_r : (if p < p then nI (qs_ (fun l => lt_ c l p) (k + 1)) else nI (qs_ (fun l => lt_ c l p) k)) = nI (qs_ (fun l => lt_ c l p) k) := by rw [if_neg (Nat.lt_irrefl p)]
theorem t2_s : upd (fun j => if j < p then nI (qs_ (fun l => lt_ c l j) (k + 1)) else nI (qs_ (fun l => lt_ c l j) k)) p (nI (qs_ (fun l => lt_ c l p) k + lt_ c k p)) j = if j < p + 1 then nI (qs_ (fun l => lt_ c l j) (k + 1)) else nI (qs_ (fun l => lt_ c l j) k) := by
  unfold upd
  by_cases e : j = p
  · subst e
    rw [if_pos rfl, if_pos (by omega)]
    rfl
  · rw [if_neg e]
    show (if j < p then nI (qs_ (fun l => lt_ c l j) (k + 1)) else nI (qs_ (fun l => lt_ c l j) k)) = _
    by_cases q : j < p
    · rw [if_pos q, if_pos (by omega)]
    · rw [if_neg q, if_neg (by omega)]
theorem t2_e (h : j < p) : (if j < p then nI (qs_ (fun l => lt_ c l j) (k + 1)) else nI (qs_ (fun l => lt_ c l j) k)) = nI (qs_ (fun l => lt_ c l j) (k + 1)) := if_pos h
theorem po_t (h : j < 5) : nI (qs_ (fun l => lt_ c l j) (sn c)) = nI (to_ c (1 + j)) := by
  unfold to_
  rw [if_neg (by omega), if_neg (by omega), show 1 + j - 1 = j by omega]
  rfl
end T2
