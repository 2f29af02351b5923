theorem up_o {f : Nat → Nat} {k j : Nat} : va_up (fun j => if j < k then some (f j) else none) k (some (f k)) j = if j < k + 1 then some (f j) else none := by
  unfold va_up
  by_cases e : j = k
  · subst e; rw [if_pos rfl, if_pos (by omega)]
  · rw [if_neg e]
    show (if j < k then some (f j) else none) = _
    by_cases q : j < k
    · rw [if_pos q, if_pos (by omega)]
    · rw [if_neg q, if_neg (by omega)]
theorem up_i {f : Nat → Int32} {k j : Nat} : upd (fun j => if j < k then f j else 0) k (f k) j = if j < k + 1 then f j else 0 := by
  unfold upd
  by_cases e : j = k
  · subst e; rw [if_pos rfl, if_pos (by omega)]
  · rw [if_neg e]
    show (if j < k then f j else 0) = _
    by_cases q : j < k
    · rw [if_pos q, if_pos (by omega)]
    · rw [if_neg q, if_neg (by omega)]
theorem up_e {f : Nat → Nat} {k n j e : Nat} (h : k = n) (hj : j ≤ n) : va_up (fun j => if j < k then some (f j) else none) n (some e) j = if j < n then some (f j) else some e := by
  subst h
  unfold va_up
  by_cases q : j = k
  · subst q; rw [if_pos rfl, if_neg (by omega)]
  · rw [if_neg q]
    show (if j < k then some (f j) else none) = _
    rw [if_pos (by omega), if_pos (by omega)]
theorem up_f {f : Nat → Int32} {k n j : Nat} {e : Int32} (h : k = n) (hj : j ≤ n) : upd (fun j => if j < k then f j else 0) n e j = if j < n then f j else e := by
  subst h
  unfold upd
  by_cases q : j = k
  · subst q; rw [if_pos rfl, if_neg (by omega)]
  · rw [if_neg q]
    show (if j < k then f j else 0) = _
    rw [if_pos (by omega), if_pos (by omega)]
