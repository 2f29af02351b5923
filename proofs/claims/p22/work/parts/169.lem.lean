/-- five numbers in a row -/
def t5_ (a b c d e : Nat) (j : Nat) : Int32 := if j = 0 then nI a else if j = 1 then nI b else if j = 2 then nI c else if j = 3 then nI d else nI e
theorem t5_w {c : St_} {l w d e j : Nat} (hj : j < 5) (hd : d = wc_ (sw c (10 * l + w)) (sk c (10 * l + w))) (he : e = wm_ (so c) (sw c (10 * l + w)) (sk c (10 * l + w))) : t5_ (sw c (10 * l + w)) (ln_ (sw c (10 * l + w))) (ws0 (so c) (sw c (10 * l + w))) d e j = nI (wt_ c l w j) := by
  subst hd
  subst he
  rcases (show j = 0 ∨ j = 1 ∨ j = 2 ∨ j = 3 ∨ j = 4 by omega) with rfl | rfl | rfl | rfl | rfl <;> rfl
section L5
variable {c : St_} {l k p j : Nat}
theorem l5_a : (if j = 0 then nI (ss c l) else nI (qs_ (fun w => wt_ c l w j) k)) = if j = 0 then nI (ss c l) else if j < 1 then nI (qs_ (fun w => wt_ c l w j) (k + 1)) else nI (qs_ (fun w => wt_ c l w j) k) := by
  by_cases e : j = 0
  · rw [if_pos e, if_pos e]
  · rw [if_neg e, if_neg e, if_neg (by omega)]
theorem l5_e (hj : j < 5) (hp : 5 ≤ p) : (if j = 0 then nI (ss c l) else if j < p then nI (qs_ (fun w => wt_ c l w j) (k + 1)) else nI (qs_ (fun w => wt_ c l w j) k)) = if j = 0 then nI (ss c l) else nI (qs_ (fun w => wt_ c l w j) (k + 1)) := by
  by_cases e : j = 0
  · rw [if_pos e, if_pos e]
  · rw [if_neg e, if_neg e, if_pos (by omega)]
theorem l5_z (hk : k = ss c l) : (if j = 0 then nI (ss c l) else nI (qs_ (fun w => wt_ c l w j) k)) = nI (lt_ c l j) := by
  subst hk
  unfold lt_
  by_cases e : j = 0
  · rw [if_pos e, if_pos e]
  · rw [if_neg e, if_neg e]
theorem l5_r (hp : 1 ≤ p) : (if p = 0 then nI (ss c l) else if p < p then nI (qs_ (fun w => wt_ c l w p) (k + 1)) else nI (qs_ (fun w => wt_ c l w p) k)) = nI (qs_ (fun w => wt_ c l w p) k) := by
  rw [if_neg (by omega), if_neg (by omega)]
theorem l5_s (hp : 1 ≤ p) : upd (fun j => if j = 0 then nI (ss c l) else if j < p then nI (qs_ (fun w => wt_ c l w j) (k + 1)) else nI (qs_ (fun w => wt_ c l w j) k)) p (nI (qs_ (fun w => wt_ c l w p) k + wt_ c l k p)) j = if j = 0 then nI (ss c l) else if j < p + 1 then nI (qs_ (fun w => wt_ c l w j) (k + 1)) else nI (qs_ (fun w => wt_ c l w j) k) := by
  unfold upd
  by_cases e : j = p
  · subst e
    rw [if_pos rfl, if_neg (by omega), if_pos (by omega)]
    rfl
  · rw [if_neg e]
    show (if j = 0 then nI (ss c l) else if j < p then nI (qs_ (fun w => wt_ c l w j) (k + 1)) else nI (qs_ (fun w => wt_ c l w j) k)) = _
    by_cases e0 : j = 0
    · rw [if_pos e0, if_pos e0]
    · rw [if_neg e0, if_neg e0]
      by_cases q : j < p
      · rw [if_pos q, if_pos (by omega)]
      · rw [if_neg q, if_neg (by omega)]
end L5
