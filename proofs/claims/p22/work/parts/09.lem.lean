/-! ===== facts for the readers' walks ===== -/
theorem qs_1 {f : Nat → Nat} {k v : Nat} (h : f k = v) : qs_ f (k + 1) = qs_ f k + v := by rw [qs_s, h]
def of_ (w x j : Nat) : Nat := if w / 27 ^ j % 27 = x then 1 else 0
theorem of_t {w x k : Nat} (h : w / 27 ^ k % 27 = x) : qs_ (of_ w x) (k + 1) = qs_ (of_ w x) k + 1 := qs_1 (f := of_ w x) (if_pos h)
theorem of_f {w x k : Nat} (h : ¬ w / 27 ^ k % 27 = x) : qs_ (of_ w x) (k + 1) = qs_ (of_ w x) k := qs_1 (f := of_ w x) (v := 0) (if_neg h)
theorem nz_0 (f : Nat) : nz_ f 0 = true := by cases f <;> simp [nz_]
theorem nz_n {f r : Nat} (h : ¬ r = 0) (h2 : r % 27 = 0) : nz_ (f + 1) r = false := by rw [nz_, if_neg h, if_pos h2]
theorem nz_y {f r : Nat} (h : ¬ r = 0) (h2 : ¬ r % 27 = 0) : nz_ (f + 1) r = nz_ f (r / 27) := by rw [nz_, if_neg h, if_neg h2]
theorem iw_b {n : Nat} (h : ¬ n < 387420489) : iw_ n = false := by simp [iw_, h]
theorem iw_y {n : Nat} (h0 : 0 < n) (h : n < 387420489) (h2 : nz_ 7 n = true) : iw_ n = true := by simp [iw_, h0, h, h2]
theorem iw_n {n : Nat} (h2 : nz_ 7 n = false) : iw_ n = false := by simp [iw_, h2]
theorem iw_lt {n : Nat} (h : iw_ n = true) : n < 387420489 := by
  simp only [iw_, Bool.and_eq_true, decide_eq_true_eq] at h
  exact h.1.2
theorem pw_ {k r : Nat} (h : k < 6) (h2 : r < 27 ^ (6 - k)) : r / 27 < 27 ^ (6 - (k + 1)) := by
  rw [show 6 - k = (6 - (k + 1)) + 1 by omega, Nat.pow_succ] at h2
  omega
def wd_ (w : Int32) : Bool := decide (0 < w) && iw_ w.toNatClampNeg
theorem wd_n {n : Nat} (h : n < 2 ^ 31) : wd_ (nI n) = iw_ n := by
  unfold wd_
  rw [nI_clamp h]
  by_cases e : n = 0
  · subst e; rfl
  · rw [decide_eq_true ((gt0_ h).mpr (by omega)), Bool.true_and]
theorem gt_i {w : Int32} (h : ¬ w ≤ 0) : 0 < w := Int32.not_le.mp h
theorem wd_0 {w : Int32} (h : w ≤ 0) : wd_ w = false := by
  unfold wd_
  rw [decide_eq_false (fun q => Int32.not_le.mpr q h), Bool.false_and]
theorem wd_of {w : Int32} (h : wd_ w = true) : ∃ n, n < 387420489 ∧ iw_ n = true ∧ w = nI n := by
  by_cases q : w ≤ 0
  · rw [wd_0 q] at h; cases h
  · obtain ⟨n, hn, rfl⟩ := nI_of (x := w) (fun z => q (Int32.le_of_lt z))
    rw [wd_n hn] at h
    exact ⟨n, iw_lt h, h, rfl⟩
theorem lt_n {c : St_} {l what : Nat} (h : ¬ what = 0) : lt_ c l what = qs_ (fun w => wt_ c l w what) (ss c l) := if_neg h
theorem wc_6 {w m : Nat} (h : w < 387420489) (h2 : m < 2 ^ ln_ w) : qs_ (fun p => if m.testBit p then 1 else 0) 6 = wc_ w m := by
  unfold wc_
  refine qs_z (ln_le h) (fun k h3 _ => ?_)
  rw [Nat.testBit_lt_two_pow (Nat.lt_of_lt_of_le h2 (Nat.pow_le_pow_right (by omega) h3))]
  rfl
