/-! ===== the mean; the sums of the poem by hand ===== -/
def mn_ (n t : Nat) : UInt64 := if n = 0 then FP.dconst0 else FP.ddiv (FP.i2d (nI t)) (FP.i2d (nI n))
theorem mn_0 {n t : Nat} (h : n = 0) : mn_ n t = FP.dconst0 := if_pos h
theorem mn_1 {n t : Nat} (h : ¬ n = 0) : mn_ n t = FP.ddiv (FP.i2d (nI t)) (FP.i2d (nI n)) := if_neg h
theorem nn_v {a : Int32} {n : Nat} (h : ¬ n = 0) (hn : n < 2 ^ 31) : FP.Core.val64 (FP.ddiv (FP.i2d a) (FP.i2d (nI n))) ≠ .nan := by
  have h1 : FP.Core.dIsNaN (FP.Core.ddiv (FP.Core.i2d a) (FP.Core.i2d (nI n))) = false := FP.Core.ddiv_out ((FP.Core.notNaN_iff _).mpr (FP.Core.i2d_fin a).ne_nan) (FP.Core.i2d_fin _) (fun q => FP.Core.i2d_ne_zero (nI_ne0 (by omega) hn) ((FP.Core.zero_bits2 _).mp q))
  exact (FP.Core.notNaN_iff _).mp h1
theorem nn_ {a : Int32} {n : Nat} (h : ¬ n = 0) (hn : n < 2 ^ 31) : vf_n64 (FP.ddiv (FP.i2d a) (FP.i2d (nI n))) := Jvm.Free.Fl.val64_no.mpr (nn_v h hn)
theorem mn_v {n t : Nat} (hn : n < 2 ^ 31) : FP.Core.val64 (mn_ n t) ≠ .nan := by
  by_cases h : n = 0
  · rw [mn_0 h]; decide +kernel
  · rw [mn_1 h]; exact nn_v h hn
theorem dc_ {n t : Nat} {y : UInt64} (hn : n < 2 ^ 31) (hy : y = mn_ n t) : Op.cmpValue (FP.dcmp (mn_ n t) y) CmpOp.l = nI 0 := by
  subst hy
  rw [show FP.dcmp (mn_ n t) (mn_ n t) = some .eq from FP.Core.dcmp_self (mn_v hn)]
  rfl
theorem al_b {c : St_} (h : Iv_ c) : al_ c 0 ≤ 120 := by
  have h1 : al_ c 0 ≤ sn c * 10 := qs_b (fun l _ => h.2.2.1 l)
  have := h.2.1
  omega
def t7_ (c : St_) (k p g j : Nat) : Int32 := if j = 0 then nI (sn c) else if j = 6 then nI g else if j < p then nI (qs_ (fun l => lt_ c l (j - 1)) (k + 1)) else nI (qs_ (fun l => lt_ c l (j - 1)) k)
section T7
variable {c : St_} {k p g g' j : Nat}
theorem t7_n (hj : j < 7) : t7_ c k 6 g j = t7_ c (k + 1) 1 g j := by
  unfold t7_
  by_cases e0 : j = 0
  · rw [if_pos e0, if_pos e0]
  · rw [if_neg e0, if_neg e0]
    by_cases e6 : j = 6
    · rw [if_pos e6, if_pos e6]
    · rw [if_neg e6, if_neg e6, if_pos (by omega), if_neg (by omega)]
theorem t7_r (hp : p < 5) : t7_ c k (p + 1) g (1 + p) = nI (qs_ (fun l => lt_ c l p) k) := by
  unfold t7_
  rw [if_neg (by omega), if_neg (by omega), if_neg (by omega), show 1 + p - 1 = p by omega]
theorem t7_s (hp : p < 5) (hj : j < 7) : upd (t7_ c k (p + 1) g) (1 + p) (nI (qs_ (fun l => lt_ c l p) k + lt_ c k p)) j = t7_ c k (p + 1 + 1) g j := by
  unfold upd
  by_cases e : j = 1 + p
  · subst e
    rw [if_pos rfl]
    unfold t7_
    rw [if_neg (by omega), if_neg (by omega), if_pos (by omega), show 1 + p - 1 = p by omega]
    rfl
  · rw [if_neg e]
    unfold t7_
    by_cases e0 : j = 0
    · rw [if_pos e0, if_pos e0]
    · rw [if_neg e0, if_neg e0]
      by_cases e6 : j = 6
      · rw [if_pos e6, if_pos e6]
      · rw [if_neg e6, if_neg e6]
        by_cases q : j < p + 1
        · rw [if_pos q, if_pos (by omega)]
        · rw [if_neg q, if_neg (by omega)]
theorem t7_6 : t7_ c k 6 g 6 = nI g := rfl
theorem t7_g (hj : j < 7) : upd (t7_ c k 6 g) 6 (nI g') j = t7_ c k 6 g' j := by
  unfold upd
  by_cases e : j = 6
  · subst e; rfl
  · rw [if_neg e]
    unfold t7_
    rw [if_neg e, if_neg e]
theorem t7_z (hj : j < 7) (hk : k = sn c) (hg : g = qs_ (pF_ c) (10 * k)) : t7_ c k 1 g j = nI (to_ c j) := by
  subst hk
  unfold t7_ to_
  by_cases e0 : j = 0
  · rw [if_pos e0, if_pos e0]
  · rw [if_neg e0, if_neg e0]
    by_cases e6 : j = 6
    · rw [if_pos e6, if_pos e6, hg]
      rfl
    · rw [if_neg e6, if_neg e6, if_neg (by omega)]
      rfl
end T7
