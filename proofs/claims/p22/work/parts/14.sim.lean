/-! ===== the law's own numbers ===== -/
theorem ln_s {r : Nat} (h : 0 < r) (h2 : r < 387420489) : ln_ r = ln_ (r / 27) + 1 := by
  have h3 : lnf 7 (r / 27) = lnf 6 (r / 27) := lnf_up 6 _ (by show r / 27 < 387420489; omega)
  have h4 : lnf 7 r = lnf 6 (r / 27) + 1 := lnf_s (by omega)
  show lnf 7 r = lnf 7 (r / 27) + 1
  rw [h4, h3]
theorem ln_0 : ln_ 0 = 0 := lnf_0 7
theorem and_neg (v : Int32) : ¬ (v &&& nI 2147483647) < 0 := by
  intro q
  rw [Int32.lt_iff_toInt_lt] at q
  have h1 : (v &&& nI 2147483647).toBitVec.msb = false := by
    rw [Int32.toBitVec_and, BitVec.msb_and, show (nI 2147483647).toBitVec.msb = false by decide, Bool.and_false]
  rw [BitVec.msb_eq_toInt, decide_eq_false_iff_not] at h1
  have h2 : (v &&& nI 2147483647).toInt = (v &&& nI 2147483647).toBitVec.toInt := rfl
  have h3 : (0 : Int32).toInt = 0 := rfl
  omega
/-- a number below n, chosen by v -/
def bj_ (v : Int32) : Nat := (v &&& nI 2147483647).toNatClampNeg
theorem bj_j (v : Int32) : bj_ v < 2 ^ 31 ∧ v &&& nI 2147483647 = nI (bj_ v) := by
  obtain ⟨j, hj, e⟩ := nI_of (and_neg v)
  have h : bj_ v = j := by
    unfold bj_
    rw [e, nI_clamp hj]
  rw [h]
  exact ⟨hj, e⟩
def bl_ (v : Int32) (n : Nat) : Nat := bj_ v % n
theorem bl_lt (v : Int32) {n : Nat} (h : 0 < n) : bl_ v n < n := Nat.mod_lt _ h
/-- the word that a number chooses -/
def gb_ (x : Int32) : Nat := if bl_ (x >>> (nI 7 &&& 31)) 2 = 0 then 26 else 9
def gd2_ (x : Int32) (k : Nat) : Nat := bl_ ((x >>> (nI (3 * k) &&& 31)) + nI (5 * k)) (gb_ x)
def gv_ (x : Int32) : Nat → Nat
  | 0 => 0
  | k + 1 => 27 * gv_ x k + 1 + gd2_ x k
def gn_ (x : Int32) : Nat := 1 + bl_ (x >>> (nI 8 &&& 31)) (if bl_ (x >>> (nI 6 &&& 31)) 2 = 0 then 6 else 2)
def gw_ (x : Int32) : Nat := gv_ x (gn_ x)
theorem gb_b (x : Int32) : 0 < gb_ x ∧ gb_ x ≤ 26 := by
  unfold gb_
  split <;> omega
theorem gd_b (x : Int32) (k : Nat) : gd2_ x k < 26 := by
  have h := gb_b x
  have := bl_lt ((x >>> (nI (3 * k) &&& 31)) + nI (5 * k)) h.1
  unfold gd2_
  omega
theorem gn_b (x : Int32) : 1 ≤ gn_ x ∧ gn_ x ≤ 6 := by
  unfold gn_
  split
  · have := bl_lt (x >>> (nI 8 &&& 31)) (show 0 < 6 by omega); omega
  · have := bl_lt (x >>> (nI 8 &&& 31)) (show 0 < 2 by omega); omega
theorem gv_lt (x : Int32) : ∀ k, gv_ x k < 27 ^ k
  | 0 => by show 0 < 1; omega
  | k + 1 => by
    have h1 := gv_lt x k
    have h2 := gd_b x k
    show 27 * gv_ x k + 1 + gd2_ x k < 27 ^ (k + 1)
    rw [Nat.pow_succ]
    omega
theorem gv_6 (x : Int32) {k : Nat} (h : k ≤ 6) : gv_ x k < 387420489 := by
  have h1 := gv_lt x k
  have h2 : 27 ^ k ≤ 27 ^ 6 := Nat.pow_le_pow_right (by omega) h
  have h3 : (27 : Nat) ^ 6 = 387420489 := by decide
  omega
theorem gv_nz (x : Int32) : ∀ k f, k ≤ f → nz_ f (gv_ x k) = true
  | 0, f, _ => nz_0 f
  | k + 1, 0, h => absurd h (by omega)
  | k + 1, f + 1, h => by
    have h2 := gd_b x k
    have e1 : gv_ x (k + 1) = 27 * gv_ x k + 1 + gd2_ x k := rfl
    rw [nz_y (by omega) (by omega), show gv_ x (k + 1) / 27 = gv_ x k by omega]
    exact gv_nz x k f (by omega)
theorem gw_lt (x : Int32) : gw_ x < 387420489 := gv_6 x (gn_b x).2
theorem gw_iw (x : Int32) : iw_ (gw_ x) = true := by
  have h := gn_b x
  refine iw_y ?_ (gw_lt x) (gv_nz x _ 7 (by omega))
  unfold gw_
  obtain ⟨k, hk⟩ : ∃ k, gn_ x = k + 1 := ⟨gn_ x - 1, by omega⟩
  rw [hk]
  show 0 < 27 * gv_ x k + 1 + gd2_ x k
  omega
/-! ===== the poem by hand, cell by cell ===== -/
def SJ_ (ct : Nat → Nat) (m : Pl_) (o : Nat) (c : St_) (lo mo : Nat) (la wa : Nat → Nat) (ba : Nat → Nat → Nat) : Prop :=
  OB_ m o (nI (so c)) (some lo) (some mo) ∧ AO_ ct 1 m lo (sn c) (fun i => some (la i)) ∧ AO_ ct 4 m mo (sn c) (fun i => some (wa i)) ∧
  (∀ i, i < sn c → AI_ ct m (la i) (ss c i) (fun w => nI (sw c (10 * i + w)))) ∧
  (∀ i, i < sn c → AO_ ct 3 m (wa i) (ss c i) (fun w => some (ba i w))) ∧
  (∀ i w, i < sn c → w < ss c i → AZ_ ct m (ba i w) (ln_ (sw c (10 * i + w))) (fun k => b2_ ((sk c (10 * i + w)).testBit k))) ∧
  ∀ i w i' w', i < sn c → w < ss c i → i' < sn c → w' < ss c i' → ba i w = ba i' w' → i = i' ∧ w = w'
def SI_ (ct : Nat → Nat) (m : Pl_) (o : Nat) (c : St_) : Prop := ∃ lo mo la wa ba, SJ_ ct m o c lo mo la wa ba
/-- the words of the poem are words; a line that isn't written has none -/
def IZ_ (c : St_) : Prop := (∀ l, sn c ≤ l → ss c l = 0) ∧ ∀ l w, l < sn c → w < ss c l → iw_ (sw c (10 * l + w)) = true
/-- the kinds of rows are apart -/
def CA_ (ct : Nat → Nat) : Prop := ct 0 ≠ ct 1 ∧ ct 0 ≠ ct 2 ∧ ct 0 ≠ ct 3 ∧ ct 0 ≠ ct 4 ∧ ct 1 ≠ ct 2 ∧ ct 1 ≠ ct 3 ∧ ct 1 ≠ ct 4 ∧ ct 2 ≠ ct 3 ∧ ct 2 ≠ ct 4 ∧ ct 3 ≠ ct 4
theorem arr_ap {U : State} {a b : ClassId} {t u : FieldType} (h1 : ArrOfT U a t) (h2 : ArrOfT U b u) (hne : t ≠ u) : a ≠ b := by
  intro e
  subst e
  obtain ⟨-, k, hk, comp, hkind⟩ := h1 0 (fun _ => .null)
  obtain ⟨-, k', hk', comp', hkind'⟩ := h2 0 (fun _ => .null)
  cases hk.symm.trans hk'
  rw [hkind] at hkind'
  cases hkind'
  exact hne rfl
theorem CA_of {g : va_G} {ct : Nat → Nat} {s : State} (h : va_K g vwCl (ty_ ct) s) : CA_ ct := by
  have a0 : ArrOfT s (ct 0) .int := (h.2 0 (ct 0, .int) rfl).1
  have a1 : ArrOfT s (ct 1) (.array .int) := (h.2 1 (ct 1, .array .int) rfl).1
  have a2 : ArrOfT s (ct 2) .boolean := (h.2 2 (ct 2, .boolean) rfl).1
  have a3 : ArrOfT s (ct 3) (.array .boolean) := (h.2 3 (ct 3, .array .boolean) rfl).1
  have a4 : ArrOfT s (ct 4) (.array (.array .boolean)) := (h.2 4 (ct 4, .array (.array .boolean)) rfl).1
  exact ⟨arr_ap a0 a1 (by decide), arr_ap a0 a2 (by decide), arr_ap a0 a3 (by decide), arr_ap a0 a4 (by decide), arr_ap a1 a2 (by decide), arr_ap a1 a3 (by decide), arr_ap a1 a4 (by decide), arr_ap a2 a3 (by decide), arr_ap a2 a4 (by decide), arr_ap a3 a4 (by decide)⟩
section NE
variable {ct : Nat → Nat} {m : Pl_} {a b n k t u : Nat} {P : Nat → Int32} {P' : Nat → Int32} {O : Nat → Option Nat} {O' : Nat → Option Nat} {z : Int32} {lo mo : Option Nat}
theorem ne_IB (h1 : AI_ ct m a n P) (h2 : OB_ m b z lo mo) : a ≠ b := by
  intro e; subst e; obtain ⟨-, f, h3, -⟩ := h1; rw [h2.2] at h3; cases h3
theorem ne_ZB (h1 : AZ_ ct m a n P) (h2 : OB_ m b z lo mo) : a ≠ b := by
  intro e; subst e; obtain ⟨-, f, h3, -⟩ := h1; rw [h2.2] at h3; cases h3
theorem ne_OB (h1 : AO_ ct t m a n O) (h2 : OB_ m b z lo mo) : a ≠ b := by
  intro e; subst e; obtain ⟨-, f, h3, -⟩ := h1; rw [h2.2] at h3; cases h3
theorem ne_IO (h1 : AI_ ct m a n P) (h2 : AO_ ct t m b k O) (h : ct 0 ≠ ct t) : a ≠ b := by
  intro e; subst e; obtain ⟨-, f, h3, -⟩ := h1; obtain ⟨-, f', h4, -⟩ := h2; rw [h3] at h4
  exact h (congrArg (fun e : va_E => match e with | .inl q => q.1 | .inr _ => 0) h4)
theorem ne_ZO (h1 : AZ_ ct m a n P) (h2 : AO_ ct t m b k O) (h : ct 2 ≠ ct t) : a ≠ b := by
  intro e; subst e; obtain ⟨-, f, h3, -⟩ := h1; obtain ⟨-, f', h4, -⟩ := h2; rw [h3] at h4
  exact h (congrArg (fun e : va_E => match e with | .inl q => q.1 | .inr _ => 0) h4)
theorem ne_IZ (h1 : AI_ ct m a n P) (h2 : AZ_ ct m b k P') (h : ct 0 ≠ ct 2) : a ≠ b := by
  intro e; subst e; obtain ⟨-, f, h3, -⟩ := h1; obtain ⟨-, f', h4, -⟩ := h2; rw [h3] at h4
  exact h (congrArg (fun e : va_E => match e with | .inl q => q.1 | .inr _ => 0) h4)
theorem ne_OO (h1 : AO_ ct t m a n O) (h2 : AO_ ct u m b k O') (h : ct t ≠ ct u) : a ≠ b := by
  intro e; subst e; obtain ⟨-, f, h3, -⟩ := h1; obtain ⟨-, f', h4, -⟩ := h2; rw [h3] at h4
  exact h (congrArg (fun e : va_E => match e with | .inl q => q.1 | .inr _ => 0) h4)
end NE
section SIL
variable {ct : Nat → Nat} {m m1 m2 : Pl_} {o : Nat} {c : St_} {lo mo : Nat} {la wa : Nat → Nat} {ba : Nat → Nat → Nat}
theorem SI_.ex (h : SI_ ct m o c) (hx : Ex_ m m1) : SI_ ct m1 o c := by
  obtain ⟨lo, mo, la, wa, ba, h1, h2, h3, h4, h5, h6, h7⟩ := h
  exact ⟨lo, mo, la, wa, ba, h1.ex hx, h2.ex hx, h3.ex hx, fun i hi => (h4 i hi).ex hx, fun i hi => (h5 i hi).ex hx, fun i w hi hw => (h6 i w hi hw).ex hx, h7⟩
/-- another order -/
theorem SI_.count (h : SI_ ct m o c) (hx : PU_ m o m1) {k : Nat} (hn : ∀ lo mo, OB_ m o (nI (so c)) lo mo → OB_ m1 o (nI k) lo mo) : SI_ ct m1 o (st_count c k) := by
  obtain ⟨lo, mo, la, wa, ba, h1, h2, h3, h4, h5, h6, h7⟩ := h
  exact ⟨lo, mo, la, wa, ba, hn _ _ h1, h2.pu hx (ne_OB h2 h1), h3.pu hx (ne_OB h3 h1), fun i hi => (h4 i hi).pu hx (ne_IB (h4 i hi) h1), fun i hi => (h5 i hi).pu hx (ne_OB (h5 i hi) h1), fun i w hi hw => (h6 i w hi hw).pu hx (ne_ZB (h6 i w hi hw) h1), h7⟩
end SIL
