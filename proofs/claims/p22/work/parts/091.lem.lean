theorem ak_e {a b n k : Nat} (h : oc_ a k = oc_ b k) : ak_ a b (n + 1) k = ak_ a b n (k + 1) := by rw [ak_, decide_eq_true h, Bool.true_and]
theorem ak_n {a b n k : Nat} (h : ¬ oc_ a k = oc_ b k) : ak_ a b (n + 1) k = false := by rw [ak_, decide_eq_false h, Bool.false_and]
theorem hd_s {c : St_} {l w : Nat} {y : Int32} (h : w < ss c l) : hd_ c l y (ss c l - w) w = if ru_ c l y w = -1 then hd_ c l y (ss c l - (w + 1)) (w + 1) else nI (10 * w) + ru_ c l y w := by
  obtain ⟨n, hn⟩ : ∃ n, ss c l - w = n + 1 := ⟨ss c l - w - 1, by omega⟩
  rw [hn, hd_, show ss c l - (w + 1) = n by omega]
theorem hd_e {c : St_} {l w : Nat} {y : Int32} (h : ¬ w < ss c l) : hd_ c l y (ss c l - w) w = -1 := by
  rw [show ss c l - w = 0 by omega]; rfl
def hf_ (c : St_) (y : Int32) (l w : Nat) : Nat := if ru_ c l y w = -1 then 0 else 1
theorem hf_t {c : St_} {y : Int32} {l w : Nat} (h : ru_ c l y w = -1) : qs_ (hf_ c y l) (w + 1) = qs_ (hf_ c y l) w := qs_1 (f := hf_ c y l) (v := 0) (if_pos h)
theorem hf_f {c : St_} {y : Int32} {l w : Nat} (h : ¬ ru_ c l y w = -1) : qs_ (hf_ c y l) (w + 1) = qs_ (hf_ c y l) w + 1 := qs_1 (f := hf_ c y l) (if_neg h)
theorem lk_s {c : St_} {l k : Nat} {y : Int32} (h : k < 27) : lk_ c l y (27 - k) k = if nI (lt_ c l 2 + vl_ (so c) k) = y then nI k else lk_ c l y (27 - (k + 1)) (k + 1) := by
  obtain ⟨n, hn⟩ : ∃ n, 27 - k = n + 1 := ⟨27 - k - 1, by omega⟩
  rw [hn, lk_, show 27 - (k + 1) = n by omega]
theorem lc_ (x y : Int64) : 0 ≤ lg_cmp x y ↔ ¬ x < y := by
  by_cases h1 : y < x
  · have e1 : lg_cmp x y = 1 := by simp [lg_cmp, h1]
    rw [e1]
    exact ⟨fun _ q => Int64.lt_irrefl (Int64.lt_trans h1 q), fun _ => by decide⟩
  · by_cases h2 : x = y
    · subst h2
      have e1 : lg_cmp x x = 0 := by simp [lg_cmp]
      rw [e1]
      exact ⟨fun _ => Int64.lt_irrefl, fun _ => by decide⟩
    · have e1 : lg_cmp x y = -1 := by simp [lg_cmp, h1, h2]
      rw [e1]
      refine ⟨fun q => absurd q (by decide), fun q => absurd ?_ q⟩
      exact Int64.lt_of_le_of_ne (Int64.not_lt.mp h1) h2
theorem nr_lt {c : St_} {y : Int32} : ∀ {n b : Nat}, nr_ c y n = some b → b < n
  | 0, b, h => by cases h
  | n + 1, b, h => by
    rw [nr_] at h
    cases e : nr_ c y n with
    | none => rw [e] at h; cases h; omega
    | some b' =>
      rw [e] at h
      simp only at h
      have := nr_lt e
      split at h
      · cases h; omega
      · cases h; omega
theorem ni_neg {b : Option Nat} (h : ∀ k, b = some k → k < 2 ^ 31) : ni_ b < 0 ↔ b = none := by
  cases b with
  | none => exact ⟨fun _ => rfl, fun _ => by decide⟩
  | some k => exact ⟨fun q => absurd q (nI_pos (h k rfl)), fun q => by cases q⟩
/-- the fewest letters -/
theorem bs_le (o : Nat) (t : Nat → Nat) (y : Nat) : ∀ n, bs_ o t y n ≤ 9999
  | 0 => Nat.le_refl _
  | n + 1 => by
    rw [bs_]
    have := bs_le o t y n
    split
    · exact Nat.le_trans (Nat.min_le_left _ _) this
    · exact this
theorem bs_c {o y : Nat} (ho : o < 3) {t u : Nat → Nat} (h : ∀ j, j < y → t j = u j) : ∀ {n}, n ≤ 26 → bs_ o t y n = bs_ o u y n
  | 0, _ => rfl
  | n + 1, hn => by
    have hv := vl_pos o ho (n + 1) (by omega) (by omega)
    rw [bs_, bs_, bs_c ho h (n := n) (by omega)]
    split
    · rw [h _ (by omega)]
    · rfl
theorem tb_s (o n j : Nat) : tb_ o (n + 1) j = if j = n + 1 then bs_ o (tb_ o n) (n + 1) 26 else tb_ o n j := rfl
theorem tb_fe (o : Nat) : ∀ n j, j ≤ n → tb_ o n j = fe_ o j
  | 0, j, h => by rw [show j = 0 by omega]; rfl
  | n + 1, j, h => by
    by_cases e : j = n + 1
    · rw [e]; rfl
    · rw [tb_s, if_neg e]; exact tb_fe o n j (by omega)
theorem fe_0 (o : Nat) : fe_ o 0 = 0 := rfl
theorem fe_s {o y : Nat} (ho : o < 3) (h : 0 < y) : fe_ o y = bs_ o (fe_ o) y 26 := by
  obtain ⟨n, rfl⟩ : ∃ n, y = n + 1 := ⟨y - 1, by omega⟩
  show tb_ o (n + 1) (n + 1) = _
  rw [tb_s, if_pos rfl]
  exact bs_c ho (fun j hj => tb_fe o n j (by omega)) (Nat.le_refl _)
theorem fe_le (o y : Nat) (ho : o < 3) : fe_ o y ≤ 9999 := by
  by_cases h : y = 0
  · subst h; rw [fe_0]; omega
  · rw [fe_s ho (by omega)]; exact bs_le _ _ _ _
theorem bs_b {o y : Nat} (ho : o < 3) (ih : ∀ j, j < y → fe_ o j < 9999 → fe_ o j ≤ j) : ∀ n, n ≤ 26 → bs_ o (fe_ o) y n < 9999 → bs_ o (fe_ o) y n ≤ y
  | 0, _, h => by rw [bs_] at h; omega
  | n + 1, hn, h => by
    have hv := vl_pos o ho (n + 1) (by omega) (by omega)
    have i2 := bs_b ho ih n (by omega)
    rw [bs_] at h ⊢
    split
    · rename_i hle
      rw [if_pos hle] at h
      have i3 := ih (y - vl_ o (n + 1)) (by omega)
      have e1 : Nat.min (bs_ o (fe_ o) y n) (fe_ o (y - vl_ o (n + 1)) + 1) = if bs_ o (fe_ o) y n ≤ fe_ o (y - vl_ o (n + 1)) + 1 then bs_ o (fe_ o) y n else fe_ o (y - vl_ o (n + 1)) + 1 := Nat.min_def
      rw [e1] at h ⊢
      split
      · rename_i q; rw [if_pos q] at h; exact i2 h
      · rename_i q; rw [if_neg q] at h; have := i3 (by omega); omega
    · rename_i hle
      rw [if_neg hle] at h
      exact i2 h
theorem fe_b {o : Nat} (ho : o < 3) : ∀ n y, y < n → fe_ o y < 9999 → fe_ o y ≤ y
  | 0, y, h, _ => by omega
  | n + 1, y, h, h2 => by
    by_cases e : y = 0
    · subst e; rw [fe_0]; omega
    · rw [fe_s ho (by omega)] at h2 ⊢
      exact bs_b ho (fun j hj => fe_b ho n j (by omega)) 26 (Nat.le_refl _) h2
theorem fe_y {o y : Nat} (ho : o < 3) (h : fe_ o y < 9999) : fe_ o y ≤ y := fe_b ho (y + 1) y (by omega) h
theorem en_neg {g : Nat} (h : g ≤ 9999) : en_ g < 0 ↔ ¬ g < 9999 := by
  unfold en_
  split
  · exact ⟨fun q => absurd q (nI_pos (by omega)), fun q => absurd ‹_› q⟩
  · exact ⟨fun _ => by assumption, fun _ => by decide⟩
theorem en_t {g : Nat} (h : g < 9999) : en_ g = nI g := if_pos h
theorem en_f {g : Nat} (h : ¬ g < 9999) : en_ g = -1 := if_neg h
/-- one letter more is looked at: how the best so far goes on -/
theorem bs_0 {o y k : Nat} (hk : 0 < k) (h : ¬ vl_ o k ≤ y) : bs_ o (fe_ o) y k = bs_ o (fe_ o) y (k - 1) := by
  obtain ⟨n, rfl⟩ : ∃ n, k = n + 1 := ⟨k - 1, by omega⟩
  rw [bs_, if_neg h]; rfl
theorem bs_1 {o y k : Nat} (hk : 0 < k) (h : vl_ o k ≤ y) (h2 : bs_ o (fe_ o) y (k - 1) ≤ fe_ o (y - vl_ o k) + 1) : bs_ o (fe_ o) y k = bs_ o (fe_ o) y (k - 1) := by
  obtain ⟨n, rfl⟩ : ∃ n, k = n + 1 := ⟨k - 1, by omega⟩
  rw [bs_, if_pos h]
  exact Nat.min_eq_left h2
theorem bs_2 {o y k : Nat} (hk : 0 < k) (h : vl_ o k ≤ y) (h2 : ¬ bs_ o (fe_ o) y (k - 1) ≤ fe_ o (y - vl_ o k) + 1) : bs_ o (fe_ o) y k = fe_ o (y - vl_ o k) + 1 := by
  obtain ⟨n, rfl⟩ : ∃ n, k = n + 1 := ⟨k - 1, by omega⟩
  rw [bs_, if_pos h]
  exact Nat.min_eq_right (by simp only [Nat.add_sub_cancel] at h2; omega)
theorem sb_lt {a b : Nat} (ha : a < 2 ^ 30) (hb : b < 2 ^ 30) : nI a - nI b < 0 ↔ a < b := by
  constructor
  · intro q
    by_cases h : a < b
    · exact h
    · rw [pk_sub (by omega)] at q
      exact absurd q (nI_pos (by omega))
  · intro q; exact pk_sneg hb q
theorem gs_t {o y k : Nat} (hk : 0 < k) (h : vl_ o k ≤ y ∧ fe_ o (y - vl_ o k) + 1 = fe_ o y) : gs_ o y k = k := by
  obtain ⟨n, rfl⟩ : ∃ n, k = n + 1 := ⟨k - 1, by omega⟩
  rw [gs_, if_pos h]
theorem gs_f {o y k : Nat} (hk : 0 < k) (h : ¬ (vl_ o k ≤ y ∧ fe_ o (y - vl_ o k) + 1 = fe_ o y)) : gs_ o y k = gs_ o y (k - 1) := by
  obtain ⟨n, rfl⟩ : ∃ n, k = n + 1 := ⟨k - 1, by omega⟩
  rw [gs_, if_neg h]; rfl
theorem en_eq {a b : Nat} (h0 : 0 < b) (hb : b < 9999) : en_ a = en_ b - nI 1 ↔ a + 1 = b := by
  rw [en_t hb, pk_sub (show 1 ≤ b by omega)]
  by_cases h : a < 9999
  · rw [en_t h, nI_eq (by omega) (by omega)]; omega
  · rw [en_f h]
    constructor
    · intro q
      have h3 : nI (b - 1) < 0 := by rw [← q]; decide
      exact absurd h3 (nI_pos (by omega))
    · intro q; omega
