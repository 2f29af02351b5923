/-! ===== the numbers of a poem ===== -/
def qs_ (f : Nat → Nat) : Nat → Nat
  | 0 => 0
  | n + 1 => qs_ f n + f n
theorem qs_s (f : Nat → Nat) (n : Nat) : qs_ f (n + 1) = qs_ f n + f n := rfl
theorem qs_c {f g : Nat → Nat} : ∀ {n : Nat}, (∀ k, k < n → f k = g k) → qs_ f n = qs_ g n
  | 0, _ => rfl
  | n + 1, h => by rw [qs_s, qs_s, qs_c (fun k hk => h k (by omega)), h n (by omega)]
theorem qs_f (f : Nat → Nat) : ∀ n, qs_ f (n + 1) = f 0 + qs_ (fun k => f (k + 1)) n
  | 0 => by simp [qs_]
  | n + 1 => by rw [qs_s, qs_f f n, qs_s]; omega
theorem qs_r (f : Nat → Nat) : ∀ n, qs_ (fun k => f (n - 1 - k)) n = qs_ f n
  | 0 => rfl
  | n + 1 => by
    rw [qs_f, qs_s, qs_c (g := fun k => f (n - 1 - k)) (fun k hk => by show f (n + 1 - 1 - (k + 1)) = f (n - 1 - k); congr 1; omega), qs_r f n]
    show f (n + 1 - 1 - 0) + _ = _
    rw [show n + 1 - 1 - 0 = n by omega]; omega
theorem qs_z {f : Nat → Nat} {n : Nat} : ∀ {N : Nat}, n ≤ N → (∀ k, n ≤ k → k < N → f k = 0) → qs_ f N = qs_ f n
  | 0, h, _ => by rw [show n = 0 by omega]
  | N + 1, h, hz => by
    by_cases e : n = N + 1
    · rw [e]
    · rw [qs_s, qs_z (by omega) (fun k h1 h2 => hz k h1 (by omega)), hz N (by omega) (by omega)]; omega
theorem qs_b {f : Nat → Nat} {b : Nat} : ∀ {n : Nat}, (∀ k, k < n → f k ≤ b) → qs_ f n ≤ n * b
  | 0, _ => by simp [qs_]
  | n + 1, h => by
    rw [qs_s, Nat.succ_mul]
    exact Nat.add_le_add (qs_b (fun k hk => h k (by omega))) (h n (by omega))
/-- order, lines, sizes, words, marks (a word of a line at 10 * line + word) -/
abbrev St_ : Type := Nat × Nat × (Nat → Nat) × (Nat → Nat) × (Nat → Nat)
def so (c : St_) : Nat := c.1
def sn (c : St_) : Nat := c.2.1
def ss (c : St_) : Nat → Nat := c.2.2.1
def sw (c : St_) : Nat → Nat := c.2.2.2.1
def sk (c : St_) : Nat → Nat := c.2.2.2.2
def up_ (f : Nat → Nat) (k v : Nat) : Nat → Nat := fun j => if j = k then v else f j
theorem up_s {f : Nat → Nat} {k v : Nat} : up_ f k v k = v := by simp [up_]
theorem up_n {f : Nat → Nat} {k v j : Nat} (h : j ≠ k) : up_ f k v j = f j := by simp [up_, h]
def st_count (c : St_) (o : Nat) : St_ := (o, sn c, ss c, sw c, sk c)
def st_write (c : St_) : St_ := (so c, sn c + 1, ss c, sw c, sk c)
def st_add (c : St_) (l w : Nat) : St_ := (so c, sn c, up_ (ss c) l (ss c l + 1), up_ (sw c) (10 * l + ss c l) w, up_ (sk c) (10 * l + ss c l) 0)
def st_cut (c : St_) (l : Nat) : St_ := (so c, sn c, up_ (ss c) l (ss c l - 1), sw c, sk c)
def st_mark (c : St_) (i p : Nat) : St_ := (so c, sn c, ss c, sw c, up_ (sk c) i (sk c i ^^^ 2 ^ p))
/-- a letter's value -/
def vl_ (o k : Nat) : Nat := if o = 2 then k * k * 7 % 101 + 1 else if o = 1 then k else if k ≤ 9 then k else if k ≤ 18 then (k - 9) * 10 else (k - 18) * 100
/-- a word's letters -/
def lnf : Nat → Nat → Nat
  | 0, _ => 0
  | f + 1, w => if w = 0 then 0 else lnf f (w / 27) + 1
def ln_ (w : Nat) : Nat := lnf 7 w
theorem lnf_0 (f : Nat) : lnf f 0 = 0 := by cases f <;> simp [lnf]
theorem lnf_s {f w : Nat} (h : ¬ w = 0) : lnf (f + 1) w = lnf f (w / 27) + 1 := by rw [lnf, if_neg h]
theorem lnf_up : ∀ (f w : Nat), w < 27 ^ f → lnf (f + 1) w = lnf f w
  | 0, w, h => by
    have : w = 0 := by simpa using h
    subst this; rfl
  | f + 1, w, h => by
    by_cases e : w = 0
    · subst e; rw [lnf_0, lnf_0]
    · rw [lnf_s e, lnf_s (f := f) e, lnf_up f (w / 27) (by rw [Nat.pow_succ] at h; omega)]
theorem lnf_le : ∀ (f w : Nat), lnf f w ≤ f
  | 0, _ => Nat.le_refl _
  | f + 1, w => by
    rw [lnf]
    by_cases e : w = 0
    · simp [e]
    · rw [if_neg e]; have := lnf_le f (w / 27); omega
theorem ln_6 {w : Nat} (h : w < 387420489) : ln_ w = lnf 6 w := lnf_up 6 w (by simpa using h)
theorem ln_le {w : Nat} (h : w < 387420489) : ln_ w ≤ 6 := by rw [ln_6 h]; exact lnf_le 6 w
theorem lnf_lt : ∀ (f w : Nat), w < 27 ^ f → w < 27 ^ lnf f w
  | 0, w, h => h
  | f + 1, w, h => by
    rw [lnf]
    by_cases e : w = 0
    · simp [e]
    · rw [if_neg e, Nat.pow_succ]
      have := lnf_lt f (w / 27) (by rw [Nat.pow_succ] at h; omega)
      omega
theorem lnf_gt : ∀ (f w n : Nat), w < 27 ^ f → n ≤ f → 27 ^ n ≤ w → n < lnf f w
  | 0, w, n, h, hn, hw => by
    have : n = 0 := by omega
    subst this
    have : w = 0 := by simpa using h
    subst this; simp at hw
  | f + 1, w, 0, h, hn, hw => by
    rw [lnf, if_neg (by intro e; subst e; simp at hw)]; omega
  | f + 1, w, n + 1, h, hn, hw => by
    have h0 : w ≠ 0 := by intro e; subst e; have h27 : 0 < 27 ^ (n + 1) := Nat.pow_pos (by omega); omega
    rw [lnf, if_neg h0]
    have := lnf_gt f (w / 27) n (by rw [Nat.pow_succ] at h; omega) (by omega) (by rw [Nat.pow_succ] at hw; omega)
    omega
/-- the letter at a place, from the first one -/
def at_ (w p : Nat) : Nat := w / 27 ^ (ln_ w - 1 - p) % 27
theorem at_lt (w p : Nat) : at_ w p < 27 := Nat.mod_lt _ (by omega)
/-- a word's value; the value of its marked letters; how many they are -/
def ws0 (o w : Nat) : Nat := qs_ (fun p => vl_ o (at_ w p)) (ln_ w)
def wm_ (o w m : Nat) : Nat := qs_ (fun p => if m.testBit p then vl_ o (at_ w p) else 0) (ln_ w)
def wc_ (w m : Nat) : Nat := qs_ (fun p => if m.testBit p then 1 else 0) (ln_ w)
def wt_ (c : St_) (l w what : Nat) : Nat := if what = 0 then sw c (10 * l + w) else if what = 1 then ln_ (sw c (10 * l + w)) else if what = 2 then ws0 (so c) (sw c (10 * l + w)) else if what = 3 then wc_ (sw c (10 * l + w)) (sk c (10 * l + w)) else wm_ (so c) (sw c (10 * l + w)) (sk c (10 * l + w))
def lt_ (c : St_) (l what : Nat) : Nat := if what = 0 then ss c l else qs_ (fun w => wt_ c l w what) (ss c l)
def al_ (c : St_) (what : Nat) : Nat := qs_ (fun l => lt_ c l what) (sn c)
def on_ (c : St_) (i : Nat) : Bool := decide (i / 10 < sn c) && decide (i % 10 < ss c (i / 10))
def eq_ (c : St_) (a b : Nat) : Nat := if on_ c b && decide (ws0 (so c) (sw c a) = ws0 (so c) (sw c b)) then 1 else 0
def pr_ (c : St_) : Nat := qs_ (fun a => if on_ c a then qs_ (fun b => eq_ c a b) a else 0) (10 * sn c)
def to_ (c : St_) (what : Nat) : Nat := if what = 0 then sn c else if what = 6 then pr_ c else al_ c (what - 1)
/-- the last word of a run that comes to y, from w on with x so far, n words to go; -1 -/
def rn_ (c : St_) (l : Nat) (y : Int32) : Nat → Nat → Nat → Int32
  | 0, _, _ => -1
  | n + 1, w, x => if nI (x + ws0 (so c) (sw c (10 * l + w))) = y then nI w else rn_ c l y n (w + 1) (x + ws0 (so c) (sw c (10 * l + w)))
def ru_ (c : St_) (l : Nat) (y : Int32) (w : Nat) : Int32 := rn_ c l y (ss c l - w) w 0
def hd_ (c : St_) (l : Nat) (y : Int32) : Nat → Nat → Int32
  | 0, _ => -1
  | n + 1, w => if ru_ c l y w = -1 then hd_ c l y n (w + 1) else nI (10 * w) + ru_ c l y w
def hl_ (c : St_) (y : Int32) (l : Nat) : Nat := qs_ (fun w => if ru_ c l y w = -1 then 0 else 1) (ss c l)
def hs_ (c : St_) (y : Int32) : Nat := qs_ (fun l => hl_ c y l) (sn c)
def lk_ (c : St_) (l : Nat) (y : Int32) : Nat → Nat → Int32
  | 0, _ => -1
  | n + 1, k => if nI (lt_ c l 2 + vl_ (so c) k) = y then nI k else lk_ c l y n (k + 1)
def gp_ (c : St_) (y : Int32) (l : Nat) : Int64 := if 0 < (nI (lt_ c l 2)).toInt64 - y.toInt64 then (nI (lt_ c l 2)).toInt64 - y.toInt64 else -((nI (lt_ c l 2)).toInt64 - y.toInt64)
def nr_ (c : St_) (y : Int32) : Nat → Option Nat
  | 0 => none
  | n + 1 => match nr_ c y n with
    | none => some n
    | some b => if gp_ c y n < gp_ c y b then some n else some b
def ni_ (b : Option Nat) : Int32 := match b with
  | none => -1
  | some k => nI k
/-- the fewest letters for years -/
def bs_ (o : Nat) (t : Nat → Nat) (y : Nat) : Nat → Nat
  | 0 => 9999
  | n + 1 => if vl_ o (n + 1) ≤ y then Nat.min (bs_ o t y n) (t (y - vl_ o (n + 1)) + 1) else bs_ o t y n
def tb_ (o : Nat) : Nat → Nat → Nat
  | 0 => fun _ => 0
  | n + 1 => fun j => if j = n + 1 then bs_ o (tb_ o n) (n + 1) 26 else tb_ o n j
def fe_ (o y : Nat) : Nat := tb_ o y y
def en_ (g : Nat) : Int32 := if g < 9999 then nI g else -1
def gs_ (o y : Nat) : Nat → Nat
  | 0 => 0
  | n + 1 => if vl_ o (n + 1) ≤ y ∧ fe_ o (y - vl_ o (n + 1)) + 1 = fe_ o y then n + 1 else gs_ o y n
def gf_ (o y : Nat) : Nat := gs_ o y 26
def sp_ (o y : Nat) : Nat → Nat
  | 0 => y
  | k + 1 => sp_ o y k - vl_ o (gf_ o (sp_ o y k))
def sl_ (o y p : Nat) : Nat := if fe_ o y < 9999 ∧ p < fe_ o y then gf_ o (sp_ o y p) else 0
/-- the checksum -/
def df_ (f : Nat → Nat) : Nat → Int64 → Int64
  | 0, d => d
  | n + 1, d => df_ f n d * 31 + (nI (f n)).toInt64
def dw_ (c : St_) (l : Nat) : Nat → Int64 → Int64
  | 0, d => d
  | n + 1, d => df_ (fun what => wt_ c l n what) 5 (dw_ c l n d)
def dl_ (c : St_) : Nat → Int64 → Int64
  | 0, d => d
  | n + 1, d => dw_ c n (ss c n) (df_ (fun what => lt_ c n what) 5 (dl_ c n d))
def dg_ (c : St_) : Int64 := dl_ c (sn c) (df_ (fun what => to_ c what) 7 (40207 + (nI (so c)).toInt64))
/-- no letter is 0 -/
def nz_ : Nat → Nat → Bool
  | 0, _ => true
  | f + 1, n => if n = 0 then true else if n % 27 = 0 then false else nz_ f (n / 27)
def iw_ (n : Nat) : Bool := decide (0 < n) && decide (n < 387420489) && nz_ 7 n
def oc_ (w x : Nat) : Nat := qs_ (fun k => if w / 27 ^ k % 27 = x then 1 else 0) 6
/-- both have the letters k, k + 1 .. (n of them) as often -/
def ak_ (a b : Nat) : Nat → Nat → Bool
  | 0, _ => true
  | n + 1, k => decide (oc_ a k = oc_ b k) && ak_ a b n (k + 1)
/-- what always holds of a poem -/
def Iv_ (c : St_) : Prop := so c < 3 ∧ sn c ≤ 12 ∧ (∀ l, ss c l ≤ 10) ∧ (∀ i, sw c i < 387420489) ∧ (∀ i, sk c i < 64) ∧ ∀ l w, w < ss c l → sk c (10 * l + w) < 2 ^ ln_ (sw c (10 * l + w))
