section SIM
variable {ct : Nat → Nat} {m ms m1 m2 : Pl_} {o : Nat} {c : St_} {lo mo : Nat} {la wa : Nat → Nat} {ba : Nat → Nat → Nat}
theorem AI_.pu2 {a n b d : Nat} {P : Nat → Int32} (h : AI_ ct ms a n P) (hp : PU_ ms b m1) (hp2 : PU_ m1 d m2) (h1 : a ≠ b) (h2 : a ≠ d) : AI_ ct m2 a n P := (h.pu hp h1).pu hp2 h2
theorem AZ_.pu2 {a n b d : Nat} {P : Nat → Int32} (h : AZ_ ct ms a n P) (hp : PU_ ms b m1) (hp2 : PU_ m1 d m2) (h1 : a ≠ b) (h2 : a ≠ d) : AZ_ ct m2 a n P := (h.pu hp h1).pu hp2 h2
theorem AO_.pu2 {t a n b d : Nat} {P : Nat → Option Nat} (h : AO_ ct t ms a n P) (hp : PU_ ms b m1) (hp2 : PU_ m1 d m2) (h1 : a ≠ b) (h2 : a ≠ d) : AO_ ct t m2 a n P := (h.pu hp h1).pu hp2 h2
theorem SJ_.ex (h : SJ_ ct m o c lo mo la wa ba) (hx : Ex_ m ms) : SJ_ ct ms o c lo mo la wa ba := by
  obtain ⟨h1, h2, h3, h4, h5, h6, h7⟩ := h
  exact ⟨h1.ex hx, h2.ex hx, h3.ex hx, fun i hi => (h4 i hi).ex hx, fun i hi => (h5 i hi).ex hx, fun i w hi hw => (h6 i w hi hw).ex hx, h7⟩
/-- a line more -/
theorem SJ_.write (h : SJ_ ct m o c lo mo la wa ba) (hx : Ex_ m ms) (hz : ss c (sn c) = 0) {A Wt e1 e2 : Nat} {P1 : Nat → Int32} {P2 : Nat → Option Nat} (hA : AO_ ct 1 ms A (sn c + 1) (fun k => if k < sn c then some (la k) else some e1)) (hW : AO_ ct 4 ms Wt (sn c + 1) (fun k => if k < sn c then some (wa k) else some e2)) (g1 : AI_ ct ms e1 0 P1) (g2 : AO_ ct 3 ms e2 0 P2) (hp : PU_ ms o m1) (hp2 : PU_ m1 o m2) (hO : OB_ m2 o (nI (so c)) (some A) (some Wt)) : SI_ ct m2 o (st_write c) := by
  obtain ⟨h1, h2, h3, h4, h5, h6, h7⟩ := h.ex hx
  refine ⟨A, Wt, fun i => if i < sn c then la i else e1, fun i => if i < sn c then wa i else e2, ba, hO, ?_, ?_, ?_, ?_, ?_, ?_⟩
  · refine (hA.pu2 hp hp2 (ne_OB hA h1) (ne_OB hA h1)).to (fun k _ => by by_cases q : k < sn c <;> simp [q])
  · refine (hW.pu2 hp hp2 (ne_OB hW h1) (ne_OB hW h1)).to (fun k _ => by by_cases q : k < sn c <;> simp [q])
  · intro i hi
    have hi : i < sn c + 1 := hi
    show AI_ ct m2 (if i < sn c then la i else e1) (ss c i) (fun w => nI (sw c (10 * i + w)))
    by_cases e : i < sn c
    · rw [if_pos e]
      exact (h4 i e).pu2 hp hp2 (ne_IB (h4 i e) h1) (ne_IB (h4 i e) h1)
    · have e2 : i = sn c := by omega
      subst e2
      rw [if_neg e, hz]
      exact (g1.pu2 hp hp2 (ne_IB g1 h1) (ne_IB g1 h1)).to (fun k hk => absurd hk (by omega))
  · intro i hi
    have hi : i < sn c + 1 := hi
    show AO_ ct 3 m2 (if i < sn c then wa i else e2) (ss c i) (fun w => some (ba i w))
    by_cases e : i < sn c
    · rw [if_pos e]
      exact (h5 i e).pu2 hp hp2 (ne_OB (h5 i e) h1) (ne_OB (h5 i e) h1)
    · have e2 : i = sn c := by omega
      subst e2
      rw [if_neg e, hz]
      exact (g2.pu2 hp hp2 (ne_OB g2 h1) (ne_OB g2 h1)).to (fun k hk => absurd hk (by omega))
  · intro i w hi hw
    have hi : i < sn c + 1 := hi
    have hw : w < ss c i := hw
    have e : i < sn c := by
      by_cases q : i = sn c
      · subst q; omega
      · omega
    exact (h6 i w e hw).pu2 hp hp2 (ne_ZB (h6 i w e hw) h1) (ne_ZB (h6 i w e hw) h1)
  · intro i w i' w' hi hw hi' hw'
    have hi : i < sn c + 1 := hi
    have hi' : i' < sn c + 1 := hi'
    have hw : w < ss c i := hw
    have hw' : w' < ss c i' := hw'
    have e : i < sn c := by
      by_cases q : i = sn c
      · subst q; omega
      · omega
    have e' : i' < sn c := by
      by_cases q : i' = sn c
      · subst q; omega
      · omega
    exact h7 i w i' w' e hw e' hw'
/-- a word more -/
theorem SJ_.add (hC : CA_ ct) (h : SJ_ ct m o c lo mo la wa ba) (hx : Ex_ m ms) {l v A Wt b : Nat} (hl : l < sn c) (hs : ss c l < 10) (h10 : ∀ i, ss c i ≤ 10) (hA : AI_ ct ms A (ss c l + 1) (fun k => if k < ss c l then nI (sw c (10 * l + k)) else nI v)) (hW : AO_ ct 3 ms Wt (ss c l + 1) (fun k => if k < ss c l then some (ba l k) else some b)) (hb : AZ_ ct ms b (ln_ v) (fun _ => 0)) (fb : b ∉ m.1)
    (hp : PU_ ms lo m1) (hL : AO_ ct 1 m1 lo (sn c) (va_up (fun i => some (la i)) l (some A))) (hp2 : PU_ m1 mo m2) (hM : AO_ ct 4 m2 mo (sn c) (va_up (fun i => some (wa i)) l (some Wt))) : SI_ ct m2 o (st_add c l v) := by
  have h0 := h
  obtain ⟨h1, h2, h3, h4, h5, h6, h7⟩ := h.ex hx
  obtain ⟨c01, c02, c03, c04, c12, c13, c14, c23, c24, c34⟩ := hC
  refine ⟨lo, mo, fun i => if i = l then A else la i, fun i => if i = l then Wt else wa i, fun i k => if i = l ∧ k = ss c l then b else ba i k, ?_, ?_, ?_, ?_, ?_, ?_, ?_⟩
  · exact (h1.pu hp (ne_OB h2 h1).symm).pu hp2 (ne_OB h3 h1).symm
  · refine (hL.pu hp2 (ne_OO h2 h3 c14)).to (fun k _ => by by_cases q : k = l <;> simp [va_up, q])
  · refine hM.to (fun k _ => by by_cases q : k = l <;> simp [va_up, q])
  · intro i hi
    have hi : i < sn c := hi
    show AI_ ct m2 (if i = l then A else la i) (up_ (ss c) l (ss c l + 1) i) (fun w => nI (up_ (sw c) (10 * l + ss c l) v (10 * i + w)))
    by_cases e : i = l
    · subst e
      rw [if_pos rfl, up_s]
      refine (hA.pu2 hp hp2 (ne_IO hA h2 c01) (ne_IO hA h3 c04)).to (fun k hk => ?_)
      by_cases q : k < ss c i
      · rw [if_pos q, up_n (by omega)]
      · rw [if_neg q, show k = ss c i by omega, up_s]
    · rw [if_neg e, up_n e]
      have := h10 i
      refine ((h4 i hi).pu2 hp hp2 (ne_IO (h4 i hi) h2 c01) (ne_IO (h4 i hi) h3 c04)).to (fun k hk => ?_)
      rw [up_n (by omega)]
  · intro i hi
    have hi : i < sn c := hi
    show AO_ ct 3 m2 (if i = l then Wt else wa i) (up_ (ss c) l (ss c l + 1) i) (fun w => some (if i = l ∧ w = ss c l then b else ba i w))
    by_cases e : i = l
    · subst e
      rw [if_pos rfl, up_s]
      refine (hW.pu2 hp hp2 (ne_OO hW h2 c13.symm) (ne_OO hW h3 c34)).to (fun k hk => ?_)
      by_cases q : k < ss c i
      · rw [if_pos q, if_neg (fun z => by omega)]
      · rw [if_neg q, if_pos ⟨rfl, by omega⟩]
    · rw [if_neg e, up_n e]
      refine ((h5 i hi).pu2 hp hp2 (ne_OO (h5 i hi) h2 c13.symm) (ne_OO (h5 i hi) h3 c34)).to (fun k hk => ?_)
      rw [if_neg (fun z => e z.1)]
  · intro i w hi hw
    have hi : i < sn c := hi
    have hw : w < up_ (ss c) l (ss c l + 1) i := hw
    show AZ_ ct m2 (if i = l ∧ w = ss c l then b else ba i w) (ln_ (up_ (sw c) (10 * l + ss c l) v (10 * i + w))) (fun k => b2_ ((up_ (sk c) (10 * l + ss c l) 0 (10 * i + w)).testBit k))
    by_cases e : i = l ∧ w = ss c l
    · obtain ⟨rfl, rfl⟩ := e
      rw [if_pos ⟨rfl, rfl⟩, up_s, up_s]
      refine (hb.pu2 hp hp2 (ne_ZO hb h2 c12.symm) (ne_ZO hb h3 c24)).to (fun k _ => ?_)
      rw [Nat.zero_testBit]
      rfl
    · have hw2 : w < ss c i := by
        by_cases q : i = l
        · subst q
          rw [up_s] at hw
          have : w ≠ ss c i := fun z => e ⟨rfl, z⟩
          omega
        · rw [up_n q] at hw
          exact hw
      have := h10 i
      have hne : 10 * i + w ≠ 10 * l + ss c l := by
        intro z
        exact e ⟨by omega, by omega⟩
      rw [if_neg e, up_n hne, up_n hne]
      exact (h6 i w hi hw2).pu2 hp hp2 (ne_ZO (h6 i w hi hw2) h2 c12.symm) (ne_ZO (h6 i w hi hw2) h3 c24)
  · intro i w i' w' hi hw hi' hw' he
    have hi : i < sn c := hi
    have hi' : i' < sn c := hi'
    have hw : w < up_ (ss c) l (ss c l + 1) i := hw
    have hw' : w' < up_ (ss c) l (ss c l + 1) i' := hw'
    have he : (if i = l ∧ w = ss c l then b else ba i w) = (if i' = l ∧ w' = ss c l then b else ba i' w') := he
    have key : ∀ i w, w < up_ (ss c) l (ss c l + 1) i → ¬ (i = l ∧ w = ss c l) → w < ss c i := by
      intro i w hw e
      by_cases q : i = l
      · subst q
        rw [up_s] at hw
        have : w ≠ ss c i := fun z => e ⟨rfl, z⟩
        omega
      · rw [up_n q] at hw
        exact hw
    have nb : ∀ i w, i < sn c → w < ss c i → b ≠ ba i w := fun i w hi hw z => fb (z ▸ (h0.2.2.2.2.2.1 i w hi hw).1)
    by_cases e : i = l ∧ w = ss c l
    · by_cases e' : i' = l ∧ w' = ss c l
      · exact ⟨e.1.trans e'.1.symm, e.2.trans e'.2.symm⟩
      · rw [if_pos e, if_neg e'] at he
        exact absurd he (nb i' w' hi' (key i' w' hw' e'))
    · by_cases e' : i' = l ∧ w' = ss c l
      · rw [if_neg e, if_pos e'] at he
        exact absurd he.symm (nb i w hi (key i w hw e))
      · rw [if_neg e, if_neg e'] at he
        exact h7 i w i' w' hi (key i w hw e) hi' (key i' w' hw' e') he
/-- the last word away -/
theorem SJ_.cut (hC : CA_ ct) (h : SJ_ ct m o c lo mo la wa ba) (hx : Ex_ m ms) {l A Wt : Nat} (hl : l < sn c) (hA : AI_ ct ms A (ss c l - 1) (fun k => nI (sw c (10 * l + k)))) (hW : AO_ ct 3 ms Wt (ss c l - 1) (fun k => some (ba l k)))
    (hp : PU_ ms lo m1) (hL : AO_ ct 1 m1 lo (sn c) (va_up (fun i => some (la i)) l (some A))) (hp2 : PU_ m1 mo m2) (hM : AO_ ct 4 m2 mo (sn c) (va_up (fun i => some (wa i)) l (some Wt))) : SI_ ct m2 o (st_cut c l) := by
  obtain ⟨h1, h2, h3, h4, h5, h6, h7⟩ := h.ex hx
  obtain ⟨c01, c02, c03, c04, c12, c13, c14, c23, c24, c34⟩ := hC
  have key : ∀ i w, w < up_ (ss c) l (ss c l - 1) i → w < ss c i := by
    intro i w hw
    by_cases q : i = l
    · subst q; rw [up_s] at hw; omega
    · rw [up_n q] at hw; exact hw
  refine ⟨lo, mo, fun i => if i = l then A else la i, fun i => if i = l then Wt else wa i, ba, ?_, ?_, ?_, ?_, ?_, ?_, ?_⟩
  · exact (h1.pu hp (ne_OB h2 h1).symm).pu hp2 (ne_OB h3 h1).symm
  · refine (hL.pu hp2 (ne_OO h2 h3 c14)).to (fun k _ => by by_cases q : k = l <;> simp [va_up, q])
  · refine hM.to (fun k _ => by by_cases q : k = l <;> simp [va_up, q])
  · intro i hi
    have hi : i < sn c := hi
    show AI_ ct m2 (if i = l then A else la i) (up_ (ss c) l (ss c l - 1) i) (fun w => nI (sw c (10 * i + w)))
    by_cases e : i = l
    · subst e
      rw [if_pos rfl, up_s]
      exact hA.pu2 hp hp2 (ne_IO hA h2 c01) (ne_IO hA h3 c04)
    · rw [if_neg e, up_n e]
      exact (h4 i hi).pu2 hp hp2 (ne_IO (h4 i hi) h2 c01) (ne_IO (h4 i hi) h3 c04)
  · intro i hi
    have hi : i < sn c := hi
    show AO_ ct 3 m2 (if i = l then Wt else wa i) (up_ (ss c) l (ss c l - 1) i) (fun w => some (ba i w))
    by_cases e : i = l
    · subst e
      rw [if_pos rfl, up_s]
      exact hW.pu2 hp hp2 (ne_OO hW h2 c13.symm) (ne_OO hW h3 c34)
    · rw [if_neg e, up_n e]
      exact (h5 i hi).pu2 hp hp2 (ne_OO (h5 i hi) h2 c13.symm) (ne_OO (h5 i hi) h3 c34)
  · intro i w hi hw
    have hi : i < sn c := hi
    have hw2 := key i w hw
    exact (h6 i w hi hw2).pu2 hp hp2 (ne_ZO (h6 i w hi hw2) h2 c12.symm) (ne_ZO (h6 i w hi hw2) h3 c24)
  · intro i w i' w' hi hw hi' hw' he
    exact h7 i w i' w' hi (key i w hw) hi' (key i' w' hw') he
/-- a letter marked, or unmarked -/
theorem SJ_.mark (hC : CA_ ct) (h : SJ_ ct m o c lo mo la wa ba) {l w p : Nat} {v : Int32} (hl : l < sn c) (hw : w < ss c l) (h10 : ∀ i, ss c i ≤ 10) (hw6 : sw c (10 * l + w) < 387420489) (hk : sk c (10 * l + w) < 64) (hp6 : p < ln_ (sw c (10 * l + w))) (hp : PU_ m (ba l w) m1) (hv : v = b2_ (!(sk c (10 * l + w)).testBit p)) (hB : AZ_ ct m1 (ba l w) (ln_ (sw c (10 * l + w))) (upd (fun k => b2_ ((sk c (10 * l + w)).testBit k)) p v)) : SI_ ct m1 o (st_mark c (10 * l + w) p) := by
  obtain ⟨h1, h2, h3, h4, h5, h6, h7⟩ := h
  obtain ⟨c01, c02, c03, c04, c12, c13, c14, c23, c24, c34⟩ := hC
  have hz := h6 l w hl hw
  have h66 := ln_le hw6
  refine ⟨lo, mo, la, wa, ba, h1.pu hp (ne_ZB hz h1).symm, h2.pu hp (ne_ZO hz h2 c12.symm).symm, h3.pu hp (ne_ZO hz h3 c24).symm, fun i hi => (h4 i hi).pu hp (ne_IZ (h4 i hi) hz c02), fun i hi => (h5 i hi).pu hp (ne_ZO hz (h5 i hi) c23).symm, ?_, h7⟩
  intro i k hi hk2
  have hi : i < sn c := hi
  have hk2 : k < ss c i := hk2
  show AZ_ ct m1 (ba i k) (ln_ (sw c (10 * i + k))) (fun j => b2_ ((up_ (sk c) (10 * l + w) (sk c (10 * l + w) ^^^ 2 ^ p) (10 * i + k)).testBit j))
  by_cases e : 10 * i + k = 10 * l + w
  · have a1 := h10 i
    have a2 := h10 l
    have e1 : i = l := by omega
    have e2 : k = w := by omega
    subst e1
    subst e2
    rw [up_s]
    refine hB.to (fun j hj => ?_)
    rw [xb_ _ hk p (by omega) j (by omega)]
    unfold upd
    split
    · exact hv
    · rfl
  · rw [up_n e]
    refine (h6 i k hi hk2).pu hp (fun z => e ?_)
    obtain ⟨rfl, rfl⟩ := h7 i k l w hi hk2 hl hw z
    rfl
end SIM
/-! ===== what always holds goes on ===== -/
theorem IZ_.count {c : St_} (h : IZ_ c) (k : Nat) : IZ_ (st_count c k) := h
theorem IZ_.write {c : St_} (h : IZ_ c) : IZ_ (st_write c) := ⟨fun l hl => h.1 l (by have : sn c + 1 ≤ l := hl; omega), fun l w hl hw => by
  have hl : l < sn c + 1 := hl
  have hw : w < ss c l := hw
  have e : l < sn c := by
    by_cases q : l = sn c
    · subst q; rw [h.1 _ (Nat.le_refl _)] at hw; omega
    · omega
  exact h.2 l w e hw⟩
theorem IZ_.add {c : St_} (h : IZ_ c) (h10 : ∀ i, ss c i ≤ 10) {l v : Nat} (hl : l < sn c) (hs : ss c l < 10) (hv : iw_ v = true) : IZ_ (st_add c l v) := ⟨fun i hi => by
  have hi : sn c ≤ i := hi
  show up_ (ss c) l (ss c l + 1) i = 0
  rw [up_n (by omega)]
  exact h.1 i hi, fun i w hi hw => by
  have hi : i < sn c := hi
  have hw : w < up_ (ss c) l (ss c l + 1) i := hw
  show iw_ (up_ (sw c) (10 * l + ss c l) v (10 * i + w)) = true
  have := h10 i
  by_cases e : 10 * i + w = 10 * l + ss c l
  · rw [e, up_s]; exact hv
  · rw [up_n e]
    by_cases q : i = l
    · subst q
      rw [up_s] at hw
      exact h.2 i w hi (by omega)
    · rw [up_n q] at hw
      exact h.2 i w hi hw⟩
theorem IZ_.cut {c : St_} (h : IZ_ c) (l : Nat) : IZ_ (st_cut c l) := ⟨fun i hi => by
  have hi : sn c ≤ i := hi
  show up_ (ss c) l (ss c l - 1) i = 0
  by_cases q : i = l
  · subst q; rw [up_s, h.1 i hi]
  · rw [up_n q]; exact h.1 i hi, fun i w hi hw => by
  have hi : i < sn c := hi
  have hw : w < up_ (ss c) l (ss c l - 1) i := hw
  show iw_ (sw c (10 * i + w)) = true
  by_cases q : i = l
  · subst q; rw [up_s] at hw; exact h.2 i w hi (by omega)
  · rw [up_n q] at hw; exact h.2 i w hi hw⟩
theorem IZ_.mark {c : St_} (h : IZ_ c) (i p : Nat) : IZ_ (st_mark c i p) := h
