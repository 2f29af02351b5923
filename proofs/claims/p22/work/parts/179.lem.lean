def z0_ : St_ := (0, 0, fun _ => 0, fun _ => 0, fun _ => 0)
theorem SI_zero {ct : Nat → Nat} {m : Pl_} {o lo mo : Nat} {P P' : Nat → Option Nat} (h : OB_ m o 0 (some lo) (some mo)) (h1 : AO_ ct 1 m lo 0 P) (h2 : AO_ ct 4 m mo 0 P') : SI_ ct m o z0_ :=
  ⟨lo, mo, fun _ => 0, fun _ => 0, fun _ _ => 0, h, h1.to (fun k hk => absurd hk (Nat.not_lt_zero k)), h2.to (fun k hk => absurd hk (Nat.not_lt_zero k)), fun i hi => absurd hi (Nat.not_lt_zero i), fun i hi => absurd hi (Nat.not_lt_zero i), fun i w hi => absurd hi (Nat.not_lt_zero i), fun i w i' w' hi => absurd hi (Nat.not_lt_zero i)⟩
theorem IZ_z : IZ_ z0_ := ⟨fun _ _ => rfl, fun l w hl => absurd hl (Nat.not_lt_zero l)⟩
theorem Iv_z : Iv_ z0_ := ⟨by decide, by decide, fun _ => Nat.zero_le _, fun _ => (by decide : (0 : Nat) < 387420489), fun _ => (by decide : (0 : Nat) < 64), fun l w h => absurd h (Nat.not_lt_zero _)⟩
theorem SJ_.count {ct : Nat → Nat} {m m1 : Pl_} {o : Nat} {c : St_} {lo mo : Nat} {la wa : Nat → Nat} {ba : Nat → Nat → Nat} (h : SJ_ ct m o c lo mo la wa ba) (hx : PU_ m o m1) {k : Nat} (hO : OB_ m1 o (nI k) (some lo) (some mo)) : SI_ ct m1 o (st_count c k) := by
  obtain ⟨h1, h2, h3, h4, h5, h6, h7⟩ := h
  exact ⟨lo, mo, la, wa, ba, hO, h2.pu hx (ne_OB h2 h1), h3.pu hx (ne_OB h3 h1), fun i hi => (h4 i hi).pu hx (ne_IB (h4 i hi) h1), fun i hi => (h5 i hi).pu hx (ne_OB (h5 i hi) h1), fun i w hi hw => (h6 i w hi hw).pu hx (ne_ZB (h6 i w hi hw) h1), h7⟩
