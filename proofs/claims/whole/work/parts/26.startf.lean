set_option maxHeartbeats 4000000 in
set_option maxRecDepth 100000 in
theorem start_F {g : va_G} {A : Nat → Prop} {h0 h1 qo : Nat} {q q' : Nat → Nat} {r : Nat → Nat → Nat} {ct ct' : Nat → Nat} {c3 : Nat} {H : Heap} (e0 : ct' 0 = ct 0) (e1 : ct' 1 = ct 2)
    (hP : va_P g vwCl ((((h0, .inr (0, [.int 0, .int 0, .ref (q 1), .ref (q 2), .ref (q 3), .ref (q 4), .ref (q 5), .ref (q 6)])) :: OT_ q r ct) ++ ((h1, .inr (1, [.int 0, .int 0, .int 0, .ref (q' 1), .ref (q' 2), .ref (q' 3)])) :: MT_ q' ct')) ++ [(qo, .inl (c3, 1, .inr (.inl (fun _ => 0))))]) H)
    (hD : va_D A ((((h0, .inr (0, [.int 0, .int 0, .ref (q 1), .ref (q 2), .ref (q 3), .ref (q 4), .ref (q 5), .ref (q 6)])) :: OT_ q r ct) ++ ((h1, .inr (1, [.int 0, .int 0, .int 0, .ref (q' 1), .ref (q' 2), .ref (q' 3)])) :: MT_ q' ct')) ++ [(qo, .inl (c3, 1, .inr (.inl (fun _ => 0))))])) :
    va_P g vwCl (F_ (fun k => match k with | 0 => ct 0 | 1 => ct 1 | 2 => ct 2 | _ => c3) (AD_ h0 h1 qo q q' r)) H ∧ va_D A (F_ (fun k => match k with | 0 => ct 0 | 1 => ct 1 | 2 => ct 2 | _ => c3) (AD_ h0 h1 qo q q' r)) := by
  have a1 : OT_ q r ct = OT_ (fun k => AD_ h0 h1 qo q q' r k) (fun k i => AD_ h0 h1 qo q q' r (12 + 12 * k + i)) ct := OT_ad
  have a2 : MT_ q' ct' = MT_ q' (fun k => match k with | 0 => ct 0 | _ => ct 2) := by
    unfold MT_
    rw [e0, e1]
    rfl
  rw [a1, a2] at hP hD
  exact ⟨hP, hD⟩
