/-! ===== wrapper and model, side by side ===== -/
theorem iiR {x : Int32} {a b : Nat} (h : x < nI a ∨ nI b < x) : ii_ x (nI a) (nI b) = false := h.elim ii_1 ii_2
theorem ix_x (x : Int32) {n : Nat} (hn : n < 2 ^ 31) : (x < 0 ∨ nI n ≤ x) ∨ ∃ j : Nat, j < n ∧ x = nI j := by
  rcases pk_ix x hn with h | h | h
  · exact Or.inl (Or.inl h)
  · exact Or.inl (Or.inr h)
  · exact Or.inr h
theorem iiL {x : Int32} {n : Nat} (hn : n + 1 < 2 ^ 31) (h : x < 0 ∨ nI (n + 1) ≤ x) : ii_ x (nI 0) (nI n) = false :=
  h.elim (fun h => ii_1 h) (fun h => ii_2 (Int32.lt_of_lt_of_le ((nI_ltI (by omega) (by omega)).mpr (Nat.lt_succ_self n)) h))
theorem rg_x (x : Int32) {a b : Nat} (ha : a < 2 ^ 31) (hb : b + 1 < 2 ^ 31) : (x < nI a ∨ nI b < x) ∨ ∃ j : Nat, a ≤ j ∧ j ≤ b ∧ x = nI j := by
  rcases pk_ix x hb with h | h | ⟨j, hj, rfl⟩
  · exact Or.inl (Or.inl (Int32.lt_of_lt_of_le h (Int32.not_lt.mp (nI_pos ha))))
  · exact Or.inl (Or.inr (Int32.lt_of_lt_of_le ((nI_ltI (by omega) (by omega)).mpr (Nat.lt_succ_self b)) h))
  · by_cases q : j < a
    · exact Or.inl (Or.inl ((nI_ltI (by omega) (by omega)).mpr q))
    · exact Or.inr ⟨j, by omega, by omega, rfl⟩
abbrev LI_ (v : Int32) : Int64 := v.toInt64
abbrev LB_ (v : Int32) : Int64 := if v = 0 then 0 else 1
/-- what the wrapper returns (K), what the model answers (V), the poem behind both -/
abbrev OP_ (l : Launch) (yL yM : MethodName) (wL wM : List Cond) (d k n : Nat) (B0 : Nat) (g : va_G) (ct ad : Nat → Nat) (cS : St_) (x : Ax_) (av : List Value) (LV : Int32 → Int64) : Prop :=
  ∃ (K V : Int32) (c2 : St_), WI l yL wL 9 1 6 B0 g ct ad cS cS x (.ref (ad 0) :: (av ++ [.ref (ad 11)])) K c2 cS (fun u => K = 0 → xo u 0 = LV V) ∧ ∀ y, WI l yM wM d k n B0 g ct ad c2 cS y (.ref (ad 7) :: av) V c2 c2 (fun u => u = ax_h y K)
theorem op_count (l : Launch) (B0 : Nat) (g : va_G) (ct ad : Nat → Nat) (cS : St_) (x : Ax_) (hflags : l.stackTraces = false) (hI : Iv_ cS) (o : Int32) : OP_ l yL_count yX1_count wsL_count wsX1_count 5 0 0 B0 g ct ad cS x [.int o] LI_ := by
  rcases ix_x o (n := 3) (by omega) with h | ⟨j, hj, rfl⟩
  · exact ⟨_, _, cS, w_count_1 l B0 g ct ad cS cS x hflags _ o h, fun y => t_X1_count l B0 g ct ad cS cS y o (iiL (by omega) h)⟩
  · exact ⟨_, _, (st_count cS j), w_count l B0 g ct ad cS cS x j hj, fun y => c_X1_count l B0 g ct ad (st_count cS j) cS y j hj⟩
theorem op_letter (l : Launch) (B0 : Nat) (g : va_G) (ct ad : Nat → Nat) (cS : St_) (x : Ax_) (hflags : l.stackTraces = false) (hI : Iv_ cS) (o : Int32) : OP_ l yL_letter yX1_letter wsL_letter wsX1_letter 5 0 0 B0 g ct ad cS x [.int o] LI_ := by
  rcases rg_x o (a := 1) (b := 26) (by omega) (by omega) with h | ⟨j, h1, h2, rfl⟩
  · exact ⟨_, _, cS, w_letter_1 l B0 g ct ad cS cS x hflags _ o h, fun y => t_X1_letter l B0 g ct ad cS cS y o (iiR h)⟩
  · exact ⟨_, _, cS, w_letter l B0 g ct ad cS cS x j h1 h2, fun y => c_X1_letter l B0 g ct ad cS cS y j h1 h2⟩
theorem op_value (l : Launch) (B0 : Nat) (g : va_G) (ct ad : Nat → Nat) (cS : St_) (x : Ax_) (hflags : l.stackTraces = false) (hI : Iv_ cS) (o : Int32) : OP_ l yL_value yX1_value wsL_value wsX1_value 5 0 0 B0 g ct ad cS x [.int o] LI_ := by
  cases h : wd_ o with
  | false => exact ⟨_, _, cS, w_value_1 l B0 g ct ad cS cS x hflags _ o h, fun y => t_X1_value l B0 g ct ad cS cS y o h⟩
  | true =>
    obtain ⟨j, hj, -, rfl⟩ := wd_of h
    exact ⟨_, _, cS, w_value l B0 g ct ad cS cS x j hj h, fun y => c_X1_value l B0 g ct ad cS cS y j hj h⟩
theorem op_alike (l : Launch) (B0 : Nat) (g : va_G) (ct ad : Nat → Nat) (cS : St_) (x : Ax_) (hflags : l.stackTraces = false) (hI : Iv_ cS) (a b : Int32) : OP_ l yL_alike yX1_alike wsL_alike wsX1_alike 5 0 0 B0 g ct ad cS x [.int a, .int b] LB_ := by
  cases h : wd_ a with
  | false => exact ⟨_, _, cS, w_alike_1 l B0 g ct ad cS cS x hflags _ a b h, fun y => t_X1_alike_1 l B0 g ct ad cS cS y a b h⟩
  | true =>
    cases h2 : wd_ b with
    | false => exact ⟨_, _, cS, w_alike_2 l B0 g ct ad cS cS x hflags _ a b h h2, fun y => t_X1_alike_2 l B0 g ct ad cS cS y a b h h2⟩
    | true =>
      obtain ⟨j, hj, -, rfl⟩ := wd_of h
      obtain ⟨k, hk, -, rfl⟩ := wd_of h2
      exact ⟨_, _, cS, w_alike l B0 g ct ad cS cS x j k hj hk h h2, fun y => c_X1_alike l B0 g ct ad cS cS y j k hj hk h h2⟩
theorem op_write (l : Launch) (B0 : Nat) (g : va_G) (ct ad : Nat → Nat) (cS : St_) (x : Ax_) (hflags : l.stackTraces = false) (hI : Iv_ cS)  : OP_ l yL_write yX1_write wsL_write wsX1_write 5 0 0 B0 g ct ad cS x [] LI_ := by
  by_cases h : sn cS < 12
  · exact ⟨_, _, (st_write cS), w_write l B0 g ct ad cS cS x h, fun y => c_X1_write l B0 g ct ad (st_write cS) cS y h⟩
  · exact ⟨_, _, cS, w_write_1 l B0 g ct ad cS cS x hflags _ h, fun y => t_X1_write l B0 g ct ad cS cS y h⟩
theorem op_add (l : Launch) (B0 : Nat) (g : va_G) (ct ad : Nat → Nat) (cS : St_) (x : Ax_) (hflags : l.stackTraces = false) (hI : Iv_ cS) (li w : Int32) : OP_ l yL_add yX1_add wsL_add wsX1_add 5 0 0 B0 g ct ad cS x [.int li, .int w] LI_ := by
  have hn := hI.2.1
  rcases ix_x li (n := sn cS) (by omega) with h | ⟨i, hi, rfl⟩
  · exact ⟨_, _, cS, w_add_1 l B0 g ct ad cS cS x hflags _ li h w, fun y => t_X1_add_1 l B0 g ct ad cS cS y li h w⟩
  · cases h2 : wd_ w with
    | false => exact ⟨_, _, cS, w_add_2 l B0 g ct ad cS cS x hflags _ i hi w h2, fun y => t_X1_add_2 l B0 g ct ad cS cS y i hi w h2⟩
    | true =>
      by_cases hs : ss cS i < 10
      · obtain ⟨j, hj, -, rfl⟩ := wd_of h2
        exact ⟨_, _, (st_add cS i j), w_add l B0 g ct ad cS cS x i j hi hj h2 hs, fun y => c_X1_add l B0 g ct ad (st_add cS i j) cS y i j hi hj h2 hs⟩
      · exact ⟨_, _, cS, w_add_3 l B0 g ct ad cS cS x hflags _ i hi w h2 hs, fun y => t_X1_add_3 l B0 g ct ad cS cS y i hi w h2 hs⟩
theorem op_cut (l : Launch) (B0 : Nat) (g : va_G) (ct ad : Nat → Nat) (cS : St_) (x : Ax_) (hflags : l.stackTraces = false) (hI : Iv_ cS) (li : Int32) : OP_ l yL_cut yX1_cut wsL_cut wsX1_cut 5 0 0 B0 g ct ad cS x [.int li] LI_ := by
  have hn := hI.2.1
  rcases ix_x li (n := sn cS) (by omega) with h | ⟨i, hi, rfl⟩
  · exact ⟨_, _, cS, w_cut_1 l B0 g ct ad cS cS x hflags _ li h, fun y => t_X1_cut_1 l B0 g ct ad cS cS y li h⟩
  · by_cases hs : 0 < ss cS i
    · exact ⟨_, _, (st_cut cS i), w_cut l B0 g ct ad cS cS x i hi hs, fun y => c_X1_cut l B0 g ct ad (st_cut cS i) cS y i hi hs⟩
    · exact ⟨_, _, cS, w_cut_2 l B0 g ct ad cS cS x hflags _ i hi (Nat.eq_zero_of_not_pos hs), fun y => t_X1_cut_2 l B0 g ct ad cS cS y i hi (Nat.eq_zero_of_not_pos hs)⟩
theorem op_mark (l : Launch) (B0 : Nat) (g : va_G) (ct ad : Nat → Nat) (cS : St_) (x : Ax_) (hflags : l.stackTraces = false) (hI : Iv_ cS) (li wi pi : Int32) : OP_ l yL_mark yX1_mark wsL_mark wsX1_mark 5 0 0 B0 g ct ad cS x [.int li, .int wi, .int pi] LB_ := by
  have hn := hI.2.1
  rcases ix_x li (n := sn cS) (by omega) with h | ⟨i, hi, rfl⟩
  · exact ⟨_, _, cS, w_mark_1 l B0 g ct ad cS cS x hflags _ li h wi pi, fun y => t_X1_mark_1 l B0 g ct ad cS cS y li h wi pi⟩
  · have hz := hI.2.2.1 i
    rcases ix_x wi (n := ss cS i) (by omega) with h | ⟨w, hw, rfl⟩
    · exact ⟨_, _, cS, w_mark_2 l B0 g ct ad cS cS x hflags _ i hi wi pi h, fun y => t_X1_mark_2 l B0 g ct ad cS cS y i hi wi pi h⟩
    · have hl := ln_le (hI.2.2.2.1 (10 * i + w))
      rcases ix_x pi (n := ln_ (sw cS (10 * i + w))) (by omega) with h | ⟨q, hq, rfl⟩
      · exact ⟨_, _, cS, w_mark_3 l B0 g ct ad cS cS x hflags _ i w hi hw pi h, fun y => t_X1_mark_3 l B0 g ct ad cS cS y i w hi hw pi h⟩
      · exact ⟨_, _, (st_mark cS (10 * i + w) q), w_mark l B0 g ct ad cS cS x i w q hi hw hq, fun y => c_X1_mark l B0 g ct ad (st_mark cS (10 * i + w) q) cS y i w q hi hw hq⟩
theorem op_word (l : Launch) (B0 : Nat) (g : va_G) (ct ad : Nat → Nat) (cS : St_) (x : Ax_) (hflags : l.stackTraces = false) (hI : Iv_ cS) (li wi q : Int32) : OP_ l yL_word yX1_word wsL_word wsX1_word 5 0 0 B0 g ct ad cS x [.int li, .int wi, .int q] LI_ := by
  have hn := hI.2.1
  rcases ix_x li (n := sn cS) (by omega) with h | ⟨i, hi, rfl⟩
  · exact ⟨_, _, cS, w_word_1 l B0 g ct ad cS cS x hflags _ li h wi q, fun y => t_X1_word_1 l B0 g ct ad cS cS y li h wi q⟩
  · have hz := hI.2.2.1 i
    rcases ix_x wi (n := ss cS i) (by omega) with h | ⟨w, hw, rfl⟩
    · exact ⟨_, _, cS, w_word_2 l B0 g ct ad cS cS x hflags _ i hi wi q h, fun y => t_X1_word_2 l B0 g ct ad cS cS y i hi wi q h⟩
    · rcases ix_x q (n := 5) (by omega) with h | ⟨q, hq, rfl⟩
      · exact ⟨_, _, cS, w_word_3 l B0 g ct ad cS cS x hflags _ i w hi hw q h, fun y => t_X1_word_3 l B0 g ct ad cS cS y i w hi hw q (iiL (by omega) h)⟩
      · exact ⟨_, _, cS, w_word l B0 g ct ad cS cS x i w q hi hw hq, fun y => c_X1_word l B0 g ct ad cS cS y i w q hi hw hq⟩
theorem op_line (l : Launch) (B0 : Nat) (g : va_G) (ct ad : Nat → Nat) (cS : St_) (x : Ax_) (hflags : l.stackTraces = false) (hI : Iv_ cS) (li q : Int32) : OP_ l yL_line yX1_line wsL_line wsX1_line 5 0 0 B0 g ct ad cS x [.int li, .int q] LI_ := by
  have hn := hI.2.1
  rcases ix_x li (n := sn cS) (by omega) with h | ⟨i, hi, rfl⟩
  · exact ⟨_, _, cS, w_line_1 l B0 g ct ad cS cS x hflags _ li h q, fun y => t_X1_line_1 l B0 g ct ad cS cS y li h q⟩
  · rcases ix_x q (n := 5) (by omega) with h | ⟨q, hq, rfl⟩
    · exact ⟨_, _, cS, w_line_2 l B0 g ct ad cS cS x hflags _ i hi q h, fun y => t_X1_line_2 l B0 g ct ad cS cS y i hi q (iiL (by omega) h)⟩
    · exact ⟨_, _, cS, w_line l B0 g ct ad cS cS x i q hi hq, fun y => c_X1_line l B0 g ct ad cS cS y i q hi hq⟩
theorem op_told (l : Launch) (B0 : Nat) (g : va_G) (ct ad : Nat → Nat) (cS : St_) (x : Ax_) (hflags : l.stackTraces = false) (hI : Iv_ cS) (q : Int32) : OP_ l yL_told yX1_told wsL_told wsX1_told 7 0 0 B0 g ct ad cS x [.int q] LI_ := by
  rcases ix_x q (n := 7) (by omega) with h | ⟨q, hq, rfl⟩
  · exact ⟨_, _, cS, w_told_1 l B0 g ct ad cS cS x hflags _ q h, fun y => t_X1_told l B0 g ct ad cS cS y q (iiL (by omega) h)⟩
  · exact ⟨_, _, cS, w_told l B0 g ct ad cS cS x q hq, fun y => c_X1_told l B0 g ct ad cS cS y q hq⟩
theorem op_hidden (l : Launch) (B0 : Nat) (g : va_G) (ct ad : Nat → Nat) (cS : St_) (x : Ax_) (hflags : l.stackTraces = false) (hI : Iv_ cS) (li yr : Int32) : OP_ l yL_hidden yX1_hidden wsL_hidden wsX1_hidden 5 0 0 B0 g ct ad cS x [.int li, .int yr] LI_ := by
  have hn := hI.2.1
  rcases ix_x li (n := sn cS) (by omega) with h | ⟨i, hi, rfl⟩
  · exact ⟨_, _, cS, w_hidden_1 l B0 g ct ad cS cS x hflags _ li h yr, fun y => t_X1_hidden l B0 g ct ad cS cS y li h yr⟩
  · exact ⟨_, _, cS, w_hidden l B0 g ct ad cS cS x i hi yr, fun y => c_X1_hidden l B0 g ct ad cS cS y i hi yr⟩
theorem op_lacks (l : Launch) (B0 : Nat) (g : va_G) (ct ad : Nat → Nat) (cS : St_) (x : Ax_) (hflags : l.stackTraces = false) (hI : Iv_ cS) (li yr : Int32) : OP_ l yL_lacks yX1_lacks wsL_lacks wsX1_lacks 5 0 0 B0 g ct ad cS x [.int li, .int yr] LI_ := by
  have hn := hI.2.1
  rcases ix_x li (n := sn cS) (by omega) with h | ⟨i, hi, rfl⟩
  · exact ⟨_, _, cS, w_lacks_1 l B0 g ct ad cS cS x hflags _ li h yr, fun y => t_X1_lacks l B0 g ct ad cS cS y li h yr⟩
  · exact ⟨_, _, cS, w_lacks l B0 g ct ad cS cS x i hi yr, fun y => c_X1_lacks l B0 g ct ad cS cS y i hi yr⟩
theorem op_letters (l : Launch) (B0 : Nat) (g : va_G) (ct ad : Nat → Nat) (cS : St_) (x : Ax_) (hflags : l.stackTraces = false) (hI : Iv_ cS) (y_ : Int32) : OP_ l yL_letters yX1_letters wsL_letters wsX1_letters 5 1 3001 B0 g ct ad cS x [.int y_] LI_ := by
  rcases rg_x y_ (a := 1) (b := 3000) (by omega) (by omega) with h | ⟨y_, h1, h2, rfl⟩
  · exact ⟨_, _, cS, w_letters_1 l B0 g ct ad cS cS x hflags _ y_ h, fun y => t_X1_letters l B0 g ct ad cS cS y y_ (iiR h)⟩
  · exact ⟨_, _, cS, w_letters l B0 g ct ad cS cS x y_ h1 h2, fun y => c_X1_letters l B0 g ct ad cS cS y y_ h1 h2⟩
theorem op_spell (l : Launch) (B0 : Nat) (g : va_G) (ct ad : Nat → Nat) (cS : St_) (x : Ax_) (hflags : l.stackTraces = false) (hI : Iv_ cS) (y_ pl : Int32) : OP_ l yL_spell yX1_spell wsL_spell wsX1_spell 5 1 3001 B0 g ct ad cS x [.int y_, .int pl] LI_ := by
  rcases rg_x y_ (a := 1) (b := 3000) (by omega) (by omega) with h | ⟨y_, h1, h2, rfl⟩
  · exact ⟨_, _, cS, w_spell_1 l B0 g ct ad cS cS x hflags _ y_ pl h, fun y => t_X1_spell_1 l B0 g ct ad cS cS y y_ pl (iiR h)⟩
  · by_cases hp : pl < 0
    · exact ⟨_, _, cS, w_spell_2 l B0 g ct ad cS cS x hflags _ y_ pl h1 h2 hp, fun y => t_X1_spell_2 l B0 g ct ad cS cS y y_ pl h1 h2 hp⟩
    · obtain ⟨q, hq, rfl⟩ := nI_of (x := pl) hp
      exact ⟨_, _, cS, w_spell l B0 g ct ad cS cS x y_ q h1 h2 hq, fun y => c_X1_spell l B0 g ct ad cS cS y y_ q h1 h2 hq⟩
