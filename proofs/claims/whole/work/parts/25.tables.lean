set_option maxHeartbeats 4000000 in
set_option maxRecDepth 100000 in
/-- what the tables and the premises say beside the heap -/
theorem ck_start {s : State} {A : Array Value} {cur : Nat} (hts : ∀ w ∈ lw_tbl, w.before A s = true) (hgv : (Jvm.Cond.and given_1 narrow_1).before A s = true) (hcur : s.vm.findClass RX0 = some cur) : vx_Zq Bundle.tN "UNASSIGNED_STACK" Bundle.steD (AA s.heap.size) s s.heap ∧ vx_Zq Bundle.tN "SUPPRESSED_SENTINEL" Bundle.listD (AA s.heap.size) s s.heap ∧ KS s ∧ KX s := by
  have tb : ∀ {i : Nat} {w : Cond}, tables_1[i]? = some w → w.before A s = true := fun h => hts _ (List.mem_append_right _ (List.mem_of_getElem? h))
  have hs := flat_of_before _ hgv
  have hA : ∀ a : Nat, a < s.heap.size → ¬ AA s.heap.size a := fun a h => Nat.not_le.mpr h
  have l1 : (Cond.laysStatic Bundle.tN "UNASSIGNED_STACK" Bundle.steD).before A s = true := tb (i := 139) (by decide +kernel)
  have l2 : (Cond.laysStatic Bundle.tN "SUPPRESSED_SENTINEL" Bundle.listD).before A s = true := tb (i := 141) (by decide +kernel)
  have l3 : (Cond.initialized Bundle.tN).before A s = true := tb (i := 3) (by decide +kernel)
  have l4 : (Cond.isRef (.static Bundle.tN "UNASSIGNED_STACK" Bundle.steD)).before A s = true := hs _ (by decide +kernel)
  have l5 : (Cond.isRef (.static Bundle.tN "SUPPRESSED_SENTINEL" Bundle.listD)).before A s = true := hs _ (by decide +kernel)
  refine ⟨vx_Zqof l1 l3 l4 hA, vx_Zqof l2 l3 l5 hA, ?_, ?_⟩
  · intro q hq
    simp only [List.mem_cons, List.not_mem_nil, or_false] at hq
    rcases hq with rfl | rfl | rfl | rfl | rfl | rfl | rfl | rfl | rfl | rfl | rfl
    · exact vk_Rof hcur (tb (i := 200) (by decide +kernel))
    · exact vk_Rof hcur (tb (i := 208) (by decide +kernel))
    · exact vk_Rof hcur (tb (i := 267) (by decide +kernel))
    · exact vk_Rof hcur (tb (i := 286) (by decide +kernel))
    · exact vk_Rof hcur (tb (i := 294) (by decide +kernel))
    · exact vk_Rof hcur (tb (i := 307) (by decide +kernel))
    · exact vk_Rof hcur (tb (i := 285) (by decide +kernel))
    · exact vk_Rof hcur (tb (i := 306) (by decide +kernel))
    · exact vk_Rof hcur (tb (i := 153) (by decide +kernel))
    · exact vk_Rof hcur (tb (i := 233) (by decide +kernel))
    · exact vk_Rof hcur (tb (i := 350) (by decide +kernel))
  · refine ⟨?_, ?_, ?_⟩
    · intro E hE
      simp only [List.mem_cons, List.not_mem_nil, or_false] at hE
      rcases hE with rfl | rfl | rfl
      · exact va_Nw.of rfl (tb (i := 114) (by decide +kernel))
      · exact va_Nw.of rfl (tb (i := 260) (by decide +kernel))
      · exact va_Nw.of rfl (tb (i := 226) (by decide +kernel))
    · intro C hC
      simp only [List.mem_cons, List.not_mem_nil, or_false] at hC
      rcases hC with rfl | rfl | rfl
      · exact va_Nw.of rfl (tb (i := 116) (by decide +kernel))
      · exact va_Nw.of rfl (tb (i := 118) (by decide +kernel))
      · exact va_Nw.of rfl (tb (i := 120) (by decide +kernel))
    · intro E hE F hF ne
      simp only [List.mem_cons, List.not_mem_nil, or_false] at hE hF
      rcases hE with rfl | rfl | rfl <;> rcases hF with rfl | rfl | rfl
      · exact absurd rfl ne
      · exact va_Nc.of (hs (.not (.castable EI_ ES_)) (by decide +kernel))
      · exact va_Nc.of (hs (.not (.castable EI_ EA_)) (by decide +kernel))
      · exact va_Nc.of (hs (.not (.castable ES_ EI_)) (by decide +kernel))
      · exact absurd rfl ne
      · exact va_Nc.of (hs (.not (.castable ES_ EA_)) (by decide +kernel))
      · exact va_Nc.of (hs (.not (.castable EA_ EI_)) (by decide +kernel))
      · exact va_Nc.of (hs (.not (.castable EA_ ES_)) (by decide +kernel))
      · exact absurd rfl ne
