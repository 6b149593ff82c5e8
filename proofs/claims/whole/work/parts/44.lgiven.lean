/-! ===== what the Statement gives of the start ===== -/
theorem xw_none {w : Cond} (hk : xkind w = true) {U : State} {a : Array Value} (h : w.before a U = true) : w.before #[] U = true := by
  cases w <;> first
    | exact va_tabs rfl rfl h
    | exact absurd hk (by decide)
    | simp [xkind] at hk
theorem xNL_in : ∀ w ∈ xNL, w ∈ lw_tbl := by decide +kernel
theorem str_at {k : Nat} {tx : String} {args : Array Value} {s : State} (h1 : (Cond.stringRef RX0 k tx).before args s = true) (h2 : (Cond.exactly (Term.string RX0 k) "java/lang/String").before args s = true) : ∃ sa, vk_R RX0 k tx sa s := by
  obtain ⟨a2, c, cA, kA, q1, -⟩ := Cond.exactly_spec (args := args) (first := s) (o := none) (s := s) (idx := []) (t := Term.string RX0 k) (cls := "java/lang/String") h2
  exact ⟨a2, vk_R.of h1 q1⟩
theorem sr_44 : Cond.stringRef RX0 44 "there are 8 things" ∈ lw_tbl := by decide +kernel
theorem sr_51 : Cond.stringRef RX0 51 "stubbornness is not 0 to 5" ∈ lw_tbl := by decide +kernel
theorem sr_54 : Cond.stringRef RX0 54 "there are 8 astronomers" ∈ lw_tbl := by decide +kernel
theorem sr_189 : Cond.stringRef RX0 189 "there is no such thing" ∈ lw_tbl := by decide +kernel
theorem sr_192 : Cond.stringRef RX0 192 "there is no such night" ∈ lw_tbl := by decide +kernel
theorem sr_194 : Cond.stringRef RX0 194 "there is no such astronomer" ∈ lw_tbl := by decide +kernel
theorem sr_196 : Cond.stringRef RX0 196 "things is not 0 to the set of all things" ∈ lw_tbl := by decide +kernel
theorem sr_198 : Cond.stringRef RX0 198 "things is not 1 to the set of all things" ∈ lw_tbl := by decide +kernel
theorem sr_200 : Cond.stringRef RX0 200 "there are 40 nights" ∈ lw_tbl := by decide +kernel
theorem ly_1 : Cond.laysStatic Bundle.tN "UNASSIGNED_STACK" Bundle.steD ∈ lw_tbl := by decide +kernel
theorem ly_2 : Cond.laysStatic Bundle.tN "SUPPRESSED_SENTINEL" Bundle.listD ∈ lw_tbl := by decide +kernel
theorem in_tN : Cond.initialized Bundle.tN ∈ lw_tbl := by decide +kernel
theorem xE0_start {args : Array Value} {s : State} (hts : ∀ w ∈ lw_tbl, w.before args s = true) (hgv : (Jvm.Cond.and given_1 narrow_1).before args s = true) : xE0 s := by
  have hs := flat_of_before _ hgv
  have hA : ∀ a : Nat, a < s.heap.size → ¬ lA s a := fun a h => Nat.not_le.mpr h
  refine ⟨vx_Zqof (hts _ ly_1) (hts _ in_tN) (hs _ (by decide +kernel)) hA, vx_Zqof (hts _ ly_2) (hts _ in_tN) (hs _ (by decide +kernel)) hA, fun w h => xw_none (List.all_eq_true.mp xNL_kind w h) (hts w (xNL_in w h)), ?_, va_Nc.of (hs _ (by decide +kernel)), va_Nc.of (hs _ (by decide +kernel))⟩
  intro q hq
  simp only [strL, List.mem_cons, List.not_mem_nil, or_false] at hq
  rcases hq with rfl | rfl | rfl | rfl | rfl | rfl | rfl | rfl | rfl
  · exact str_at (hts _ sr_44) (hs _ (by decide +kernel))
  · exact str_at (hts _ sr_51) (hs _ (by decide +kernel))
  · exact str_at (hts _ sr_54) (hs _ (by decide +kernel))
  · exact str_at (hts _ sr_189) (hs _ (by decide +kernel))
  · exact str_at (hts _ sr_192) (hs _ (by decide +kernel))
  · exact str_at (hts _ sr_194) (hs _ (by decide +kernel))
  · exact str_at (hts _ sr_196) (hs _ (by decide +kernel))
  · exact str_at (hts _ sr_198) (hs _ (by decide +kernel))
  · exact str_at (hts _ sr_200) (hs _ (by decide +kernel))
