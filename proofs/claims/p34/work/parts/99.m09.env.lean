/-! ===== what the Statement gives of the machine at the law's entry ===== -/
theorem vk_R0 {own tx : String} {k : Nat} {args : Array Value} {s : State} (h1 : (Cond.stringRef own k tx).before args s = true) (h2 : (Cond.exactly (.string own k) "java/lang/String").before args s = true) : ∃ sa, vk_R own k tx sa s := by
  obtain ⟨a, c, cA, kA, q1, -⟩ := Cond.exactly_spec (args := args) (first := s) (o := none) (s := s) (idx := []) (t := .string own k) (cls := "java/lang/String") h2
  exact ⟨a, vk_R.of h1 q1⟩
set_option maxRecDepth 100000 in
theorem t_strs1 : ∀ q ∈ t_str, (Cond.stringRef q.1 q.2.1 q.2.2) ∈ lw_tbl := by decide +kernel
set_option maxRecDepth 100000 in
theorem t_strs2 : ∀ q ∈ t_str, (Cond.exactly (.string q.1 q.2.1) "java/lang/String") ∈ flatC (Jvm.Cond.and given_1 narrow_1) := by decide +kernel
set_option maxRecDepth 100000 in
theorem t_ncs : ∀ E1, E1 < 3 → E1 ≠ 1 → (Cond.not (.castable (t_xn E1) (t_xn 1))) ∈ flatC (Jvm.Cond.and given_1 narrow_1) := by decide +kernel
set_option maxRecDepth 100000 in
theorem t_st1 : (Cond.laysStatic Bundle.tN "UNASSIGNED_STACK" Bundle.steD) ∈ lw_tbl ∧ (Cond.laysStatic Bundle.tN "SUPPRESSED_SENTINEL" Bundle.listD) ∈ lw_tbl ∧ (Cond.initialized Bundle.tN) ∈ lw_tbl ∧ (Cond.arrayOver (.object RX2)) ∈ lw_tbl := by decide +kernel
set_option maxRecDepth 100000 in
theorem t_st2 : (Cond.isRef (.static Bundle.tN "UNASSIGNED_STACK" Bundle.steD)) ∈ flatC (Jvm.Cond.and given_1 narrow_1) ∧ (Cond.isRef (.static Bundle.tN "SUPPRESSED_SENTINEL" Bundle.listD)) ∈ flatC (Jvm.Cond.and given_1 narrow_1) := by decide +kernel
theorem t_En0 {g : tE} {s : State} {args : Array Value} (hts : ∀ w ∈ lw_tbl, w.before args s = true) (hgv : (Jvm.Cond.and given_1 narrow_1).before args s = true) (hK : va_K g.2.1 t_cls (t_tys g) s) (hA : ∀ a : Nat, a < s.heap.size → ¬ g.2.2.2.1 a) (hX : va_X g.2.2.2.2.1 g.2.2.2.2.2.1 g.2.2.2.2.2.2 s s.heap) : t_En g s s.heap := by
  refine ⟨hK, fun w hw hg => va_Nw.of (t_gw_on hg) (hts w hw), fun q hq => vk_R0 (hts _ (t_strs1 q hq)) (flat_of_before _ hgv _ (t_strs2 q hq)), ?_, ?_, hX, fun E1 E2 a b c => by subst b; exact va_Nc.of (flat_of_before _ hgv _ (t_ncs E1 a c)), fun _ => hts (.arrayClass .int) (by decide +kernel)⟩
  · exact vx_Zqof (hts _ t_st1.1) (hts _ t_st1.2.2.1) (flat_of_before _ hgv _ t_st2.1) hA
  · exact vx_Zqof (hts _ t_st1.2.1) (hts _ t_st1.2.2.1) (flat_of_before _ hgv _ t_st2.2) hA
