theorem zown_of {own : String} {i0 i1 i2 : Nat} {Xn tx : String} {names : List String} (h0 : (decide (Jvm.Cond.classLink own i0 Xn ∈ lw_tbl) && decide (Jvm.Cond.instantiable Xn 6 ∈ lw_tbl) && decide (Jvm.Cond.initialized Xn ∈ lw_tbl) && decide ((own, i1, tx) ∈ zstr) && Jvm.Bundle.fit Xn && names.all Jvm.Bundle.fit) = true)
    (h1 : (Jvm.Bundle.ownAtoms own i2 Xn names).all (fun a => (decide (a ∈ lw_tbl) && zgood a) || decide (a = .laysStatic Jvm.Bundle.tN "UNASSIGNED_STACK" Jvm.Bundle.steD) || decide (a = .laysStatic Jvm.Bundle.tN "SUPPRESSED_SENTINEL" Jvm.Bundle.listD) || decide (a = .isRef (.static Jvm.Bundle.tN "UNASSIGNED_STACK" Jvm.Bundle.steD)) || decide (a = .isRef (.static Jvm.Bundle.tN "SUPPRESSED_SENTINEL" Jvm.Bundle.listD))) = true) : zown own i0 i1 i2 Xn tx names := by
  simp only [Bool.and_eq_true, decide_eq_true_eq] at h0
  obtain ⟨⟨⟨⟨⟨a1, a2⟩, a3⟩, a4⟩, a5⟩, a6⟩ := h0
  refine ⟨Tw_in a1 rfl, Tw_in a2 rfl, Tw_in a3 rfl, a4, a5, List.all_eq_true.mp a6, fun a ha => ?_⟩
  have q := List.all_eq_true.mp h1 a ha
  simp only [Bool.or_eq_true, Bool.and_eq_true, decide_eq_true_eq] at q
  rcases q with (((q | q) | q) | q) | q
  · exact Or.inl (Tw_in q.1 q.2)
  · exact Or.inr (Or.inl q)
  · exact Or.inr (Or.inr (Or.inl q))
  · exact Or.inr (Or.inr (Or.inr (Or.inl q)))
  · exact Or.inr (Or.inr (Or.inr (Or.inr q)))
set_option maxRecDepth 100000 in
set_option maxHeartbeats 4000000 in
theorem ow_122 : zown "AsOfLedger" 122 124 126 "java/lang/IllegalStateException" "a word was changed by hand" ["java/lang/RuntimeException", "java/lang/Exception"] := zown_of (by decide +kernel) (by decide +kernel)
set_option maxRecDepth 100000 in
set_option maxHeartbeats 4000000 in
theorem ow_129 : zown "AsOfLedger" 129 131 133 "java/lang/IllegalArgumentException" "an argument is out of its range" ["java/lang/RuntimeException", "java/lang/Exception"] := zown_of (by decide +kernel) (by decide +kernel)
set_option maxRecDepth 100000 in
set_option maxHeartbeats 4000000 in
theorem ow_134 : zown "AsOfLedger" 134 136 138 "java/lang/UnsupportedOperationException" "there are 64 versions" ["java/lang/RuntimeException", "java/lang/Exception"] := zown_of (by decide +kernel) (by decide +kernel)
set_option maxRecDepth 100000 in
set_option maxHeartbeats 4000000 in
theorem ow_141 : zown "AsOfLedger" 141 143 145 "java/lang/ArithmeticException" "a turnover would be above 2147483647" ["java/lang/RuntimeException", "java/lang/Exception"] := zown_of (by decide +kernel) (by decide +kernel)
