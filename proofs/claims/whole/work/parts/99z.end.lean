/-! the law runs; what was owed -/
theorem law_runs : LawRuns := by
  intro b L xs σ hL h
  obtain ⟨aL, aM, h1, h2, h3, h4, h5, h6, h7, h8, h9⟩ := h
  exact law_all hL h1 h2 h3 h4 h5 h6 h7 h8 h9
theorem i_vc : Claimed_1_1 ∧ Claimed_1_2 := i_vc_open law_runs
