/-! the reference's arrays are in bounds (printed) -/
def rbt : List (Nat × Int × Int × Int) := [(22, 0, 2, 150), (23, -1, 149, 150), (24, 0, 19, 150), (25, 0, 19, 150), (26, 0, 9, 150), (27, 0, 1000000, 150), (28, -10, 10, 150), (29, 0, 1, 150), (32, 0, 40, 3000), (34, -1, 19, 20), (35, 0, 149, 20), (36, 0, 40, 20), (38, -1, 19, 20), (39, 0, 150, 20), (40, 0, 1000000, 20), (41, 0, 1000, 20), (42, 0, 20, 20), (43, 0, 1000000, 20), (49, 0, 79, 10), (50, 0, 1, 80), (51, 0, 9, 80), (52, -1, 79, 80), (53, 0, 14, 80), (54, 0, 9, 80), (59, 0, 1, 20), (60, -1, 79, 80)]
def RB (I : ST) : Prop := (∀ r ∈ rbt, ∀ j, 0 ≤ j → j < r.2.2.2 → r.2.1 ≤ I r.1 0 j ∧ I r.1 0 j ≤ r.2.2.1) ∧ (∀ g, 0 ≤ g → g < 20 → I 34 0 g < g ∧ I 38 0 g < g) ∧ (1 ≤ I 12 0 1 ∧ I 12 0 1 ≤ 150) ∧ (1 ≤ I 12 0 13 ∧ I 12 0 13 ≤ 20) ∧ (1 ≤ I 12 0 17 ∧ I 12 0 17 ≤ 20) ∧ (1 ≤ I 12 0 28 ∧ I 12 0 28 ≤ 10)
section RBs
variable {I : ST}
theorem RB.tasks (hB : RB I) : 1 ≤ I 12 0 1 ∧ I 12 0 1 ≤ 150 := hB.2.2.1
theorem RB.spaces (hB : RB I) : 1 ≤ I 12 0 13 ∧ I 12 0 13 ≤ 20 := hB.2.2.2.1
theorem RB.groups (hB : RB I) : 1 ≤ I 12 0 17 ∧ I 12 0 17 ≤ 20 := hB.2.2.2.2.1
theorem RB.views (hB : RB I) : 1 ≤ I 12 0 28 ∧ I 12 0 28 ≤ 10 := hB.2.2.2.2.2
theorem RB.state (hB : RB I) {j : Int} (h0 : 0 ≤ j) (h1 : j < 150) : 0 ≤ I 22 0 j ∧ I 22 0 j ≤ 2 := hB.1 (22, 0, 2, 150) (by decide) j h0 h1
theorem RB.parent (hB : RB I) {j : Int} (h0 : 0 ≤ j) (h1 : j < 150) : -1 ≤ I 23 0 j ∧ I 23 0 j ≤ 149 := hB.1 (23, -1, 149, 150) (by decide) j h0 h1
theorem RB.space (hB : RB I) {j : Int} (h0 : 0 ≤ j) (h1 : j < 150) : 0 ≤ I 24 0 j ∧ I 24 0 j ≤ 19 := hB.1 (24, 0, 19, 150) (by decide) j h0 h1
theorem RB.group (hB : RB I) {j : Int} (h0 : 0 ≤ j) (h1 : j < 150) : 0 ≤ I 25 0 j ∧ I 25 0 j ≤ 19 := hB.1 (25, 0, 19, 150) (by decide) j h0 h1
theorem RB.view (hB : RB I) {j : Int} (h0 : 0 ≤ j) (h1 : j < 150) : 0 ≤ I 26 0 j ∧ I 26 0 j ≤ 9 := hB.1 (26, 0, 9, 150) (by decide) j h0 h1
theorem RB.pages (hB : RB I) {j : Int} (h0 : 0 ≤ j) (h1 : j < 150) : 0 ≤ I 27 0 j ∧ I 27 0 j ≤ 1000000 := hB.1 (27, 0, 1000000, 150) (by decide) j h0 h1
theorem RB.badness (hB : RB I) {j : Int} (h0 : 0 ≤ j) (h1 : j < 150) : -10 ≤ I 28 0 j ∧ I 28 0 j ≤ 10 := hB.1 (28, -10, 10, 150) (by decide) j h0 h1
theorem RB.asleep (hB : RB I) {j : Int} (h0 : 0 ≤ j) (h1 : j < 150) : 0 ≤ I 29 0 j ∧ I 29 0 j ≤ 1 := hB.1 (29, 0, 1, 150) (by decide) j h0 h1
theorem RB.numbers (hB : RB I) {j : Int} (h0 : 0 ≤ j) (h1 : j < 3000) : 0 ≤ I 32 0 j ∧ I 32 0 j ≤ 40 := hB.1 (32, 0, 40, 3000) (by decide) j h0 h1
theorem RB.around (hB : RB I) {j : Int} (h0 : 0 ≤ j) (h1 : j < 20) : -1 ≤ I 34 0 j ∧ I 34 0 j ≤ 19 := hB.1 (34, -1, 19, 20) (by decide) j h0 h1
theorem RB.init (hB : RB I) {j : Int} (h0 : 0 ≤ j) (h1 : j < 20) : 0 ≤ I 35 0 j ∧ I 35 0 j ≤ 149 := hB.1 (35, 0, 149, 20) (by decide) j h0 h1
theorem RB.given (hB : RB I) {j : Int} (h0 : 0 ≤ j) (h1 : j < 20) : 0 ≤ I 36 0 j ∧ I 36 0 j ≤ 40 := hB.1 (36, 0, 40, 20) (by decide) j h0 h1
theorem RB.within (hB : RB I) {j : Int} (h0 : 0 ≤ j) (h1 : j < 20) : -1 ≤ I 38 0 j ∧ I 38 0 j ≤ 19 := hB.1 (38, -1, 19, 20) (by decide) j h0 h1
theorem RB.most (hB : RB I) {j : Int} (h0 : 0 ≤ j) (h1 : j < 20) : 0 ≤ I 39 0 j ∧ I 39 0 j ≤ 150 := hB.1 (39, 0, 150, 20) (by decide) j h0 h1
theorem RB.max (hB : RB I) {j : Int} (h0 : 0 ≤ j) (h1 : j < 20) : 0 ≤ I 40 0 j ∧ I 40 0 j ≤ 1000000 := hB.1 (40, 0, 1000000, 20) (by decide) j h0 h1
theorem RB.weight (hB : RB I) {j : Int} (h0 : 0 ≤ j) (h1 : j < 20) : 0 ≤ I 41 0 j ∧ I 41 0 j ≤ 1000 := hB.1 (41, 0, 1000, 20) (by decide) j h0 h1
theorem RB.quota (hB : RB I) {j : Int} (h0 : 0 ≤ j) (h1 : j < 20) : 0 ≤ I 42 0 j ∧ I 42 0 j ≤ 20 := hB.1 (42, 0, 20, 20) (by decide) j h0 h1
theorem RB.cached (hB : RB I) {j : Int} (h0 : 0 ≤ j) (h1 : j < 20) : 0 ≤ I 43 0 j ∧ I 43 0 j ≤ 1000000 := hB.1 (43, 0, 1000000, 20) (by decide) j h0 h1
theorem RB.root (hB : RB I) {j : Int} (h0 : 0 ≤ j) (h1 : j < 10) : 0 ≤ I 49 0 j ∧ I 49 0 j ≤ 79 := hB.1 (49, 0, 79, 10) (by decide) j h0 h1
theorem RB.there (hB : RB I) {j : Int} (h0 : 0 ≤ j) (h1 : j < 80) : 0 ≤ I 50 0 j ∧ I 50 0 j ≤ 1 := hB.1 (50, 0, 1, 80) (by decide) j h0 h1
theorem RB.viewOf (hB : RB I) {j : Int} (h0 : 0 ≤ j) (h1 : j < 80) : 0 ≤ I 51 0 j ∧ I 51 0 j ≤ 9 := hB.1 (51, 0, 9, 80) (by decide) j h0 h1
theorem RB.inMount (hB : RB I) {j : Int} (h0 : 0 ≤ j) (h1 : j < 80) : -1 ≤ I 52 0 j ∧ I 52 0 j ≤ 79 := hB.1 (52, -1, 79, 80) (by decide) j h0 h1
theorem RB.inPlace (hB : RB I) {j : Int} (h0 : 0 ≤ j) (h1 : j < 80) : 0 ≤ I 53 0 j ∧ I 53 0 j ≤ 14 := hB.1 (53, 0, 14, 80) (by decide) j h0 h1
theorem RB.volumes (hB : RB I) {j : Int} (h0 : 0 ≤ j) (h1 : j < 80) : 0 ≤ I 54 0 j ∧ I 54 0 j ≤ 9 := hB.1 (54, 0, 9, 80) (by decide) j h0 h1
theorem RB.has (hB : RB I) {j : Int} (h0 : 0 ≤ j) (h1 : j < 20) : 0 ≤ I 59 0 j ∧ I 59 0 j ≤ 1 := hB.1 (59, 0, 1, 20) (by decide) j h0 h1
theorem RB.copies (hB : RB I) {j : Int} (h0 : 0 ≤ j) (h1 : j < 80) : -1 ≤ I 60 0 j ∧ I 60 0 j ≤ 79 := hB.1 (60, -1, 79, 80) (by decide) j h0 h1
theorem RB.arw (hB : RB I) {j : Int} (h0 : 0 ≤ j) (h1 : j < 20) : I 34 0 j < j := (hB.2.1 j h0 h1).1
theorem RB.wiw (hB : RB I) {j : Int} (h0 : 0 ≤ j) (h1 : j < 20) : I 38 0 j < j := (hB.2.1 j h0 h1).2
theorem RB.uG (hB : RB I) {k : Nat} {i j v : Int} (hv : ∀ r ∈ rbt, r.1 = k → r.2.1 ≤ v ∧ v ≤ r.2.2.1) (hw : k = 34 ∨ k = 38 → v < j) (hs : k ≠ 12) : RB (up I k i j v) := by
  obtain ⟨h1, h2, h3, h4, h5, h6⟩ := hB
  refine ⟨fun r hr a a0 a1 => ?_, fun g g0 g1 => ?_, ?_, ?_, ?_, ?_⟩
  · unfold up
    by_cases h : r.1 = k ∧ (0 : Int) = i ∧ a = j
    · rw [if_pos h]; exact hv r hr h.1
    · rw [if_neg h]; exact h1 r hr a a0 a1
  · unfold up
    refine ⟨?_, ?_⟩
    · by_cases h : 34 = k ∧ (0 : Int) = i ∧ g = j
      · rw [if_pos h]; have := hw (Or.inl h.1.symm); omega
      · rw [if_neg h]; exact (h2 g g0 g1).1
    · by_cases h : 38 = k ∧ (0 : Int) = i ∧ g = j
      · rw [if_pos h]; have := hw (Or.inr h.1.symm); omega
      · rw [if_neg h]; exact (h2 g g0 g1).2
  all_goals
    rw [up_k (Ne.symm hs)]
    assumption
theorem RB.uS (hB : RB I) {i j v : Int} (h1 : j = 1 → 1 ≤ v ∧ v ≤ 150) (h2 : j = 13 → 1 ≤ v ∧ v ≤ 20) (h3 : j = 17 → 1 ≤ v ∧ v ≤ 20) (h4 : j = 28 → 1 ≤ v ∧ v ≤ 10) : RB (up I 12 i j v) := by
  obtain ⟨g1, g2, g3, g4, g5, g6⟩ := hB
  refine ⟨fun r hr a a0 a1 => ?_, fun g g0 g1 => ?_, ?_, ?_, ?_, ?_⟩
  · have : r.1 ≠ 12 := by
      intro h
      have hh : ∀ r ∈ rbt, r.1 ≠ 12 := by decide
      exact hh r hr h
    rw [up_k this]; exact g1 r hr a a0 a1
  · rw [up_k (by decide), up_k (by decide)]; exact g2 g g0 (by assumption)
  · unfold up
    by_cases h : 12 = 12 ∧ (0 : Int) = i ∧ 1 = j
    · rw [if_pos h]; exact h1 h.2.2.symm
    · rw [if_neg h]; exact g3
  · unfold up
    by_cases h : 12 = 12 ∧ (0 : Int) = i ∧ 13 = j
    · rw [if_pos h]; exact h2 h.2.2.symm
    · rw [if_neg h]; exact g4
  · unfold up
    by_cases h : 12 = 12 ∧ (0 : Int) = i ∧ 17 = j
    · rw [if_pos h]; exact h3 h.2.2.symm
    · rw [if_neg h]; exact g5
  · unfold up
    by_cases h : 12 = 12 ∧ (0 : Int) = i ∧ 28 = j
    · rw [if_pos h]; exact h4 h.2.2.symm
    · rw [if_neg h]; exact g6
theorem RB.u_state (hB : RB I) {i j v : Int} (h0 : 0 ≤ v) (h1 : v ≤ 2) : RB (up I 22 i j v) := hB.uG (by
  intro r hr h
  have hh : ∀ r ∈ rbt, r.1 = 22 → r.2.1 = 0 ∧ r.2.2.1 = 2 := by decide
  have := hh r hr h
  omega) (by omega) (by decide)
theorem RB.u_parent (hB : RB I) {i j v : Int} (h0 : -1 ≤ v) (h1 : v ≤ 149) : RB (up I 23 i j v) := hB.uG (by
  intro r hr h
  have hh : ∀ r ∈ rbt, r.1 = 23 → r.2.1 = -1 ∧ r.2.2.1 = 149 := by decide
  have := hh r hr h
  omega) (by omega) (by decide)
theorem RB.u_space (hB : RB I) {i j v : Int} (h0 : 0 ≤ v) (h1 : v ≤ 19) : RB (up I 24 i j v) := hB.uG (by
  intro r hr h
  have hh : ∀ r ∈ rbt, r.1 = 24 → r.2.1 = 0 ∧ r.2.2.1 = 19 := by decide
  have := hh r hr h
  omega) (by omega) (by decide)
theorem RB.u_group (hB : RB I) {i j v : Int} (h0 : 0 ≤ v) (h1 : v ≤ 19) : RB (up I 25 i j v) := hB.uG (by
  intro r hr h
  have hh : ∀ r ∈ rbt, r.1 = 25 → r.2.1 = 0 ∧ r.2.2.1 = 19 := by decide
  have := hh r hr h
  omega) (by omega) (by decide)
theorem RB.u_view (hB : RB I) {i j v : Int} (h0 : 0 ≤ v) (h1 : v ≤ 9) : RB (up I 26 i j v) := hB.uG (by
  intro r hr h
  have hh : ∀ r ∈ rbt, r.1 = 26 → r.2.1 = 0 ∧ r.2.2.1 = 9 := by decide
  have := hh r hr h
  omega) (by omega) (by decide)
theorem RB.u_pages (hB : RB I) {i j v : Int} (h0 : 0 ≤ v) (h1 : v ≤ 1000000) : RB (up I 27 i j v) := hB.uG (by
  intro r hr h
  have hh : ∀ r ∈ rbt, r.1 = 27 → r.2.1 = 0 ∧ r.2.2.1 = 1000000 := by decide
  have := hh r hr h
  omega) (by omega) (by decide)
theorem RB.u_badness (hB : RB I) {i j v : Int} (h0 : -10 ≤ v) (h1 : v ≤ 10) : RB (up I 28 i j v) := hB.uG (by
  intro r hr h
  have hh : ∀ r ∈ rbt, r.1 = 28 → r.2.1 = -10 ∧ r.2.2.1 = 10 := by decide
  have := hh r hr h
  omega) (by omega) (by decide)
theorem RB.u_asleep (hB : RB I) {i j v : Int} (h0 : 0 ≤ v) (h1 : v ≤ 1) : RB (up I 29 i j v) := hB.uG (by
  intro r hr h
  have hh : ∀ r ∈ rbt, r.1 = 29 → r.2.1 = 0 ∧ r.2.2.1 = 1 := by decide
  have := hh r hr h
  omega) (by omega) (by decide)
theorem RB.u_time (hB : RB I) {i j v : Int} : RB (up I 30 i j v) := hB.uG (by
  intro r hr h
  have hh : ∀ r ∈ rbt, r.1 ≠ 30 := by decide
  exact absurd h (hh r hr)) (by omega) (by decide)
theorem RB.u_ran (hB : RB I) {i j v : Int} : RB (up I 31 i j v) := hB.uG (by
  intro r hr h
  have hh : ∀ r ∈ rbt, r.1 ≠ 31 := by decide
  exact absurd h (hh r hr)) (by omega) (by decide)
theorem RB.u_numbers (hB : RB I) {i j v : Int} (h0 : 0 ≤ v) (h1 : v ≤ 40) : RB (up I 32 i j v) := hB.uG (by
  intro r hr h
  have hh : ∀ r ∈ rbt, r.1 = 32 → r.2.1 = 0 ∧ r.2.2.1 = 40 := by decide
  have := hh r hr h
  omega) (by omega) (by decide)
theorem RB.u_around (hB : RB I) {i j v : Int} (h0 : -1 ≤ v) (h1 : v ≤ 19) (hw : v < j) : RB (up I 34 i j v) := hB.uG (by
  intro r hr h
  have hh : ∀ r ∈ rbt, r.1 = 34 → r.2.1 = -1 ∧ r.2.2.1 = 19 := by decide
  have := hh r hr h
  omega) (by intro; exact hw) (by decide)
theorem RB.u_init (hB : RB I) {i j v : Int} (h0 : 0 ≤ v) (h1 : v ≤ 149) : RB (up I 35 i j v) := hB.uG (by
  intro r hr h
  have hh : ∀ r ∈ rbt, r.1 = 35 → r.2.1 = 0 ∧ r.2.2.1 = 149 := by decide
  have := hh r hr h
  omega) (by omega) (by decide)
theorem RB.u_given (hB : RB I) {i j v : Int} (h0 : 0 ≤ v) (h1 : v ≤ 40) : RB (up I 36 i j v) := hB.uG (by
  intro r hr h
  have hh : ∀ r ∈ rbt, r.1 = 36 → r.2.1 = 0 ∧ r.2.2.1 = 40 := by decide
  have := hh r hr h
  omega) (by omega) (by decide)
theorem RB.u_within (hB : RB I) {i j v : Int} (h0 : -1 ≤ v) (h1 : v ≤ 19) (hw : v < j) : RB (up I 38 i j v) := hB.uG (by
  intro r hr h
  have hh : ∀ r ∈ rbt, r.1 = 38 → r.2.1 = -1 ∧ r.2.2.1 = 19 := by decide
  have := hh r hr h
  omega) (by intro; exact hw) (by decide)
theorem RB.u_most (hB : RB I) {i j v : Int} (h0 : 0 ≤ v) (h1 : v ≤ 150) : RB (up I 39 i j v) := hB.uG (by
  intro r hr h
  have hh : ∀ r ∈ rbt, r.1 = 39 → r.2.1 = 0 ∧ r.2.2.1 = 150 := by decide
  have := hh r hr h
  omega) (by omega) (by decide)
theorem RB.u_max (hB : RB I) {i j v : Int} (h0 : 0 ≤ v) (h1 : v ≤ 1000000) : RB (up I 40 i j v) := hB.uG (by
  intro r hr h
  have hh : ∀ r ∈ rbt, r.1 = 40 → r.2.1 = 0 ∧ r.2.2.1 = 1000000 := by decide
  have := hh r hr h
  omega) (by omega) (by decide)
theorem RB.u_weight (hB : RB I) {i j v : Int} (h0 : 0 ≤ v) (h1 : v ≤ 1000) : RB (up I 41 i j v) := hB.uG (by
  intro r hr h
  have hh : ∀ r ∈ rbt, r.1 = 41 → r.2.1 = 0 ∧ r.2.2.1 = 1000 := by decide
  have := hh r hr h
  omega) (by omega) (by decide)
theorem RB.u_quota (hB : RB I) {i j v : Int} (h0 : 0 ≤ v) (h1 : v ≤ 20) : RB (up I 42 i j v) := hB.uG (by
  intro r hr h
  have hh : ∀ r ∈ rbt, r.1 = 42 → r.2.1 = 0 ∧ r.2.2.1 = 20 := by decide
  have := hh r hr h
  omega) (by omega) (by decide)
theorem RB.u_cached (hB : RB I) {i j v : Int} (h0 : 0 ≤ v) (h1 : v ≤ 1000000) : RB (up I 43 i j v) := hB.uG (by
  intro r hr h
  have hh : ∀ r ∈ rbt, r.1 = 43 → r.2.1 = 0 ∧ r.2.2.1 = 1000000 := by decide
  have := hh r hr h
  omega) (by omega) (by decide)
theorem RB.u_ranNow (hB : RB I) {i j v : Int} : RB (up I 44 i j v) := hB.uG (by
  intro r hr h
  have hh : ∀ r ∈ rbt, r.1 ≠ 44 := by decide
  exact absurd h (hh r hr)) (by omega) (by decide)
theorem RB.u_groupTime (hB : RB I) {i j v : Int} : RB (up I 45 i j v) := hB.uG (by
  intro r hr h
  have hh : ∀ r ∈ rbt, r.1 ≠ 45 := by decide
  exact absurd h (hh r hr)) (by omega) (by decide)
theorem RB.u_root (hB : RB I) {i j v : Int} (h0 : 0 ≤ v) (h1 : v ≤ 79) : RB (up I 49 i j v) := hB.uG (by
  intro r hr h
  have hh : ∀ r ∈ rbt, r.1 = 49 → r.2.1 = 0 ∧ r.2.2.1 = 79 := by decide
  have := hh r hr h
  omega) (by omega) (by decide)
theorem RB.u_there (hB : RB I) {i j v : Int} (h0 : 0 ≤ v) (h1 : v ≤ 1) : RB (up I 50 i j v) := hB.uG (by
  intro r hr h
  have hh : ∀ r ∈ rbt, r.1 = 50 → r.2.1 = 0 ∧ r.2.2.1 = 1 := by decide
  have := hh r hr h
  omega) (by omega) (by decide)
theorem RB.u_viewOf (hB : RB I) {i j v : Int} (h0 : 0 ≤ v) (h1 : v ≤ 9) : RB (up I 51 i j v) := hB.uG (by
  intro r hr h
  have hh : ∀ r ∈ rbt, r.1 = 51 → r.2.1 = 0 ∧ r.2.2.1 = 9 := by decide
  have := hh r hr h
  omega) (by omega) (by decide)
theorem RB.u_inMount (hB : RB I) {i j v : Int} (h0 : -1 ≤ v) (h1 : v ≤ 79) : RB (up I 52 i j v) := hB.uG (by
  intro r hr h
  have hh : ∀ r ∈ rbt, r.1 = 52 → r.2.1 = -1 ∧ r.2.2.1 = 79 := by decide
  have := hh r hr h
  omega) (by omega) (by decide)
theorem RB.u_inPlace (hB : RB I) {i j v : Int} (h0 : 0 ≤ v) (h1 : v ≤ 14) : RB (up I 53 i j v) := hB.uG (by
  intro r hr h
  have hh : ∀ r ∈ rbt, r.1 = 53 → r.2.1 = 0 ∧ r.2.2.1 = 14 := by decide
  have := hh r hr h
  omega) (by omega) (by decide)
theorem RB.u_volumes (hB : RB I) {i j v : Int} (h0 : 0 ≤ v) (h1 : v ≤ 9) : RB (up I 54 i j v) := hB.uG (by
  intro r hr h
  have hh : ∀ r ∈ rbt, r.1 = 54 → r.2.1 = 0 ∧ r.2.2.1 = 9 := by decide
  have := hh r hr h
  omega) (by omega) (by decide)
theorem RB.u_peers (hB : RB I) {i j v : Int} : RB (up I 55 i j v) := hB.uG (by
  intro r hr h
  have hh : ∀ r ∈ rbt, r.1 ≠ 55 := by decide
  exact absurd h (hh r hr)) (by omega) (by decide)
theorem RB.u_has (hB : RB I) {i j v : Int} (h0 : 0 ≤ v) (h1 : v ≤ 1) : RB (up I 59 i j v) := hB.uG (by
  intro r hr h
  have hh : ∀ r ∈ rbt, r.1 = 59 → r.2.1 = 0 ∧ r.2.2.1 = 1 := by decide
  have := hh r hr h
  omega) (by omega) (by decide)
theorem RB.u_copies (hB : RB I) {i j v : Int} (h0 : -1 ≤ v) (h1 : v ≤ 79) : RB (up I 60 i j v) := hB.uG (by
  intro r hr h
  have hh : ∀ r ∈ rbt, r.1 = 60 → r.2.1 = -1 ∧ r.2.2.1 = 79 := by decide
  have := hh r hr h
  omega) (by omega) (by decide)
end RBs
