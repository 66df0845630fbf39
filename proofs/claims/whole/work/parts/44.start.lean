/-! the law's start: from the interpreter's run to the machine's -/
def xscr (L : Nat) (xs : Nat → Int32) : List XE := (List.range L).map fun j => .inl (xs j)
def xleast : List XE := [.inl 0, .inl 0, .inl 1, .inl 0]
def xmost : List XE := [.inl 1000000, .inl 150, .inl 1000, .inl 20]
/-- the interpreter's heap at the law's start: the script, the two static arrays, nothing else -/
def XStart (b L : Nat) (xs : Nat → Int32) (σ : XH) : Prop := ∃ aL aM : Nat, σ.1 b = some (200, xscr L xs) ∧ σ.1 aL = some (200, xleast) ∧ σ.1 aM = some (200, xmost) ∧ (∀ q, q ≠ b → q ≠ aL → q ≠ aM → σ.1 q = none) ∧ b < σ.2.1 ∧ aL < σ.2.1 ∧ aM < σ.2.1 ∧ σ.2.2.1 = 0 ∧ σ.2.2.2 = (aL, aM)
/-- what is owed by the mathematics: the law, as the interpreter runs it, answers 1, within the room -/
def LawRuns : Prop := ∀ (b L : Nat) (xs : Nat → Int32) (σ : XH), L ≤ 2560 → XStart b L xs σ → ∃ (F : Nat) (σ' : XH), JL_law F (some b) σ = some (.inl (some (.inl 1)), σ') ∧ σ'.2.1 ≤ σ.2.1 + 601024 ∧ σ'.2.2.1 ≤ 7293034
theorem xscr_get {L j : Nat} {xs : Nat → Int32} (h : j < L) : (xscr L xs)[j]? = some (.inl (xs j)) := by
  unfold xscr
  rw [List.getElem?_map, List.getElem?_range h]
  rfl
theorem xscr_len {L : Nat} {xs : Nat → Int32} : (xscr L xs).length = L := by simp [xscr]
/-- every class's number and slots -/
theorem xknown {s : State} {args : Array Value} (hts : ∀ w ∈ xTs, w.before args s = true) : ∃ D : va_G, va_K D vwCl [] s := by
  have h : ∀ c : Nat, ∃ q : ClassId × (Nat → Nat), ∀ r : vw_C, vwCl[c]? = some r → u_Kn s r.1 r.2.1 r.2.2 q.1 q.2 := by
    intro c
    cases hc : vwCl[c]? with
    | none => exact ⟨(0, fun _ => 0), fun r hr => by cases hr⟩
    | some r =>
      obtain ⟨C, T, N⟩ := r
      obtain ⟨s1, -, -, s4, -⟩ := xs3 _ _ _ _ hc
      obtain ⟨cC, iS, hk⟩ := u_known hts s1 (hts _ s4)
      exact ⟨(cC, iS), fun r hr => by cases hr; exact hk⟩
  exact ⟨(fun c => (Classical.choose (h c)).1, fun c => (Classical.choose (h c)).2), fun c r hr => Classical.choose_spec (h c) r hr, fun k q hk => by simp at hk⟩
/-- a static array that nobody writes -/
theorem xstat {s : State} {args : Array Value} {n : String} {l4 : List Int32} (h4 : l4.length = 4) (hl : (Cond.laysStatic "TaskTrees" n "[I").before args s = true) (hini : (Cond.initialized "TaskTrees").before args s = true) (harr : (Cond.arrayOf (.static "TaskTrees" n "[I") .int).before args s = true) (hlen : (Cond.eq (.length (.static "TaskTrees" n "[I")) (.int 4)).before args s = true)
    (hel : ∀ j : Nat, j < 4 → (Cond.eq (.elem (.static "TaskTrees" n "[I") (.int (Int32.ofNat j))) (.int (l4.getD j 0))).before args s = true) : ∃ t : Nat, va_Z "TaskTrees" n "[I" (.ref t) (fun q => s.heap.size ≤ q) s s.heap ∧ va_T .int t 4 (fun j => .int (l4.getD j 0)) (fun q => s.heap.size ≤ q) s s.heap := by
  have hA : ∀ a : Nat, a < s.heap.size → ¬ (fun q => s.heap.size ≤ q) a := fun a h q => Nat.not_le.mpr h q
  obtain ⟨t, h1, h2⟩ := va_Tof (tm := .static "TaskTrees" n "[I") (ty := .int) (N := 4) (f := fun j => .int (l4.getD j 0)) (by decide) harr (va_eqt hlen) (fun j hj => va_eqt (hel j hj)) hA
  exact ⟨t, va_Zof hl hini h1 hA, h2⟩
theorem xT_at {s : State} {D : va_G} {t : Nat} {l4 : List Int32} (h4 : l4.length = 4) (h : va_T .int t 4 (fun j => .int (l4.getD j 0)) (fun q => s.heap.size ≤ q) s s.heap) : XAt s D s.heap t (200, l4.map fun x => .inl x) := by
  obtain ⟨cell, h1, h2, h3, h5, h6, h7, -⟩ := h
  refine Or.inr (Or.inr ⟨rfl, cell, h1, h2, h3, ⟨?_, ?_⟩, fun j hj => ?_⟩)
  · show (l4.map fun x => (.inl x : XE)).length ≤ _
    rw [List.length_map, h4]; exact h5
  · show _ = nI (l4.map fun x => (.inl x : XE)).length
    rw [List.length_map, h4]; exact h6
  · have hj : j < (l4.map fun x => (.inl x : XE)).length := hj
    rw [List.length_map] at hj
    rw [h7 j (by omega), xvV (x := .inl (l4.getD j 0))]
    · rfl
    · show (l4.map fun x => (.inl x : XE))[j]? = _
      rw [List.getElem?_map, List.getD_eq_getElem?_getD, List.getElem?_eq_getElem hj]
      rfl

section XLS
variable {p : Program} {e : Env} {s : State} {m : MethodId} {below : List Frame} {meth : Method} {c : Code}
set_option maxHeartbeats 4000000 in
set_option maxRecDepth 100000 in
theorem xpp_start {b : Nat} (hts : ∀ w ∈ lw_tbl, w.before #[Value.ref b] s = true) (hs : ∀ w ∈ flatC (Jvm.Cond.and given_1 narrow_1), w.before #[Value.ref b] s = true) : XPP s := by
  refine ⟨⟨va_Nw.of rfl (hts _ (List.mem_of_getElem? (i := 82) rfl)), va_Nw.of rfl (hts _ (List.mem_of_getElem? (i := 100) rfl)), va_Nw.of rfl (hts _ (List.mem_of_getElem? (i := 171) rfl))⟩, fun c hc => ?_, fun w hw => ?_, fun q hq => ?_, va_Nc.of (hs _ (by decide +kernel))⟩
  · rcases hc with rfl | rfl | rfl | rfl | rfl
    · exact va_AO.of (hts _ (List.mem_of_getElem? (i := 105) rfl))
    · exact va_AO.of (hts _ (List.mem_of_getElem? (i := 107) rfl))
    · exact va_AO.of (hts _ (List.mem_of_getElem? (i := 87) rfl))
    · exact va_AO.of (hts _ (List.mem_of_getElem? (i := 166) rfl))
    · exact va_AO.of (hts _ (List.mem_of_getElem? (i := 168) rfl))
  · simp only [xB, List.mem_cons, List.not_mem_nil, or_false] at hw
    rcases hw with rfl | rfl | rfl | rfl | rfl
    · exact va_Nw.of rfl (hts _ (List.mem_of_getElem? (i := 724) rfl))
    · exact va_Nw.of rfl (hts _ (List.mem_of_getElem? (i := 726) rfl))
    · exact va_Nw.of rfl (hts _ (List.mem_of_getElem? (i := 728) rfl))
    · exact va_Nw.of rfl (hts _ (List.mem_of_getElem? (i := 722) rfl))
    · exact va_Nw.of rfl (hts _ (List.mem_of_getElem? (i := 837) rfl))
  · simp only [xstrs, List.mem_cons, List.not_mem_nil, or_false] at hq
    rcases hq with rfl | rfl | rfl | rfl | rfl | rfl | rfl | rfl | rfl | rfl | rfl | rfl
    · obtain ⟨a, _, _, _, q1, -⟩ := Cond.exactly_spec (hs (.exactly (.string "TaskTrees" 131) "java/lang/String") (by decide +kernel))
      exact ⟨a, vk_R.of (hts _ (List.mem_of_getElem? (i := 760) rfl)) q1⟩
    · obtain ⟨a, _, _, _, q1, -⟩ := Cond.exactly_spec (hs (.exactly (.string "TaskTrees" 142) "java/lang/String") (by decide +kernel))
      exact ⟨a, vk_R.of (hts _ (List.mem_of_getElem? (i := 805) rfl)) q1⟩
    · obtain ⟨a, _, _, _, q1, -⟩ := Cond.exactly_spec (hs (.exactly (.string "TaskTrees" 170) "java/lang/String") (by decide +kernel))
      exact ⟨a, vk_R.of (hts _ (List.mem_of_getElem? (i := 821) rfl)) q1⟩
    · obtain ⟨a, _, _, _, q1, -⟩ := Cond.exactly_spec (hs (.exactly (.string "TaskTrees" 184) "java/lang/String") (by decide +kernel))
      exact ⟨a, vk_R.of (hts _ (List.mem_of_getElem? (i := 830) rfl)) q1⟩
    · obtain ⟨a, _, _, _, q1, -⟩ := Cond.exactly_spec (hs (.exactly (.string "TaskTrees" 195) "java/lang/String") (by decide +kernel))
      exact ⟨a, vk_R.of (hts _ (List.mem_of_getElem? (i := 844) rfl)) q1⟩
    · obtain ⟨a, _, _, _, q1, -⟩ := Cond.exactly_spec (hs (.exactly (.string "TaskTrees" 208) "java/lang/String") (by decide +kernel))
      exact ⟨a, vk_R.of (hts _ (List.mem_of_getElem? (i := 879) rfl)) q1⟩
    · obtain ⟨a, _, _, _, q1, -⟩ := Cond.exactly_spec (hs (.exactly (.string "TaskTrees" 221) "java/lang/String") (by decide +kernel))
      exact ⟨a, vk_R.of (hts _ (List.mem_of_getElem? (i := 931) rfl)) q1⟩
    · obtain ⟨a, _, _, _, q1, -⟩ := Cond.exactly_spec (hs (.exactly (.string "TaskTrees" 236) "java/lang/String") (by decide +kernel))
      exact ⟨a, vk_R.of (hts _ (List.mem_of_getElem? (i := 947) rfl)) q1⟩
    · obtain ⟨a, _, _, _, q1, -⟩ := Cond.exactly_spec (hs (.exactly (.string "TaskTrees" 241) "java/lang/String") (by decide +kernel))
      exact ⟨a, vk_R.of (hts _ (List.mem_of_getElem? (i := 955) rfl)) q1⟩
    · obtain ⟨a, _, _, _, q1, -⟩ := Cond.exactly_spec (hs (.exactly (.string "TaskTrees" 261) "java/lang/String") (by decide +kernel))
      exact ⟨a, vk_R.of (hts _ (List.mem_of_getElem? (i := 983) rfl)) q1⟩
    · obtain ⟨a, _, _, _, q1, -⟩ := Cond.exactly_spec (hs (.exactly (.string "TaskTrees" 296) "java/lang/String") (by decide +kernel))
      exact ⟨a, vk_R.of (hts _ (List.mem_of_getElem? (i := 1011) rfl)) q1⟩
    · obtain ⟨a, _, _, _, q1, -⟩ := Cond.exactly_spec (hs (.exactly (.string "TaskTrees" 307) "java/lang/String") (by decide +kernel))
      exact ⟨a, vk_R.of (hts _ (List.mem_of_getElem? (i := 1023) rfl)) q1⟩
set_option maxHeartbeats 4000000 in
set_option maxRecDepth 100000 in
theorem xstat_start {b : Nat} (hts : ∀ w ∈ lw_tbl, w.before #[Value.ref b] s = true) (hs : ∀ w ∈ flatC (Jvm.Cond.and given_1 narrow_1), w.before #[Value.ref b] s = true) :
    (∃ t : Nat, va_Z "TaskTrees" "SET_LEAST" "[I" (.ref t) (fun q => s.heap.size ≤ q) s s.heap ∧ va_T .int t 4 (fun j => .int (([0, 0, 1, 0] : List Int32).getD j 0)) (fun q => s.heap.size ≤ q) s s.heap) ∧
    (∃ t : Nat, va_Z "TaskTrees" "SET_MOST" "[I" (.ref t) (fun q => s.heap.size ≤ q) s s.heap ∧ va_T .int t 4 (fun j => .int (([1000000, 150, 1000, 20] : List Int32).getD j 0)) (fun q => s.heap.size ≤ q) s s.heap) := by
  refine ⟨xstat rfl (hts _ (List.mem_of_getElem? (i := 832) rfl)) (hts _ (List.mem_of_getElem? (i := 53) rfl)) (hs _ (by decide +kernel)) (hs _ (by decide +kernel)) (fun j hj => ?_), xstat rfl (hts _ (List.mem_of_getElem? (i := 834) rfl)) (hts _ (List.mem_of_getElem? (i := 53) rfl)) (hs _ (by decide +kernel)) (hs _ (by decide +kernel)) (fun j hj => ?_)⟩
  · rcases (by omega : j = 0 ∨ j = 1 ∨ j = 2 ∨ j = 3) with rfl | rfl | rfl | rfl <;> exact hs _ (by decide +kernel)
  · rcases (by omega : j = 0 ∨ j = 1 ∨ j = 2 ∨ j = 3) with rfl | rfl | rfl | rfl <;> exact hs _ (by decide +kernel)
end XLS
