/-! references of the class's store are below the counts -/
def rfL : List (Nat × Nat × Nat) := [(1, 1, 4), (1, 12, 11), (1, 13, 4), (4, 2, 13), (4, 3, 7), (4, 8, 7), (6, 0, 7), (7, 1, 10), (7, 4, 11), (8, 1, 10), (8, 2, 13), (8, 3, 11), (8, 4, 4), (10, 1, 7)]
def rfP (k j c : Nat) : Bool := Nat.blt c 3 || Nat.ble 200 c || rfL.contains (k, j, c) || (k == 15 && c == 11) || (k == 17 && c == 7)
theorem kyR (k j : Nat) (hk : k < 65) : rfP k j (ky k j) = true := by
  refine kyA (P := rfP) (by decide +kernel) ?_ ?_ k j hk
  · have h : ∀ k : Fin 65, (Nat.blt k 13 || Nat.blt (ky k 0) 3 || Nat.ble 200 (ky k 0) || (k.val == 15 && ky k 0 == 11) || (k.val == 17 && ky k 0 == 7)) = true := by decide +kernel
    intro k hk j
    have := h k
    unfold rfP
    simp only [Bool.or_eq_true, Nat.blt_eq] at this ⊢
    rcases this with (((q | q) | q) | q) | q
    · omega
    · exact Or.inl (Or.inl (Or.inl (Or.inl q)))
    · exact Or.inl (Or.inl (Or.inl (Or.inr q)))
    · exact Or.inl (Or.inr q)
    · exact Or.inr q
  · intro k j
    unfold rfP
    rfl
section CL
variable {e : EN} {C I J : ST} {z : Nat × Nat × Nat × Nat}
theorem Cpl.bd (hA : WA e z) (hC : Cpl e C J) (hT : TI J) (hM : MI J) : BD e (mx C I) := by
  have n8 := hC.1.1
  have n7 := hC.2.1.1
  have n1 := hC.2.2.1.1
  have n10 := hC.2.2.2.2.1.1
  have hB := hT.1
  have := RB.tasks hB
  have := RB.spaces hB
  have := RB.groups hB
  have := RB.views hB
  have n4 := hA.2.2.2.1
  intro k i j hv hj c3 c2
  have hp := kyR k j hv.1
  obtain ⟨h1, h2, h3, h4, h5, h6⟩ := hC
  have v := hv.2
  unfold rfP at hp
  simp only [Bool.or_eq_true, Nat.blt_eq, Nat.ble_eq, Bool.and_eq_true, beq_iff_eq, List.contains_iff_mem] at hp
  rcases hp with (((q | q) | q) | q) | q
  · omega
  · omega
  · simp only [rfL, List.mem_cons, Prod.mk.injEq, List.not_mem_nil, or_false] at q
    rcases q with q | q | q | q | q | q | q | q | q | q | q | q | q | q
    all_goals
      obtain ⟨rfl, rfl, qc⟩ := q
      rw [qc]
    · show C 1 i 1 < (e.2.1 1)
      have := h3.outer v.1 (by omega)
      have := RB.ww hB i v.1 (by omega)
      show C 1 i 1 < _
      omega
    · have := (h4 i v.1 (by omega)).1
      show C 1 i 12 < (e.2.1 8)
      omega
    · have := (h4 i v.1 (by omega)).2
      show C 1 i 13 < (e.2.1 1)
      omega
    · have := (h5.2.2.1 i v.1 (by omega)).2.2.1
      show C 4 i 2 < (e.2.1 10)
      rw [this]
      split
      · have := (hM.1 i v.1 (by omega) (by assumption)).1
        omega
      · omega
    · have := (h5.2.2.1 i v.1 (by omega)).2.2.2.1
      have := RB.inMount hB (j := i) v.1 (by omega)
      show C 4 i 3 < (e.2.1 4)
      split at * <;> omega
    · have := h6.2.2.2.2.2.2 i v.1 (by omega)
      show C 4 i 8 < (e.2.1 4)
      omega
    · have := h6.2.2.2.1
      have i0 : i = 0 := by have := hA.2.2.1 6 rfl; omega
      subst i0
      show C 6 0 0 < (e.2.1 4)
      omega
    · have := h2.outer v.1 (by omega)
      have := RB.aw hB i v.1 (by omega)
      show C 7 i 1 < (e.2.1 7)
      omega
    · have := h2.init v.1 (by omega)
      have := hT.ib v.1 (by omega)
      show C 7 i 4 < (e.2.1 8)
      omega
    · have := h1.space v.1 (by omega)
      have := hT.b v.1 (by omega)
      show C 8 i 1 < (e.2.1 7)
      omega
    · have := h1.view v.1 (by omega)
      have := hT.b v.1 (by omega)
      show C 8 i 2 < (e.2.1 10)
      omega
    · have := h1.parent v.1 (by omega)
      have := hT.b v.1 (by omega)
      show C 8 i 3 < (e.2.1 8)
      omega
    · have := h1.group v.1 (by omega)
      have := hT.b v.1 (by omega)
      show C 8 i 4 < (e.2.1 1)
      omega
    · have := h5.2.1 i v.1 (by omega)
      have := RB.root hB (j := i) v.1 (by omega)
      show C 10 i 1 < (e.2.1 4)
      omega
  · obtain ⟨rfl, qc⟩ := q
    rw [qc]
    show C 15 i j < (e.2.1 8)
    by_cases h0 : j = 0
    · subst h0
      have := h2.h0 v.1 (by omega)
      show C 15 i 0 < (e.2.1 8)
      omega
    · have hj : j < 41 := hj
      have := (h2.hold v.1 (by omega) (n := j) (by omega) (by omega)).1
      omega
  · obtain ⟨rfl, qc⟩ := q
    rw [qc]
    have hj : j < 15 := hj
    have := ((h5.2.2.1 i v.1 (by omega)).2.2.2.2.2.2 j (by omega) (by omega)).1
    show C 17 i j < (e.2.1 4)
    omega
end CL
