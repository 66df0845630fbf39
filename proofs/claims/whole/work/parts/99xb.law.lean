/-! the law's loop, and the law -/
section LAW
variable {b N M Q L : Nat} {sc : Int → Int}
theorem law_end {e : EN} {C I : ST} {z : Nat × Nat × Nat × Nat} {x : Int64} {i : Int} (hD : RD b N M Q L sc e C I z) (L1 : L ≤ 2560) (i0 : 0 ≤ i) (i1 : i ≤ 2560) (h : (L : Int) - 5 < i) : Ev (fun F => JL_law_23 F (some b) (some N) (some M) (some Q) (xk i) (LG Q e C I z x)) (rI 1 (LG Q e C I z x)) := by
  refine Ev.step (fun F => lt23 F _ _ _ _ _ _) ?_
  refine Ev.bs (rln hD) ?_
  have hl : nI L = xk L := rfl
  rw [hl, xk_sub]
  refine Ev.ite (fun _ => ?_) (fun q => absurd ((kltI (by omega) (by omega) (by omega) (by omega)).mpr h) q)
  rw [rb1]
  exact Ev.ret rfl
theorem law_loop (hs : ∀ j, -2147483648 ≤ sc j ∧ sc j < 2147483648) (L1 : L ≤ 2560) : ∀ (d : Nat) (n : Int) (e : EN) (C I : ST) (z : Nat × Nat × Nat × Nat) (x : Int64), 0 ≤ n → n + d = 512 → LSt b N M Q L sc n e C I z → ∃ σ' : XH, Ev (fun F => JL_law_23 F (some b) (some N) (some M) (some Q) (xk (5 * n)) (LG Q e C I z x)) (rI 1 σ') ∧ (σ'.2.1 : Int) ≤ N + 5842 ∧ (σ'.2.2.1 : Int) ≤ 113123 := by
  intro d
  induction d with
  | zero =>
    intro n e C I z x n0 hd hL
    have hz := hL.2.2.2
    exact ⟨_, law_end hL.2.1 L1 (by omega) (by omega) (by omega), by show (z.1 : Int) ≤ _; omega, by show (z.2.1 : Int) ≤ _; omega⟩
  | succ d ih =>
    intro n e C I z x n0 hd hL
    by_cases hl : (L : Int) - 5 < 5 * n
    · have hz := hL.2.2.2
      exact ⟨_, law_end hL.2.1 L1 (by omega) (by omega) hl, by show (z.1 : Int) ≤ _; omega, by show (z.2.1 : Int) ≤ _; omega⟩
    have e5 : xk (5 * (n + 1)) = xk (5 * n) + xk 5 := by
      rw [xk_add]
      congr 1
      omega
    have go : ∀ r, Ev (fun F => LSW F (some b) (some N) (some M) (some Q) (xk (5 * n)) (LG Q e C I z x) (xk (sc (5 * n)))) r → Ev (fun F => JL_law_23 F (some b) (some N) (some M) (some Q) (xk (5 * n)) (LG Q e C I z x)) r := fun r hr => by
      refine Ev.step (fun F => lt23 F _ _ _ _ _ _) ?_
      refine Ev.bs (rln hL.2.1) ?_
      have hl2 : nI L = xk L := rfl
      rw [hl2, xk_sub]
      refine Ev.ite (fun q => absurd ((kltI (by omega) (by omega) (by omega) (by omega)).mp q) hl) (fun _ => ?_)
      exact Ev.bs (rd0 hL.2.1 L1 (by omega) (by omega)) hr
    have i1 : 5 * n + 5 ≤ L := by omega
    have i0 : 0 ≤ 5 * n := by omega
    have nx : ∀ e' C' I' z' x', LSt b N M Q L sc (n + 1) e' C' I' z' → (∀ r, Ev (fun F => JL_law_23 F (some b) (some N) (some M) (some Q) (xk (5 * n) + xk 5) (LG Q e' C' I' z' x')) r → Ev (fun F => LSW F (some b) (some N) (some M) (some Q) (xk (5 * n)) (LG Q e C I z x) (xk (sc (5 * n)))) r) → ∃ σ' : XH, Ev (fun F => JL_law_23 F (some b) (some N) (some M) (some Q) (xk (5 * n)) (LG Q e C I z x)) (rI 1 σ') ∧ (σ'.2.1 : Int) ≤ N + 5842 ∧ (σ'.2.2.1 : Int) ≤ 113123 := fun e' C' I' z' x' l1 l2 => by
      obtain ⟨σ', w1, w2⟩ := ih (n + 1) e' C' I' z' x' (by omega) (by omega) l1
      rw [e5] at w1
      exact ⟨σ', go _ (l2 _ w1), w2⟩
    by_cases c0 : (xk (sc (5 * n)) &&& (xk 31)) = nI 0
    · obtain ⟨e', C', I', z', x', l1, l2⟩ := op0 (x := x) hL hs (by omega) L1 i0 i1
      refine nx e' C' I' z' x' l1 (fun r hr => ?_)
      unfold LSW
      exact Ev.ite (fun _ => l2 r hr) (fun q => absurd c0 q)
    by_cases c1 : (xk (sc (5 * n)) &&& (xk 31)) = nI 1
    · obtain ⟨e', C', I', z', x', l1, l2⟩ := op1 (x := x) hL hs (by omega) L1 i0 i1
      refine nx e' C' I' z' x' l1 (fun r hr => ?_)
      unfold LSW
      refine Ev.ite (fun q => absurd q c0) (fun _ => ?_)
      exact Ev.ite (fun _ => l2 r hr) (fun q => absurd c1 q)
    by_cases c2 : (xk (sc (5 * n)) &&& (xk 31)) = nI 2
    · obtain ⟨e', C', I', z', x', l1, l2⟩ := op2 (x := x) hL hs (by omega) L1 i0 i1
      refine nx e' C' I' z' x' l1 (fun r hr => ?_)
      unfold LSW
      refine Ev.ite (fun q => absurd q c0) (fun _ => ?_)
      refine Ev.ite (fun q => absurd q c1) (fun _ => ?_)
      exact Ev.ite (fun _ => l2 r hr) (fun q => absurd c2 q)
    by_cases c3 : (xk (sc (5 * n)) &&& (xk 31)) = nI 3
    · obtain ⟨e', C', I', z', x', l1, l2⟩ := op3 (x := x) hL hs (by omega) L1 i0 i1
      refine nx e' C' I' z' x' l1 (fun r hr => ?_)
      unfold LSW
      refine Ev.ite (fun q => absurd q c0) (fun _ => ?_)
      refine Ev.ite (fun q => absurd q c1) (fun _ => ?_)
      refine Ev.ite (fun q => absurd q c2) (fun _ => ?_)
      exact Ev.ite (fun _ => l2 r hr) (fun q => absurd c3 q)
    by_cases c4 : (xk (sc (5 * n)) &&& (xk 31)) = nI 4
    · obtain ⟨e', C', I', z', x', l1, l2⟩ := op4 (x := x) hL hs (by omega) L1 i0 i1
      refine nx e' C' I' z' x' l1 (fun r hr => ?_)
      unfold LSW
      refine Ev.ite (fun q => absurd q c0) (fun _ => ?_)
      refine Ev.ite (fun q => absurd q c1) (fun _ => ?_)
      refine Ev.ite (fun q => absurd q c2) (fun _ => ?_)
      refine Ev.ite (fun q => absurd q c3) (fun _ => ?_)
      exact Ev.ite (fun _ => l2 r hr) (fun q => absurd c4 q)
    by_cases c5 : (xk (sc (5 * n)) &&& (xk 31)) = nI 5
    · obtain ⟨e', C', I', z', x', l1, l2⟩ := op5 (x := x) hL hs (by omega) L1 i0 i1
      refine nx e' C' I' z' x' l1 (fun r hr => ?_)
      unfold LSW
      refine Ev.ite (fun q => absurd q c0) (fun _ => ?_)
      refine Ev.ite (fun q => absurd q c1) (fun _ => ?_)
      refine Ev.ite (fun q => absurd q c2) (fun _ => ?_)
      refine Ev.ite (fun q => absurd q c3) (fun _ => ?_)
      refine Ev.ite (fun q => absurd q c4) (fun _ => ?_)
      exact Ev.ite (fun _ => l2 r hr) (fun q => absurd c5 q)
    by_cases c6 : (xk (sc (5 * n)) &&& (xk 31)) = nI 6
    · obtain ⟨e', C', I', z', x', l1, l2⟩ := op6 (x := x) hL hs (by omega) L1 i0 i1
      refine nx e' C' I' z' x' l1 (fun r hr => ?_)
      unfold LSW
      refine Ev.ite (fun q => absurd q c0) (fun _ => ?_)
      refine Ev.ite (fun q => absurd q c1) (fun _ => ?_)
      refine Ev.ite (fun q => absurd q c2) (fun _ => ?_)
      refine Ev.ite (fun q => absurd q c3) (fun _ => ?_)
      refine Ev.ite (fun q => absurd q c4) (fun _ => ?_)
      refine Ev.ite (fun q => absurd q c5) (fun _ => ?_)
      exact Ev.ite (fun _ => l2 r hr) (fun q => absurd c6 q)
    by_cases c7 : (xk (sc (5 * n)) &&& (xk 31)) = nI 7
    · obtain ⟨e', C', I', z', x', l1, l2⟩ := op7 (x := x) hL hs (by omega) L1 i0 i1
      refine nx e' C' I' z' x' l1 (fun r hr => ?_)
      unfold LSW
      refine Ev.ite (fun q => absurd q c0) (fun _ => ?_)
      refine Ev.ite (fun q => absurd q c1) (fun _ => ?_)
      refine Ev.ite (fun q => absurd q c2) (fun _ => ?_)
      refine Ev.ite (fun q => absurd q c3) (fun _ => ?_)
      refine Ev.ite (fun q => absurd q c4) (fun _ => ?_)
      refine Ev.ite (fun q => absurd q c5) (fun _ => ?_)
      refine Ev.ite (fun q => absurd q c6) (fun _ => ?_)
      exact Ev.ite (fun _ => l2 r hr) (fun q => absurd c7 q)
    by_cases c8 : (xk (sc (5 * n)) &&& (xk 31)) = nI 8
    · obtain ⟨e', C', I', z', x', l1, l2⟩ := op8 (x := x) hL hs (by omega) L1 i0 i1
      refine nx e' C' I' z' x' l1 (fun r hr => ?_)
      unfold LSW
      refine Ev.ite (fun q => absurd q c0) (fun _ => ?_)
      refine Ev.ite (fun q => absurd q c1) (fun _ => ?_)
      refine Ev.ite (fun q => absurd q c2) (fun _ => ?_)
      refine Ev.ite (fun q => absurd q c3) (fun _ => ?_)
      refine Ev.ite (fun q => absurd q c4) (fun _ => ?_)
      refine Ev.ite (fun q => absurd q c5) (fun _ => ?_)
      refine Ev.ite (fun q => absurd q c6) (fun _ => ?_)
      refine Ev.ite (fun q => absurd q c7) (fun _ => ?_)
      exact Ev.ite (fun _ => l2 r hr) (fun q => absurd c8 q)
    by_cases c9 : (xk (sc (5 * n)) &&& (xk 31)) = nI 9
    · obtain ⟨e', C', I', z', x', l1, l2⟩ := op9 (x := x) hL hs (by omega) L1 i0 i1
      refine nx e' C' I' z' x' l1 (fun r hr => ?_)
      unfold LSW
      refine Ev.ite (fun q => absurd q c0) (fun _ => ?_)
      refine Ev.ite (fun q => absurd q c1) (fun _ => ?_)
      refine Ev.ite (fun q => absurd q c2) (fun _ => ?_)
      refine Ev.ite (fun q => absurd q c3) (fun _ => ?_)
      refine Ev.ite (fun q => absurd q c4) (fun _ => ?_)
      refine Ev.ite (fun q => absurd q c5) (fun _ => ?_)
      refine Ev.ite (fun q => absurd q c6) (fun _ => ?_)
      refine Ev.ite (fun q => absurd q c7) (fun _ => ?_)
      refine Ev.ite (fun q => absurd q c8) (fun _ => ?_)
      exact Ev.ite (fun _ => l2 r hr) (fun q => absurd c9 q)
    by_cases c10 : (xk (sc (5 * n)) &&& (xk 31)) = nI 10
    · obtain ⟨e', C', I', z', x', l1, l2⟩ := op10 (x := x) hL hs (by omega) L1 i0 i1
      refine nx e' C' I' z' x' l1 (fun r hr => ?_)
      unfold LSW
      refine Ev.ite (fun q => absurd q c0) (fun _ => ?_)
      refine Ev.ite (fun q => absurd q c1) (fun _ => ?_)
      refine Ev.ite (fun q => absurd q c2) (fun _ => ?_)
      refine Ev.ite (fun q => absurd q c3) (fun _ => ?_)
      refine Ev.ite (fun q => absurd q c4) (fun _ => ?_)
      refine Ev.ite (fun q => absurd q c5) (fun _ => ?_)
      refine Ev.ite (fun q => absurd q c6) (fun _ => ?_)
      refine Ev.ite (fun q => absurd q c7) (fun _ => ?_)
      refine Ev.ite (fun q => absurd q c8) (fun _ => ?_)
      refine Ev.ite (fun q => absurd q c9) (fun _ => ?_)
      exact Ev.ite (fun _ => l2 r hr) (fun q => absurd c10 q)
    by_cases c11 : (xk (sc (5 * n)) &&& (xk 31)) = nI 11
    · obtain ⟨e', C', I', z', x', l1, l2⟩ := op11 (x := x) hL hs (by omega) L1 i0 i1
      refine nx e' C' I' z' x' l1 (fun r hr => ?_)
      unfold LSW
      refine Ev.ite (fun q => absurd q c0) (fun _ => ?_)
      refine Ev.ite (fun q => absurd q c1) (fun _ => ?_)
      refine Ev.ite (fun q => absurd q c2) (fun _ => ?_)
      refine Ev.ite (fun q => absurd q c3) (fun _ => ?_)
      refine Ev.ite (fun q => absurd q c4) (fun _ => ?_)
      refine Ev.ite (fun q => absurd q c5) (fun _ => ?_)
      refine Ev.ite (fun q => absurd q c6) (fun _ => ?_)
      refine Ev.ite (fun q => absurd q c7) (fun _ => ?_)
      refine Ev.ite (fun q => absurd q c8) (fun _ => ?_)
      refine Ev.ite (fun q => absurd q c9) (fun _ => ?_)
      refine Ev.ite (fun q => absurd q c10) (fun _ => ?_)
      exact Ev.ite (fun _ => l2 r hr) (fun q => absurd c11 q)
    by_cases c12 : (xk (sc (5 * n)) &&& (xk 31)) = nI 12
    · obtain ⟨e', C', I', z', x', l1, l2⟩ := op12 (x := x) hL hs (by omega) L1 i0 i1
      refine nx e' C' I' z' x' l1 (fun r hr => ?_)
      unfold LSW
      refine Ev.ite (fun q => absurd q c0) (fun _ => ?_)
      refine Ev.ite (fun q => absurd q c1) (fun _ => ?_)
      refine Ev.ite (fun q => absurd q c2) (fun _ => ?_)
      refine Ev.ite (fun q => absurd q c3) (fun _ => ?_)
      refine Ev.ite (fun q => absurd q c4) (fun _ => ?_)
      refine Ev.ite (fun q => absurd q c5) (fun _ => ?_)
      refine Ev.ite (fun q => absurd q c6) (fun _ => ?_)
      refine Ev.ite (fun q => absurd q c7) (fun _ => ?_)
      refine Ev.ite (fun q => absurd q c8) (fun _ => ?_)
      refine Ev.ite (fun q => absurd q c9) (fun _ => ?_)
      refine Ev.ite (fun q => absurd q c10) (fun _ => ?_)
      refine Ev.ite (fun q => absurd q c11) (fun _ => ?_)
      exact Ev.ite (fun _ => l2 r hr) (fun q => absurd c12 q)
    by_cases c13 : (xk (sc (5 * n)) &&& (xk 31)) = nI 13
    · obtain ⟨e', C', I', z', x', l1, l2⟩ := op13 (x := x) hL hs (by omega) L1 i0 i1
      refine nx e' C' I' z' x' l1 (fun r hr => ?_)
      unfold LSW
      refine Ev.ite (fun q => absurd q c0) (fun _ => ?_)
      refine Ev.ite (fun q => absurd q c1) (fun _ => ?_)
      refine Ev.ite (fun q => absurd q c2) (fun _ => ?_)
      refine Ev.ite (fun q => absurd q c3) (fun _ => ?_)
      refine Ev.ite (fun q => absurd q c4) (fun _ => ?_)
      refine Ev.ite (fun q => absurd q c5) (fun _ => ?_)
      refine Ev.ite (fun q => absurd q c6) (fun _ => ?_)
      refine Ev.ite (fun q => absurd q c7) (fun _ => ?_)
      refine Ev.ite (fun q => absurd q c8) (fun _ => ?_)
      refine Ev.ite (fun q => absurd q c9) (fun _ => ?_)
      refine Ev.ite (fun q => absurd q c10) (fun _ => ?_)
      refine Ev.ite (fun q => absurd q c11) (fun _ => ?_)
      refine Ev.ite (fun q => absurd q c12) (fun _ => ?_)
      exact Ev.ite (fun _ => l2 r hr) (fun q => absurd c13 q)
    by_cases c14 : (xk (sc (5 * n)) &&& (xk 31)) = nI 14
    · obtain ⟨e', C', I', z', x', l1, l2⟩ := op14 (x := x) hL hs (by omega) L1 i0 i1
      refine nx e' C' I' z' x' l1 (fun r hr => ?_)
      unfold LSW
      refine Ev.ite (fun q => absurd q c0) (fun _ => ?_)
      refine Ev.ite (fun q => absurd q c1) (fun _ => ?_)
      refine Ev.ite (fun q => absurd q c2) (fun _ => ?_)
      refine Ev.ite (fun q => absurd q c3) (fun _ => ?_)
      refine Ev.ite (fun q => absurd q c4) (fun _ => ?_)
      refine Ev.ite (fun q => absurd q c5) (fun _ => ?_)
      refine Ev.ite (fun q => absurd q c6) (fun _ => ?_)
      refine Ev.ite (fun q => absurd q c7) (fun _ => ?_)
      refine Ev.ite (fun q => absurd q c8) (fun _ => ?_)
      refine Ev.ite (fun q => absurd q c9) (fun _ => ?_)
      refine Ev.ite (fun q => absurd q c10) (fun _ => ?_)
      refine Ev.ite (fun q => absurd q c11) (fun _ => ?_)
      refine Ev.ite (fun q => absurd q c12) (fun _ => ?_)
      refine Ev.ite (fun q => absurd q c13) (fun _ => ?_)
      exact Ev.ite (fun _ => l2 r hr) (fun q => absurd c14 q)
    by_cases c15 : (xk (sc (5 * n)) &&& (xk 31)) = nI 15
    · obtain ⟨e', C', I', z', x', l1, l2⟩ := op15 (x := x) hL hs (by omega) L1 i0 i1
      refine nx e' C' I' z' x' l1 (fun r hr => ?_)
      unfold LSW
      refine Ev.ite (fun q => absurd q c0) (fun _ => ?_)
      refine Ev.ite (fun q => absurd q c1) (fun _ => ?_)
      refine Ev.ite (fun q => absurd q c2) (fun _ => ?_)
      refine Ev.ite (fun q => absurd q c3) (fun _ => ?_)
      refine Ev.ite (fun q => absurd q c4) (fun _ => ?_)
      refine Ev.ite (fun q => absurd q c5) (fun _ => ?_)
      refine Ev.ite (fun q => absurd q c6) (fun _ => ?_)
      refine Ev.ite (fun q => absurd q c7) (fun _ => ?_)
      refine Ev.ite (fun q => absurd q c8) (fun _ => ?_)
      refine Ev.ite (fun q => absurd q c9) (fun _ => ?_)
      refine Ev.ite (fun q => absurd q c10) (fun _ => ?_)
      refine Ev.ite (fun q => absurd q c11) (fun _ => ?_)
      refine Ev.ite (fun q => absurd q c12) (fun _ => ?_)
      refine Ev.ite (fun q => absurd q c13) (fun _ => ?_)
      refine Ev.ite (fun q => absurd q c14) (fun _ => ?_)
      exact Ev.ite (fun _ => l2 r hr) (fun q => absurd c15 q)
    by_cases c16 : (xk (sc (5 * n)) &&& (xk 31)) = nI 16
    · obtain ⟨e', C', I', z', x', l1, l2⟩ := op16 (x := x) hL hs (by omega) L1 i0 i1
      refine nx e' C' I' z' x' l1 (fun r hr => ?_)
      unfold LSW
      refine Ev.ite (fun q => absurd q c0) (fun _ => ?_)
      refine Ev.ite (fun q => absurd q c1) (fun _ => ?_)
      refine Ev.ite (fun q => absurd q c2) (fun _ => ?_)
      refine Ev.ite (fun q => absurd q c3) (fun _ => ?_)
      refine Ev.ite (fun q => absurd q c4) (fun _ => ?_)
      refine Ev.ite (fun q => absurd q c5) (fun _ => ?_)
      refine Ev.ite (fun q => absurd q c6) (fun _ => ?_)
      refine Ev.ite (fun q => absurd q c7) (fun _ => ?_)
      refine Ev.ite (fun q => absurd q c8) (fun _ => ?_)
      refine Ev.ite (fun q => absurd q c9) (fun _ => ?_)
      refine Ev.ite (fun q => absurd q c10) (fun _ => ?_)
      refine Ev.ite (fun q => absurd q c11) (fun _ => ?_)
      refine Ev.ite (fun q => absurd q c12) (fun _ => ?_)
      refine Ev.ite (fun q => absurd q c13) (fun _ => ?_)
      refine Ev.ite (fun q => absurd q c14) (fun _ => ?_)
      refine Ev.ite (fun q => absurd q c15) (fun _ => ?_)
      exact Ev.ite (fun _ => l2 r hr) (fun q => absurd c16 q)
    by_cases c17 : (xk (sc (5 * n)) &&& (xk 31)) = nI 17
    · obtain ⟨e', C', I', z', x', l1, l2⟩ := op17 (x := x) hL hs (by omega) L1 i0 i1
      refine nx e' C' I' z' x' l1 (fun r hr => ?_)
      unfold LSW
      refine Ev.ite (fun q => absurd q c0) (fun _ => ?_)
      refine Ev.ite (fun q => absurd q c1) (fun _ => ?_)
      refine Ev.ite (fun q => absurd q c2) (fun _ => ?_)
      refine Ev.ite (fun q => absurd q c3) (fun _ => ?_)
      refine Ev.ite (fun q => absurd q c4) (fun _ => ?_)
      refine Ev.ite (fun q => absurd q c5) (fun _ => ?_)
      refine Ev.ite (fun q => absurd q c6) (fun _ => ?_)
      refine Ev.ite (fun q => absurd q c7) (fun _ => ?_)
      refine Ev.ite (fun q => absurd q c8) (fun _ => ?_)
      refine Ev.ite (fun q => absurd q c9) (fun _ => ?_)
      refine Ev.ite (fun q => absurd q c10) (fun _ => ?_)
      refine Ev.ite (fun q => absurd q c11) (fun _ => ?_)
      refine Ev.ite (fun q => absurd q c12) (fun _ => ?_)
      refine Ev.ite (fun q => absurd q c13) (fun _ => ?_)
      refine Ev.ite (fun q => absurd q c14) (fun _ => ?_)
      refine Ev.ite (fun q => absurd q c15) (fun _ => ?_)
      refine Ev.ite (fun q => absurd q c16) (fun _ => ?_)
      exact Ev.ite (fun _ => l2 r hr) (fun q => absurd c17 q)
    by_cases c18 : (xk (sc (5 * n)) &&& (xk 31)) = nI 18
    · obtain ⟨e', C', I', z', x', l1, l2⟩ := op18 (x := x) hL hs (by omega) L1 i0 i1
      refine nx e' C' I' z' x' l1 (fun r hr => ?_)
      unfold LSW
      refine Ev.ite (fun q => absurd q c0) (fun _ => ?_)
      refine Ev.ite (fun q => absurd q c1) (fun _ => ?_)
      refine Ev.ite (fun q => absurd q c2) (fun _ => ?_)
      refine Ev.ite (fun q => absurd q c3) (fun _ => ?_)
      refine Ev.ite (fun q => absurd q c4) (fun _ => ?_)
      refine Ev.ite (fun q => absurd q c5) (fun _ => ?_)
      refine Ev.ite (fun q => absurd q c6) (fun _ => ?_)
      refine Ev.ite (fun q => absurd q c7) (fun _ => ?_)
      refine Ev.ite (fun q => absurd q c8) (fun _ => ?_)
      refine Ev.ite (fun q => absurd q c9) (fun _ => ?_)
      refine Ev.ite (fun q => absurd q c10) (fun _ => ?_)
      refine Ev.ite (fun q => absurd q c11) (fun _ => ?_)
      refine Ev.ite (fun q => absurd q c12) (fun _ => ?_)
      refine Ev.ite (fun q => absurd q c13) (fun _ => ?_)
      refine Ev.ite (fun q => absurd q c14) (fun _ => ?_)
      refine Ev.ite (fun q => absurd q c15) (fun _ => ?_)
      refine Ev.ite (fun q => absurd q c16) (fun _ => ?_)
      refine Ev.ite (fun q => absurd q c17) (fun _ => ?_)
      exact Ev.ite (fun _ => l2 r hr) (fun q => absurd c18 q)
    by_cases c19 : (xk (sc (5 * n)) &&& (xk 31)) = nI 19
    · obtain ⟨e', C', I', z', x', l1, l2⟩ := op19 (x := x) hL hs (by omega) L1 i0 i1
      refine nx e' C' I' z' x' l1 (fun r hr => ?_)
      unfold LSW
      refine Ev.ite (fun q => absurd q c0) (fun _ => ?_)
      refine Ev.ite (fun q => absurd q c1) (fun _ => ?_)
      refine Ev.ite (fun q => absurd q c2) (fun _ => ?_)
      refine Ev.ite (fun q => absurd q c3) (fun _ => ?_)
      refine Ev.ite (fun q => absurd q c4) (fun _ => ?_)
      refine Ev.ite (fun q => absurd q c5) (fun _ => ?_)
      refine Ev.ite (fun q => absurd q c6) (fun _ => ?_)
      refine Ev.ite (fun q => absurd q c7) (fun _ => ?_)
      refine Ev.ite (fun q => absurd q c8) (fun _ => ?_)
      refine Ev.ite (fun q => absurd q c9) (fun _ => ?_)
      refine Ev.ite (fun q => absurd q c10) (fun _ => ?_)
      refine Ev.ite (fun q => absurd q c11) (fun _ => ?_)
      refine Ev.ite (fun q => absurd q c12) (fun _ => ?_)
      refine Ev.ite (fun q => absurd q c13) (fun _ => ?_)
      refine Ev.ite (fun q => absurd q c14) (fun _ => ?_)
      refine Ev.ite (fun q => absurd q c15) (fun _ => ?_)
      refine Ev.ite (fun q => absurd q c16) (fun _ => ?_)
      refine Ev.ite (fun q => absurd q c17) (fun _ => ?_)
      refine Ev.ite (fun q => absurd q c18) (fun _ => ?_)
      exact Ev.ite (fun _ => l2 r hr) (fun q => absurd c19 q)
    by_cases c20 : (xk (sc (5 * n)) &&& (xk 31)) = nI 20
    · obtain ⟨e', C', I', z', x', l1, l2⟩ := op20 (x := x) hL hs (by omega) L1 i0 i1
      refine nx e' C' I' z' x' l1 (fun r hr => ?_)
      unfold LSW
      refine Ev.ite (fun q => absurd q c0) (fun _ => ?_)
      refine Ev.ite (fun q => absurd q c1) (fun _ => ?_)
      refine Ev.ite (fun q => absurd q c2) (fun _ => ?_)
      refine Ev.ite (fun q => absurd q c3) (fun _ => ?_)
      refine Ev.ite (fun q => absurd q c4) (fun _ => ?_)
      refine Ev.ite (fun q => absurd q c5) (fun _ => ?_)
      refine Ev.ite (fun q => absurd q c6) (fun _ => ?_)
      refine Ev.ite (fun q => absurd q c7) (fun _ => ?_)
      refine Ev.ite (fun q => absurd q c8) (fun _ => ?_)
      refine Ev.ite (fun q => absurd q c9) (fun _ => ?_)
      refine Ev.ite (fun q => absurd q c10) (fun _ => ?_)
      refine Ev.ite (fun q => absurd q c11) (fun _ => ?_)
      refine Ev.ite (fun q => absurd q c12) (fun _ => ?_)
      refine Ev.ite (fun q => absurd q c13) (fun _ => ?_)
      refine Ev.ite (fun q => absurd q c14) (fun _ => ?_)
      refine Ev.ite (fun q => absurd q c15) (fun _ => ?_)
      refine Ev.ite (fun q => absurd q c16) (fun _ => ?_)
      refine Ev.ite (fun q => absurd q c17) (fun _ => ?_)
      refine Ev.ite (fun q => absurd q c18) (fun _ => ?_)
      refine Ev.ite (fun q => absurd q c19) (fun _ => ?_)
      exact Ev.ite (fun _ => l2 r hr) (fun q => absurd c20 q)
    by_cases c21 : (xk (sc (5 * n)) &&& (xk 31)) = nI 21
    · obtain ⟨e', C', I', z', x', l1, l2⟩ := op21 (x := x) hL hs (by omega) L1 i0 i1
      refine nx e' C' I' z' x' l1 (fun r hr => ?_)
      unfold LSW
      refine Ev.ite (fun q => absurd q c0) (fun _ => ?_)
      refine Ev.ite (fun q => absurd q c1) (fun _ => ?_)
      refine Ev.ite (fun q => absurd q c2) (fun _ => ?_)
      refine Ev.ite (fun q => absurd q c3) (fun _ => ?_)
      refine Ev.ite (fun q => absurd q c4) (fun _ => ?_)
      refine Ev.ite (fun q => absurd q c5) (fun _ => ?_)
      refine Ev.ite (fun q => absurd q c6) (fun _ => ?_)
      refine Ev.ite (fun q => absurd q c7) (fun _ => ?_)
      refine Ev.ite (fun q => absurd q c8) (fun _ => ?_)
      refine Ev.ite (fun q => absurd q c9) (fun _ => ?_)
      refine Ev.ite (fun q => absurd q c10) (fun _ => ?_)
      refine Ev.ite (fun q => absurd q c11) (fun _ => ?_)
      refine Ev.ite (fun q => absurd q c12) (fun _ => ?_)
      refine Ev.ite (fun q => absurd q c13) (fun _ => ?_)
      refine Ev.ite (fun q => absurd q c14) (fun _ => ?_)
      refine Ev.ite (fun q => absurd q c15) (fun _ => ?_)
      refine Ev.ite (fun q => absurd q c16) (fun _ => ?_)
      refine Ev.ite (fun q => absurd q c17) (fun _ => ?_)
      refine Ev.ite (fun q => absurd q c18) (fun _ => ?_)
      refine Ev.ite (fun q => absurd q c19) (fun _ => ?_)
      refine Ev.ite (fun q => absurd q c20) (fun _ => ?_)
      exact Ev.ite (fun _ => l2 r hr) (fun q => absurd c21 q)
    by_cases c22 : (xk (sc (5 * n)) &&& (xk 31)) = nI 22
    · obtain ⟨e', C', I', z', x', l1, l2⟩ := op22 (x := x) hL hs (by omega) L1 i0 i1
      refine nx e' C' I' z' x' l1 (fun r hr => ?_)
      unfold LSW
      refine Ev.ite (fun q => absurd q c0) (fun _ => ?_)
      refine Ev.ite (fun q => absurd q c1) (fun _ => ?_)
      refine Ev.ite (fun q => absurd q c2) (fun _ => ?_)
      refine Ev.ite (fun q => absurd q c3) (fun _ => ?_)
      refine Ev.ite (fun q => absurd q c4) (fun _ => ?_)
      refine Ev.ite (fun q => absurd q c5) (fun _ => ?_)
      refine Ev.ite (fun q => absurd q c6) (fun _ => ?_)
      refine Ev.ite (fun q => absurd q c7) (fun _ => ?_)
      refine Ev.ite (fun q => absurd q c8) (fun _ => ?_)
      refine Ev.ite (fun q => absurd q c9) (fun _ => ?_)
      refine Ev.ite (fun q => absurd q c10) (fun _ => ?_)
      refine Ev.ite (fun q => absurd q c11) (fun _ => ?_)
      refine Ev.ite (fun q => absurd q c12) (fun _ => ?_)
      refine Ev.ite (fun q => absurd q c13) (fun _ => ?_)
      refine Ev.ite (fun q => absurd q c14) (fun _ => ?_)
      refine Ev.ite (fun q => absurd q c15) (fun _ => ?_)
      refine Ev.ite (fun q => absurd q c16) (fun _ => ?_)
      refine Ev.ite (fun q => absurd q c17) (fun _ => ?_)
      refine Ev.ite (fun q => absurd q c18) (fun _ => ?_)
      refine Ev.ite (fun q => absurd q c19) (fun _ => ?_)
      refine Ev.ite (fun q => absurd q c20) (fun _ => ?_)
      refine Ev.ite (fun q => absurd q c21) (fun _ => ?_)
      exact Ev.ite (fun _ => l2 r hr) (fun q => absurd c22 q)
    by_cases c23 : (xk (sc (5 * n)) &&& (xk 31)) = nI 23
    · obtain ⟨e', C', I', z', x', l1, l2⟩ := op23 (x := x) hL hs (by omega) L1 i0 i1
      refine nx e' C' I' z' x' l1 (fun r hr => ?_)
      unfold LSW
      refine Ev.ite (fun q => absurd q c0) (fun _ => ?_)
      refine Ev.ite (fun q => absurd q c1) (fun _ => ?_)
      refine Ev.ite (fun q => absurd q c2) (fun _ => ?_)
      refine Ev.ite (fun q => absurd q c3) (fun _ => ?_)
      refine Ev.ite (fun q => absurd q c4) (fun _ => ?_)
      refine Ev.ite (fun q => absurd q c5) (fun _ => ?_)
      refine Ev.ite (fun q => absurd q c6) (fun _ => ?_)
      refine Ev.ite (fun q => absurd q c7) (fun _ => ?_)
      refine Ev.ite (fun q => absurd q c8) (fun _ => ?_)
      refine Ev.ite (fun q => absurd q c9) (fun _ => ?_)
      refine Ev.ite (fun q => absurd q c10) (fun _ => ?_)
      refine Ev.ite (fun q => absurd q c11) (fun _ => ?_)
      refine Ev.ite (fun q => absurd q c12) (fun _ => ?_)
      refine Ev.ite (fun q => absurd q c13) (fun _ => ?_)
      refine Ev.ite (fun q => absurd q c14) (fun _ => ?_)
      refine Ev.ite (fun q => absurd q c15) (fun _ => ?_)
      refine Ev.ite (fun q => absurd q c16) (fun _ => ?_)
      refine Ev.ite (fun q => absurd q c17) (fun _ => ?_)
      refine Ev.ite (fun q => absurd q c18) (fun _ => ?_)
      refine Ev.ite (fun q => absurd q c19) (fun _ => ?_)
      refine Ev.ite (fun q => absurd q c20) (fun _ => ?_)
      refine Ev.ite (fun q => absurd q c21) (fun _ => ?_)
      refine Ev.ite (fun q => absurd q c22) (fun _ => ?_)
      exact Ev.ite (fun _ => l2 r hr) (fun q => absurd c23 q)
    by_cases c24 : (xk (sc (5 * n)) &&& (xk 31)) = nI 24
    · obtain ⟨e', C', I', z', x', l1, l2⟩ := op24 (x := x) hL hs (by omega) L1 i0 i1
      refine nx e' C' I' z' x' l1 (fun r hr => ?_)
      unfold LSW
      refine Ev.ite (fun q => absurd q c0) (fun _ => ?_)
      refine Ev.ite (fun q => absurd q c1) (fun _ => ?_)
      refine Ev.ite (fun q => absurd q c2) (fun _ => ?_)
      refine Ev.ite (fun q => absurd q c3) (fun _ => ?_)
      refine Ev.ite (fun q => absurd q c4) (fun _ => ?_)
      refine Ev.ite (fun q => absurd q c5) (fun _ => ?_)
      refine Ev.ite (fun q => absurd q c6) (fun _ => ?_)
      refine Ev.ite (fun q => absurd q c7) (fun _ => ?_)
      refine Ev.ite (fun q => absurd q c8) (fun _ => ?_)
      refine Ev.ite (fun q => absurd q c9) (fun _ => ?_)
      refine Ev.ite (fun q => absurd q c10) (fun _ => ?_)
      refine Ev.ite (fun q => absurd q c11) (fun _ => ?_)
      refine Ev.ite (fun q => absurd q c12) (fun _ => ?_)
      refine Ev.ite (fun q => absurd q c13) (fun _ => ?_)
      refine Ev.ite (fun q => absurd q c14) (fun _ => ?_)
      refine Ev.ite (fun q => absurd q c15) (fun _ => ?_)
      refine Ev.ite (fun q => absurd q c16) (fun _ => ?_)
      refine Ev.ite (fun q => absurd q c17) (fun _ => ?_)
      refine Ev.ite (fun q => absurd q c18) (fun _ => ?_)
      refine Ev.ite (fun q => absurd q c19) (fun _ => ?_)
      refine Ev.ite (fun q => absurd q c20) (fun _ => ?_)
      refine Ev.ite (fun q => absurd q c21) (fun _ => ?_)
      refine Ev.ite (fun q => absurd q c22) (fun _ => ?_)
      refine Ev.ite (fun q => absurd q c23) (fun _ => ?_)
      exact Ev.ite (fun _ => l2 r hr) (fun q => absurd c24 q)
    refine nx e C I z x hL.up (fun r hr => ?_)
    unfold LSW
    refine Ev.ite (fun q => absurd q c0) (fun _ => ?_)
    refine Ev.ite (fun q => absurd q c1) (fun _ => ?_)
    refine Ev.ite (fun q => absurd q c2) (fun _ => ?_)
    refine Ev.ite (fun q => absurd q c3) (fun _ => ?_)
    refine Ev.ite (fun q => absurd q c4) (fun _ => ?_)
    refine Ev.ite (fun q => absurd q c5) (fun _ => ?_)
    refine Ev.ite (fun q => absurd q c6) (fun _ => ?_)
    refine Ev.ite (fun q => absurd q c7) (fun _ => ?_)
    refine Ev.ite (fun q => absurd q c8) (fun _ => ?_)
    refine Ev.ite (fun q => absurd q c9) (fun _ => ?_)
    refine Ev.ite (fun q => absurd q c10) (fun _ => ?_)
    refine Ev.ite (fun q => absurd q c11) (fun _ => ?_)
    refine Ev.ite (fun q => absurd q c12) (fun _ => ?_)
    refine Ev.ite (fun q => absurd q c13) (fun _ => ?_)
    refine Ev.ite (fun q => absurd q c14) (fun _ => ?_)
    refine Ev.ite (fun q => absurd q c15) (fun _ => ?_)
    refine Ev.ite (fun q => absurd q c16) (fun _ => ?_)
    refine Ev.ite (fun q => absurd q c17) (fun _ => ?_)
    refine Ev.ite (fun q => absurd q c18) (fun _ => ?_)
    refine Ev.ite (fun q => absurd q c19) (fun _ => ?_)
    refine Ev.ite (fun q => absurd q c20) (fun _ => ?_)
    refine Ev.ite (fun q => absurd q c21) (fun _ => ?_)
    refine Ev.ite (fun q => absurd q c22) (fun _ => ?_)
    refine Ev.ite (fun q => absurd q c23) (fun _ => ?_)
    refine Ev.ite (fun q => absurd q c24) (fun _ => ?_)
    exact hr
theorem iF_wx {N aL aM : Nat} {s3 s4 : Int} (hW : WX (iE N b aL aM L s3 s4) (N, 0, aL, aM)) : WX (iF N b aL aM L s3 s4) (N + 172, 2225, aL, aM) := by
  have w11 : WX (bump (iE N b aL aM L s3 s4) 11) (N + 1, 5, aL, aM) := WX.bump hW (by decide) (Int.le_refl 0) rfl
  have w2 : WX (bump (bump (iE N b aL aM L s3 s4) 11) 2) (N + 2, 7, aL, aM) := WX.bump w11 (by decide) (Int.le_refl 0) rfl
  have w16 : WX (bump (bump (bump (iE N b aL aM L s3 s4) 11) 2) 16) (N + 3, 27, aL, aM) := WX.bump w2 (by decide) (Int.le_refl 0) rfl
  have w9 : WX (bump (bump (bump (bump (iE N b aL aM L s3 s4) 11) 2) 16) 9) (N + 4, 31, aL, aM) := WX.bump w16 (by decide) (Int.le_refl 0) rfl
  have w13 : WX (bump (bump (bump (bump (bump (iE N b aL aM L s3 s4) 11) 2) 16) 9) 13) (N + 5, 181, aL, aM) := WX.bump w9 (by decide) (Int.le_refl 0) rfl
  have w14 : WX (bump (bump (bump (bump (bump (bump (iE N b aL aM L s3 s4) 11) 2) 16) 9) 13) 14) (N + 6, 201, aL, aM) := WX.bump w13 (by decide) (Int.le_refl 0) rfl
  have w3 : WX (bump (bump (bump (bump (bump (bump (bump (iE N b aL aM L s3 s4) 11) 2) 16) 9) 13) 14) 3) (N + 7, 204, aL, aM) := WX.bump w14 (by decide) (Int.le_refl 0) rfl
  have w0 : WX (bump (bump (bump (bump (bump (bump (bump (bump (iE N b aL aM L s3 s4) 11) 2) 16) 9) 13) 14) 3) 0) (N + 8, 207, aL, aM) := WX.bump w3 (by decide) (Int.le_refl 0) rfl
  have w5 : WX (bump (bump (bump (bump (bump (bump (bump (bump (bump (iE N b aL aM L s3 s4) 11) 2) 16) 9) 13) 14) 3) 0) 5) (N + 9, 213, aL, aM) := WX.bump w0 (by decide) (Int.le_refl 0) rfl
  have v5 : Va (bump (bump (bump (bump (bump (bump (bump (bump (bump (iE N b aL aM L s3 s4) 11) 2) 16) 9) 13) 14) 3) 0) 5) 5 0 := ⟨by decide, by decide, (by decide : (0 : Int) < 1)⟩
  have w80 := (j5i (X := iX fun _ => 0) w5 v5 rfl rfl rfl rfl rfl rfl rfl rfl (fun m a b => rfl) (fun m a b => rfl)).2
  rw [← iE_c]
  exact w80
theorem law_all {aL aM : Nat} {xs : Nat → Int32} {σ : XH} (L1 : L ≤ 2560) (hb : σ.1 b = some (200, (List.range L).map fun j => .inl (xs j))) (hL : σ.1 aL = some (200, [.inl 0, .inl 0, .inl 1, .inl 0])) (hM : σ.1 aM = some (200, [.inl 1000000, .inl 150, .inl 1000, .inl 20])) (hn : ∀ q, q ≠ b → q ≠ aL → q ≠ aM → σ.1 q = none) (b1 : b < σ.2.1) (l1 : aL < σ.2.1) (m1 : aM < σ.2.1) (hz : σ.2.2.1 = 0) (ht : σ.2.2.2 = (aL, aM)) : ∃ (F : Nat) (σ' : XH), JL_law F (some b) σ = some (.inl (some (.inl 1)), σ') ∧ σ'.2.1 ≤ σ.2.1 + 601024 ∧ σ'.2.2.1 ≤ 7293034 := by
  obtain ⟨hne, hσ⟩ := iE_hx hb hL hM hn b1 l1 m1 hz ht
  have hW := iE_wx (L := L) hne b1 l1 m1
  have s3 : 0 ≤ (if b = aL then (0 : Int) else 1) := by split <;> omega
  have s4 : 0 ≤ (if b = aM then (0 : Int) else 1) := by split <;> omega
  have al : b = aL ∨ b = aM → L = 4 := fun q => by
    rcases q with q | q
    · rw [q, hL] at hb
      have := congrArg (fun o : Option XO => (o.map (fun x => x.2.length)).getD 0) hb
      simp at this
      omega
    · rw [q, hM] at hb
      have := congrArg (fun o : Option XO => (o.map (fun x => x.2.length)).getD 0) hb
      simp at this
      omega
  generalize hN : σ.2.1 = N at *
  have hs : ∀ j : Int, -2147483648 ≤ (xs j.toNat).toInt ∧ (xs j.toNat).toInt < 2147483648 := fun j => ⟨Int32.le_toInt _, Int32.toInt_lt _⟩
  generalize hsc : (fun j : Int => (xs j.toNat).toInt) = sc at *
  have hs : ∀ j, -2147483648 ≤ sc j ∧ sc j < 2147483648 := fun j => by rw [← hsc]; exact hs j
  have w11 : WX (bump (iE N b aL aM L (if b = aL then 0 else 1) (if b = aM then 0 else 1)) 11) (N + 1, 5, aL, aM) := WX.bump hW (by decide) (Int.le_refl 0) rfl
  have k172 : WX (iF N b aL aM L (if b = aL then 0 else 1) (if b = aM then 0 else 1)) (N + 172, 2225, aL, aM) := iF_wx hW
  obtain ⟨k1, k2, k3⟩ := iKe (I := iI sc) (J := iS sc) k172 s3 s4 iS_rb rfl rfl
  obtain ⟨g1, g2, ⟨g62, g63, g64, gL, gb, gN, gM⟩, g4⟩ := law_go (sc := sc) rfl k2 k3
  have enter : ∀ r, Ev (fun F => JL_law_23 F (some b) (some N) (some (N + 177)) (some (N + 209)) (xk 0) (LG (N + 209) (rE (iE5 (iF N b aL aM L (if b = aL then 0 else 1) (if b = aM then 0 else 1)) (N + 172)) 61) (iC5 (fun _ => -1) (fun _ => 1) (iS sc)) (iS sc) (N + 210, 7651, aL, aM) 0)) r → Ev (fun F => JL_law F (some b) σ) r := fun r hr => by
    rw [hσ]
    refine Ev.step (fun F => EL_law F _ _) ?_
    refine Ev.nw (κ := 11) (L := xdf 11) hW (by decide) (m := 0) rfl (by decide) rfl rfl rfl (fun _ _ => ?_)
    refine Ev.kV (j11i w11 (rV _) (fun _ => k1)) ?_
    exact g4 r hr
  have hD : RD b N (N + 177) (N + 209) L sc (rE (iE5 (iF N b aL aM L (if b = aL then 0 else 1) (if b = aM then 0 else 1)) (N + 172)) 61) (iC5 (fun _ => -1) (fun _ => 1) (iS sc)) (iS sc) (N + 210, 7651, aL, aM) := ⟨g1.1, g1.2.1, g2, ⟨g62, gL, gb, gN, gM⟩, fun j => rfl⟩
  have fin : ∃ σ' : XH, Ev (fun F => JL_law_23 F (some b) (some N) (some (N + 177)) (some (N + 209)) (xk 0) (LG (N + 209) (rE (iE5 (iF N b aL aM L (if b = aL then 0 else 1) (if b = aM then 0 else 1)) (N + 172)) 61) (iC5 (fun _ => -1) (fun _ => 1) (iS sc)) (iS sc) (N + 210, 7651, aL, aM) 0)) (rI 1 σ') ∧ (σ'.2.1 : Int) ≤ N + 5842 ∧ (σ'.2.2.1 : Int) ≤ 113123 := by
    by_cases q : b = aL ∨ b = aM
    · have := al q
      exact ⟨_, law_end hD L1 (by decide) (by decide) (by omega), by show ((N + 210 : Nat) : Int) ≤ _; omega, by show ((7651 : Nat) : Int) ≤ _; omega⟩
    · exact law_loop hs L1 512 0 _ _ _ _ 0 (by decide) (by decide) ⟨g1, hD, ⟨by rw [g63, if_neg (fun y => q (Or.inl y))], by rw [g64, if_neg (fun y => q (Or.inr y))]⟩, by show ((N + 210 : Nat) : Int) ≤ _; omega, by show ((7651 : Nat) : Int) ≤ _; omega⟩
  obtain ⟨σ', f1, f2, f3⟩ := fin
  obtain ⟨F, hF⟩ := enter _ f1
  refine ⟨F, σ', ?_, by omega, by omega⟩
  have this : JL_law F (some b) σ = some (rI 1 σ') := hF F (Nat.le_refl _)
  rw [this]
  show some (Sum.inl (some (Sum.inl (xk 1))), σ') = _
  rw [xk_one]
end LAW
