/-! the reference: how tasks end -/
/-- all tasks with c are forgotten -/
def fgA (I : ST) (c : Int → Bool) : ST := fun k i j => if k = 22 ∧ i = 0 ∧ c j = true then 2 else if k = 23 ∧ i = 0 ∧ c j = true then -1 else if k = 32 ∧ i = 0 ∧ c (j / 20) = true then 0 else I k i j
def fgI (I : ST) (t : Int) : ST := fgA I (fun k => decide (k = t))
def heI (I : ST) (t : Int) : Int := if (I 35 0 ((I 24 0 t))) = t then (I 35 0 ((I 34 0 ((I 24 0 t))))) else (I 35 0 ((I 24 0 t)))
/-- task t ends; children below n have gone to h -/
def enN (I : ST) (t h n : Int) : ST := fun k i j => if k = 22 ∧ i = 0 ∧ j = t then 1 else if k = 27 ∧ i = 0 ∧ j = t then 0 else if k = 23 ∧ i = 0 ∧ 0 ≤ j ∧ j < n ∧ I 22 0 j ≠ 2 ∧ I 23 0 j = t then h else I k i j
def enI (I : ST) (t : Int) : ST := enN I t (heI I t) (I 12 0 1)
section RA
variable {e : EN} {C I : ST} {z : Nat × Nat × Nat × Nat}
theorem RB.u2 (hB : RB I) {t : Int} {x : Int} : RB (fun k i j => if k = 32 ∧ i = 0 ∧ 20 * t ≤ j ∧ j < 20 * t + x then 0 else I k i j) := by
  obtain ⟨h1, h2, h3, h4, h5, h6⟩ := hB
  refine ⟨fun r hr a a0 a1 => ?_, fun g g0 g1 => ?_, ?_, ?_, ?_, ?_⟩
  · have := h1 r hr a a0 a1
    dsimp only
    split
    · rename_i hh
      have hh2 : ∀ r ∈ rbt, r.1 = 32 → r.2.1 = 0 ∧ r.2.2.1 = 40 := by decide
      have := hh2 r hr hh.1
      omega
    · exact this
  · have := h2 g g0 g1
    simpa using this
  all_goals simpa
theorem RB.fg (hB : RB I) (c : Int → Bool) : RB (fgA I c) := by
  obtain ⟨h1, h2, h3, h4, h5, h6⟩ := hB
  refine ⟨fun r hr a a0 a1 => ?_, fun g g0 g1 => ?_, ?_, ?_, ?_, ?_⟩
  · have := h1 r hr a a0 a1
    have e1 : ∀ r ∈ rbt, r.1 = 22 → r.2.1 = 0 ∧ r.2.2.1 = 2 := by decide
    have e2 : ∀ r ∈ rbt, r.1 = 23 → r.2.1 = -1 ∧ r.2.2.1 = 149 := by decide
    have e3 : ∀ r ∈ rbt, r.1 = 32 → r.2.1 = 0 ∧ r.2.2.1 = 40 := by decide
    unfold fgA
    split
    · rename_i hh; have := e1 r hr hh.1; omega
    · split
      · rename_i hh; have := e2 r hr hh.1; omega
      · split
        · rename_i hh; have := e3 r hr hh.1; omega
        · exact this
  · have := h2 g g0 g1
    simpa [fgA] using this
  all_goals simpa [fgA]
theorem forget_ev (hA : WA e z) (hR : WR e) (hB : RB I) {t : Int} (t0 : 0 ≤ t) (t1 : t < 150) : Ev (fun F => J12_forget F (rf e 12 0) (xk t) (HS e C I z)) (rV (HS e C (fgI I t) z)) := by
  refine Ev.step (fun F => E12_forget F _ _ _) ?_
  simp (disch := omega) only [g_12_2 hA hR, g_12_3 hA hR, s_22 hA hR, s_23 hA hR, Option.bind_some, up_s, up_k, up_j, up_i, xk_add, xk_sub, xk_mul, xk_neg, lk_add, lN_z, rf_none, rb1, rb0, rbp, xk_nI, zk_eq, zk_lt, zk_eq0, zk_lt0, zk_0lt, zk_long, lz_lt, lz_gt, zmax, zmin, ↓reduceIte, Int.reduceEq, Int.reduceLT, Int.reduceNeg, Int.reduceAdd, Int.reduceSub, Int.reduceMul, Int.ofNat_eq_natCast, Int.cast_ofNat_Int]
  refine lpN (P := fun s => ∀ I', 0 ≤ s → s ≤ 20 → I' = (fun k i j => if k = 32 ∧ i = 0 ∧ 20 * t ≤ j ∧ j < 20 * t + s then 0 else (up (up I 22 0 t 2) 23 0 t (-1)) k i j) → Ev (fun F => J12_forget_16 F (rf e 12 0) (xk t) (xk s) (HS e C I' z)) (rV (HS e C (fgI I t) z))) 20 (fun s ih I' s0 s1 hI => ?_) 0 _ (by omega) (by omega) ?_
  · refine Ev.step (fun F => E12_forget_16 F _ _ _ _) ?_
    simp (disch := omega) only [g_12_12 hA hR, s_32 hA hR, Option.bind_some, up_s, up_k, up_j, up_i, xk_add, xk_sub, xk_mul, xk_neg, lk_add, lN_z, rf_none, rb1, rb0, rbp, xk_nI, zk_eq, zk_lt, zk_eq0, zk_lt0, zk_0lt, zk_long, lz_lt, lz_gt, zmax, zmin, ↓reduceIte, Int.reduceEq, Int.reduceLT, Int.reduceNeg, Int.reduceAdd, Int.reduceSub, Int.reduceMul, Int.ofNat_eq_natCast, Int.cast_ofNat_Int]
    refine Ev.ite (fun h => ?_) (fun h => ?_)
    · refine ih h _ (by omega) (by omega) ?_
      rw [hI]
      funext k i j
      simp only [up]
      repeat' split
      all_goals first | rfl | (exfalso; omega)
    · refine Ev.ret ?_
      rw [hI]
      have : s = 20 := by omega
      subst this
      unfold rV
      congr 2
      funext k i j
      simp only [up, fgI, fgA, decide_eq_true_eq]
      repeat' split
      all_goals first | rfl | (exfalso; omega)
  · funext k i j
    simp only [up]
    repeat' split
    all_goals first | rfl | (exfalso; omega)
theorem end_ev (hA : WA e z) (hR : WR e) (hB : RB I) {t : Int} (t0 : 0 ≤ t) (t1 : t < (I 12 0 1)) (ht : (I 22 0 t) ≠ 2) (hr : (I 35 0 ((I 24 0 t))) = t → 0 ≤ (I 34 0 ((I 24 0 t)))) : Ev (fun F => J12_end F (rf e 12 0) (xk t) (HS e C I z)) (rV (HS e C (enI I t) z)) := by
  have := RB.tasks hB
  have := RB.space hB (j := t) (by omega) (by omega)
  have := RB.init hB (j := ((I 24 0 t))) (by omega) (by omega)
  have := RB.around hB (j := ((I 24 0 t))) (by omega) (by omega)
  have hq : ∀ (h n : Int) (I' : ST), I' = enN I t h n → h = heI I t → -1 ≤ h → h ≤ 149 → 0 ≤ n → n ≤ (I 12 0 1) → Ev (fun F => J12_end_55 F (rf e 12 0) (xk t) (xk h) (xk n) (HS e C I' z)) (rV (HS e C (enI I t) z)) := by
    intro h n I' hI hh h0 h1
    refine lpN (P := fun n => ∀ I', I' = enN I t h n → 0 ≤ n → n ≤ (I 12 0 1) → Ev (fun F => J12_end_55 F (rf e 12 0) (xk t) (xk h) (xk n) (HS e C I' z)) (rV (HS e C (enI I t) z))) (I 12 0 1) (fun n ih I' hI n0 n1 => ?_) n I' hI
    have e1 : I' 12 0 1 = (I 12 0 1) := by rw [hI]; simp [enN]
    refine Ev.step (fun F => E12_end_55 F _ _ _ _ _) ?_
    simp (disch := omega) only [a_22 hA hR, a_23 hA hR, g_12_1 hA hR, g_12_2 hA hR, g_12_3 hA hR, s_22 hA hR, s_23 hA hR, Option.bind_some, up_s, up_k, up_j, up_i, xk_add, xk_sub, xk_mul, xk_neg, lk_add, lN_z, rf_none, rb1, rb0, rbp, xk_nI, zk_eq, zk_lt, zk_eq0, zk_lt0, zk_0lt, zk_long, lz_lt, lz_gt, zmax, zmin, ↓reduceIte, Int.reduceEq, Int.reduceLT, Int.reduceNeg, Int.reduceAdd, Int.reduceSub, Int.reduceMul, Int.ofNat_eq_natCast, Int.cast_ofNat_Int, e1]
    refine Ev.ite (fun hlt => ?_) (fun hlt => ?_)
    · have ih := fun I' h => ih hlt I' h (by omega) (by omega)
      have := RB.state hB (j := n) (by omega) (by omega)
      have := RB.parent hB (j := n) (by omega) (by omega)
      have e2 : I' 22 0 n = if n = t then 1 else (I 22 0 n) := by rw [hI]; simp [enN]
      have e3 : I' 23 0 n = (I 23 0 n) := by rw [hI]; simp [enN]
      have e5 : -1 ≤ I' 22 0 n ∧ I' 22 0 n ≤ 2 := by rw [e2]; split <;> omega
      try simp (disch := omega) only [a_22 hA hR, a_23 hA hR, g_12_1 hA hR, g_12_2 hA hR, g_12_3 hA hR, s_22 hA hR, s_23 hA hR, Option.bind_some, up_s, up_k, up_j, up_i, xk_add, xk_sub, xk_mul, xk_neg, lk_add, lN_z, rf_none, rb1, rb0, rbp, xk_nI, zk_eq, zk_lt, zk_eq0, zk_lt0, zk_0lt, zk_long, lz_lt, lz_gt, zmax, zmin, ↓reduceIte, Int.reduceEq, Int.reduceLT, Int.reduceNeg, Int.reduceAdd, Int.reduceSub, Int.reduceMul, Int.ofNat_eq_natCast, Int.cast_ofNat_Int, e3]
      refine Ev.ite (fun hs => ?_) (fun hs => ?_)
      · refine ih _ ?_
        rw [hI]
        rw [e2] at hs
        have hs : (I 22 0 n) = 2 := by split at hs <;> omega
        funext k i j
        simp only [up, enN]
        by_cases hj : j = n
        · subst hj
          repeat' split
          all_goals first | rfl | (exfalso; omega)
        · repeat' split
          all_goals first | rfl | (exfalso; omega)
      · have hs : (I 22 0 n) ≠ 2 := by
          rw [e2] at hs
          intro q
          by_cases hn : n = t
          · subst hn
            exact ht q
          · rw [if_neg hn] at hs
            exact hs q
        refine Ev.ite (fun hp => ?_) (fun hp => ?_)
        · refine ih _ ?_
          rw [hI]
          funext k i j
          simp only [up, enN]
          by_cases hj : j = n
          · subst hj
            repeat' split
            all_goals first | rfl | (exfalso; omega)
          · repeat' split
            all_goals first | rfl | (exfalso; omega)
        · refine ih _ ?_
          rw [hI]
          funext k i j
          simp only [up, enN]
          by_cases hj : j = n
          · subst hj
            repeat' split
            all_goals first | rfl | (exfalso; omega)
          · repeat' split
            all_goals first | rfl | (exfalso; omega)
    · refine Ev.ret ?_
      have : n = (I 12 0 1) := by omega
      subst this
      rw [hI, hh]
      rfl
  refine Ev.step (fun F => E12_end F _ _ _) ?_
  simp (disch := omega) only [a_22 hA hR, a_24 hA hR, a_27 hA hR, a_34 hA hR, a_35 hA hR, g_12_14 hA hR, g_12_15 hA hR, g_12_2 hA hR, g_12_4 hA hR, g_12_7 hA hR, s_22 hA hR, s_24 hA hR, s_27 hA hR, s_34 hA hR, s_35 hA hR, Option.bind_some, up_s, up_k, up_j, up_i, xk_add, xk_sub, xk_mul, xk_neg, lk_add, lN_z, rf_none, rb1, rb0, rbp, xk_nI, zk_eq, zk_lt, zk_eq0, zk_lt0, zk_0lt, zk_long, lz_lt, lz_gt, zmax, zmin, ↓reduceIte, Int.reduceEq, Int.reduceLT, Int.reduceNeg, Int.reduceAdd, Int.reduceSub, Int.reduceMul, Int.ofNat_eq_natCast, Int.cast_ofNat_Int]
  refine Ev.ite (fun h => ?_) (fun h => ?_)
  · have := hr h
    have := RB.arw hB (j := ((I 24 0 t))) (by omega) (by omega)
    have := RB.init hB (j := ((I 34 0 ((I 24 0 t))))) (by omega) (by omega)
    try simp (disch := omega) only [a_22 hA hR, a_24 hA hR, a_27 hA hR, a_34 hA hR, a_35 hA hR, g_12_14 hA hR, g_12_15 hA hR, g_12_2 hA hR, g_12_4 hA hR, g_12_7 hA hR, s_22 hA hR, s_24 hA hR, s_27 hA hR, s_34 hA hR, s_35 hA hR, Option.bind_some, up_s, up_k, up_j, up_i, xk_add, xk_sub, xk_mul, xk_neg, lk_add, lN_z, rf_none, rb1, rb0, rbp, xk_nI, zk_eq, zk_lt, zk_eq0, zk_lt0, zk_0lt, zk_long, lz_lt, lz_gt, zmax, zmin, ↓reduceIte, Int.reduceEq, Int.reduceLT, Int.reduceNeg, Int.reduceAdd, Int.reduceSub, Int.reduceMul, Int.ofNat_eq_natCast, Int.cast_ofNat_Int]
    refine hq _ 0 _ ?_ (by rw [heI, if_pos h]) (by omega) (by omega) (by omega) (by omega)
    funext k i j
    simp only [up, enN]
    repeat' split
    all_goals first | rfl | (exfalso; omega)
  · refine hq _ 0 _ ?_ (by rw [heI, if_neg h]) (by omega) (by omega) (by omega) (by omega)
    funext k i j
    simp only [up, enN]
    repeat' split
    all_goals first | rfl | (exfalso; omega)
end RA
