/-! pairs: find, task, badness, release, time, told -/
theorem k10 : ¬ xk 1 = 0 := by decide +kernel
theorem k00 : xk 0 = 0 := xk_zero
section OPs
variable {e : EN} {C I J : ST} {z : Nat × Nat × Nat × Nat} {n : Int}
theorem find_pr (hO : OK n e C I z) {s x : Int} (s0 : -2147483648 ≤ s) (s1 : s < 2147483648) (x0 : -2147483648 ≤ x) (x1 : x < 2147483648) : PR n e C I z (fun F σ => J11_find F (rf e 11 0) (xk s) (xk x) σ) (fun F σ => J12_find F (rf e 12 0) (xk s) (xk x) σ) ∨ PT n e C I z 50 1 (fun F σ => J11_find F (rf e 11 0) (xk s) (xk x) σ) (fun F σ => J12_find F (rf e 12 0) (xk s) (xk x) σ) := by
  obtain ⟨hA, hR, hC0, hI0⟩ := hO
  have hO : OK n e C I z := ⟨hA, hR, hC0, hI0⟩
  have hC := hC0.th (v := 0)
  have hI := hI0.th (m := n) (v := 0) (by omega)
  have hT := hI.ti
  generalize hJ : th I 0 = J at *
  have n8 := hC.1.1
  have n7 := hC.2.1.1
  have n1 := hC.2.2.1.1
  have n10 := hC.2.2.2.2.1.1
  have hB := hT.1
  have := RB.tasks hB
  have := RB.spaces hB
  have := RB.groups hB
  have := RB.views hB
  have n4 := hA.2.2.2.1
  have sp := spaceAt_ev (I := I) hA hC hT s0 s1
  have q13 : (I 12 0 13) = (J 12 0 13) := by rw [← hJ, th_f (Or.inr (by decide))]
  by_cases h : 0 ≤ s ∧ s < (J 12 0 13)
  · left
    rw [if_pos h] at sp
    have ho := holder_cl (I := I) hA hC hT (x := x) h.1 h.2 x0 x1
    have pre : ∀ {A : Int}, (∀ {r}, Ev (fun F => if 1 ≤ x ∧ x ≤ 40 then xci (J12_holder F (rf e 12 0) (xk s) (xk x) (HS e C J z)) fun v15 s14 => some (.inl (some (.inl v15)), s14) else some (.inl (some (.inl (xk (-1)))), HS e C J z)) r → Ev (fun F => J12_find F (rf e 12 0) (xk s) (xk x) (HS e C I z)) r) := by
      intro A r hr
      refine Ev.step (fun F => E12_find F _ _ _ _) ?_
      simp (disch := omega) only [d_12 hA hR, g_12_0 hA hR, g_12_13 hA hR, p_12_0 hA hR, Option.bind_some, up_s, up_k, up_j, up_i, xk_add, xk_sub, xk_mul, xk_neg, lk_add, lN_z, rf_none, rb1, rb0, rbp, xk_nI, zk_eq, zk_lt, zk_eq0, zk_lt0, zk_0lt, zk_long, lz_lt, lz_gt, zmax, zmin, ↓reduceIte, Int.reduceEq, Int.reduceLT, Int.reduceNeg, Int.reduceAdd, Int.reduceSub, Int.reduceMul, Int.ofNat_eq_natCast, Int.cast_ofNat_Int, q13]
      refine Ev.kB (in_ev ⟨by omega, by omega⟩ ⟨by decide, by decide⟩ ⟨by omega, by omega⟩) (fun _ => ?_) (fun q => absurd q (by omega))
      try simp (maxSteps := 2000000) (disch := omega) only [d_12 hA hR, g_12_0 hA hR, g_12_13 hA hR, p_12_0 hA hR, Option.bind_some, up_s, up_k, up_j, up_i, xk_add, xk_sub, xk_mul, xk_neg, lk_add, lN_z, rf_none, rb1, rb0, rbp, xk_nI, zk_eq, zk_lt, zk_eq0, zk_lt0, zk_0lt, zk_long, lz_lt, lz_gt, zmax, zmin, ↓reduceIte, Int.reduceEq, Int.reduceLT, Int.reduceNeg, Int.reduceAdd, Int.reduceSub, Int.reduceMul, Int.ofNat_eq_natCast, Int.cast_ofNat_Int, ll_40]
      rw [show up I 12 0 0 0 = J from hJ]
      refine Ev.kB (in_ev ⟨by omega, by omega⟩ ⟨by decide, by decide⟩ ⟨by decide, by decide⟩) (fun q => ?_) (fun q => ?_)
      · try simp (maxSteps := 2000000) (disch := omega) only [d_12 hA hR, g_12_0 hA hR, g_12_13 hA hR, p_12_0 hA hR, Option.bind_some, up_s, up_k, up_j, up_i, xk_add, xk_sub, xk_mul, xk_neg, lk_add, lN_z, rf_none, rb1, rb0, rbp, xk_nI, zk_eq, zk_lt, zk_eq0, zk_lt0, zk_0lt, zk_long, lz_lt, lz_gt, zmax, zmin, ↓reduceIte, Int.reduceEq, Int.reduceLT, Int.reduceNeg, Int.reduceAdd, Int.reduceSub, Int.reduceMul, Int.ofNat_eq_natCast, Int.cast_ofNat_Int]
        simp only [if_pos q] at hr
        exact hr
      · try simp (maxSteps := 2000000) (disch := omega) only [d_12 hA hR, g_12_0 hA hR, g_12_13 hA hR, p_12_0 hA hR, Option.bind_some, up_s, up_k, up_j, up_i, xk_add, xk_sub, xk_mul, xk_neg, lk_add, lN_z, rf_none, rb1, rb0, rbp, xk_nI, zk_eq, zk_lt, zk_eq0, zk_lt0, zk_0lt, zk_long, lz_lt, lz_gt, zmax, zmin, ↓reduceIte, Int.reduceEq, Int.reduceLT, Int.reduceNeg, Int.reduceAdd, Int.reduceSub, Int.reduceMul, Int.ofNat_eq_natCast, Int.cast_ofNat_Int]
        simp only [if_neg q] at hr
        exact hr
    by_cases hx : 1 ≤ x ∧ x ≤ 40
    · have hh := hC.2.1.hold (s := s) h.1 h.2 hx.1 hx.2
      rw [if_pos hx] at ho
      generalize hy : (C 15 s x) = y at *
      have yb := hh.1
      refine PR.look hO (A := y) (by omega) (by omega) ?_ ?_
      · refine Ev.step (fun F => E11_find F _ _ _ _) ?_
        simp (disch := omega) only [d_7 hA, d_9 hA, g_11_1 hA, g_8_0 hA, Option.bind_some, up_s, up_k, up_j, up_i, xk_add, xk_sub, xk_mul, xk_neg, lk_add, lN_z, rf_none, rb1, rb0, rbp, xk_nI, zk_eq, zk_lt, zk_eq0, zk_lt0, zk_0lt, zk_long, lz_lt, lz_gt, zmax, zmin, ↓reduceIte, Int.reduceEq, Int.reduceLT, Int.reduceNeg, Int.reduceAdd, Int.reduceSub, Int.reduceMul, Int.ofNat_eq_natCast, Int.cast_ofNat_Int]
        refine Ev.kR sp ?_
        try simp (maxSteps := 2000000) (disch := omega) only [d_7 hA, d_9 hA, g_11_1 hA, g_8_0 hA, Option.bind_some, up_s, up_k, up_j, up_i, xk_add, xk_sub, xk_mul, xk_neg, lk_add, lN_z, rf_none, rb1, rb0, rbp, xk_nI, zk_eq, zk_lt, zk_eq0, zk_lt0, zk_0lt, zk_long, lz_lt, lz_gt, zmax, zmin, ↓reduceIte, Int.reduceEq, Int.reduceLT, Int.reduceNeg, Int.reduceAdd, Int.reduceSub, Int.reduceMul, Int.ofNat_eq_natCast, Int.cast_ofNat_Int]
        refine Ev.ite (fun q => absurd q (by omega)) (fun _ => ?_)
        refine Ev.kR ho ?_
        try simp (maxSteps := 2000000) (disch := omega) only [d_7 hA, d_9 hA, g_11_1 hA, g_8_0 hA, Option.bind_some, up_s, up_k, up_j, up_i, xk_add, xk_sub, xk_mul, xk_neg, lk_add, lN_z, rf_none, rb1, rb0, rbp, xk_nI, zk_eq, zk_lt, zk_eq0, zk_lt0, zk_0lt, zk_long, lz_lt, lz_gt, zmax, zmin, ↓reduceIte, Int.reduceEq, Int.reduceLT, Int.reduceNeg, Int.reduceAdd, Int.reduceSub, Int.reduceMul, Int.ofNat_eq_natCast, Int.cast_ofNat_Int]
        refine Ev.ite (fun q => Ev.ret (by rw [show y = -1 by omega]; rfl)) (fun q => ?_)
        try simp (maxSteps := 2000000) (disch := omega) only [d_7 hA, d_9 hA, g_11_1 hA, g_8_0 hA, Option.bind_some, up_s, up_k, up_j, up_i, xk_add, xk_sub, xk_mul, xk_neg, lk_add, lN_z, rf_none, rb1, rb0, rbp, xk_nI, zk_eq, zk_lt, zk_eq0, zk_lt0, zk_0lt, zk_long, lz_lt, lz_gt, zmax, zmin, ↓reduceIte, Int.reduceEq, Int.reduceLT, Int.reduceNeg, Int.reduceAdd, Int.reduceSub, Int.reduceMul, Int.ofNat_eq_natCast, Int.cast_ofNat_Int]
        exact Ev.ret rfl
      · rw [hJ]
        refine pre (A := 0) ?_
        refine Ev.ite (fun _ => ?_) (fun q => absurd hx q)
        exact Ev.kI (holder_ev hA hR hB h.1 (by omega) x0 x1 hh) (Ev.ret rfl)
    · rw [if_neg hx] at ho
      refine PR.look hO (A := -1) (by decide) (by decide) ?_ ?_
      · refine Ev.step (fun F => E11_find F _ _ _ _) ?_
        simp (disch := omega) only [d_7 hA, d_9 hA, g_11_1 hA, g_8_0 hA, Option.bind_some, up_s, up_k, up_j, up_i, xk_add, xk_sub, xk_mul, xk_neg, lk_add, lN_z, rf_none, rb1, rb0, rbp, xk_nI, zk_eq, zk_lt, zk_eq0, zk_lt0, zk_0lt, zk_long, lz_lt, lz_gt, zmax, zmin, ↓reduceIte, Int.reduceEq, Int.reduceLT, Int.reduceNeg, Int.reduceAdd, Int.reduceSub, Int.reduceMul, Int.ofNat_eq_natCast, Int.cast_ofNat_Int]
        refine Ev.kR sp ?_
        try simp (maxSteps := 2000000) (disch := omega) only [d_7 hA, d_9 hA, g_11_1 hA, g_8_0 hA, Option.bind_some, up_s, up_k, up_j, up_i, xk_add, xk_sub, xk_mul, xk_neg, lk_add, lN_z, rf_none, rb1, rb0, rbp, xk_nI, zk_eq, zk_lt, zk_eq0, zk_lt0, zk_0lt, zk_long, lz_lt, lz_gt, zmax, zmin, ↓reduceIte, Int.reduceEq, Int.reduceLT, Int.reduceNeg, Int.reduceAdd, Int.reduceSub, Int.reduceMul, Int.ofNat_eq_natCast, Int.cast_ofNat_Int]
        refine Ev.ite (fun q => absurd q (by omega)) (fun _ => ?_)
        refine Ev.kR ho ?_
        try simp (maxSteps := 2000000) (disch := omega) only [d_7 hA, d_9 hA, g_11_1 hA, g_8_0 hA, Option.bind_some, up_s, up_k, up_j, up_i, xk_add, xk_sub, xk_mul, xk_neg, lk_add, lN_z, rf_none, rb1, rb0, rbp, xk_nI, zk_eq, zk_lt, zk_eq0, zk_lt0, zk_0lt, zk_long, lz_lt, lz_gt, zmax, zmin, ↓reduceIte, Int.reduceEq, Int.reduceLT, Int.reduceNeg, Int.reduceAdd, Int.reduceSub, Int.reduceMul, Int.ofNat_eq_natCast, Int.cast_ofNat_Int]
        exact Ev.ret rfl
      · rw [hJ]
        refine pre (A := 0) ?_
        exact Ev.ite (fun q => absurd q hx) (fun _ => Ev.ret rfl)
  · right
    rw [if_neg h] at sp
    refine ⟨⟨z.1, ?_⟩, 0, ?_⟩
    · refine Ev.step (fun F => E11_find F _ _ _ _) ?_
      simp (disch := omega) only [d_7 hA, d_9 hA, g_11_1 hA, g_8_0 hA, Option.bind_some, up_s, up_k, up_j, up_i, xk_add, xk_sub, xk_mul, xk_neg, lk_add, lN_z, rf_none, rb1, rb0, rbp, xk_nI, zk_eq, zk_lt, zk_eq0, zk_lt0, zk_0lt, zk_long, lz_lt, lz_gt, zmax, zmin, ↓reduceIte, Int.reduceEq, Int.reduceLT, Int.reduceNeg, Int.reduceAdd, Int.reduceSub, Int.reduceMul, Int.ofNat_eq_natCast, Int.cast_ofNat_Int, thr_HS]
      refine Ev.kR sp ?_
      try simp (maxSteps := 2000000) (disch := omega) only [d_7 hA, d_9 hA, g_11_1 hA, g_8_0 hA, Option.bind_some, up_s, up_k, up_j, up_i, xk_add, xk_sub, xk_mul, xk_neg, lk_add, lN_z, rf_none, rb1, rb0, rbp, xk_nI, zk_eq, zk_lt, zk_eq0, zk_lt0, zk_0lt, zk_long, lz_lt, lz_gt, zmax, zmin, ↓reduceIte, Int.reduceEq, Int.reduceLT, Int.reduceNeg, Int.reduceAdd, Int.reduceSub, Int.reduceMul, Int.ofNat_eq_natCast, Int.cast_ofNat_Int, thr_HS]
      exact Ev.ret rfl
    · have hA' := hA.thr
      generalize (z.1 + 1, z.2.1 + 6, z.2.2) = z' at hA' ⊢
      have hA := hA'
      refine Ev.step (fun F => E12_find F _ _ _ _) ?_
      simp (disch := omega) only [d_12 hA hR, g_12_0 hA hR, g_12_13 hA hR, p_12_0 hA hR, Option.bind_some, up_s, up_k, up_j, up_i, xk_add, xk_sub, xk_mul, xk_neg, lk_add, lN_z, rf_none, rb1, rb0, rbp, xk_nI, zk_eq, zk_lt, zk_eq0, zk_lt0, zk_0lt, zk_long, lz_lt, lz_gt, zmax, zmin, ↓reduceIte, Int.reduceEq, Int.reduceLT, Int.reduceNeg, Int.reduceAdd, Int.reduceSub, Int.reduceMul, Int.ofNat_eq_natCast, Int.cast_ofNat_Int, q13]
      refine Ev.kB (in_ev ⟨by omega, by omega⟩ ⟨by decide, by decide⟩ ⟨by omega, by omega⟩) (fun q => absurd q (by omega)) (fun _ => ?_)
      try simp (maxSteps := 2000000) (disch := omega) only [d_12 hA hR, g_12_0 hA hR, g_12_13 hA hR, p_12_0 hA hR, Option.bind_some, up_s, up_k, up_j, up_i, xk_add, xk_sub, xk_mul, xk_neg, lk_add, lN_z, rf_none, rb1, rb0, rbp, xk_nI, zk_eq, zk_lt, zk_eq0, zk_lt0, zk_0lt, zk_long, lz_lt, lz_gt, zmax, zmin, ↓reduceIte, Int.reduceEq, Int.reduceLT, Int.reduceNeg, Int.reduceAdd, Int.reduceSub, Int.reduceMul, Int.ofNat_eq_natCast, Int.cast_ofNat_Int]
      exact Ev.ret rfl
def tlT (J : ST) (t w : Int) : Int := if w = 0 then (J 22 0 t) else if w = 1 then (J 23 0 t) else if w = 2 then (J 24 0 t) else if w = 3 then (J 25 0 t) else if w = 4 then (J 26 0 t) else if w = 5 then (J 27 0 t) else if w = 6 then (J 28 0 t) else (J 29 0 t)
theorem tell_ev (hA : WA e z) (hC : Cpl e C J) (hT : TI J) {t w : Int} (t0 : 0 ≤ t) (t1 : t < (J 12 0 1)) (w0 : 0 ≤ w) (w1 : w ≤ 7) : Ev (fun F => J8_tell F (rf e 8 t) (xk w) (HS e C I z)) (rI (tlT J t w) (HS e C I z)) := by
  have n8 := hC.1.1
  have n7 := hC.2.1.1
  have n1 := hC.2.2.1.1
  have n10 := hC.2.2.2.2.1.1
  have hB := hT.1
  have := RB.tasks hB
  have := RB.spaces hB
  have := RB.groups hB
  have := RB.views hB
  have n4 := hA.2.2.2.1
  have b := hT.b t0 t1
  have := RB.asleep hB (j := t) (by omega) (by omega)
  refine Ev.step (fun F => E8_tell F _ _ _) ?_
  simp (disch := omega) only [g_10_0 hA, g_1_0 hA, g_7_0 hA, g_8_0 hA, g_8_1 hA, g_8_2 hA, g_8_3 hA, g_8_4 hA, g_8_5 hA, g_8_6 hA, g_8_7 hA, g_8_9 hA, Option.bind_some, up_s, up_k, up_j, up_i, xk_add, xk_sub, xk_mul, xk_neg, lk_add, lN_z, rf_none, rb1, rb0, rbp, xk_nI, zk_eq, zk_lt, zk_eq0, zk_lt0, zk_0lt, zk_long, lz_lt, lz_gt, zmax, zmin, ↓reduceIte, Int.reduceEq, Int.reduceLT, Int.reduceNeg, Int.reduceAdd, Int.reduceSub, Int.reduceMul, Int.ofNat_eq_natCast, Int.cast_ofNat_Int, CT.space hC.1, CT.view hC.1, CT.parent hC.1, CT.group hC.1, CT.state hC.1, CT.pages hC.1, CT.points hC.1, CT.ticks hC.1, CT.asleep hC.1, CT.time hC.1, CP.outer hC.2.1, CP.depth hC.2.1, CP.init hC.2.1, CP.given hC.2.1, CG.outer hC.2.2.1, CG.depth hC.2.2.1, CG.max hC.2.2.1, CG.most hC.2.2.1, CG.weight hC.2.2.1, CG.quota hC.2.2.1, CG.cached hC.2.2.1, CG.ran hC.2.2.1, CG.time hC.2.2.1, CG.uses hC.2.2.1, CG.live hC.2.2.1, rf_eq hA]
  unfold tlT
  refine Ev.ite (fun h => Ev.ret (by rw [if_pos (c := w = 0) (by omega)]; rfl)) (fun h => ?_)
  rw [if_neg (c := w = 0) (by omega)]
  refine Ev.ite (fun h => ?_) (fun h => ?_)
  · rw [if_pos (c := w = 1) (by omega)]
    refine Ev.ite (fun q => Ev.ret (by rw [show (J 23 0 t) = -1 by omega]; rfl)) (fun q => ?_)
    try simp (maxSteps := 2000000) (disch := omega) only [g_10_0 hA, g_1_0 hA, g_7_0 hA, g_8_0 hA, g_8_1 hA, g_8_2 hA, g_8_3 hA, g_8_4 hA, g_8_5 hA, g_8_6 hA, g_8_7 hA, g_8_9 hA, Option.bind_some, up_s, up_k, up_j, up_i, xk_add, xk_sub, xk_mul, xk_neg, lk_add, lN_z, rf_none, rb1, rb0, rbp, xk_nI, zk_eq, zk_lt, zk_eq0, zk_lt0, zk_0lt, zk_long, lz_lt, lz_gt, zmax, zmin, ↓reduceIte, Int.reduceEq, Int.reduceLT, Int.reduceNeg, Int.reduceAdd, Int.reduceSub, Int.reduceMul, Int.ofNat_eq_natCast, Int.cast_ofNat_Int, CT.space hC.1, CT.view hC.1, CT.parent hC.1, CT.group hC.1, CT.state hC.1, CT.pages hC.1, CT.points hC.1, CT.ticks hC.1, CT.asleep hC.1, CT.time hC.1, CP.outer hC.2.1, CP.depth hC.2.1, CP.init hC.2.1, CP.given hC.2.1, CG.outer hC.2.2.1, CG.depth hC.2.2.1, CG.max hC.2.2.1, CG.most hC.2.2.1, CG.weight hC.2.2.1, CG.quota hC.2.2.1, CG.cached hC.2.2.1, CG.ran hC.2.2.1, CG.time hC.2.2.1, CG.uses hC.2.2.1, CG.live hC.2.2.1, rf_eq hA]
    exact Ev.ret rfl
  rw [if_neg (c := w = 1) (by omega)]
  refine Ev.ite (fun h => Ev.ret (by rw [if_pos (c := w = 2) (by omega)]; rfl)) (fun h => ?_)
  rw [if_neg (c := w = 2) (by omega)]
  refine Ev.ite (fun h => Ev.ret (by rw [if_pos (c := w = 3) (by omega)]; rfl)) (fun h => ?_)
  rw [if_neg (c := w = 3) (by omega)]
  refine Ev.ite (fun h => Ev.ret (by rw [if_pos (c := w = 4) (by omega)]; rfl)) (fun h => ?_)
  rw [if_neg (c := w = 4) (by omega)]
  refine Ev.ite (fun h => Ev.ret (by rw [if_pos (c := w = 5) (by omega)]; rfl)) (fun h => ?_)
  rw [if_neg (c := w = 5) (by omega)]
  refine Ev.ite (fun h => Ev.ret (by rw [if_pos (c := w = 6) (by omega)]; rfl)) (fun h => ?_)
  rw [if_neg (c := w = 6) (by omega)]
  exact Ev.ite (fun q => Ev.ret (by rw [q]; rfl)) (fun q => Ev.ret (by rw [show (J 29 0 t) = 1 by omega]; rfl))
theorem tlT_b (hT : TI J) {t w : Int} (t0 : 0 ≤ t) (t1 : t < (J 12 0 1)) : -10 ≤ tlT J t w ∧ tlT J t w ≤ 1000000 := by
  have hB := hT.1
  have tk := RB.tasks hB
  have b := hT.b t0 t1
  have := RB.asleep hB (j := t) t0 (by omega)
  have := RB.pages hB (j := t) t0 (by omega)
  have := RB.badness hB (j := t) t0 (by omega)
  have := RB.spaces hB
  have := RB.groups hB
  have := RB.views hB
  unfold tlT
  repeat' split
  all_goals omega
theorem task_pr (hO : OK n e C I z) {t w : Int} (t0 : -2147483648 ≤ t) (t1 : t < 2147483648) (w0 : -2147483648 ≤ w) (w1 : w < 2147483648) : PR n e C I z (fun F σ => J11_task F (rf e 11 0) (xk t) (xk w) σ) (fun F σ => J12_task F (rf e 12 0) (xk t) (xk w) σ) ∨ PT n e C I z 50 1 (fun F σ => J11_task F (rf e 11 0) (xk t) (xk w) σ) (fun F σ => J12_task F (rf e 12 0) (xk t) (xk w) σ) := by
  obtain ⟨hA, hR, hC0, hI0⟩ := hO
  have hO : OK n e C I z := ⟨hA, hR, hC0, hI0⟩
  have hC := hC0.th (v := 0)
  have hI := hI0.th (m := n) (v := 0) (by omega)
  have hT := hI.ti
  generalize hJ : th I 0 = J at *
  have n8 := hC.1.1
  have n7 := hC.2.1.1
  have n1 := hC.2.2.1.1
  have n10 := hC.2.2.2.2.1.1
  have hB := hT.1
  have := RB.tasks hB
  have := RB.spaces hB
  have := RB.groups hB
  have := RB.views hB
  have n4 := hA.2.2.2.1
  have ev := everMade_ev (I := I) hA hC hT t0 t1
  have it := isTask_ev (C := C) (I := J) hA hR t0 t1 (by omega) (by omega)
  by_cases h : 0 ≤ w ∧ w ≤ 7
  · left
    by_cases ht : 0 ≤ t ∧ t < (J 12 0 1)
    · rw [if_pos ht] at ev
      have tb := tlT_b hT (w := w) ht.1 ht.2
      refine PR.look hO (A := tlT J t w) (by omega) (by omega) ?_ ?_
      · refine Ev.step (fun F => E11_task F _ _ _ _) ?_
        simp (disch := omega) only [d_8 hA, d_9 hA, g_11_1 hA, Option.bind_some, up_s, up_k, up_j, up_i, xk_add, xk_sub, xk_mul, xk_neg, lk_add, lN_z, rf_none, rb1, rb0, rbp, xk_nI, zk_eq, zk_lt, zk_eq0, zk_lt0, zk_0lt, zk_long, lz_lt, lz_gt, zmax, zmin, ↓reduceIte, Int.reduceEq, Int.reduceLT, Int.reduceNeg, Int.reduceAdd, Int.reduceSub, Int.reduceMul, Int.ofNat_eq_natCast, Int.cast_ofNat_Int]
        refine Ev.ite (fun q => absurd q (by omega)) (fun _ => ?_)
        refine Ev.ite (fun q => absurd q (by omega)) (fun _ => ?_)
        refine Ev.kR ev ?_
        try simp (maxSteps := 2000000) (disch := omega) only [d_8 hA, d_9 hA, g_11_1 hA, Option.bind_some, up_s, up_k, up_j, up_i, xk_add, xk_sub, xk_mul, xk_neg, lk_add, lN_z, rf_none, rb1, rb0, rbp, xk_nI, zk_eq, zk_lt, zk_eq0, zk_lt0, zk_0lt, zk_long, lz_lt, lz_gt, zmax, zmin, ↓reduceIte, Int.reduceEq, Int.reduceLT, Int.reduceNeg, Int.reduceAdd, Int.reduceSub, Int.reduceMul, Int.ofNat_eq_natCast, Int.cast_ofNat_Int]
        refine Ev.ite (fun q => absurd q (by omega)) (fun _ => ?_)
        exact Ev.kI (tell_ev hA hC hT ht.1 ht.2 h.1 h.2) (Ev.ret rfl)
      · have := RB.asleep hB (j := t) (by omega) (by omega)
        refine Ev.step (fun F => E12_task F _ _ _ _) ?_
        rw [ll_7, lN_z, zk_long w0 w1]
        refine Ev.kB (in_ev ⟨by omega, by omega⟩ ⟨by decide, by decide⟩ ⟨by decide, by decide⟩) (fun _ => ?_) (fun q => absurd h q)
        refine Ev.ite (fun q => absurd q k10) (fun _ => ?_)
        try simp (maxSteps := 2000000) (disch := omega) only [a_22 hA hR, a_23 hA hR, a_24 hA hR, a_25 hA hR, a_26 hA hR, a_27 hA hR, a_28 hA hR, a_29 hA hR, d_12 hA hR, g_12_0 hA hR, g_12_2 hA hR, g_12_3 hA hR, g_12_4 hA hR, g_12_5 hA hR, g_12_6 hA hR, g_12_7 hA hR, g_12_8 hA hR, g_12_9 hA hR, p_12_0 hA hR, Option.bind_some, up_s, up_k, up_j, up_i, xk_add, xk_sub, xk_mul, xk_neg, lk_add, lN_z, rf_none, rb1, rb0, rbp, xk_nI, zk_eq, zk_lt, zk_eq0, zk_lt0, zk_0lt, zk_long, lz_lt, lz_gt, zmax, zmin, ↓reduceIte, Int.reduceEq, Int.reduceLT, Int.reduceNeg, Int.reduceAdd, Int.reduceSub, Int.reduceMul, Int.ofNat_eq_natCast, Int.cast_ofNat_Int]
        rw [show up I 12 0 0 0 = J from hJ, hJ]
        refine Ev.kB it (fun _ => ?_) (fun q => absurd ht q)
        try simp (maxSteps := 2000000) (disch := omega) only [a_22 hA hR, a_23 hA hR, a_24 hA hR, a_25 hA hR, a_26 hA hR, a_27 hA hR, a_28 hA hR, a_29 hA hR, d_12 hA hR, g_12_0 hA hR, g_12_2 hA hR, g_12_3 hA hR, g_12_4 hA hR, g_12_5 hA hR, g_12_6 hA hR, g_12_7 hA hR, g_12_8 hA hR, g_12_9 hA hR, p_12_0 hA hR, Option.bind_some, up_s, up_k, up_j, up_i, xk_add, xk_sub, xk_mul, xk_neg, lk_add, lN_z, rf_none, rb1, rb0, rbp, xk_nI, zk_eq, zk_lt, zk_eq0, zk_lt0, zk_0lt, zk_long, lz_lt, lz_gt, zmax, zmin, ↓reduceIte, Int.reduceEq, Int.reduceLT, Int.reduceNeg, Int.reduceAdd, Int.reduceSub, Int.reduceMul, Int.ofNat_eq_natCast, Int.cast_ofNat_Int]
        unfold tlT
        refine Ev.ite (fun h => Ev.ret (by rw [if_pos (c := w = 0) (by omega)]; rfl)) (fun h => ?_)
        rw [if_neg (c := w = 0) (by omega)]
        refine Ev.ite (fun h => Ev.ret (by rw [if_pos (c := w = 1) (by omega)]; rfl)) (fun h => ?_)
        rw [if_neg (c := w = 1) (by omega)]
        refine Ev.ite (fun h => Ev.ret (by rw [if_pos (c := w = 2) (by omega)]; rfl)) (fun h => ?_)
        rw [if_neg (c := w = 2) (by omega)]
        refine Ev.ite (fun h => Ev.ret (by rw [if_pos (c := w = 3) (by omega)]; rfl)) (fun h => ?_)
        rw [if_neg (c := w = 3) (by omega)]
        refine Ev.ite (fun h => Ev.ret (by rw [if_pos (c := w = 4) (by omega)]; rfl)) (fun h => ?_)
        rw [if_neg (c := w = 4) (by omega)]
        refine Ev.ite (fun h => Ev.ret (by rw [if_pos (c := w = 5) (by omega)]; rfl)) (fun h => ?_)
        rw [if_neg (c := w = 5) (by omega)]
        refine Ev.ite (fun h => Ev.ret (by rw [if_pos (c := w = 6) (by omega)]; rfl)) (fun h => ?_)
        rw [if_neg (c := w = 6) (by omega)]
        exact Ev.ite (fun q => Ev.ret (by rw [q]; rfl)) (fun q => Ev.ret (by rw [show (J 29 0 t) = 1 by omega]; rfl))
    · rw [if_neg ht] at ev
      refine PR.look hO (A := -1) (by decide) (by decide) ?_ ?_
      · refine Ev.step (fun F => E11_task F _ _ _ _) ?_
        simp (disch := omega) only [d_8 hA, d_9 hA, g_11_1 hA, Option.bind_some, up_s, up_k, up_j, up_i, xk_add, xk_sub, xk_mul, xk_neg, lk_add, lN_z, rf_none, rb1, rb0, rbp, xk_nI, zk_eq, zk_lt, zk_eq0, zk_lt0, zk_0lt, zk_long, lz_lt, lz_gt, zmax, zmin, ↓reduceIte, Int.reduceEq, Int.reduceLT, Int.reduceNeg, Int.reduceAdd, Int.reduceSub, Int.reduceMul, Int.ofNat_eq_natCast, Int.cast_ofNat_Int]
        refine Ev.ite (fun q => absurd q (by omega)) (fun _ => ?_)
        refine Ev.ite (fun q => absurd q (by omega)) (fun _ => ?_)
        refine Ev.kR ev ?_
        try simp (maxSteps := 2000000) (disch := omega) only [d_8 hA, d_9 hA, g_11_1 hA, Option.bind_some, up_s, up_k, up_j, up_i, xk_add, xk_sub, xk_mul, xk_neg, lk_add, lN_z, rf_none, rb1, rb0, rbp, xk_nI, zk_eq, zk_lt, zk_eq0, zk_lt0, zk_0lt, zk_long, lz_lt, lz_gt, zmax, zmin, ↓reduceIte, Int.reduceEq, Int.reduceLT, Int.reduceNeg, Int.reduceAdd, Int.reduceSub, Int.reduceMul, Int.ofNat_eq_natCast, Int.cast_ofNat_Int]
        exact Ev.ret rfl
      · refine Ev.step (fun F => E12_task F _ _ _ _) ?_
        rw [ll_7, lN_z, zk_long w0 w1]
        refine Ev.kB (in_ev ⟨by omega, by omega⟩ ⟨by decide, by decide⟩ ⟨by decide, by decide⟩) (fun _ => ?_) (fun q => absurd h q)
        refine Ev.ite (fun q => absurd q k10) (fun _ => ?_)
        try simp (maxSteps := 2000000) (disch := omega) only [a_22 hA hR, a_23 hA hR, a_24 hA hR, a_25 hA hR, a_26 hA hR, a_27 hA hR, a_28 hA hR, a_29 hA hR, d_12 hA hR, g_12_0 hA hR, g_12_2 hA hR, g_12_3 hA hR, g_12_4 hA hR, g_12_5 hA hR, g_12_6 hA hR, g_12_7 hA hR, g_12_8 hA hR, g_12_9 hA hR, p_12_0 hA hR, Option.bind_some, up_s, up_k, up_j, up_i, xk_add, xk_sub, xk_mul, xk_neg, lk_add, lN_z, rf_none, rb1, rb0, rbp, xk_nI, zk_eq, zk_lt, zk_eq0, zk_lt0, zk_0lt, zk_long, lz_lt, lz_gt, zmax, zmin, ↓reduceIte, Int.reduceEq, Int.reduceLT, Int.reduceNeg, Int.reduceAdd, Int.reduceSub, Int.reduceMul, Int.ofNat_eq_natCast, Int.cast_ofNat_Int]
        rw [show up I 12 0 0 0 = J from hJ, hJ]
        refine Ev.kB it (fun q => absurd q ht) (fun _ => ?_)
        try simp (maxSteps := 2000000) (disch := omega) only [a_22 hA hR, a_23 hA hR, a_24 hA hR, a_25 hA hR, a_26 hA hR, a_27 hA hR, a_28 hA hR, a_29 hA hR, d_12 hA hR, g_12_0 hA hR, g_12_2 hA hR, g_12_3 hA hR, g_12_4 hA hR, g_12_5 hA hR, g_12_6 hA hR, g_12_7 hA hR, g_12_8 hA hR, g_12_9 hA hR, p_12_0 hA hR, Option.bind_some, up_s, up_k, up_j, up_i, xk_add, xk_sub, xk_mul, xk_neg, lk_add, lN_z, rf_none, rb1, rb0, rbp, xk_nI, zk_eq, zk_lt, zk_eq0, zk_lt0, zk_0lt, zk_long, lz_lt, lz_gt, zmax, zmin, ↓reduceIte, Int.reduceEq, Int.reduceLT, Int.reduceNeg, Int.reduceAdd, Int.reduceSub, Int.reduceMul, Int.ofNat_eq_natCast, Int.cast_ofNat_Int]
        exact Ev.ret rfl
  · right
    refine ⟨⟨z.1, ?_⟩, 0, ?_⟩
    · refine Ev.step (fun F => E11_task F _ _ _ _) ?_
      simp (disch := omega) only [d_8 hA, d_9 hA, g_11_1 hA, Option.bind_some, up_s, up_k, up_j, up_i, xk_add, xk_sub, xk_mul, xk_neg, lk_add, lN_z, rf_none, rb1, rb0, rbp, xk_nI, zk_eq, zk_lt, zk_eq0, zk_lt0, zk_0lt, zk_long, lz_lt, lz_gt, zmax, zmin, ↓reduceIte, Int.reduceEq, Int.reduceLT, Int.reduceNeg, Int.reduceAdd, Int.reduceSub, Int.reduceMul, Int.ofNat_eq_natCast, Int.cast_ofNat_Int, thr_HS]
      refine Ev.ite (fun _ => Ev.ret rfl) (fun q => ?_)
      exact Ev.ite (fun _ => Ev.ret rfl) (fun q' => absurd h (by omega))
    · have hA' := hA.thr
      generalize (z.1 + 1, z.2.1 + 6, z.2.2) = z' at hA' ⊢
      have hA := hA'
      refine Ev.step (fun F => E12_task F _ _ _ _) ?_
      rw [ll_7, lN_z, zk_long w0 w1]
      refine Ev.kB (in_ev ⟨by omega, by omega⟩ ⟨by decide, by decide⟩ ⟨by decide, by decide⟩) (fun q => absurd q h) (fun _ => ?_)
      refine Ev.ite (fun _ => ?_) (fun q => absurd k00 q)
      try simp (maxSteps := 2000000) (disch := omega) only [a_22 hA hR, a_23 hA hR, a_24 hA hR, a_25 hA hR, a_26 hA hR, a_27 hA hR, a_28 hA hR, a_29 hA hR, d_12 hA hR, g_12_0 hA hR, g_12_2 hA hR, g_12_3 hA hR, g_12_4 hA hR, g_12_5 hA hR, g_12_6 hA hR, g_12_7 hA hR, g_12_8 hA hR, g_12_9 hA hR, p_12_0 hA hR, Option.bind_some, up_s, up_k, up_j, up_i, xk_add, xk_sub, xk_mul, xk_neg, lk_add, lN_z, rf_none, rb1, rb0, rbp, xk_nI, zk_eq, zk_lt, zk_eq0, zk_lt0, zk_0lt, zk_long, lz_lt, lz_gt, zmax, zmin, ↓reduceIte, Int.reduceEq, Int.reduceLT, Int.reduceNeg, Int.reduceAdd, Int.reduceSub, Int.reduceMul, Int.ofNat_eq_natCast, Int.cast_ofNat_Int]
      exact Ev.ret rfl
end OPs
