/-! pairs: exit, reap, kill -/
theorem lv_n {J : ST} {v j : Int} : lvI J v 32 0 j = J 32 0 j ∨ lvI J v 32 0 j = 0 := by
  unfold lvI lzI
  split
  · simp only [fgA, emI, emP, enI, enN]
    grind
  · simp only [fgA, enI, enN]
    grind
section OPs
variable {e : EN} {C I J : ST} {z : Nat × Nat × Nat × Nat} {n : Int}
theorem Inv.lv (h : Inv n J) {m t : Int} (hm : n ≤ m) (t0 : 0 < t) (t1 : t < (J 12 0 1)) (ht : (J 22 0 t) = 0) : Inv m (lvI J t) := by
  obtain ⟨h1, h2, h3, h4, h5, h6, h7, h8, h9⟩ := h
  have hT := h1.lv t0 t1 (by omega)
  have ej : ∀ k i j, k ≠ 22 ∧ k ≠ 23 ∧ k ≠ 27 ∧ k ≠ 32 → lvI J t k i j = J k i j := fun k i j q => lv_f q
  refine ⟨hT, h2.lv (by omega), (LE.lv h1.1).gu h1.1 h3, h4.c (ej _ _ _ (by decide)) (fun j => ej _ _ _ (by decide)) (fun j => ej _ _ _ (by decide)), h5.c (ej _ _ _ (by decide)) (fun j => ej _ _ _ (by decide)) (fun j => ej _ _ _ (by decide)) (fun j => ej _ _ _ (by decide)), ⟨fun x a b => ?_, fun x s a b c d => ?_⟩, h7.c hm (ej _ _ _ (by decide)) (fun j => ej _ _ _ (by decide)) (fun j => ej _ _ _ (by decide)) (fun j => ej _ _ _ (by decide)), h8.c (ej _ _ _ (by decide)) (fun k j a b => ej _ _ _ (by omega)), h9.c hm (ej _ _ _ (by decide)) (fun j => ej _ _ _ (by decide))⟩
  · rw [ej _ _ _ (by decide)] at a
    have tk := RB.tasks h1.1
    have y := h6.1 x a b
    have p1 := lv_p (J := J) (v := t) (j := x) (by omega)
    have p2 := RB.pages hT.1 (j := x) (by omega) b
    rw [ej 28 _ _ (by decide), ej 29 _ _ (by decide), ej 31 _ _ (by decide)]
    refine ⟨by omega, y.2.1, y.2.2.1, y.2.2.2.1, fun s s0 s1 => ?_⟩
    rcases lv_n (J := J) (v := t) (j := 20 * x + s) with q | q
    · rw [q]; exact y.2.2.2.2 s s0 s1
    · exact q
  · rw [ej _ _ _ (by decide)] at c
    rcases lv_n (J := J) (v := t) (j := 20 * x + s) with q | q
    · rw [q]; exact h6.2 x s a b c d
    · exact q
theorem lvN_b (hB : RB J) {t : Int} : 1 ≤ lvN J t ∧ lvN J t ≤ 151 := by
  have tk := RB.tasks hB
  unfold lvN
  split
  · have := sm_b1 (f := emN (enI J t) t) (n := (J 12 0 1)) (fun k => by unfold emN; split <;> omega) (by omega)
    omega
  · omega
theorem isLive_r (hA : WA e z) (hR : WR e) (hB : RB I) {t : Int} (t0 : -2147483648 ≤ t) (t1 : t < 2147483648) : Ev (fun F => J12_isLive F (rf e 12 0) (xk t) (HS e C I z)) (rI (bI (0 ≤ t ∧ t < (I 12 0 1) ∧ (I 22 0 t) = 0)) (HS e C I z)) := by
  have tk := RB.tasks hB
  exact isLive_ev hA hR t0 t1 (by omega) (by omega) (fun t a b => RB.state hB a b)
theorem lvg_n {t : Int} (h : ¬ (0 ≤ t ∧ t < (J 12 0 1) ∧ (J 22 0 t) = 0)) : lvg J t = -1 := by
  unfold lvg
  rw [if_neg h]
theorem lvg_y {t : Int} (h : 0 ≤ t ∧ t < (J 12 0 1) ∧ (J 22 0 t) = 0) : lvg J t = t := by
  unfold lvg
  rw [if_pos h]
theorem exit_pr (hO : OK n e C I z) {t : Int} (t0 : -2147483648 ≤ t) (t1 : t < 2147483648) : PR n e C I z (fun F s => J11_exit F (rf e 11 0) (xk t) s) (fun F s => J12_exit F (rf e 12 0) (xk t) s) := by
  obtain ⟨hA, hR, hC0, hI0⟩ := hO
  have hO : OK n e C I z := ⟨hA, hR, hC0, hI0⟩
  have hC := hC0.th (v := 0)
  have hI := hI0.th (m := n) (v := 0) (by omega)
  have hT := hI.ti
  generalize hJ : th I 0 = J at *
  have n8 := hC.1.1
  have n7 := hC.2.1.1
  have n1 := hC.2.2.1.1
  have n10 := hC.2.2.2.2.1.1
  have hB := hT.1
  have := RB.tasks hB
  have := RB.spaces hB
  have := RB.groups hB
  have := RB.views hB
  have n4 := hA.2.2.2.1
  have lv := living_ev (I := I) hA hC hT t0 t1
  by_cases h : (0 ≤ t ∧ t < (J 12 0 1) ∧ (J 22 0 t) = 0)
  · by_cases hz : t = 0
    · refine PR.look hO (A := -1) (by decide) (by decide) ?_ ?_
      · refine Ev.step (fun F => E11_exit F _ _ _) ?_
        simp (disch := omega) only [d_9 hA, g_11_1 hA, g_8_0 hA, Option.bind_some, up_s, up_k, up_j, up_i, xk_add, xk_sub, xk_mul, xk_neg, lk_add, lN_z, rf_none, rb1, rb0, rbp, xk_nI, zk_eq, zk_lt, zk_eq0, zk_lt0, zk_0lt, zk_long, lz_lt, lz_gt, zmax, zmin, ↓reduceIte, Int.reduceEq, Int.reduceLT, Int.reduceNeg, Int.reduceAdd, Int.reduceSub, Int.reduceMul, Int.ofNat_eq_natCast, Int.cast_ofNat_Int]
        refine Ev.kR lv ?_
        rw [lvg_y h]
        try simp (disch := omega) only [d_9 hA, g_11_1 hA, g_8_0 hA, Option.bind_some, up_s, up_k, up_j, up_i, xk_add, xk_sub, xk_mul, xk_neg, lk_add, lN_z, rf_none, rb1, rb0, rbp, xk_nI, zk_eq, zk_lt, zk_eq0, zk_lt0, zk_0lt, zk_long, lz_lt, lz_gt, zmax, zmin, ↓reduceIte, Int.reduceEq, Int.reduceLT, Int.reduceNeg, Int.reduceAdd, Int.reduceSub, Int.reduceMul, Int.ofNat_eq_natCast, Int.cast_ofNat_Int]
        refine Ev.ite (fun q => absurd q (by omega)) (fun _ => ?_)
        exact Ev.ite (fun _ => Ev.ret rfl) (fun q => absurd hz q)
      · refine Ev.step (fun F => E12_exit F _ _ _) ?_
        simp (disch := omega) only [d_12 hA hR, p_12_0 hA hR, Option.bind_some, up_s, up_k, up_j, up_i, xk_add, xk_sub, xk_mul, xk_neg, lk_add, lN_z, rf_none, rb1, rb0, rbp, xk_nI, zk_eq, zk_lt, zk_eq0, zk_lt0, zk_0lt, zk_long, lz_lt, lz_gt, zmax, zmin, ↓reduceIte, Int.reduceEq, Int.reduceLT, Int.reduceNeg, Int.reduceAdd, Int.reduceSub, Int.reduceMul, Int.ofNat_eq_natCast, Int.cast_ofNat_Int]
        rw [show up I 12 0 0 0 = J from hJ, hJ]
        refine Ev.kB (isLive_r hA hR hB t0 t1) (fun _ => ?_) (fun q => absurd h q)
        try simp (disch := omega) only [d_12 hA hR, p_12_0 hA hR, Option.bind_some, up_s, up_k, up_j, up_i, xk_add, xk_sub, xk_mul, xk_neg, lk_add, lN_z, rf_none, rb1, rb0, rbp, xk_nI, zk_eq, zk_lt, zk_eq0, zk_lt0, zk_0lt, zk_long, lz_lt, lz_gt, zmax, zmin, ↓reduceIte, Int.reduceEq, Int.reduceLT, Int.reduceNeg, Int.reduceAdd, Int.reduceSub, Int.reduceMul, Int.ofNat_eq_natCast, Int.cast_ofNat_Int]
        exact Ev.ite (fun _ => Ev.ret rfl) (fun q => absurd hz q)
    · obtain ⟨C', hE, hC'⟩ := cend_ev (I := I) hA hT hI.tg hC (t := t) (by omega) h.2.1 h.2.2
      have hr := leave_ev (C := C') hA hR hB h.1 h.2.1 (by omega) (fun q => hT.sp0 (by omega) h.2.1 q) (fun q => hT.leave (by omega) h.2.1 (by omega) q)
      have nb := lvN_b hB (t := t)
      refine ⟨e, C', lvI J t, z, lvN J t, ?_, ?_, ⟨hA, hR, hC', hI.lv (by omega) (by omega) h.2.1 h.2.2⟩, NX.r (fun j => ?_), ⟨by omega, by omega⟩, ?_⟩
      · refine Ev.step (fun F => E11_exit F _ _ _) ?_
        simp (disch := omega) only [d_9 hA, g_11_1 hA, g_8_0 hA, Option.bind_some, up_s, up_k, up_j, up_i, xk_add, xk_sub, xk_mul, xk_neg, lk_add, lN_z, rf_none, rb1, rb0, rbp, xk_nI, zk_eq, zk_lt, zk_eq0, zk_lt0, zk_0lt, zk_long, lz_lt, lz_gt, zmax, zmin, ↓reduceIte, Int.reduceEq, Int.reduceLT, Int.reduceNeg, Int.reduceAdd, Int.reduceSub, Int.reduceMul, Int.ofNat_eq_natCast, Int.cast_ofNat_Int]
        refine Ev.kR lv ?_
        rw [lvg_y h]
        try simp (disch := omega) only [d_9 hA, g_11_1 hA, g_8_0 hA, Option.bind_some, up_s, up_k, up_j, up_i, xk_add, xk_sub, xk_mul, xk_neg, lk_add, lN_z, rf_none, rb1, rb0, rbp, xk_nI, zk_eq, zk_lt, zk_eq0, zk_lt0, zk_0lt, zk_long, lz_lt, lz_gt, zmax, zmin, ↓reduceIte, Int.reduceEq, Int.reduceLT, Int.reduceNeg, Int.reduceAdd, Int.reduceSub, Int.reduceMul, Int.ofNat_eq_natCast, Int.cast_ofNat_Int]
        refine Ev.ite (fun q => absurd q (by omega)) (fun _ => ?_)
        refine Ev.ite (fun q => absurd q hz) (fun _ => ?_)
        exact Ev.kI hE (Ev.ret rfl)
      · refine Ev.step (fun F => E12_exit F _ _ _) ?_
        simp (disch := omega) only [d_12 hA hR, p_12_0 hA hR, Option.bind_some, up_s, up_k, up_j, up_i, xk_add, xk_sub, xk_mul, xk_neg, lk_add, lN_z, rf_none, rb1, rb0, rbp, xk_nI, zk_eq, zk_lt, zk_eq0, zk_lt0, zk_0lt, zk_long, lz_lt, lz_gt, zmax, zmin, ↓reduceIte, Int.reduceEq, Int.reduceLT, Int.reduceNeg, Int.reduceAdd, Int.reduceSub, Int.reduceMul, Int.ofNat_eq_natCast, Int.cast_ofNat_Int]
        rw [show up I 12 0 0 0 = J from hJ]
        refine Ev.kB (isLive_r hA hR hB t0 t1) (fun _ => ?_) (fun q => absurd h q)
        try simp (disch := omega) only [d_12 hA hR, p_12_0 hA hR, Option.bind_some, up_s, up_k, up_j, up_i, xk_add, xk_sub, xk_mul, xk_neg, lk_add, lN_z, rf_none, rb1, rb0, rbp, xk_nI, zk_eq, zk_lt, zk_eq0, zk_lt0, zk_0lt, zk_long, lz_lt, lz_gt, zmax, zmin, ↓reduceIte, Int.reduceEq, Int.reduceLT, Int.reduceNeg, Int.reduceAdd, Int.reduceSub, Int.reduceMul, Int.ofNat_eq_natCast, Int.cast_ofNat_Int]
        refine Ev.ite (fun q => absurd q hz) (fun _ => ?_)
        exact Ev.kI hr (Ev.ret rfl)
      · rw [lv_f (by decide), ← hJ]
        exact th_f (Or.inl (by decide))
      · rw [lv_f (by decide), ← hJ]
        exact up_s
  · refine PR.look hO (A := -1) (by decide) (by decide) ?_ ?_
    · refine Ev.step (fun F => E11_exit F _ _ _) ?_
      simp (disch := omega) only [d_9 hA, g_11_1 hA, g_8_0 hA, Option.bind_some, up_s, up_k, up_j, up_i, xk_add, xk_sub, xk_mul, xk_neg, lk_add, lN_z, rf_none, rb1, rb0, rbp, xk_nI, zk_eq, zk_lt, zk_eq0, zk_lt0, zk_0lt, zk_long, lz_lt, lz_gt, zmax, zmin, ↓reduceIte, Int.reduceEq, Int.reduceLT, Int.reduceNeg, Int.reduceAdd, Int.reduceSub, Int.reduceMul, Int.ofNat_eq_natCast, Int.cast_ofNat_Int]
      refine Ev.kR lv ?_
      rw [lvg_n h]
      try simp (disch := omega) only [d_9 hA, g_11_1 hA, g_8_0 hA, Option.bind_some, up_s, up_k, up_j, up_i, xk_add, xk_sub, xk_mul, xk_neg, lk_add, lN_z, rf_none, rb1, rb0, rbp, xk_nI, zk_eq, zk_lt, zk_eq0, zk_lt0, zk_0lt, zk_long, lz_lt, lz_gt, zmax, zmin, ↓reduceIte, Int.reduceEq, Int.reduceLT, Int.reduceNeg, Int.reduceAdd, Int.reduceSub, Int.reduceMul, Int.ofNat_eq_natCast, Int.cast_ofNat_Int]
      exact Ev.ret rfl
    · refine Ev.step (fun F => E12_exit F _ _ _) ?_
      simp (disch := omega) only [d_12 hA hR, p_12_0 hA hR, Option.bind_some, up_s, up_k, up_j, up_i, xk_add, xk_sub, xk_mul, xk_neg, lk_add, lN_z, rf_none, rb1, rb0, rbp, xk_nI, zk_eq, zk_lt, zk_eq0, zk_lt0, zk_0lt, zk_long, lz_lt, lz_gt, zmax, zmin, ↓reduceIte, Int.reduceEq, Int.reduceLT, Int.reduceNeg, Int.reduceAdd, Int.reduceSub, Int.reduceMul, Int.ofNat_eq_natCast, Int.cast_ofNat_Int]
      rw [show up I 12 0 0 0 = J from hJ, hJ]
      refine Ev.kB (isLive_r hA hR hB t0 t1) (fun q => absurd q h) (fun q => ?_)
      try simp (disch := omega) only [d_12 hA hR, p_12_0 hA hR, Option.bind_some, up_s, up_k, up_j, up_i, xk_add, xk_sub, xk_mul, xk_neg, lk_add, lN_z, rf_none, rb1, rb0, rbp, xk_nI, zk_eq, zk_lt, zk_eq0, zk_lt0, zk_0lt, zk_long, lz_lt, lz_gt, zmax, zmin, ↓reduceIte, Int.reduceEq, Int.reduceLT, Int.reduceNeg, Int.reduceAdd, Int.reduceSub, Int.reduceMul, Int.ofNat_eq_natCast, Int.cast_ofNat_Int]
      exact Ev.ret rfl
theorem holder_cl (hA : WA e z) (hC : Cpl e C J) (hT : TI J) {s x : Int} (s0 : 0 ≤ s) (s1 : s < (J 12 0 13)) (x0 : -2147483648 ≤ x) (x1 : x < 2147483648) : Ev (fun F => J7_holder F (rf e 7 s) (xk x) (HS e C I z)) (rR (rf e 8 (if 1 ≤ x ∧ x ≤ 40 then (C 15 s x) else -1)) (HS e C I z)) := by
  have n8 := hC.1.1
  have n7 := hC.2.1.1
  have n1 := hC.2.2.1.1
  have n10 := hC.2.2.2.2.1.1
  have hB := hT.1
  have := RB.tasks hB
  have := RB.spaces hB
  have := RB.groups hB
  have := RB.views hB
  have n4 := hA.2.2.2.1
  refine Ev.step (fun F => E7_holder F _ _ _) ?_
  simp (disch := omega) only [a_15 hA, g_7_3 hA, Option.bind_some, up_s, up_k, up_j, up_i, xk_add, xk_sub, xk_mul, xk_neg, lk_add, lN_z, rf_none, rb1, rb0, rbp, xk_nI, zk_eq, zk_lt, zk_eq0, zk_lt0, zk_0lt, zk_long, lz_lt, lz_gt, zmax, zmin, ↓reduceIte, Int.reduceEq, Int.reduceLT, Int.reduceNeg, Int.reduceAdd, Int.reduceSub, Int.reduceMul, Int.ofNat_eq_natCast, Int.cast_ofNat_Int, CT.space hC.1, CT.view hC.1, CT.parent hC.1, CT.group hC.1, CT.state hC.1, CT.pages hC.1, CT.points hC.1, CT.ticks hC.1, CT.asleep hC.1, CT.time hC.1, CP.outer hC.2.1, CP.depth hC.2.1, CP.init hC.2.1, CP.given hC.2.1, CG.outer hC.2.2.1, CG.depth hC.2.2.1, CG.max hC.2.2.1, CG.most hC.2.2.1, CG.weight hC.2.2.1, CG.quota hC.2.2.1, CG.cached hC.2.2.1, CG.ran hC.2.2.1, CG.time hC.2.2.1, CG.uses hC.2.2.1, CG.live hC.2.2.1, rf_eq hA]
  refine Ev.ite (fun q => Ev.ret (by rw [if_neg (by omega), rf_n (by decide)]; rfl)) (fun q => ?_)
  refine Ev.ite (fun q => Ev.ret (by rw [if_neg (by omega), rf_n (by decide)]; rfl)) (fun q => ?_)
  try simp (disch := omega) only [a_15 hA, g_7_3 hA, Option.bind_some, up_s, up_k, up_j, up_i, xk_add, xk_sub, xk_mul, xk_neg, lk_add, lN_z, rf_none, rb1, rb0, rbp, xk_nI, zk_eq, zk_lt, zk_eq0, zk_lt0, zk_0lt, zk_long, lz_lt, lz_gt, zmax, zmin, ↓reduceIte, Int.reduceEq, Int.reduceLT, Int.reduceNeg, Int.reduceAdd, Int.reduceSub, Int.reduceMul, Int.ofNat_eq_natCast, Int.cast_ofNat_Int, CT.space hC.1, CT.view hC.1, CT.parent hC.1, CT.group hC.1, CT.state hC.1, CT.pages hC.1, CT.points hC.1, CT.ticks hC.1, CT.asleep hC.1, CT.time hC.1, CP.outer hC.2.1, CP.depth hC.2.1, CP.init hC.2.1, CP.given hC.2.1, CG.outer hC.2.2.1, CG.depth hC.2.2.1, CG.max hC.2.2.1, CG.most hC.2.2.1, CG.weight hC.2.2.1, CG.quota hC.2.2.1, CG.cached hC.2.2.1, CG.ran hC.2.2.1, CG.time hC.2.2.1, CG.uses hC.2.2.1, CG.live hC.2.2.1, rf_eq hA]
  exact Ev.ret (by rw [if_pos (by omega)]; rfl)
theorem kill_pr (hO : OK n e C I z) {t x : Int} (t0 : -2147483648 ≤ t) (t1 : t < 2147483648) (x0 : -2147483648 ≤ x) (x1 : x < 2147483648) : PR n e C I z (fun F s => J11_kill F (rf e 11 0) (xk t) (xk x) s) (fun F s => J12_kill F (rf e 12 0) (xk t) (xk x) s) := by
  obtain ⟨hA, hR, hC0, hI0⟩ := hO
  have hO : OK n e C I z := ⟨hA, hR, hC0, hI0⟩
  have hC := hC0.th (v := 0)
  have hI := hI0.th (m := n) (v := 0) (by omega)
  have hT := hI.ti
  generalize hJ : th I 0 = J at *
  have n8 := hC.1.1
  have n7 := hC.2.1.1
  have n1 := hC.2.2.1.1
  have n10 := hC.2.2.2.2.1.1
  have hB := hT.1
  have := RB.tasks hB
  have := RB.spaces hB
  have := RB.groups hB
  have := RB.views hB
  have n4 := hA.2.2.2.1
  have lv := living_ev (I := I) hA hC hT t0 t1
  by_cases h : (0 ≤ t ∧ t < (J 12 0 1) ∧ (J 22 0 t) = 0)
  · have b := hT.b h.1 h.2.1
    have i := hT.ib b.1.1 b.1.2
    have ho := holder_cl (I := I) hA hC hT (x := x) b.1.1 b.1.2 x0 x1
    by_cases hx : 1 ≤ x ∧ x ≤ 40
    · have hh := hC.2.1.hold (s := (J 24 0 t)) b.1.1 b.1.2 hx.1 hx.2
      rw [if_pos hx] at ho
      generalize hy : (C 15 ((J 24 0 t)) x) = y at *
      have yb := hh.1
      by_cases hn : y < 0
      · refine PR.look hO (A := -1) (by decide) (by decide) ?_ ?_
        · refine Ev.step (fun F => E11_kill F _ _ _ _) ?_
          simp (disch := omega) only [d_7 hA, d_9 hA, g_11_1 hA, g_7_4 hA, g_8_0 hA, g_8_1 hA, g_8_5 hA, Option.bind_some, up_s, up_k, up_j, up_i, xk_add, xk_sub, xk_mul, xk_neg, lk_add, lN_z, rf_none, rb1, rb0, rbp, xk_nI, zk_eq, zk_lt, zk_eq0, zk_lt0, zk_0lt, zk_long, lz_lt, lz_gt, zmax, zmin, ↓reduceIte, Int.reduceEq, Int.reduceLT, Int.reduceNeg, Int.reduceAdd, Int.reduceSub, Int.reduceMul, Int.ofNat_eq_natCast, Int.cast_ofNat_Int, CT.space hC.1, CT.view hC.1, CT.parent hC.1, CT.group hC.1, CT.state hC.1, CT.pages hC.1, CT.points hC.1, CT.ticks hC.1, CT.asleep hC.1, CT.time hC.1, CP.outer hC.2.1, CP.depth hC.2.1, CP.init hC.2.1, CP.given hC.2.1, CG.outer hC.2.2.1, CG.depth hC.2.2.1, CG.max hC.2.2.1, CG.most hC.2.2.1, CG.weight hC.2.2.1, CG.quota hC.2.2.1, CG.cached hC.2.2.1, CG.ran hC.2.2.1, CG.time hC.2.2.1, CG.uses hC.2.2.1, CG.live hC.2.2.1, rf_eq hA]
          refine Ev.kR lv ?_
          rw [lvg_y h]
          try simp (disch := omega) only [d_7 hA, d_9 hA, g_11_1 hA, g_7_4 hA, g_8_0 hA, g_8_1 hA, g_8_5 hA, Option.bind_some, up_s, up_k, up_j, up_i, xk_add, xk_sub, xk_mul, xk_neg, lk_add, lN_z, rf_none, rb1, rb0, rbp, xk_nI, zk_eq, zk_lt, zk_eq0, zk_lt0, zk_0lt, zk_long, lz_lt, lz_gt, zmax, zmin, ↓reduceIte, Int.reduceEq, Int.reduceLT, Int.reduceNeg, Int.reduceAdd, Int.reduceSub, Int.reduceMul, Int.ofNat_eq_natCast, Int.cast_ofNat_Int, CT.space hC.1, CT.view hC.1, CT.parent hC.1, CT.group hC.1, CT.state hC.1, CT.pages hC.1, CT.points hC.1, CT.ticks hC.1, CT.asleep hC.1, CT.time hC.1, CP.outer hC.2.1, CP.depth hC.2.1, CP.init hC.2.1, CP.given hC.2.1, CG.outer hC.2.2.1, CG.depth hC.2.2.1, CG.max hC.2.2.1, CG.most hC.2.2.1, CG.weight hC.2.2.1, CG.quota hC.2.2.1, CG.cached hC.2.2.1, CG.ran hC.2.2.1, CG.time hC.2.2.1, CG.uses hC.2.2.1, CG.live hC.2.2.1, rf_eq hA]
          refine Ev.ite (fun q => absurd q (by omega)) (fun _ => ?_)
          refine Ev.kR ho ?_
          try simp (disch := omega) only [d_7 hA, d_9 hA, g_11_1 hA, g_7_4 hA, g_8_0 hA, g_8_1 hA, g_8_5 hA, Option.bind_some, up_s, up_k, up_j, up_i, xk_add, xk_sub, xk_mul, xk_neg, lk_add, lN_z, rf_none, rb1, rb0, rbp, xk_nI, zk_eq, zk_lt, zk_eq0, zk_lt0, zk_0lt, zk_long, lz_lt, lz_gt, zmax, zmin, ↓reduceIte, Int.reduceEq, Int.reduceLT, Int.reduceNeg, Int.reduceAdd, Int.reduceSub, Int.reduceMul, Int.ofNat_eq_natCast, Int.cast_ofNat_Int, CT.space hC.1, CT.view hC.1, CT.parent hC.1, CT.group hC.1, CT.state hC.1, CT.pages hC.1, CT.points hC.1, CT.ticks hC.1, CT.asleep hC.1, CT.time hC.1, CP.outer hC.2.1, CP.depth hC.2.1, CP.init hC.2.1, CP.given hC.2.1, CG.outer hC.2.2.1, CG.depth hC.2.2.1, CG.max hC.2.2.1, CG.most hC.2.2.1, CG.weight hC.2.2.1, CG.quota hC.2.2.1, CG.cached hC.2.2.1, CG.ran hC.2.2.1, CG.time hC.2.2.1, CG.uses hC.2.2.1, CG.live hC.2.2.1, rf_eq hA]
          exact Ev.ite (fun _ => Ev.ret rfl) (fun q => absurd hn q)
        · refine Ev.step (fun F => E12_kill F _ _ _ _) ?_
          simp (disch := omega) only [a_22 hA hR, a_24 hA hR, a_35 hA hR, d_12 hA hR, g_12_15 hA hR, g_12_2 hA hR, g_12_4 hA hR, p_12_0 hA hR, Option.bind_some, up_s, up_k, up_j, up_i, xk_add, xk_sub, xk_mul, xk_neg, lk_add, lN_z, rf_none, rb1, rb0, rbp, xk_nI, zk_eq, zk_lt, zk_eq0, zk_lt0, zk_0lt, zk_long, lz_lt, lz_gt, zmax, zmin, ↓reduceIte, Int.reduceEq, Int.reduceLT, Int.reduceNeg, Int.reduceAdd, Int.reduceSub, Int.reduceMul, Int.ofNat_eq_natCast, Int.cast_ofNat_Int]
          rw [show up I 12 0 0 0 = J from hJ, hJ]
          refine Ev.kB (isLive_r hA hR hB t0 t1) (fun _ => ?_) (fun q => absurd h q)
          try simp (disch := omega) only [a_22 hA hR, a_24 hA hR, a_35 hA hR, d_12 hA hR, g_12_15 hA hR, g_12_2 hA hR, g_12_4 hA hR, p_12_0 hA hR, Option.bind_some, up_s, up_k, up_j, up_i, xk_add, xk_sub, xk_mul, xk_neg, lk_add, lN_z, rf_none, rb1, rb0, rbp, xk_nI, zk_eq, zk_lt, zk_eq0, zk_lt0, zk_0lt, zk_long, lz_lt, lz_gt, zmax, zmin, ↓reduceIte, Int.reduceEq, Int.reduceLT, Int.reduceNeg, Int.reduceAdd, Int.reduceSub, Int.reduceMul, Int.ofNat_eq_natCast, Int.cast_ofNat_Int, ll_40]
          refine Ev.kB (in_ev ⟨by omega, by omega⟩ ⟨by decide, by decide⟩ ⟨by decide, by decide⟩) (fun _ => ?_) (fun q => absurd hx q)
          try simp (disch := omega) only [a_22 hA hR, a_24 hA hR, a_35 hA hR, d_12 hA hR, g_12_15 hA hR, g_12_2 hA hR, g_12_4 hA hR, p_12_0 hA hR, Option.bind_some, up_s, up_k, up_j, up_i, xk_add, xk_sub, xk_mul, xk_neg, lk_add, lN_z, rf_none, rb1, rb0, rbp, xk_nI, zk_eq, zk_lt, zk_eq0, zk_lt0, zk_0lt, zk_long, lz_lt, lz_gt, zmax, zmin, ↓reduceIte, Int.reduceEq, Int.reduceLT, Int.reduceNeg, Int.reduceAdd, Int.reduceSub, Int.reduceMul, Int.ofNat_eq_natCast, Int.cast_ofNat_Int]
          refine Ev.kI (holder_ev hA hR hB (by omega) (by omega) x0 x1 hh) ?_
          try simp (disch := omega) only [a_22 hA hR, a_24 hA hR, a_35 hA hR, d_12 hA hR, g_12_15 hA hR, g_12_2 hA hR, g_12_4 hA hR, p_12_0 hA hR, Option.bind_some, up_s, up_k, up_j, up_i, xk_add, xk_sub, xk_mul, xk_neg, lk_add, lN_z, rf_none, rb1, rb0, rbp, xk_nI, zk_eq, zk_lt, zk_eq0, zk_lt0, zk_0lt, zk_long, lz_lt, lz_gt, zmax, zmin, ↓reduceIte, Int.reduceEq, Int.reduceLT, Int.reduceNeg, Int.reduceAdd, Int.reduceSub, Int.reduceMul, Int.ofNat_eq_natCast, Int.cast_ofNat_Int]
          exact Ev.ite (fun _ => Ev.ret rfl) (fun q => absurd (by omega) q)
      · have by_ := hT.b (t := y) (by omega) yb.2
        by_cases hk : (J 22 0 y) = 0 ∧ y ≠ 0 ∧ y ≠ (J 35 0 ((J 24 0 t)))
        · obtain ⟨C', hE, hC'⟩ := cend_ev (I := I) hA hT hI.tg hC (t := y) (by omega) yb.2 hk.1
          have hr := leave_ev (C := C') hA hR hB (t := y) (by omega) yb.2 (by omega) (fun q => hT.sp0 (by omega) yb.2 q) (fun q => hT.leave (by omega) yb.2 (by omega) q)
          have nb := lvN_b hB (t := y)
          refine ⟨e, C', lvI J y, z, lvN J y, ?_, ?_, ⟨hA, hR, hC', hI.lv (by omega) (by omega) yb.2 hk.1⟩, NX.r (fun j => ?_), ⟨by omega, by omega⟩, ?_⟩
          · refine Ev.step (fun F => E11_kill F _ _ _ _) ?_
            simp (disch := omega) only [d_7 hA, d_9 hA, g_11_1 hA, g_7_4 hA, g_8_0 hA, g_8_1 hA, g_8_5 hA, Option.bind_some, up_s, up_k, up_j, up_i, xk_add, xk_sub, xk_mul, xk_neg, lk_add, lN_z, rf_none, rb1, rb0, rbp, xk_nI, zk_eq, zk_lt, zk_eq0, zk_lt0, zk_0lt, zk_long, lz_lt, lz_gt, zmax, zmin, ↓reduceIte, Int.reduceEq, Int.reduceLT, Int.reduceNeg, Int.reduceAdd, Int.reduceSub, Int.reduceMul, Int.ofNat_eq_natCast, Int.cast_ofNat_Int, CT.space hC.1, CT.view hC.1, CT.parent hC.1, CT.group hC.1, CT.state hC.1, CT.pages hC.1, CT.points hC.1, CT.ticks hC.1, CT.asleep hC.1, CT.time hC.1, CP.outer hC.2.1, CP.depth hC.2.1, CP.init hC.2.1, CP.given hC.2.1, CG.outer hC.2.2.1, CG.depth hC.2.2.1, CG.max hC.2.2.1, CG.most hC.2.2.1, CG.weight hC.2.2.1, CG.quota hC.2.2.1, CG.cached hC.2.2.1, CG.ran hC.2.2.1, CG.time hC.2.2.1, CG.uses hC.2.2.1, CG.live hC.2.2.1, rf_eq hA]
            refine Ev.kR lv ?_
            rw [lvg_y h]
            try simp (disch := omega) only [d_7 hA, d_9 hA, g_11_1 hA, g_7_4 hA, g_8_0 hA, g_8_1 hA, g_8_5 hA, Option.bind_some, up_s, up_k, up_j, up_i, xk_add, xk_sub, xk_mul, xk_neg, lk_add, lN_z, rf_none, rb1, rb0, rbp, xk_nI, zk_eq, zk_lt, zk_eq0, zk_lt0, zk_0lt, zk_long, lz_lt, lz_gt, zmax, zmin, ↓reduceIte, Int.reduceEq, Int.reduceLT, Int.reduceNeg, Int.reduceAdd, Int.reduceSub, Int.reduceMul, Int.ofNat_eq_natCast, Int.cast_ofNat_Int, CT.space hC.1, CT.view hC.1, CT.parent hC.1, CT.group hC.1, CT.state hC.1, CT.pages hC.1, CT.points hC.1, CT.ticks hC.1, CT.asleep hC.1, CT.time hC.1, CP.outer hC.2.1, CP.depth hC.2.1, CP.init hC.2.1, CP.given hC.2.1, CG.outer hC.2.2.1, CG.depth hC.2.2.1, CG.max hC.2.2.1, CG.most hC.2.2.1, CG.weight hC.2.2.1, CG.quota hC.2.2.1, CG.cached hC.2.2.1, CG.ran hC.2.2.1, CG.time hC.2.2.1, CG.uses hC.2.2.1, CG.live hC.2.2.1, rf_eq hA]
            refine Ev.ite (fun q => absurd q (by omega)) (fun _ => ?_)
            refine Ev.kR ho ?_
            try simp (disch := omega) only [d_7 hA, d_9 hA, g_11_1 hA, g_7_4 hA, g_8_0 hA, g_8_1 hA, g_8_5 hA, Option.bind_some, up_s, up_k, up_j, up_i, xk_add, xk_sub, xk_mul, xk_neg, lk_add, lN_z, rf_none, rb1, rb0, rbp, xk_nI, zk_eq, zk_lt, zk_eq0, zk_lt0, zk_0lt, zk_long, lz_lt, lz_gt, zmax, zmin, ↓reduceIte, Int.reduceEq, Int.reduceLT, Int.reduceNeg, Int.reduceAdd, Int.reduceSub, Int.reduceMul, Int.ofNat_eq_natCast, Int.cast_ofNat_Int, CT.space hC.1, CT.view hC.1, CT.parent hC.1, CT.group hC.1, CT.state hC.1, CT.pages hC.1, CT.points hC.1, CT.ticks hC.1, CT.asleep hC.1, CT.time hC.1, CP.outer hC.2.1, CP.depth hC.2.1, CP.init hC.2.1, CP.given hC.2.1, CG.outer hC.2.2.1, CG.depth hC.2.2.1, CG.max hC.2.2.1, CG.most hC.2.2.1, CG.weight hC.2.2.1, CG.quota hC.2.2.1, CG.cached hC.2.2.1, CG.ran hC.2.2.1, CG.time hC.2.2.1, CG.uses hC.2.2.1, CG.live hC.2.2.1, rf_eq hA]
            refine Ev.ite (fun q => absurd q hn) (fun _ => ?_)
            refine Ev.ite (fun q => absurd q hk.2.2) (fun _ => ?_)
            refine Ev.ite (fun q => absurd q hk.2.1) (fun _ => ?_)
            try simp (disch := omega) only [d_7 hA, d_9 hA, g_11_1 hA, g_7_4 hA, g_8_0 hA, g_8_1 hA, g_8_5 hA, Option.bind_some, up_s, up_k, up_j, up_i, xk_add, xk_sub, xk_mul, xk_neg, lk_add, lN_z, rf_none, rb1, rb0, rbp, xk_nI, zk_eq, zk_lt, zk_eq0, zk_lt0, zk_0lt, zk_long, lz_lt, lz_gt, zmax, zmin, ↓reduceIte, Int.reduceEq, Int.reduceLT, Int.reduceNeg, Int.reduceAdd, Int.reduceSub, Int.reduceMul, Int.ofNat_eq_natCast, Int.cast_ofNat_Int, CT.space hC.1, CT.view hC.1, CT.parent hC.1, CT.group hC.1, CT.state hC.1, CT.pages hC.1, CT.points hC.1, CT.ticks hC.1, CT.asleep hC.1, CT.time hC.1, CP.outer hC.2.1, CP.depth hC.2.1, CP.init hC.2.1, CP.given hC.2.1, CG.outer hC.2.2.1, CG.depth hC.2.2.1, CG.max hC.2.2.1, CG.most hC.2.2.1, CG.weight hC.2.2.1, CG.quota hC.2.2.1, CG.cached hC.2.2.1, CG.ran hC.2.2.1, CG.time hC.2.2.1, CG.uses hC.2.2.1, CG.live hC.2.2.1, rf_eq hA]
            refine Ev.ite (fun _ => ?_) (fun q => absurd hk.1 q)
            exact Ev.kI hE (Ev.ret rfl)
          · refine Ev.step (fun F => E12_kill F _ _ _ _) ?_
            simp (disch := omega) only [a_22 hA hR, a_24 hA hR, a_35 hA hR, d_12 hA hR, g_12_15 hA hR, g_12_2 hA hR, g_12_4 hA hR, p_12_0 hA hR, Option.bind_some, up_s, up_k, up_j, up_i, xk_add, xk_sub, xk_mul, xk_neg, lk_add, lN_z, rf_none, rb1, rb0, rbp, xk_nI, zk_eq, zk_lt, zk_eq0, zk_lt0, zk_0lt, zk_long, lz_lt, lz_gt, zmax, zmin, ↓reduceIte, Int.reduceEq, Int.reduceLT, Int.reduceNeg, Int.reduceAdd, Int.reduceSub, Int.reduceMul, Int.ofNat_eq_natCast, Int.cast_ofNat_Int]
            rw [show up I 12 0 0 0 = J from hJ]
            refine Ev.kB (isLive_r hA hR hB t0 t1) (fun _ => ?_) (fun q => absurd h q)
            try simp (disch := omega) only [a_22 hA hR, a_24 hA hR, a_35 hA hR, d_12 hA hR, g_12_15 hA hR, g_12_2 hA hR, g_12_4 hA hR, p_12_0 hA hR, Option.bind_some, up_s, up_k, up_j, up_i, xk_add, xk_sub, xk_mul, xk_neg, lk_add, lN_z, rf_none, rb1, rb0, rbp, xk_nI, zk_eq, zk_lt, zk_eq0, zk_lt0, zk_0lt, zk_long, lz_lt, lz_gt, zmax, zmin, ↓reduceIte, Int.reduceEq, Int.reduceLT, Int.reduceNeg, Int.reduceAdd, Int.reduceSub, Int.reduceMul, Int.ofNat_eq_natCast, Int.cast_ofNat_Int, ll_40]
            refine Ev.kB (in_ev ⟨by omega, by omega⟩ ⟨by decide, by decide⟩ ⟨by decide, by decide⟩) (fun _ => ?_) (fun q => absurd hx q)
            try simp (disch := omega) only [a_22 hA hR, a_24 hA hR, a_35 hA hR, d_12 hA hR, g_12_15 hA hR, g_12_2 hA hR, g_12_4 hA hR, p_12_0 hA hR, Option.bind_some, up_s, up_k, up_j, up_i, xk_add, xk_sub, xk_mul, xk_neg, lk_add, lN_z, rf_none, rb1, rb0, rbp, xk_nI, zk_eq, zk_lt, zk_eq0, zk_lt0, zk_0lt, zk_long, lz_lt, lz_gt, zmax, zmin, ↓reduceIte, Int.reduceEq, Int.reduceLT, Int.reduceNeg, Int.reduceAdd, Int.reduceSub, Int.reduceMul, Int.ofNat_eq_natCast, Int.cast_ofNat_Int]
            refine Ev.kI (holder_ev hA hR hB (by omega) (by omega) x0 x1 hh) ?_
            try simp (disch := omega) only [a_22 hA hR, a_24 hA hR, a_35 hA hR, d_12 hA hR, g_12_15 hA hR, g_12_2 hA hR, g_12_4 hA hR, p_12_0 hA hR, Option.bind_some, up_s, up_k, up_j, up_i, xk_add, xk_sub, xk_mul, xk_neg, lk_add, lN_z, rf_none, rb1, rb0, rbp, xk_nI, zk_eq, zk_lt, zk_eq0, zk_lt0, zk_0lt, zk_long, lz_lt, lz_gt, zmax, zmin, ↓reduceIte, Int.reduceEq, Int.reduceLT, Int.reduceNeg, Int.reduceAdd, Int.reduceSub, Int.reduceMul, Int.ofNat_eq_natCast, Int.cast_ofNat_Int]
            refine Ev.ite (fun q => absurd q (by omega)) (fun _ => ?_)
            refine Ev.ite (fun _ => ?_) (fun q => absurd hk.1 q)
            refine Ev.ite (fun q => absurd q hk.2.1) (fun _ => ?_)
            refine Ev.ite (fun q => absurd q hk.2.2) (fun _ => ?_)
            exact Ev.kI hr (Ev.ret rfl)
          · rw [lv_f (by decide), ← hJ]
            exact th_f (Or.inl (by decide))
          · rw [lv_f (by decide), ← hJ]
            exact up_s
        · refine PR.look hO (A := 0) (by decide) (by decide) ?_ ?_
          · have k52 : Ev (fun F => J11_kill_52 F (rf e 11 0) (rf e 8 y) (HS e C I z)) (rI 0 (HS e C I z)) := by
              refine Ev.step (fun F => E11_kill_52 F _ _ _) ?_
              simp (disch := omega) only [d_9 hA, g_11_1 hA, g_8_5 hA, Option.bind_some, up_s, up_k, up_j, up_i, xk_add, xk_sub, xk_mul, xk_neg, lk_add, lN_z, rf_none, rb1, rb0, rbp, xk_nI, zk_eq, zk_lt, zk_eq0, zk_lt0, zk_0lt, zk_long, lz_lt, lz_gt, zmax, zmin, ↓reduceIte, Int.reduceEq, Int.reduceLT, Int.reduceNeg, Int.reduceAdd, Int.reduceSub, Int.reduceMul, Int.ofNat_eq_natCast, Int.cast_ofNat_Int]
              exact Ev.ret rfl
            refine Ev.step (fun F => E11_kill F _ _ _ _) ?_
            simp (disch := omega) only [d_7 hA, d_9 hA, g_11_1 hA, g_7_4 hA, g_8_0 hA, g_8_1 hA, g_8_5 hA, Option.bind_some, up_s, up_k, up_j, up_i, xk_add, xk_sub, xk_mul, xk_neg, lk_add, lN_z, rf_none, rb1, rb0, rbp, xk_nI, zk_eq, zk_lt, zk_eq0, zk_lt0, zk_0lt, zk_long, lz_lt, lz_gt, zmax, zmin, ↓reduceIte, Int.reduceEq, Int.reduceLT, Int.reduceNeg, Int.reduceAdd, Int.reduceSub, Int.reduceMul, Int.ofNat_eq_natCast, Int.cast_ofNat_Int, CT.space hC.1, CT.view hC.1, CT.parent hC.1, CT.group hC.1, CT.state hC.1, CT.pages hC.1, CT.points hC.1, CT.ticks hC.1, CT.asleep hC.1, CT.time hC.1, CP.outer hC.2.1, CP.depth hC.2.1, CP.init hC.2.1, CP.given hC.2.1, CG.outer hC.2.2.1, CG.depth hC.2.2.1, CG.max hC.2.2.1, CG.most hC.2.2.1, CG.weight hC.2.2.1, CG.quota hC.2.2.1, CG.cached hC.2.2.1, CG.ran hC.2.2.1, CG.time hC.2.2.1, CG.uses hC.2.2.1, CG.live hC.2.2.1, rf_eq hA]
            refine Ev.kR lv ?_
            rw [lvg_y h]
            try simp (disch := omega) only [d_7 hA, d_9 hA, g_11_1 hA, g_7_4 hA, g_8_0 hA, g_8_1 hA, g_8_5 hA, Option.bind_some, up_s, up_k, up_j, up_i, xk_add, xk_sub, xk_mul, xk_neg, lk_add, lN_z, rf_none, rb1, rb0, rbp, xk_nI, zk_eq, zk_lt, zk_eq0, zk_lt0, zk_0lt, zk_long, lz_lt, lz_gt, zmax, zmin, ↓reduceIte, Int.reduceEq, Int.reduceLT, Int.reduceNeg, Int.reduceAdd, Int.reduceSub, Int.reduceMul, Int.ofNat_eq_natCast, Int.cast_ofNat_Int, CT.space hC.1, CT.view hC.1, CT.parent hC.1, CT.group hC.1, CT.state hC.1, CT.pages hC.1, CT.points hC.1, CT.ticks hC.1, CT.asleep hC.1, CT.time hC.1, CP.outer hC.2.1, CP.depth hC.2.1, CP.init hC.2.1, CP.given hC.2.1, CG.outer hC.2.2.1, CG.depth hC.2.2.1, CG.max hC.2.2.1, CG.most hC.2.2.1, CG.weight hC.2.2.1, CG.quota hC.2.2.1, CG.cached hC.2.2.1, CG.ran hC.2.2.1, CG.time hC.2.2.1, CG.uses hC.2.2.1, CG.live hC.2.2.1, rf_eq hA]
            refine Ev.ite (fun q => absurd q (by omega)) (fun _ => ?_)
            refine Ev.kR ho ?_
            try simp (disch := omega) only [d_7 hA, d_9 hA, g_11_1 hA, g_7_4 hA, g_8_0 hA, g_8_1 hA, g_8_5 hA, Option.bind_some, up_s, up_k, up_j, up_i, xk_add, xk_sub, xk_mul, xk_neg, lk_add, lN_z, rf_none, rb1, rb0, rbp, xk_nI, zk_eq, zk_lt, zk_eq0, zk_lt0, zk_0lt, zk_long, lz_lt, lz_gt, zmax, zmin, ↓reduceIte, Int.reduceEq, Int.reduceLT, Int.reduceNeg, Int.reduceAdd, Int.reduceSub, Int.reduceMul, Int.ofNat_eq_natCast, Int.cast_ofNat_Int, CT.space hC.1, CT.view hC.1, CT.parent hC.1, CT.group hC.1, CT.state hC.1, CT.pages hC.1, CT.points hC.1, CT.ticks hC.1, CT.asleep hC.1, CT.time hC.1, CP.outer hC.2.1, CP.depth hC.2.1, CP.init hC.2.1, CP.given hC.2.1, CG.outer hC.2.2.1, CG.depth hC.2.2.1, CG.max hC.2.2.1, CG.most hC.2.2.1, CG.weight hC.2.2.1, CG.quota hC.2.2.1, CG.cached hC.2.2.1, CG.ran hC.2.2.1, CG.time hC.2.2.1, CG.uses hC.2.2.1, CG.live hC.2.2.1, rf_eq hA]
            refine Ev.ite (fun q => absurd q hn) (fun _ => ?_)
            refine Ev.ite (fun q => k52) (fun q1 => ?_)
            refine Ev.ite (fun q => k52) (fun q2 => ?_)
            try simp (disch := omega) only [d_7 hA, d_9 hA, g_11_1 hA, g_7_4 hA, g_8_0 hA, g_8_1 hA, g_8_5 hA, Option.bind_some, up_s, up_k, up_j, up_i, xk_add, xk_sub, xk_mul, xk_neg, lk_add, lN_z, rf_none, rb1, rb0, rbp, xk_nI, zk_eq, zk_lt, zk_eq0, zk_lt0, zk_0lt, zk_long, lz_lt, lz_gt, zmax, zmin, ↓reduceIte, Int.reduceEq, Int.reduceLT, Int.reduceNeg, Int.reduceAdd, Int.reduceSub, Int.reduceMul, Int.ofNat_eq_natCast, Int.cast_ofNat_Int, CT.space hC.1, CT.view hC.1, CT.parent hC.1, CT.group hC.1, CT.state hC.1, CT.pages hC.1, CT.points hC.1, CT.ticks hC.1, CT.asleep hC.1, CT.time hC.1, CP.outer hC.2.1, CP.depth hC.2.1, CP.init hC.2.1, CP.given hC.2.1, CG.outer hC.2.2.1, CG.depth hC.2.2.1, CG.max hC.2.2.1, CG.most hC.2.2.1, CG.weight hC.2.2.1, CG.quota hC.2.2.1, CG.cached hC.2.2.1, CG.ran hC.2.2.1, CG.time hC.2.2.1, CG.uses hC.2.2.1, CG.live hC.2.2.1, rf_eq hA]
            refine Ev.ite (fun q3 => ?_) (fun _ => Ev.ret rfl)
            exact absurd ⟨q3, q2, q1⟩ hk
          · refine Ev.step (fun F => E12_kill F _ _ _ _) ?_
            simp (disch := omega) only [a_22 hA hR, a_24 hA hR, a_35 hA hR, d_12 hA hR, g_12_15 hA hR, g_12_2 hA hR, g_12_4 hA hR, p_12_0 hA hR, Option.bind_some, up_s, up_k, up_j, up_i, xk_add, xk_sub, xk_mul, xk_neg, lk_add, lN_z, rf_none, rb1, rb0, rbp, xk_nI, zk_eq, zk_lt, zk_eq0, zk_lt0, zk_0lt, zk_long, lz_lt, lz_gt, zmax, zmin, ↓reduceIte, Int.reduceEq, Int.reduceLT, Int.reduceNeg, Int.reduceAdd, Int.reduceSub, Int.reduceMul, Int.ofNat_eq_natCast, Int.cast_ofNat_Int]
            rw [show up I 12 0 0 0 = J from hJ, hJ]
            refine Ev.kB (isLive_r hA hR hB t0 t1) (fun _ => ?_) (fun q => absurd h q)
            try simp (disch := omega) only [a_22 hA hR, a_24 hA hR, a_35 hA hR, d_12 hA hR, g_12_15 hA hR, g_12_2 hA hR, g_12_4 hA hR, p_12_0 hA hR, Option.bind_some, up_s, up_k, up_j, up_i, xk_add, xk_sub, xk_mul, xk_neg, lk_add, lN_z, rf_none, rb1, rb0, rbp, xk_nI, zk_eq, zk_lt, zk_eq0, zk_lt0, zk_0lt, zk_long, lz_lt, lz_gt, zmax, zmin, ↓reduceIte, Int.reduceEq, Int.reduceLT, Int.reduceNeg, Int.reduceAdd, Int.reduceSub, Int.reduceMul, Int.ofNat_eq_natCast, Int.cast_ofNat_Int, ll_40]
            refine Ev.kB (in_ev ⟨by omega, by omega⟩ ⟨by decide, by decide⟩ ⟨by decide, by decide⟩) (fun _ => ?_) (fun q => absurd hx q)
            try simp (disch := omega) only [a_22 hA hR, a_24 hA hR, a_35 hA hR, d_12 hA hR, g_12_15 hA hR, g_12_2 hA hR, g_12_4 hA hR, p_12_0 hA hR, Option.bind_some, up_s, up_k, up_j, up_i, xk_add, xk_sub, xk_mul, xk_neg, lk_add, lN_z, rf_none, rb1, rb0, rbp, xk_nI, zk_eq, zk_lt, zk_eq0, zk_lt0, zk_0lt, zk_long, lz_lt, lz_gt, zmax, zmin, ↓reduceIte, Int.reduceEq, Int.reduceLT, Int.reduceNeg, Int.reduceAdd, Int.reduceSub, Int.reduceMul, Int.ofNat_eq_natCast, Int.cast_ofNat_Int]
            refine Ev.kI (holder_ev hA hR hB (by omega) (by omega) x0 x1 hh) ?_
            try simp (disch := omega) only [a_22 hA hR, a_24 hA hR, a_35 hA hR, d_12 hA hR, g_12_15 hA hR, g_12_2 hA hR, g_12_4 hA hR, p_12_0 hA hR, Option.bind_some, up_s, up_k, up_j, up_i, xk_add, xk_sub, xk_mul, xk_neg, lk_add, lN_z, rf_none, rb1, rb0, rbp, xk_nI, zk_eq, zk_lt, zk_eq0, zk_lt0, zk_0lt, zk_long, lz_lt, lz_gt, zmax, zmin, ↓reduceIte, Int.reduceEq, Int.reduceLT, Int.reduceNeg, Int.reduceAdd, Int.reduceSub, Int.reduceMul, Int.ofNat_eq_natCast, Int.cast_ofNat_Int]
            refine Ev.ite (fun q => absurd q (by omega)) (fun _ => ?_)
            refine Ev.ite (fun q3 => ?_) (fun _ => Ev.ret rfl)
            refine Ev.ite (fun _ => Ev.ret rfl) (fun q2 => ?_)
            refine Ev.ite (fun _ => Ev.ret rfl) (fun q1 => ?_)
            exact absurd ⟨q3, q2, q1⟩ hk
    · rw [if_neg hx] at ho
      refine PR.look hO (A := -1) (by decide) (by decide) ?_ ?_
      · refine Ev.step (fun F => E11_kill F _ _ _ _) ?_
        simp (disch := omega) only [d_7 hA, d_9 hA, g_11_1 hA, g_7_4 hA, g_8_0 hA, g_8_1 hA, g_8_5 hA, Option.bind_some, up_s, up_k, up_j, up_i, xk_add, xk_sub, xk_mul, xk_neg, lk_add, lN_z, rf_none, rb1, rb0, rbp, xk_nI, zk_eq, zk_lt, zk_eq0, zk_lt0, zk_0lt, zk_long, lz_lt, lz_gt, zmax, zmin, ↓reduceIte, Int.reduceEq, Int.reduceLT, Int.reduceNeg, Int.reduceAdd, Int.reduceSub, Int.reduceMul, Int.ofNat_eq_natCast, Int.cast_ofNat_Int, CT.space hC.1, CT.view hC.1, CT.parent hC.1, CT.group hC.1, CT.state hC.1, CT.pages hC.1, CT.points hC.1, CT.ticks hC.1, CT.asleep hC.1, CT.time hC.1, CP.outer hC.2.1, CP.depth hC.2.1, CP.init hC.2.1, CP.given hC.2.1, CG.outer hC.2.2.1, CG.depth hC.2.2.1, CG.max hC.2.2.1, CG.most hC.2.2.1, CG.weight hC.2.2.1, CG.quota hC.2.2.1, CG.cached hC.2.2.1, CG.ran hC.2.2.1, CG.time hC.2.2.1, CG.uses hC.2.2.1, CG.live hC.2.2.1, rf_eq hA]
        refine Ev.kR lv ?_
        rw [lvg_y h]
        try simp (disch := omega) only [d_7 hA, d_9 hA, g_11_1 hA, g_7_4 hA, g_8_0 hA, g_8_1 hA, g_8_5 hA, Option.bind_some, up_s, up_k, up_j, up_i, xk_add, xk_sub, xk_mul, xk_neg, lk_add, lN_z, rf_none, rb1, rb0, rbp, xk_nI, zk_eq, zk_lt, zk_eq0, zk_lt0, zk_0lt, zk_long, lz_lt, lz_gt, zmax, zmin, ↓reduceIte, Int.reduceEq, Int.reduceLT, Int.reduceNeg, Int.reduceAdd, Int.reduceSub, Int.reduceMul, Int.ofNat_eq_natCast, Int.cast_ofNat_Int, CT.space hC.1, CT.view hC.1, CT.parent hC.1, CT.group hC.1, CT.state hC.1, CT.pages hC.1, CT.points hC.1, CT.ticks hC.1, CT.asleep hC.1, CT.time hC.1, CP.outer hC.2.1, CP.depth hC.2.1, CP.init hC.2.1, CP.given hC.2.1, CG.outer hC.2.2.1, CG.depth hC.2.2.1, CG.max hC.2.2.1, CG.most hC.2.2.1, CG.weight hC.2.2.1, CG.quota hC.2.2.1, CG.cached hC.2.2.1, CG.ran hC.2.2.1, CG.time hC.2.2.1, CG.uses hC.2.2.1, CG.live hC.2.2.1, rf_eq hA]
        refine Ev.ite (fun q => absurd q (by omega)) (fun _ => ?_)
        refine Ev.kR ho ?_
        try simp (disch := omega) only [d_7 hA, d_9 hA, g_11_1 hA, g_7_4 hA, g_8_0 hA, g_8_1 hA, g_8_5 hA, Option.bind_some, up_s, up_k, up_j, up_i, xk_add, xk_sub, xk_mul, xk_neg, lk_add, lN_z, rf_none, rb1, rb0, rbp, xk_nI, zk_eq, zk_lt, zk_eq0, zk_lt0, zk_0lt, zk_long, lz_lt, lz_gt, zmax, zmin, ↓reduceIte, Int.reduceEq, Int.reduceLT, Int.reduceNeg, Int.reduceAdd, Int.reduceSub, Int.reduceMul, Int.ofNat_eq_natCast, Int.cast_ofNat_Int, CT.space hC.1, CT.view hC.1, CT.parent hC.1, CT.group hC.1, CT.state hC.1, CT.pages hC.1, CT.points hC.1, CT.ticks hC.1, CT.asleep hC.1, CT.time hC.1, CP.outer hC.2.1, CP.depth hC.2.1, CP.init hC.2.1, CP.given hC.2.1, CG.outer hC.2.2.1, CG.depth hC.2.2.1, CG.max hC.2.2.1, CG.most hC.2.2.1, CG.weight hC.2.2.1, CG.quota hC.2.2.1, CG.cached hC.2.2.1, CG.ran hC.2.2.1, CG.time hC.2.2.1, CG.uses hC.2.2.1, CG.live hC.2.2.1, rf_eq hA]
        exact Ev.ret rfl
      · refine Ev.step (fun F => E12_kill F _ _ _ _) ?_
        simp (disch := omega) only [a_22 hA hR, a_24 hA hR, a_35 hA hR, d_12 hA hR, g_12_15 hA hR, g_12_2 hA hR, g_12_4 hA hR, p_12_0 hA hR, Option.bind_some, up_s, up_k, up_j, up_i, xk_add, xk_sub, xk_mul, xk_neg, lk_add, lN_z, rf_none, rb1, rb0, rbp, xk_nI, zk_eq, zk_lt, zk_eq0, zk_lt0, zk_0lt, zk_long, lz_lt, lz_gt, zmax, zmin, ↓reduceIte, Int.reduceEq, Int.reduceLT, Int.reduceNeg, Int.reduceAdd, Int.reduceSub, Int.reduceMul, Int.ofNat_eq_natCast, Int.cast_ofNat_Int]
        rw [show up I 12 0 0 0 = J from hJ, hJ]
        refine Ev.kB (isLive_r hA hR hB t0 t1) (fun _ => ?_) (fun q => absurd h q)
        try simp (disch := omega) only [a_22 hA hR, a_24 hA hR, a_35 hA hR, d_12 hA hR, g_12_15 hA hR, g_12_2 hA hR, g_12_4 hA hR, p_12_0 hA hR, Option.bind_some, up_s, up_k, up_j, up_i, xk_add, xk_sub, xk_mul, xk_neg, lk_add, lN_z, rf_none, rb1, rb0, rbp, xk_nI, zk_eq, zk_lt, zk_eq0, zk_lt0, zk_0lt, zk_long, lz_lt, lz_gt, zmax, zmin, ↓reduceIte, Int.reduceEq, Int.reduceLT, Int.reduceNeg, Int.reduceAdd, Int.reduceSub, Int.reduceMul, Int.ofNat_eq_natCast, Int.cast_ofNat_Int, ll_40]
        refine Ev.kB (in_ev ⟨by omega, by omega⟩ ⟨by decide, by decide⟩ ⟨by decide, by decide⟩) (fun q => absurd q hx) (fun _ => ?_)
        try simp (disch := omega) only [a_22 hA hR, a_24 hA hR, a_35 hA hR, d_12 hA hR, g_12_15 hA hR, g_12_2 hA hR, g_12_4 hA hR, p_12_0 hA hR, Option.bind_some, up_s, up_k, up_j, up_i, xk_add, xk_sub, xk_mul, xk_neg, lk_add, lN_z, rf_none, rb1, rb0, rbp, xk_nI, zk_eq, zk_lt, zk_eq0, zk_lt0, zk_0lt, zk_long, lz_lt, lz_gt, zmax, zmin, ↓reduceIte, Int.reduceEq, Int.reduceLT, Int.reduceNeg, Int.reduceAdd, Int.reduceSub, Int.reduceMul, Int.ofNat_eq_natCast, Int.cast_ofNat_Int]
        exact Ev.ret rfl
  · refine PR.look hO (A := -1) (by decide) (by decide) ?_ ?_
    · refine Ev.step (fun F => E11_kill F _ _ _ _) ?_
      simp (disch := omega) only [d_7 hA, d_9 hA, g_11_1 hA, g_7_4 hA, g_8_0 hA, g_8_1 hA, g_8_5 hA, Option.bind_some, up_s, up_k, up_j, up_i, xk_add, xk_sub, xk_mul, xk_neg, lk_add, lN_z, rf_none, rb1, rb0, rbp, xk_nI, zk_eq, zk_lt, zk_eq0, zk_lt0, zk_0lt, zk_long, lz_lt, lz_gt, zmax, zmin, ↓reduceIte, Int.reduceEq, Int.reduceLT, Int.reduceNeg, Int.reduceAdd, Int.reduceSub, Int.reduceMul, Int.ofNat_eq_natCast, Int.cast_ofNat_Int]
      refine Ev.kR lv ?_
      rw [lvg_n h]
      try simp (disch := omega) only [d_7 hA, d_9 hA, g_11_1 hA, g_7_4 hA, g_8_0 hA, g_8_1 hA, g_8_5 hA, Option.bind_some, up_s, up_k, up_j, up_i, xk_add, xk_sub, xk_mul, xk_neg, lk_add, lN_z, rf_none, rb1, rb0, rbp, xk_nI, zk_eq, zk_lt, zk_eq0, zk_lt0, zk_0lt, zk_long, lz_lt, lz_gt, zmax, zmin, ↓reduceIte, Int.reduceEq, Int.reduceLT, Int.reduceNeg, Int.reduceAdd, Int.reduceSub, Int.reduceMul, Int.ofNat_eq_natCast, Int.cast_ofNat_Int]
      exact Ev.ret rfl
    · refine Ev.step (fun F => E12_kill F _ _ _ _) ?_
      simp (disch := omega) only [a_22 hA hR, a_24 hA hR, a_35 hA hR, d_12 hA hR, g_12_15 hA hR, g_12_2 hA hR, g_12_4 hA hR, p_12_0 hA hR, Option.bind_some, up_s, up_k, up_j, up_i, xk_add, xk_sub, xk_mul, xk_neg, lk_add, lN_z, rf_none, rb1, rb0, rbp, xk_nI, zk_eq, zk_lt, zk_eq0, zk_lt0, zk_0lt, zk_long, lz_lt, lz_gt, zmax, zmin, ↓reduceIte, Int.reduceEq, Int.reduceLT, Int.reduceNeg, Int.reduceAdd, Int.reduceSub, Int.reduceMul, Int.ofNat_eq_natCast, Int.cast_ofNat_Int]
      rw [show up I 12 0 0 0 = J from hJ, hJ]
      refine Ev.kB (isLive_r hA hR hB t0 t1) (fun q => absurd q h) (fun q => ?_)
      try simp (disch := omega) only [a_22 hA hR, a_24 hA hR, a_35 hA hR, d_12 hA hR, g_12_15 hA hR, g_12_2 hA hR, g_12_4 hA hR, p_12_0 hA hR, Option.bind_some, up_s, up_k, up_j, up_i, xk_add, xk_sub, xk_mul, xk_neg, lk_add, lN_z, rf_none, rb1, rb0, rbp, xk_nI, zk_eq, zk_lt, zk_eq0, zk_lt0, zk_0lt, zk_long, lz_lt, lz_gt, zmax, zmin, ↓reduceIte, Int.reduceEq, Int.reduceLT, Int.reduceNeg, Int.reduceAdd, Int.reduceSub, Int.reduceMul, Int.ofNat_eq_natCast, Int.cast_ofNat_Int]
      exact Ev.ret rfl
end OPs
