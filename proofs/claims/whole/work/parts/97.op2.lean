/-! pairs: reap, number, find, task, ran -/
section OPs
variable {e : EN} {C I J : ST} {z : Nat × Nat × Nat × Nat} {n : Int}
theorem Inv.fg (h : Inv n J) {m x : Int} (hm : n ≤ m) (x0 : 0 < x) (x1 : x < (J 12 0 1)) (hx : (J 22 0 x) ≠ 0) : Inv m (fgI J x) := by
  obtain ⟨h1, h2, h3, h4, h5, h6, h7, h8, h9⟩ := h
  have hT : TI (fgI J x) := h1.fg (decide_eq_false (by omega))
  have ej : ∀ k i j, k ≠ 22 ∧ k ≠ 23 ∧ k ≠ 32 → fgI J x k i j = J k i j := fun k i j q => by simp [fgI, fgA, q]
  have us := usF_fg (J := J) (c := fun k => decide (k = x)) (fun j hj => by rw [of_decide_eq_true hj]; exact hx)
  have d32 : ∀ j, fgI J x 32 0 j = if j / 20 = x then 0 else J 32 0 j := fun j => by simp [fgI, fgA]
  refine ⟨hT, h2.fg, h3.c (ej _ _ _ (by decide)) (fun j => ej _ _ _ (by decide)) us.1, h4.c (ej _ _ _ (by decide)) (fun j => ej _ _ _ (by decide)) (fun j => ej _ _ _ (by decide)), h5.c (ej _ _ _ (by decide)) (fun j => ej _ _ _ (by decide)) (fun j => ej _ _ _ (by decide)) (fun j => ej _ _ _ (by decide)), ⟨fun t a b => ?_, fun t s a b c d => ?_⟩, h7.c hm (ej _ _ _ (by decide)) (fun j => ej _ _ _ (by decide)) (fun j => ej _ _ _ (by decide)) (fun j => ej _ _ _ (by decide)), h8.c (ej _ _ _ (by decide)) (fun k j a b => ej _ _ _ (by omega)), h9.c hm (ej _ _ _ (by decide)) (fun j => ej _ _ _ (by decide))⟩
  · rw [ej _ _ _ (by decide)] at a
    have y := h6.1 t a b
    rw [ej 27 _ _ (by decide), ej 28 _ _ (by decide), ej 29 _ _ (by decide), ej 31 _ _ (by decide)]
    refine ⟨y.1, y.2.1, y.2.2.1, y.2.2.2.1, fun s s0 s1 => ?_⟩
    rw [d32]
    split
    · rfl
    · exact y.2.2.2.2 s s0 s1
  · rw [ej _ _ _ (by decide)] at c
    rw [d32]
    split
    · rfl
    · exact h6.2 t s a b c d
theorem bury_ev (hA : WA e z) (hC : Cpl e C J) (hT : TI J) {t : Int} (t0 : 0 ≤ t) (t1 : t < (J 12 0 1)) : ∃ x C', Ev (fun F => J9_bury F (rf e 9 0) (rf e 8 t) (HS e C I z)) (rI (rpA J (J 24 0 t) x) (HS e C' I z)) ∧ RpR J t (J 24 0 t) x ∧ Cpl e C' (rpI J x) := by
  have n8 := hC.1.1
  have n7 := hC.2.1.1
  have n1 := hC.2.2.1.1
  have n10 := hC.2.2.2.2.1.1
  have hB := hT.1
  have := RB.tasks hB
  have := RB.spaces hB
  have := RB.groups hB
  have := RB.views hB
  have n4 := hA.2.2.2.1
  have b := hT.b t0 t1
  generalize hs : (J 24 0 t) = s at *
  have zn : ∀ k, rpZ J t k → 1 ≤ (J 32 0 (20 * k + s)) ∧ (J 32 0 (20 * k + s)) ≤ 40 ∧ (C 15 s ((J 32 0 (20 * k + s)))) = k := by
    intro k hk
    have p := hT.2.2.2.2.2.1 k hk.1 hk.2.1 (by have := hk.2.2.1; omega) (by have := hk.2.2.2; omega)
    rw [hk.2.2.2, hs] at p
    have q := ((hT.2.2.2.2.2.2 k s hk.1 hk.2.1 b.1.1 b.1.2).2 (by have := hk.2.2.1; omega)).mpr p.1
    have nb := RB.numbers hB (j := 20 * k + s) (by have := hk.1; omega) (by have := hk.2.1; omega)
    have hh := hC.2.1.hold b.1.1 b.1.2 (n := (J 32 0 (20 * k + s))) (by omega) (by omega)
    exact ⟨by omega, nb.2, ((hh.2 k hk.1 hk.2.1).mp ⟨by have := hk.2.2.1; omega, rfl⟩).symm⟩
  have key : ∀ m, 1 ≤ m → m ≤ 41 → (∀ k, rpZ J t k → m ≤ (J 32 0 (20 * k + s))) → ∃ x C', Ev (fun F => J9_bury_2 F (rf e 8 t) (xk m) (HS e C I z)) (rI (rpA J s x) (HS e C' I z)) ∧ RpR J t s x ∧ Cpl e C' (rpI J x) := by
    intro m
    refine lpN (P := fun m => 1 ≤ m → m ≤ 41 → (∀ k, rpZ J t k → m ≤ (J 32 0 (20 * k + s))) → ∃ x C', Ev (fun F => J9_bury_2 F (rf e 8 t) (xk m) (HS e C I z)) (rI (rpA J s x) (HS e C' I z)) ∧ RpR J t s x ∧ Cpl e C' (rpI J x)) 41 (fun m ih m0 m1 hm => ?_) m
    have csp : C 8 t 1 = s := by rw [hC.1.space t0 t1, hs]
    by_cases h : m = 41
    · refine ⟨-1, C, ?_, Or.inl ⟨rfl, fun k hk => ?_⟩, ?_⟩
      · refine Ev.step (fun F => E9_bury_2 F _ _ _) ?_
        simp (disch := omega) only [d_7 hA, d_8 hA, g_8_1 hA, g_8_3 hA, g_8_5 hA, Option.bind_some, up_s, up_k, up_j, up_i, xk_add, xk_sub, xk_mul, xk_neg, lk_add, lN_z, rf_none, rb1, rb0, rbp, xk_nI, zk_eq, zk_lt, zk_eq0, zk_lt0, zk_0lt, zk_long, lz_lt, lz_gt, zmax, zmin, ↓reduceIte, Int.reduceEq, Int.reduceLT, Int.reduceNeg, Int.reduceAdd, Int.reduceSub, Int.reduceMul, Int.ofNat_eq_natCast, Int.cast_ofNat_Int]
        exact Ev.ite (fun _ => Ev.ret rfl) (fun q => absurd q (by omega))
      · have := zn k hk
        have := hm k hk
        omega
      · exact hC
    · have hh := hC.2.1.hold b.1.1 b.1.2 (n := m) m0 (by omega)
      have ho := holder_cl (I := I) hA hC hT (x := m) b.1.1 b.1.2 (by omega) (by omega)
      rw [if_pos ⟨m0, by omega⟩] at ho
      generalize hy : (C 15 s m) = y at *
      have yb := hh.1
      by_cases hz : rpZ J t y
      · have yn := (hh.2 y hz.1 hz.2.1).mpr rfl
        have hv := vanish_ev (I := I) hA hC hT hz.1 hz.2.1
        refine ⟨y, vaC J C y, ?_, Or.inr ⟨hz, fun k hk hne => ?_⟩, ?_⟩
        · have c5 := hC.1.state hz.1 hz.2.1
          have c3 := hC.1.parent hz.1 hz.2.1
          rw [hz.2.2.1] at c5
          rw [hz.2.2.2] at c3
          refine Ev.step (fun F => E9_bury_2 F _ _ _) ?_
          simp (disch := omega) only [d_7 hA, d_8 hA, g_8_1 hA, g_8_3 hA, g_8_5 hA, Option.bind_some, up_s, up_k, up_j, up_i, xk_add, xk_sub, xk_mul, xk_neg, lk_add, lN_z, rf_none, rb1, rb0, rbp, xk_nI, zk_eq, zk_lt, zk_eq0, zk_lt0, zk_0lt, zk_long, lz_lt, lz_gt, zmax, zmin, ↓reduceIte, Int.reduceEq, Int.reduceLT, Int.reduceNeg, Int.reduceAdd, Int.reduceSub, Int.reduceMul, Int.ofNat_eq_natCast, Int.cast_ofNat_Int, csp]
          refine Ev.ite (fun q => absurd q (by omega)) (fun _ => ?_)
          try simp (disch := omega) only [d_7 hA, d_8 hA, g_8_1 hA, g_8_3 hA, g_8_5 hA, Option.bind_some, up_s, up_k, up_j, up_i, xk_add, xk_sub, xk_mul, xk_neg, lk_add, lN_z, rf_none, rb1, rb0, rbp, xk_nI, zk_eq, zk_lt, zk_eq0, zk_lt0, zk_0lt, zk_long, lz_lt, lz_gt, zmax, zmin, ↓reduceIte, Int.reduceEq, Int.reduceLT, Int.reduceNeg, Int.reduceAdd, Int.reduceSub, Int.reduceMul, Int.ofNat_eq_natCast, Int.cast_ofNat_Int]
          refine Ev.kR ho ?_
          have := hz.1
          try simp (disch := omega) only [d_7 hA, d_8 hA, g_8_1 hA, g_8_3 hA, g_8_5 hA, Option.bind_some, up_s, up_k, up_j, up_i, xk_add, xk_sub, xk_mul, xk_neg, lk_add, lN_z, rf_none, rb1, rb0, rbp, xk_nI, zk_eq, zk_lt, zk_eq0, zk_lt0, zk_0lt, zk_long, lz_lt, lz_gt, zmax, zmin, ↓reduceIte, Int.reduceEq, Int.reduceLT, Int.reduceNeg, Int.reduceAdd, Int.reduceSub, Int.reduceMul, Int.ofNat_eq_natCast, Int.cast_ofNat_Int, c5, c3, rf_eq hA]
          refine Ev.ite (fun q => absurd q (by omega)) (fun _ => ?_)
          refine Ev.kV hv (Ev.ret ?_)
          rw [rpA, if_neg (by omega), yn.2]
          rfl
        · have a := hm k hk
          have c := zn k hk
          rw [yn.2]
          by_cases q : (J 32 0 (20 * k + s)) = m
          · rw [q, hy] at c
            exact absurd c.2.2.symm hne
          · omega
        · rw [rpI, if_neg (by have := hz.1; omega)]
          exact hC.fg hT hz.1 hz.2.1 (by have := hz.2.2.1; omega)
      · obtain ⟨x, C', hE, hR, hC'⟩ := ih (by omega) (by omega) (by omega) (fun k hk => by
          have a := hm k hk
          have c := zn k hk
          by_cases q : (J 32 0 (20 * k + s)) = m
          · rw [q, hy] at c
            rw [c.2.2] at hz
            exact absurd hk hz
          · omega)
        refine ⟨x, C', ?_, hR, hC'⟩
        refine Ev.step (fun F => E9_bury_2 F _ _ _) ?_
        simp (disch := omega) only [d_7 hA, d_8 hA, g_8_1 hA, g_8_3 hA, g_8_5 hA, Option.bind_some, up_s, up_k, up_j, up_i, xk_add, xk_sub, xk_mul, xk_neg, lk_add, lN_z, rf_none, rb1, rb0, rbp, xk_nI, zk_eq, zk_lt, zk_eq0, zk_lt0, zk_0lt, zk_long, lz_lt, lz_gt, zmax, zmin, ↓reduceIte, Int.reduceEq, Int.reduceLT, Int.reduceNeg, Int.reduceAdd, Int.reduceSub, Int.reduceMul, Int.ofNat_eq_natCast, Int.cast_ofNat_Int, csp]
        refine Ev.ite (fun q => absurd q (by omega)) (fun _ => ?_)
        try simp (disch := omega) only [d_7 hA, d_8 hA, g_8_1 hA, g_8_3 hA, g_8_5 hA, Option.bind_some, up_s, up_k, up_j, up_i, xk_add, xk_sub, xk_mul, xk_neg, lk_add, lN_z, rf_none, rb1, rb0, rbp, xk_nI, zk_eq, zk_lt, zk_eq0, zk_lt0, zk_0lt, zk_long, lz_lt, lz_gt, zmax, zmin, ↓reduceIte, Int.reduceEq, Int.reduceLT, Int.reduceNeg, Int.reduceAdd, Int.reduceSub, Int.reduceMul, Int.ofNat_eq_natCast, Int.cast_ofNat_Int]
        refine Ev.kR ho ?_
        try simp (disch := omega) only [d_7 hA, d_8 hA, g_8_1 hA, g_8_3 hA, g_8_5 hA, Option.bind_some, up_s, up_k, up_j, up_i, xk_add, xk_sub, xk_mul, xk_neg, lk_add, lN_z, rf_none, rb1, rb0, rbp, xk_nI, zk_eq, zk_lt, zk_eq0, zk_lt0, zk_0lt, zk_long, lz_lt, lz_gt, zmax, zmin, ↓reduceIte, Int.reduceEq, Int.reduceLT, Int.reduceNeg, Int.reduceAdd, Int.reduceSub, Int.reduceMul, Int.ofNat_eq_natCast, Int.cast_ofNat_Int]
        refine Ev.ite (fun _ => hE) (fun q0 => ?_)
        have yb2 := hT.b (t := y) (by omega) yb.2
        have c5 := hC.1.state (t := y) (by omega) yb.2
        have c3 := hC.1.parent (t := y) (by omega) yb.2
        try simp (disch := omega) only [d_7 hA, d_8 hA, g_8_1 hA, g_8_3 hA, g_8_5 hA, Option.bind_some, up_s, up_k, up_j, up_i, xk_add, xk_sub, xk_mul, xk_neg, lk_add, lN_z, rf_none, rb1, rb0, rbp, xk_nI, zk_eq, zk_lt, zk_eq0, zk_lt0, zk_0lt, zk_long, lz_lt, lz_gt, zmax, zmin, ↓reduceIte, Int.reduceEq, Int.reduceLT, Int.reduceNeg, Int.reduceAdd, Int.reduceSub, Int.reduceMul, Int.ofNat_eq_natCast, Int.cast_ofNat_Int, c5, c3, rf_eq hA]
        refine Ev.ite (fun q1 => ?_) (fun _ => hE)
        refine Ev.ite (fun q2 => ?_) (fun _ => hE)
        exact absurd ⟨by omega, yb.2, q1, q2⟩ hz
  obtain ⟨x, C', hE, hR, hC'⟩ := key 1 (by omega) (by omega) (fun k hk => (zn k hk).1)
  exact ⟨x, C', Ev.step (fun F => E9_bury F _ _ _) hE, hR, hC'⟩
theorem reap_pr (hO : OK n e C I z) {t : Int} (t0 : -2147483648 ≤ t) (t1 : t < 2147483648) : PR n e C I z (fun F s => J11_reap F (rf e 11 0) (xk t) s) (fun F s => J12_reap F (rf e 12 0) (xk t) s) := by
  obtain ⟨hA, hR, hC0, hI0⟩ := hO
  have hO : OK n e C I z := ⟨hA, hR, hC0, hI0⟩
  have hC := hC0.th (v := 0)
  have hI := hI0.th (m := n) (v := 0) (by omega)
  have hT := hI.ti
  generalize hJ : th I 0 = J at *
  have n8 := hC.1.1
  have n7 := hC.2.1.1
  have n1 := hC.2.2.1.1
  have n10 := hC.2.2.2.2.1.1
  have hB := hT.1
  have := RB.tasks hB
  have := RB.spaces hB
  have := RB.groups hB
  have := RB.views hB
  have n4 := hA.2.2.2.1
  have lv := living_ev (I := I) hA hC hT t0 t1
  by_cases h : (0 ≤ t ∧ t < (J 12 0 1) ∧ (J 22 0 t) = 0)
  · have b := hT.b h.1 h.2.1
    obtain ⟨x, C', hE, hX, hC'⟩ := bury_ev (I := I) hA hC hT h.1 h.2.1
    have hr := reap27_ev (C := C') hA hR hB h.1 (by omega) b.1.1 (by omega) hX
    have xb : x = -1 ∨ rpZ J t x := by rcases hX with q | q; exact Or.inl q.1; exact Or.inr q.1
    have st0 := hT.2.1.1
    have ab : 0 ≤ rpA J (J 24 0 t) x ∧ rpA J (J 24 0 t) x ≤ 40 := by
      unfold rpA
      split
      · omega
      · rcases xb with q | q
        · omega
        · have a1 := q.1
          have a2 := q.2.1
          exact RB.numbers hB (by omega) (by omega)
    have ej : ∀ k i j, k ≠ 22 ∧ k ≠ 23 ∧ k ≠ 32 → rpI J x k i j = J k i j := fun k i j q => by
      unfold rpI
      split
      · rfl
      · simp [fgI, fgA, q]
    refine ⟨e, C', rpI J x, z, rpA J (J 24 0 t) x, ?_, ?_, ⟨hA, hR, hC', ?_⟩, NX.r (fun j => ?_), ⟨by omega, by omega⟩, ?_⟩
    · refine Ev.step (fun F => E11_reap F _ _ _) ?_
      simp (disch := omega) only [d_9 hA, g_11_1 hA, Option.bind_some, up_s, up_k, up_j, up_i, xk_add, xk_sub, xk_mul, xk_neg, lk_add, lN_z, rf_none, rb1, rb0, rbp, xk_nI, zk_eq, zk_lt, zk_eq0, zk_lt0, zk_0lt, zk_long, lz_lt, lz_gt, zmax, zmin, ↓reduceIte, Int.reduceEq, Int.reduceLT, Int.reduceNeg, Int.reduceAdd, Int.reduceSub, Int.reduceMul, Int.ofNat_eq_natCast, Int.cast_ofNat_Int]
      refine Ev.kR lv ?_
      rw [lvg_y h]
      try simp (disch := omega) only [d_9 hA, g_11_1 hA, Option.bind_some, up_s, up_k, up_j, up_i, xk_add, xk_sub, xk_mul, xk_neg, lk_add, lN_z, rf_none, rb1, rb0, rbp, xk_nI, zk_eq, zk_lt, zk_eq0, zk_lt0, zk_0lt, zk_long, lz_lt, lz_gt, zmax, zmin, ↓reduceIte, Int.reduceEq, Int.reduceLT, Int.reduceNeg, Int.reduceAdd, Int.reduceSub, Int.reduceMul, Int.ofNat_eq_natCast, Int.cast_ofNat_Int]
      refine Ev.ite (fun q => absurd q (by omega)) (fun _ => ?_)
      exact Ev.kI hE (Ev.ret rfl)
    · refine Ev.step (fun F => E12_reap F _ _ _) ?_
      simp (disch := omega) only [a_24 hA hR, d_12 hA hR, g_12_4 hA hR, p_12_0 hA hR, Option.bind_some, up_s, up_k, up_j, up_i, xk_add, xk_sub, xk_mul, xk_neg, lk_add, lN_z, rf_none, rb1, rb0, rbp, xk_nI, zk_eq, zk_lt, zk_eq0, zk_lt0, zk_0lt, zk_long, lz_lt, lz_gt, zmax, zmin, ↓reduceIte, Int.reduceEq, Int.reduceLT, Int.reduceNeg, Int.reduceAdd, Int.reduceSub, Int.reduceMul, Int.ofNat_eq_natCast, Int.cast_ofNat_Int]
      rw [show up I 12 0 0 0 = J from hJ]
      refine Ev.kB (isLive_r hA hR hB t0 t1) (fun _ => ?_) (fun q => absurd h q)
      try simp (disch := omega) only [a_24 hA hR, d_12 hA hR, g_12_4 hA hR, p_12_0 hA hR, Option.bind_some, up_s, up_k, up_j, up_i, xk_add, xk_sub, xk_mul, xk_neg, lk_add, lN_z, rf_none, rb1, rb0, rbp, xk_nI, zk_eq, zk_lt, zk_eq0, zk_lt0, zk_0lt, zk_long, lz_lt, lz_gt, zmax, zmin, ↓reduceIte, Int.reduceEq, Int.reduceLT, Int.reduceNeg, Int.reduceAdd, Int.reduceSub, Int.reduceMul, Int.ofNat_eq_natCast, Int.cast_ofNat_Int]
      exact hr
    · unfold rpI
      split
      · exact hI.sc (by omega) hB (fun _ _ _ _ _ _ => rfl)
      · rcases xb with q | q
        · omega
        · have a1 := q.1
          have a2 := q.2.2.1
          have : x ≠ 0 := fun w => by rw [w] at a2; omega
          exact hI.fg (by omega) (by omega) q.2.1 (by omega)
    · rw [ej _ _ _ (by decide), ← hJ]
      exact th_f (Or.inl (by decide))
    · rw [ej _ _ _ (by decide), ← hJ]
      exact up_s
  · refine PR.look hO (A := -1) (by decide) (by decide) ?_ ?_
    · refine Ev.step (fun F => E11_reap F _ _ _) ?_
      simp (disch := omega) only [d_9 hA, g_11_1 hA, Option.bind_some, up_s, up_k, up_j, up_i, xk_add, xk_sub, xk_mul, xk_neg, lk_add, lN_z, rf_none, rb1, rb0, rbp, xk_nI, zk_eq, zk_lt, zk_eq0, zk_lt0, zk_0lt, zk_long, lz_lt, lz_gt, zmax, zmin, ↓reduceIte, Int.reduceEq, Int.reduceLT, Int.reduceNeg, Int.reduceAdd, Int.reduceSub, Int.reduceMul, Int.ofNat_eq_natCast, Int.cast_ofNat_Int]
      refine Ev.kR lv ?_
      rw [lvg_n h]
      try simp (disch := omega) only [d_9 hA, g_11_1 hA, Option.bind_some, up_s, up_k, up_j, up_i, xk_add, xk_sub, xk_mul, xk_neg, lk_add, lN_z, rf_none, rb1, rb0, rbp, xk_nI, zk_eq, zk_lt, zk_eq0, zk_lt0, zk_0lt, zk_long, lz_lt, lz_gt, zmax, zmin, ↓reduceIte, Int.reduceEq, Int.reduceLT, Int.reduceNeg, Int.reduceAdd, Int.reduceSub, Int.reduceMul, Int.ofNat_eq_natCast, Int.cast_ofNat_Int]
      exact Ev.ret rfl
    · refine Ev.step (fun F => E12_reap F _ _ _) ?_
      simp (disch := omega) only [a_24 hA hR, d_12 hA hR, g_12_4 hA hR, p_12_0 hA hR, Option.bind_some, up_s, up_k, up_j, up_i, xk_add, xk_sub, xk_mul, xk_neg, lk_add, lN_z, rf_none, rb1, rb0, rbp, xk_nI, zk_eq, zk_lt, zk_eq0, zk_lt0, zk_0lt, zk_long, lz_lt, lz_gt, zmax, zmin, ↓reduceIte, Int.reduceEq, Int.reduceLT, Int.reduceNeg, Int.reduceAdd, Int.reduceSub, Int.reduceMul, Int.ofNat_eq_natCast, Int.cast_ofNat_Int]
      rw [show up I 12 0 0 0 = J from hJ, hJ]
      refine Ev.kB (isLive_r hA hR hB t0 t1) (fun q => absurd q h) (fun q => ?_)
      try simp (disch := omega) only [a_24 hA hR, d_12 hA hR, g_12_4 hA hR, p_12_0 hA hR, Option.bind_some, up_s, up_k, up_j, up_i, xk_add, xk_sub, xk_mul, xk_neg, lk_add, lN_z, rf_none, rb1, rb0, rbp, xk_nI, zk_eq, zk_lt, zk_eq0, zk_lt0, zk_0lt, zk_long, lz_lt, lz_gt, zmax, zmin, ↓reduceIte, Int.reduceEq, Int.reduceLT, Int.reduceNeg, Int.reduceAdd, Int.reduceSub, Int.reduceMul, Int.ofNat_eq_natCast, Int.cast_ofNat_Int]
      exact Ev.ret rfl
theorem ran_pr (hO : OK n e C I z) {t : Int} (t0 : -2147483648 ≤ t) (t1 : t < 2147483648) : ∃ A, Ev (fun F => J11_ran F (rf e 11 0) (xk t) (HS e C I z)) (rI A (HS e C I z)) ∧ Ev (fun F => J12_ran F (rf e 12 0) (xk t) (HS e C I z)) (rI A (HS e C (th I 0) z)) := by
  obtain ⟨hA, hR, hC0, hI0⟩ := hO
  have hC := hC0.th (v := 0)
  have hI := hI0.th (m := n) (v := 0) (by omega)
  have hT := hI.ti
  generalize hJ : th I 0 = J at *
  have n8 := hC.1.1
  have n7 := hC.2.1.1
  have n1 := hC.2.2.1.1
  have n10 := hC.2.2.2.2.1.1
  have hB := hT.1
  have := RB.tasks hB
  have := RB.spaces hB
  have := RB.groups hB
  have := RB.views hB
  have n4 := hA.2.2.2.1
  have ev := everMade_ev (I := I) hA hC hT t0 t1
  have it := isTask_ev (C := C) (I := J) hA hR t0 t1 (by omega) (by omega)
  by_cases h : 0 ≤ t ∧ t < (J 12 0 1)
  · refine ⟨(J 31 0 t), ?_, ?_⟩
    · refine Ev.step (fun F => E11_ran F _ _ _) ?_
      simp (disch := omega) only [d_9 hA, g_11_1 hA, g_8_8 hA, Option.bind_some, up_s, up_k, up_j, up_i, xk_add, xk_sub, xk_mul, xk_neg, lk_add, lN_z, rf_none, rb1, rb0, rbp, xk_nI, zk_eq, zk_lt, zk_eq0, zk_lt0, zk_0lt, zk_long, lz_lt, lz_gt, zmax, zmin, ↓reduceIte, Int.reduceEq, Int.reduceLT, Int.reduceNeg, Int.reduceAdd, Int.reduceSub, Int.reduceMul, Int.ofNat_eq_natCast, Int.cast_ofNat_Int, CT.space hC.1, CT.view hC.1, CT.parent hC.1, CT.group hC.1, CT.state hC.1, CT.pages hC.1, CT.points hC.1, CT.ticks hC.1, CT.asleep hC.1, CT.time hC.1, CP.outer hC.2.1, CP.depth hC.2.1, CP.init hC.2.1, CP.given hC.2.1, CG.outer hC.2.2.1, CG.depth hC.2.2.1, CG.max hC.2.2.1, CG.most hC.2.2.1, CG.weight hC.2.2.1, CG.quota hC.2.2.1, CG.cached hC.2.2.1, CG.ran hC.2.2.1, CG.time hC.2.2.1, CG.uses hC.2.2.1, CG.live hC.2.2.1, rf_eq hA]
      refine Ev.kR ev ?_
      rw [if_pos h]
      have c := hC.1.ticks h.1 h.2
      try simp (disch := omega) only [d_9 hA, g_11_1 hA, g_8_8 hA, Option.bind_some, up_s, up_k, up_j, up_i, xk_add, xk_sub, xk_mul, xk_neg, lk_add, lN_z, rf_none, rb1, rb0, rbp, xk_nI, zk_eq, zk_lt, zk_eq0, zk_lt0, zk_0lt, zk_long, lz_lt, lz_gt, zmax, zmin, ↓reduceIte, Int.reduceEq, Int.reduceLT, Int.reduceNeg, Int.reduceAdd, Int.reduceSub, Int.reduceMul, Int.ofNat_eq_natCast, Int.cast_ofNat_Int, CT.space hC.1, CT.view hC.1, CT.parent hC.1, CT.group hC.1, CT.state hC.1, CT.pages hC.1, CT.points hC.1, CT.ticks hC.1, CT.asleep hC.1, CT.time hC.1, CP.outer hC.2.1, CP.depth hC.2.1, CP.init hC.2.1, CP.given hC.2.1, CG.outer hC.2.2.1, CG.depth hC.2.2.1, CG.max hC.2.2.1, CG.most hC.2.2.1, CG.weight hC.2.2.1, CG.quota hC.2.2.1, CG.cached hC.2.2.1, CG.ran hC.2.2.1, CG.time hC.2.2.1, CG.uses hC.2.2.1, CG.live hC.2.2.1, rf_eq hA]
      exact Ev.ite (fun q => absurd q (by omega)) (fun _ => Ev.ret rfl)
    · refine Ev.step (fun F => E12_ran F _ _ _) ?_
      simp (disch := omega) only [a_31 hA hR, d_12 hA hR, g_12_11 hA hR, p_12_0 hA hR, Option.bind_some, up_s, up_k, up_j, up_i, xk_add, xk_sub, xk_mul, xk_neg, lk_add, lN_z, rf_none, rb1, rb0, rbp, xk_nI, zk_eq, zk_lt, zk_eq0, zk_lt0, zk_0lt, zk_long, lz_lt, lz_gt, zmax, zmin, ↓reduceIte, Int.reduceEq, Int.reduceLT, Int.reduceNeg, Int.reduceAdd, Int.reduceSub, Int.reduceMul, Int.ofNat_eq_natCast, Int.cast_ofNat_Int]
      rw [show up I 12 0 0 0 = J from hJ]
      refine Ev.kB it (fun _ => ?_) (fun q => absurd h q)
      try simp (disch := omega) only [a_31 hA hR, d_12 hA hR, g_12_11 hA hR, p_12_0 hA hR, Option.bind_some, up_s, up_k, up_j, up_i, xk_add, xk_sub, xk_mul, xk_neg, lk_add, lN_z, rf_none, rb1, rb0, rbp, xk_nI, zk_eq, zk_lt, zk_eq0, zk_lt0, zk_0lt, zk_long, lz_lt, lz_gt, zmax, zmin, ↓reduceIte, Int.reduceEq, Int.reduceLT, Int.reduceNeg, Int.reduceAdd, Int.reduceSub, Int.reduceMul, Int.ofNat_eq_natCast, Int.cast_ofNat_Int]
      exact Ev.ret rfl
  · refine ⟨-1, ?_, ?_⟩
    · refine Ev.step (fun F => E11_ran F _ _ _) ?_
      simp (disch := omega) only [d_9 hA, g_11_1 hA, g_8_8 hA, Option.bind_some, up_s, up_k, up_j, up_i, xk_add, xk_sub, xk_mul, xk_neg, lk_add, lN_z, rf_none, rb1, rb0, rbp, xk_nI, zk_eq, zk_lt, zk_eq0, zk_lt0, zk_0lt, zk_long, lz_lt, lz_gt, zmax, zmin, ↓reduceIte, Int.reduceEq, Int.reduceLT, Int.reduceNeg, Int.reduceAdd, Int.reduceSub, Int.reduceMul, Int.ofNat_eq_natCast, Int.cast_ofNat_Int, CT.space hC.1, CT.view hC.1, CT.parent hC.1, CT.group hC.1, CT.state hC.1, CT.pages hC.1, CT.points hC.1, CT.ticks hC.1, CT.asleep hC.1, CT.time hC.1, CP.outer hC.2.1, CP.depth hC.2.1, CP.init hC.2.1, CP.given hC.2.1, CG.outer hC.2.2.1, CG.depth hC.2.2.1, CG.max hC.2.2.1, CG.most hC.2.2.1, CG.weight hC.2.2.1, CG.quota hC.2.2.1, CG.cached hC.2.2.1, CG.ran hC.2.2.1, CG.time hC.2.2.1, CG.uses hC.2.2.1, CG.live hC.2.2.1, rf_eq hA]
      refine Ev.kR ev ?_
      rw [if_neg h]
      try simp (disch := omega) only [d_9 hA, g_11_1 hA, g_8_8 hA, Option.bind_some, up_s, up_k, up_j, up_i, xk_add, xk_sub, xk_mul, xk_neg, lk_add, lN_z, rf_none, rb1, rb0, rbp, xk_nI, zk_eq, zk_lt, zk_eq0, zk_lt0, zk_0lt, zk_long, lz_lt, lz_gt, zmax, zmin, ↓reduceIte, Int.reduceEq, Int.reduceLT, Int.reduceNeg, Int.reduceAdd, Int.reduceSub, Int.reduceMul, Int.ofNat_eq_natCast, Int.cast_ofNat_Int, CT.space hC.1, CT.view hC.1, CT.parent hC.1, CT.group hC.1, CT.state hC.1, CT.pages hC.1, CT.points hC.1, CT.ticks hC.1, CT.asleep hC.1, CT.time hC.1, CP.outer hC.2.1, CP.depth hC.2.1, CP.init hC.2.1, CP.given hC.2.1, CG.outer hC.2.2.1, CG.depth hC.2.2.1, CG.max hC.2.2.1, CG.most hC.2.2.1, CG.weight hC.2.2.1, CG.quota hC.2.2.1, CG.cached hC.2.2.1, CG.ran hC.2.2.1, CG.time hC.2.2.1, CG.uses hC.2.2.1, CG.live hC.2.2.1, rf_eq hA]
      exact Ev.ret rfl
    · refine Ev.step (fun F => E12_ran F _ _ _) ?_
      simp (disch := omega) only [a_31 hA hR, d_12 hA hR, g_12_11 hA hR, p_12_0 hA hR, Option.bind_some, up_s, up_k, up_j, up_i, xk_add, xk_sub, xk_mul, xk_neg, lk_add, lN_z, rf_none, rb1, rb0, rbp, xk_nI, zk_eq, zk_lt, zk_eq0, zk_lt0, zk_0lt, zk_long, lz_lt, lz_gt, zmax, zmin, ↓reduceIte, Int.reduceEq, Int.reduceLT, Int.reduceNeg, Int.reduceAdd, Int.reduceSub, Int.reduceMul, Int.ofNat_eq_natCast, Int.cast_ofNat_Int]
      rw [show up I 12 0 0 0 = J from hJ]
      refine Ev.kB it (fun q => absurd q h) (fun _ => ?_)
      try simp (disch := omega) only [a_31 hA hR, d_12 hA hR, g_12_11 hA hR, p_12_0 hA hR, Option.bind_some, up_s, up_k, up_j, up_i, xk_add, xk_sub, xk_mul, xk_neg, lk_add, lN_z, rf_none, rb1, rb0, rbp, xk_nI, zk_eq, zk_lt, zk_eq0, zk_lt0, zk_0lt, zk_long, lz_lt, lz_gt, zmax, zmin, ↓reduceIte, Int.reduceEq, Int.reduceLT, Int.reduceNeg, Int.reduceAdd, Int.reduceSub, Int.reduceMul, Int.ofNat_eq_natCast, Int.cast_ofNat_Int]
      exact Ev.ret rfl
theorem spaceAt_ev (hA : WA e z) (hC : Cpl e C J) (hT : TI J) {s : Int} (t0 : -2147483648 ≤ s) (t1 : s < 2147483648) : Ev (fun F => J9_spaceAt F (rf e 9 0) (xk s) (HS e C I z)) (rR (rf e 7 (if 0 ≤ s ∧ s < (J 12 0 13) then s else -1)) (HS e C I z)) := by
  have n8 := hC.1.1
  have n7 := hC.2.1.1
  have n1 := hC.2.2.1.1
  have n10 := hC.2.2.2.2.1.1
  have hB := hT.1
  have := RB.tasks hB
  have := RB.spaces hB
  have := RB.groups hB
  have := RB.views hB
  have n4 := hA.2.2.2.1
  refine Ev.step (fun F => E9_spaceAt F _ _ _) ?_
  simp (disch := omega) only [b_14 hA, g_9_1 hA, g_9_3 hA, Option.bind_some, up_s, up_k, up_j, up_i, xk_add, xk_sub, xk_mul, xk_neg, lk_add, lN_z, rf_none, rb1, rb0, rbp, xk_nI, zk_eq, zk_lt, zk_eq0, zk_lt0, zk_0lt, zk_long, lz_lt, lz_gt, zmax, zmin, ↓reduceIte, Int.reduceEq, Int.reduceLT, Int.reduceNeg, Int.reduceAdd, Int.reduceSub, Int.reduceMul, Int.ofNat_eq_natCast, Int.cast_ofNat_Int, CT.space hC.1, CT.view hC.1, CT.parent hC.1, CT.group hC.1, CT.state hC.1, CT.pages hC.1, CT.points hC.1, CT.ticks hC.1, CT.asleep hC.1, CT.time hC.1, CP.outer hC.2.1, CP.depth hC.2.1, CP.init hC.2.1, CP.given hC.2.1, CG.outer hC.2.2.1, CG.depth hC.2.2.1, CG.max hC.2.2.1, CG.most hC.2.2.1, CG.weight hC.2.2.1, CG.quota hC.2.2.1, CG.cached hC.2.2.1, CG.ran hC.2.2.1, CG.time hC.2.2.1, CG.uses hC.2.2.1, CG.live hC.2.2.1, rf_eq hA]
  refine Ev.ite (fun h => Ev.ret (by rw [if_neg (by omega), rf_n (by omega)]; rfl)) (fun h => ?_)
  refine Ev.ite (fun h' => ?_) (fun h' => Ev.ret (by rw [if_neg (by omega), rf_n (by omega)]; rfl))
  refine Ev.ite (fun h'' => ?_) (fun h'' => absurd h'' (by omega))
  try simp (disch := omega) only [b_14 hA, g_9_1 hA, g_9_3 hA, Option.bind_some, up_s, up_k, up_j, up_i, xk_add, xk_sub, xk_mul, xk_neg, lk_add, lN_z, rf_none, rb1, rb0, rbp, xk_nI, zk_eq, zk_lt, zk_eq0, zk_lt0, zk_0lt, zk_long, lz_lt, lz_gt, zmax, zmin, ↓reduceIte, Int.reduceEq, Int.reduceLT, Int.reduceNeg, Int.reduceAdd, Int.reduceSub, Int.reduceMul, Int.ofNat_eq_natCast, Int.cast_ofNat_Int, CT.space hC.1, CT.view hC.1, CT.parent hC.1, CT.group hC.1, CT.state hC.1, CT.pages hC.1, CT.points hC.1, CT.ticks hC.1, CT.asleep hC.1, CT.time hC.1, CP.outer hC.2.1, CP.depth hC.2.1, CP.init hC.2.1, CP.given hC.2.1, CG.outer hC.2.2.1, CG.depth hC.2.2.1, CG.max hC.2.2.1, CG.most hC.2.2.1, CG.weight hC.2.2.1, CG.quota hC.2.2.1, CG.cached hC.2.2.1, CG.ran hC.2.2.1, CG.time hC.2.2.1, CG.uses hC.2.2.1, CG.live hC.2.2.1, rf_eq hA]
  exact Ev.ret (by rw [if_pos (by omega)]; rfl)
theorem numberOf_ev (hA : WA e z) (hC : Cpl e C J) (hT : TI J) {s t : Int} (s0 : 0 ≤ s) (s1 : s < (J 12 0 13)) (t0 : 0 ≤ t) (t1 : t < (J 12 0 1)) : Ev (fun F => J7_numberOf F (rf e 7 s) (rf e 8 t) (HS e C I z)) (rI (J 32 0 (20 * t + s)) (HS e C I z)) := by
  have n8 := hC.1.1
  have n7 := hC.2.1.1
  have n1 := hC.2.2.1.1
  have n10 := hC.2.2.2.2.1.1
  have hB := hT.1
  have := RB.tasks hB
  have := RB.spaces hB
  have := RB.groups hB
  have := RB.views hB
  have n4 := hA.2.2.2.1
  have nb := RB.numbers hB (j := 20 * t + s) (by omega) (by omega)
  have gone := (hT.2.2.2.2.2.2 t s t0 t1 s0 s1).1
  have hh := fun m a b => hC.2.1.hold (s := s) s0 s1 (n := m) a b
  refine Ev.step (fun F => E7_numberOf F _ _ _) ?_
  refine lpN (P := fun m => 1 ≤ m → m ≤ 41 → ((J 32 0 (20 * t + s)) = 0 ∨ m ≤ (J 32 0 (20 * t + s))) → Ev (fun F => J7_numberOf_2 F (rf e 7 s) (rf e 8 t) (xk m) (HS e C I z)) (rI (J 32 0 (20 * t + s)) (HS e C I z))) 41 (fun m ih m0 m1 hm => ?_) 1 (by omega) (by omega) (by omega)
  refine Ev.step (fun F => E7_numberOf_2 F _ _ _ _) ?_
  simp (disch := omega) only [a_15 hA, g_7_3 hA, Option.bind_some, up_s, up_k, up_j, up_i, xk_add, xk_sub, xk_mul, xk_neg, lk_add, lN_z, rf_none, rb1, rb0, rbp, xk_nI, zk_eq, zk_lt, zk_eq0, zk_lt0, zk_0lt, zk_long, lz_lt, lz_gt, zmax, zmin, ↓reduceIte, Int.reduceEq, Int.reduceLT, Int.reduceNeg, Int.reduceAdd, Int.reduceSub, Int.reduceMul, Int.ofNat_eq_natCast, Int.cast_ofNat_Int]
  refine Ev.ite (fun q => Ev.ret (by rw [show (J 32 0 (20 * t + s)) = 0 by omega]; rfl)) (fun q => ?_)
  have h1 := hh m m0 (by omega)
  have hb := h1.1
  have h2 := h1.2 t t0 t1
  try simp (disch := omega) only [a_15 hA, g_7_3 hA, Option.bind_some, up_s, up_k, up_j, up_i, xk_add, xk_sub, xk_mul, xk_neg, lk_add, lN_z, rf_none, rb1, rb0, rbp, xk_nI, zk_eq, zk_lt, zk_eq0, zk_lt0, zk_0lt, zk_long, lz_lt, lz_gt, zmax, zmin, ↓reduceIte, Int.reduceEq, Int.reduceLT, Int.reduceNeg, Int.reduceAdd, Int.reduceSub, Int.reduceMul, Int.ofNat_eq_natCast, Int.cast_ofNat_Int, rf_eq hA]
  refine Ev.ite (fun w => ?_) (fun w => ih (by omega) (by omega) (by omega) ?_)
  · have := h2.mpr w.symm
    exact Ev.ret (by rw [this.2]; rfl)
  · by_cases y : (J 32 0 (20 * t + s)) = m
    · exfalso
      have : (J 22 0 t) ≠ 2 := fun g => by have := gone g; omega
      exact w (h2.mp ⟨this, y⟩).symm
    · omega
theorem number_pr (hO : OK n e C I z) {t s : Int} (t0 : -2147483648 ≤ t) (t1 : t < 2147483648) (s0 : -2147483648 ≤ s) (s1 : s < 2147483648) : PR n e C I z (fun F σ => J11_number F (rf e 11 0) (xk t) (xk s) σ) (fun F σ => J12_number F (rf e 12 0) (xk t) (xk s) σ) ∨ PT n e C I z 50 1 (fun F σ => J11_number F (rf e 11 0) (xk t) (xk s) σ) (fun F σ => J12_number F (rf e 12 0) (xk t) (xk s) σ) := by
  obtain ⟨hA, hR, hC, hI⟩ := hO
  have hO : OK n e C I z := ⟨hA, hR, hC, hI⟩
  have hT := hI.ti
  have n8 := hC.1.1
  have n7 := hC.2.1.1
  have n1 := hC.2.2.1.1
  have n10 := hC.2.2.2.2.1.1
  have hB := hT.1
  have := RB.tasks hB
  have := RB.spaces hB
  have := RB.groups hB
  have := RB.views hB
  have n4 := hA.2.2.2.1
  have sp := spaceAt_ev (I := I) hA hC hT s0 s1
  have ev := everMade_ev (I := I) hA hC hT t0 t1
  by_cases h : 0 ≤ s ∧ s < (I 12 0 13)
  · left
    rw [if_pos h] at sp
    have it := isTask_ev (C := C) (I := th I 0) hA hR t0 t1 (by rw [th_f (Or.inr (by decide))]; omega) (by rw [th_f (Or.inr (by decide))]; omega)
    rw [th_f (Or.inr (by decide))] at it
    have e32 : ∀ j, th I 0 32 0 j = I 32 0 j := fun j => th_f (Or.inl (by decide))
    by_cases ht : 0 ≤ t ∧ t < (I 12 0 1)
    · rw [if_pos ht] at ev
      have nb := RB.numbers hB (j := 20 * t + s) (by omega) (by omega)
      refine PR.look hO (A := (I 32 0 (20 * t + s))) (by omega) (by omega) ?_ ?_
      · refine Ev.step (fun F => E11_number F _ _ _ _) ?_
        simp (disch := omega) only [d_7 hA, d_9 hA, g_11_1 hA, Option.bind_some, up_s, up_k, up_j, up_i, xk_add, xk_sub, xk_mul, xk_neg, lk_add, lN_z, rf_none, rb1, rb0, rbp, xk_nI, zk_eq, zk_lt, zk_eq0, zk_lt0, zk_0lt, zk_long, lz_lt, lz_gt, zmax, zmin, ↓reduceIte, Int.reduceEq, Int.reduceLT, Int.reduceNeg, Int.reduceAdd, Int.reduceSub, Int.reduceMul, Int.ofNat_eq_natCast, Int.cast_ofNat_Int]
        refine Ev.kR sp ?_
        try simp (disch := omega) only [d_7 hA, d_9 hA, g_11_1 hA, Option.bind_some, up_s, up_k, up_j, up_i, xk_add, xk_sub, xk_mul, xk_neg, lk_add, lN_z, rf_none, rb1, rb0, rbp, xk_nI, zk_eq, zk_lt, zk_eq0, zk_lt0, zk_0lt, zk_long, lz_lt, lz_gt, zmax, zmin, ↓reduceIte, Int.reduceEq, Int.reduceLT, Int.reduceNeg, Int.reduceAdd, Int.reduceSub, Int.reduceMul, Int.ofNat_eq_natCast, Int.cast_ofNat_Int]
        refine Ev.ite (fun q => absurd q (by omega)) (fun _ => ?_)
        refine Ev.kR ev ?_
        try simp (disch := omega) only [d_7 hA, d_9 hA, g_11_1 hA, Option.bind_some, up_s, up_k, up_j, up_i, xk_add, xk_sub, xk_mul, xk_neg, lk_add, lN_z, rf_none, rb1, rb0, rbp, xk_nI, zk_eq, zk_lt, zk_eq0, zk_lt0, zk_0lt, zk_long, lz_lt, lz_gt, zmax, zmin, ↓reduceIte, Int.reduceEq, Int.reduceLT, Int.reduceNeg, Int.reduceAdd, Int.reduceSub, Int.reduceMul, Int.ofNat_eq_natCast, Int.cast_ofNat_Int]
        refine Ev.ite (fun q => absurd q (by omega)) (fun _ => ?_)
        exact Ev.kI (numberOf_ev hA hC hT h.1 h.2 ht.1 ht.2) (Ev.ret rfl)
      · refine Ev.step (fun F => E12_number F _ _ _ _) ?_
        simp (disch := omega) only [a_32 hA hR, d_12 hA hR, g_12_0 hA hR, g_12_12 hA hR, g_12_13 hA hR, p_12_0 hA hR, Option.bind_some, up_s, up_k, up_j, up_i, xk_add, xk_sub, xk_mul, xk_neg, lk_add, lN_z, rf_none, rb1, rb0, rbp, xk_nI, zk_eq, zk_lt, zk_eq0, zk_lt0, zk_0lt, zk_long, lz_lt, lz_gt, zmax, zmin, ↓reduceIte, Int.reduceEq, Int.reduceLT, Int.reduceNeg, Int.reduceAdd, Int.reduceSub, Int.reduceMul, Int.ofNat_eq_natCast, Int.cast_ofNat_Int]
        refine Ev.kB (in_ev ⟨by omega, by omega⟩ ⟨by decide, by decide⟩ ⟨by omega, by omega⟩) (fun _ => ?_) (fun q => absurd q (by omega))
        try simp (disch := omega) only [a_32 hA hR, d_12 hA hR, g_12_0 hA hR, g_12_12 hA hR, g_12_13 hA hR, p_12_0 hA hR, Option.bind_some, up_s, up_k, up_j, up_i, xk_add, xk_sub, xk_mul, xk_neg, lk_add, lN_z, rf_none, rb1, rb0, rbp, xk_nI, zk_eq, zk_lt, zk_eq0, zk_lt0, zk_0lt, zk_long, lz_lt, lz_gt, zmax, zmin, ↓reduceIte, Int.reduceEq, Int.reduceLT, Int.reduceNeg, Int.reduceAdd, Int.reduceSub, Int.reduceMul, Int.ofNat_eq_natCast, Int.cast_ofNat_Int]
        refine Ev.kB it (fun _ => ?_) (fun q => absurd ht q)
        have e32' : ∀ j, up I 12 0 0 0 32 0 j = I 32 0 j := e32
        try simp (disch := omega) only [a_32 hA hR, d_12 hA hR, g_12_0 hA hR, g_12_12 hA hR, g_12_13 hA hR, p_12_0 hA hR, Option.bind_some, up_s, up_k, up_j, up_i, xk_add, xk_sub, xk_mul, xk_neg, lk_add, lN_z, rf_none, rb1, rb0, rbp, xk_nI, zk_eq, zk_lt, zk_eq0, zk_lt0, zk_0lt, zk_long, lz_lt, lz_gt, zmax, zmin, ↓reduceIte, Int.reduceEq, Int.reduceLT, Int.reduceNeg, Int.reduceAdd, Int.reduceSub, Int.reduceMul, Int.ofNat_eq_natCast, Int.cast_ofNat_Int, e32']
        exact Ev.ret rfl
    · rw [if_neg ht] at ev
      refine PR.look hO (A := -1) (by decide) (by decide) ?_ ?_
      · refine Ev.step (fun F => E11_number F _ _ _ _) ?_
        simp (disch := omega) only [d_7 hA, d_9 hA, g_11_1 hA, Option.bind_some, up_s, up_k, up_j, up_i, xk_add, xk_sub, xk_mul, xk_neg, lk_add, lN_z, rf_none, rb1, rb0, rbp, xk_nI, zk_eq, zk_lt, zk_eq0, zk_lt0, zk_0lt, zk_long, lz_lt, lz_gt, zmax, zmin, ↓reduceIte, Int.reduceEq, Int.reduceLT, Int.reduceNeg, Int.reduceAdd, Int.reduceSub, Int.reduceMul, Int.ofNat_eq_natCast, Int.cast_ofNat_Int]
        refine Ev.kR sp ?_
        try simp (disch := omega) only [d_7 hA, d_9 hA, g_11_1 hA, Option.bind_some, up_s, up_k, up_j, up_i, xk_add, xk_sub, xk_mul, xk_neg, lk_add, lN_z, rf_none, rb1, rb0, rbp, xk_nI, zk_eq, zk_lt, zk_eq0, zk_lt0, zk_0lt, zk_long, lz_lt, lz_gt, zmax, zmin, ↓reduceIte, Int.reduceEq, Int.reduceLT, Int.reduceNeg, Int.reduceAdd, Int.reduceSub, Int.reduceMul, Int.ofNat_eq_natCast, Int.cast_ofNat_Int]
        refine Ev.ite (fun q => absurd q (by omega)) (fun _ => ?_)
        refine Ev.kR ev ?_
        try simp (disch := omega) only [d_7 hA, d_9 hA, g_11_1 hA, Option.bind_some, up_s, up_k, up_j, up_i, xk_add, xk_sub, xk_mul, xk_neg, lk_add, lN_z, rf_none, rb1, rb0, rbp, xk_nI, zk_eq, zk_lt, zk_eq0, zk_lt0, zk_0lt, zk_long, lz_lt, lz_gt, zmax, zmin, ↓reduceIte, Int.reduceEq, Int.reduceLT, Int.reduceNeg, Int.reduceAdd, Int.reduceSub, Int.reduceMul, Int.ofNat_eq_natCast, Int.cast_ofNat_Int]
        exact Ev.ret rfl
      · refine Ev.step (fun F => E12_number F _ _ _ _) ?_
        simp (disch := omega) only [a_32 hA hR, d_12 hA hR, g_12_0 hA hR, g_12_12 hA hR, g_12_13 hA hR, p_12_0 hA hR, Option.bind_some, up_s, up_k, up_j, up_i, xk_add, xk_sub, xk_mul, xk_neg, lk_add, lN_z, rf_none, rb1, rb0, rbp, xk_nI, zk_eq, zk_lt, zk_eq0, zk_lt0, zk_0lt, zk_long, lz_lt, lz_gt, zmax, zmin, ↓reduceIte, Int.reduceEq, Int.reduceLT, Int.reduceNeg, Int.reduceAdd, Int.reduceSub, Int.reduceMul, Int.ofNat_eq_natCast, Int.cast_ofNat_Int]
        refine Ev.kB (in_ev ⟨by omega, by omega⟩ ⟨by decide, by decide⟩ ⟨by omega, by omega⟩) (fun _ => ?_) (fun q => absurd q (by omega))
        try simp (disch := omega) only [a_32 hA hR, d_12 hA hR, g_12_0 hA hR, g_12_12 hA hR, g_12_13 hA hR, p_12_0 hA hR, Option.bind_some, up_s, up_k, up_j, up_i, xk_add, xk_sub, xk_mul, xk_neg, lk_add, lN_z, rf_none, rb1, rb0, rbp, xk_nI, zk_eq, zk_lt, zk_eq0, zk_lt0, zk_0lt, zk_long, lz_lt, lz_gt, zmax, zmin, ↓reduceIte, Int.reduceEq, Int.reduceLT, Int.reduceNeg, Int.reduceAdd, Int.reduceSub, Int.reduceMul, Int.ofNat_eq_natCast, Int.cast_ofNat_Int]
        refine Ev.kB it (fun q => absurd q ht) (fun _ => ?_)
        try simp (disch := omega) only [a_32 hA hR, d_12 hA hR, g_12_0 hA hR, g_12_12 hA hR, g_12_13 hA hR, p_12_0 hA hR, Option.bind_some, up_s, up_k, up_j, up_i, xk_add, xk_sub, xk_mul, xk_neg, lk_add, lN_z, rf_none, rb1, rb0, rbp, xk_nI, zk_eq, zk_lt, zk_eq0, zk_lt0, zk_0lt, zk_long, lz_lt, lz_gt, zmax, zmin, ↓reduceIte, Int.reduceEq, Int.reduceLT, Int.reduceNeg, Int.reduceAdd, Int.reduceSub, Int.reduceMul, Int.ofNat_eq_natCast, Int.cast_ofNat_Int]
        exact Ev.ret rfl
  · right
    rw [if_neg h] at sp
    refine ⟨⟨z.1, ?_⟩, 0, ?_⟩
    · refine Ev.step (fun F => E11_number F _ _ _ _) ?_
      simp (disch := omega) only [d_7 hA, d_9 hA, g_11_1 hA, Option.bind_some, up_s, up_k, up_j, up_i, xk_add, xk_sub, xk_mul, xk_neg, lk_add, lN_z, rf_none, rb1, rb0, rbp, xk_nI, zk_eq, zk_lt, zk_eq0, zk_lt0, zk_0lt, zk_long, lz_lt, lz_gt, zmax, zmin, ↓reduceIte, Int.reduceEq, Int.reduceLT, Int.reduceNeg, Int.reduceAdd, Int.reduceSub, Int.reduceMul, Int.ofNat_eq_natCast, Int.cast_ofNat_Int, thr_HS]
      refine Ev.kR sp ?_
      try simp (disch := omega) only [d_7 hA, d_9 hA, g_11_1 hA, Option.bind_some, up_s, up_k, up_j, up_i, xk_add, xk_sub, xk_mul, xk_neg, lk_add, lN_z, rf_none, rb1, rb0, rbp, xk_nI, zk_eq, zk_lt, zk_eq0, zk_lt0, zk_0lt, zk_long, lz_lt, lz_gt, zmax, zmin, ↓reduceIte, Int.reduceEq, Int.reduceLT, Int.reduceNeg, Int.reduceAdd, Int.reduceSub, Int.reduceMul, Int.ofNat_eq_natCast, Int.cast_ofNat_Int, thr_HS]
      exact Ev.ret rfl
    · have hA' := hA.thr
      simp only []
      refine Ev.step (fun F => E12_number F _ _ _ _) ?_
      simp (disch := omega) only [g_12_13 hA' hR, Option.bind_some, up_s, up_k, up_j, up_i, xk_add, xk_sub, xk_mul, xk_neg, lk_add, lN_z, rf_none, rb1, rb0, rbp, xk_nI, zk_eq, zk_lt, zk_eq0, zk_lt0, zk_0lt, zk_long, lz_lt, lz_gt, zmax, zmin, ↓reduceIte, Int.reduceEq, Int.reduceLT, Int.reduceNeg, Int.reduceAdd, Int.reduceSub, Int.reduceMul, Int.ofNat_eq_natCast, Int.cast_ofNat_Int]
      refine Ev.kB (in_ev ⟨by omega, by omega⟩ ⟨by decide, by decide⟩ ⟨by omega, by omega⟩) (fun q => absurd q (by omega)) (fun _ => ?_)
      simp (disch := omega) only [g_12_0 hA' hR, p_12_0 hA' hR, Option.bind_some, up_s, up_k, up_j, up_i, xk_add, xk_sub, xk_mul, xk_neg, lk_add, lN_z, rf_none, rb1, rb0, rbp, xk_nI, zk_eq, zk_lt, zk_eq0, zk_lt0, zk_0lt, zk_long, lz_lt, lz_gt, zmax, zmin, ↓reduceIte, Int.reduceEq, Int.reduceLT, Int.reduceNeg, Int.reduceAdd, Int.reduceSub, Int.reduceMul, Int.ofNat_eq_natCast, Int.cast_ofNat_Int]
      exact Ev.ret rfl
end OPs
