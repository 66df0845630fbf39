/-! the class: makeRoom -/
section CL
variable {e : EN} {C I J : ST} {z : Nat × Nat × Nat × Nat}
theorem takeCaches_ev (hA : WA e z) {g n : Int} (nb0 : 0 ≤ n) (nb1 : n ≤ 1000000) : ∀ (m : Nat) (i : Int) (C J : ST), TI J → GU J → Cpl e C J → 0 ≤ g → g < (J 12 0 17) → i + m = 20 → 0 ≤ i → ∃ C', Ev (fun F => J3_takeCaches_2 F (rf e 3 0) (rf e 1 g) (xk n) (xk i) (HS e C I z)) (rV (HS e C' I z)) ∧ Cpl e C' (tcF g m J (usF J g + n - (J 40 0 g))) := by
  intro m
  induction m with
  | zero =>
    intro i C J hT hU hC g0 g1 hi i0
    refine ⟨C, ?_, hC⟩
    refine Ev.step (fun F => E3_takeCaches_2 F _ _ _ _ _) ?_
    simp (disch := omega) only [d_1 hA, d_2 hA, g_1_9 hA, g_3_1 hA, Option.bind_some, up_s, up_k, up_j, up_i, xk_add, xk_sub, xk_mul, xk_neg, lk_add, lN_z, rf_none, rb1, rb0, rbp, xk_nI, zk_eq, zk_lt, zk_eq0, zk_lt0, zk_0lt, zk_long, lz_lt, lz_gt, zmax, zmin, ↓reduceIte, Int.reduceEq, Int.reduceLT, Int.reduceNeg, Int.reduceAdd, Int.reduceSub, Int.reduceMul, Int.ofNat_eq_natCast, Int.cast_ofNat_Int]
    exact Ev.ite (fun q => absurd q (by omega)) (fun _ => Ev.ret rfl)
  | succ m ih =>
    intro i C J hT hU hC g0 g1 hi i0
    have n8 := hC.1.1
    have n7 := hC.2.1.1
    have n1 := hC.2.2.1.1
    have n10 := hC.2.2.2.2.1.1
    have hB := hT.1
    have := RB.tasks hB
    have := RB.spaces hB
    have := RB.groups hB
    have := RB.views hB
    have n4 := hA.2.2.2.1
    have u0 := usF_n hB (g := g)
    have u1 := hU g g0 g1
    have := RB.max hB (j := g) (by omega) (by omega)
    have hl := lacking_ev (I := I) hA hC hT (n := n) g0 g1
    rw [tcF]
    by_cases h : 0 < usF J g + n - (J 40 0 g)
    · rw [if_pos h]
      have rb := rcF_b hB (g := g)
      by_cases hr : rcF J g < 0
      · rw [if_pos hr]
        refine ⟨C, ?_, hC⟩
        refine Ev.step (fun F => E3_takeCaches_2 F _ _ _ _ _) ?_
        simp (disch := omega) only [d_1 hA, d_2 hA, g_1_9 hA, g_3_1 hA, Option.bind_some, up_s, up_k, up_j, up_i, xk_add, xk_sub, xk_mul, xk_neg, lk_add, lN_z, rf_none, rb1, rb0, rbp, xk_nI, zk_eq, zk_lt, zk_eq0, zk_lt0, zk_0lt, zk_long, lz_lt, lz_gt, zmax, zmin, ↓reduceIte, Int.reduceEq, Int.reduceLT, Int.reduceNeg, Int.reduceAdd, Int.reduceSub, Int.reduceMul, Int.ofNat_eq_natCast, Int.cast_ofNat_Int]
        refine Ev.ite (fun _ => ?_) (fun q => absurd q (by omega))
        refine Ev.kI hl ?_
        try simp (disch := omega) only [d_1 hA, d_2 hA, g_1_9 hA, g_3_1 hA, Option.bind_some, up_s, up_k, up_j, up_i, xk_add, xk_sub, xk_mul, xk_neg, lk_add, lN_z, rf_none, rb1, rb0, rbp, xk_nI, zk_eq, zk_lt, zk_eq0, zk_lt0, zk_0lt, zk_long, lz_lt, lz_gt, zmax, zmin, ↓reduceIte, Int.reduceEq, Int.reduceLT, Int.reduceNeg, Int.reduceAdd, Int.reduceSub, Int.reduceMul, Int.ofNat_eq_natCast, Int.cast_ofNat_Int]
        refine Ev.ite (fun _ => ?_) (fun q => absurd h (by omega))
        refine Ev.kR (richest_cl hA hC hT g0 g1) ?_
        try simp (disch := omega) only [d_1 hA, d_2 hA, g_1_9 hA, g_3_1 hA, Option.bind_some, up_s, up_k, up_j, up_i, xk_add, xk_sub, xk_mul, xk_neg, lk_add, lN_z, rf_none, rb1, rb0, rbp, xk_nI, zk_eq, zk_lt, zk_eq0, zk_lt0, zk_0lt, zk_long, lz_lt, lz_gt, zmax, zmin, ↓reduceIte, Int.reduceEq, Int.reduceLT, Int.reduceNeg, Int.reduceAdd, Int.reduceSub, Int.reduceMul, Int.ofNat_eq_natCast, Int.cast_ofNat_Int]
        exact Ev.ite (fun _ => Ev.ret rfl) (fun q => absurd hr q)
      · rw [if_neg hr]
        have rp := rcF_p hB (g := g) (by omega)
        have := RB.cached hB (j := (rcF J g)) (by omega) (by omega)
        have hk := keepCached_ev (I := I) hA hC hT (b := rcF J g) (n := -(min (J 43 0 (rcF J g)) (usF J g + n - (J 40 0 g)))) (by omega) rb.2
        have hC' := hC.ca (b := rcF J g) (n := -(min (J 43 0 (rcF J g)) (usF J g + n - (J 40 0 g)))) (by omega) rb.2
        have us := usF_ca (J := J) (b := rcF J g) (n := -(min (J 43 0 (rcF J g)) (usF J g + n - (J 40 0 g)))) (g := g) (by omega) rb.2
        rw [if_pos rp.1] at us
        rw [show (J 43 0 (rcF J g)) - min (J 43 0 (rcF J g)) (usF J g + n - (J 40 0 g)) = (J 43 0 (rcF J g)) + -(min (J 43 0 (rcF J g)) (usF J g + n - (J 40 0 g))) from Int.sub_eq_add_neg]
        have hB' : RB (up J 43 0 (rcF J g) ((J 43 0 (rcF J g)) + -(min (J 43 0 (rcF J g)) (usF J g + n - (J 40 0 g))))) := RB.u_cached hB (by omega) (by omega)
        have hT' : TI (up J 43 0 (rcF J g) ((J 43 0 (rcF J g)) + -(min (J 43 0 (rcF J g)) (usF J g + n - (J 40 0 g))))) := hT.pg hB' (fun k i j a b c => by rw [up_k b])
        have le : LE J (up J 43 0 (rcF J g) ((J 43 0 (rcF J g)) + -(min (J 43 0 (rcF J g)) (usF J g + n - (J 40 0 g))))) := by
          refine ⟨fun k i j a b c d e f => up_k e, fun j q => ?_, fun j a b => ?_, fun j a b => ?_⟩
          · rwa [up_k (by decide)] at q
          · rw [up_k (by decide)]; exact Int.le_refl _
          · by_cases hj : j = rcF J g
            · rw [hj, up_s]; omega
            · rw [up_j hj]; exact Int.le_refl _
        obtain ⟨C2, hE, hC2⟩ := ih (i + 1) _ _ hT' (le.gu hB hU) hC' g0 (by rw [up_k (by decide)]; exact g1) (by omega) (by omega)
        rw [us, up_k (k' := 40) (by decide), show usF J g + -(min (J 43 0 (rcF J g)) (usF J g + n - (J 40 0 g))) + n - (J 40 0 g) = usF J g + n - (J 40 0 g) - min (J 43 0 (rcF J g)) (usF J g + n - (J 40 0 g)) by omega] at hC2
        refine ⟨C2, ?_, hC2⟩
        refine Ev.step (fun F => E3_takeCaches_2 F _ _ _ _ _) ?_
        simp (disch := omega) only [d_1 hA, d_2 hA, g_1_9 hA, g_3_1 hA, Option.bind_some, up_s, up_k, up_j, up_i, xk_add, xk_sub, xk_mul, xk_neg, lk_add, lN_z, rf_none, rb1, rb0, rbp, xk_nI, zk_eq, zk_lt, zk_eq0, zk_lt0, zk_0lt, zk_long, lz_lt, lz_gt, zmax, zmin, ↓reduceIte, Int.reduceEq, Int.reduceLT, Int.reduceNeg, Int.reduceAdd, Int.reduceSub, Int.reduceMul, Int.ofNat_eq_natCast, Int.cast_ofNat_Int]
        refine Ev.ite (fun _ => ?_) (fun q => absurd q (by omega))
        refine Ev.kI hl ?_
        try simp (disch := omega) only [d_1 hA, d_2 hA, g_1_9 hA, g_3_1 hA, Option.bind_some, up_s, up_k, up_j, up_i, xk_add, xk_sub, xk_mul, xk_neg, lk_add, lN_z, rf_none, rb1, rb0, rbp, xk_nI, zk_eq, zk_lt, zk_eq0, zk_lt0, zk_0lt, zk_long, lz_lt, lz_gt, zmax, zmin, ↓reduceIte, Int.reduceEq, Int.reduceLT, Int.reduceNeg, Int.reduceAdd, Int.reduceSub, Int.reduceMul, Int.ofNat_eq_natCast, Int.cast_ofNat_Int]
        refine Ev.ite (fun _ => ?_) (fun q => absurd h (by omega))
        refine Ev.kR (richest_cl hA hC hT g0 g1) ?_
        try simp (disch := omega) only [d_1 hA, d_2 hA, g_1_9 hA, g_3_1 hA, Option.bind_some, up_s, up_k, up_j, up_i, xk_add, xk_sub, xk_mul, xk_neg, lk_add, lN_z, rf_none, rb1, rb0, rbp, xk_nI, zk_eq, zk_lt, zk_eq0, zk_lt0, zk_0lt, zk_long, lz_lt, lz_gt, zmax, zmin, ↓reduceIte, Int.reduceEq, Int.reduceLT, Int.reduceNeg, Int.reduceAdd, Int.reduceSub, Int.reduceMul, Int.ofNat_eq_natCast, Int.cast_ofNat_Int, CT.space hC.1, CT.view hC.1, CT.parent hC.1, CT.group hC.1, CT.state hC.1, CT.pages hC.1, CT.points hC.1, CT.ticks hC.1, CT.asleep hC.1, CT.time hC.1, CP.outer hC.2.1, CP.depth hC.2.1, CP.init hC.2.1, CP.given hC.2.1, CG.outer hC.2.2.1, CG.depth hC.2.2.1, CG.max hC.2.2.1, CG.most hC.2.2.1, CG.weight hC.2.2.1, CG.quota hC.2.2.1, CG.cached hC.2.2.1, CG.ran hC.2.2.1, CG.time hC.2.2.1, CG.uses hC.2.2.1, CG.live hC.2.2.1, rf_eq hA]
        refine Ev.ite (fun q => absurd q hr) (fun _ => ?_)
        refine Ev.kI hl ?_
        try simp (disch := omega) only [d_1 hA, d_2 hA, g_1_9 hA, g_3_1 hA, Option.bind_some, up_s, up_k, up_j, up_i, xk_add, xk_sub, xk_mul, xk_neg, lk_add, lN_z, rf_none, rb1, rb0, rbp, xk_nI, zk_eq, zk_lt, zk_eq0, zk_lt0, zk_0lt, zk_long, lz_lt, lz_gt, zmax, zmin, ↓reduceIte, Int.reduceEq, Int.reduceLT, Int.reduceNeg, Int.reduceAdd, Int.reduceSub, Int.reduceMul, Int.ofNat_eq_natCast, Int.cast_ofNat_Int, CT.space hC.1, CT.view hC.1, CT.parent hC.1, CT.group hC.1, CT.state hC.1, CT.pages hC.1, CT.points hC.1, CT.ticks hC.1, CT.asleep hC.1, CT.time hC.1, CP.outer hC.2.1, CP.depth hC.2.1, CP.init hC.2.1, CP.given hC.2.1, CG.outer hC.2.2.1, CG.depth hC.2.2.1, CG.max hC.2.2.1, CG.most hC.2.2.1, CG.weight hC.2.2.1, CG.quota hC.2.2.1, CG.cached hC.2.2.1, CG.ran hC.2.2.1, CG.time hC.2.2.1, CG.uses hC.2.2.1, CG.live hC.2.2.1, rf_eq hA]
        exact Ev.kV hk hE
    · rw [if_neg h]
      refine ⟨C, ?_, hC⟩
      refine Ev.step (fun F => E3_takeCaches_2 F _ _ _ _ _) ?_
      simp (disch := omega) only [d_1 hA, d_2 hA, g_1_9 hA, g_3_1 hA, Option.bind_some, up_s, up_k, up_j, up_i, xk_add, xk_sub, xk_mul, xk_neg, lk_add, lN_z, rf_none, rb1, rb0, rbp, xk_nI, zk_eq, zk_lt, zk_eq0, zk_lt0, zk_0lt, zk_long, lz_lt, lz_gt, zmax, zmin, ↓reduceIte, Int.reduceEq, Int.reduceLT, Int.reduceNeg, Int.reduceAdd, Int.reduceSub, Int.reduceMul, Int.ofNat_eq_natCast, Int.cast_ofNat_Int]
      refine Ev.ite (fun _ => ?_) (fun q => absurd q (by omega))
      refine Ev.kI hl ?_
      try simp (disch := omega) only [d_1 hA, d_2 hA, g_1_9 hA, g_3_1 hA, Option.bind_some, up_s, up_k, up_j, up_i, xk_add, xk_sub, xk_mul, xk_neg, lk_add, lN_z, rf_none, rb1, rb0, rbp, xk_nI, zk_eq, zk_lt, zk_eq0, zk_lt0, zk_0lt, zk_long, lz_lt, lz_gt, zmax, zmin, ↓reduceIte, Int.reduceEq, Int.reduceLT, Int.reduceNeg, Int.reduceAdd, Int.reduceSub, Int.reduceMul, Int.ofNat_eq_natCast, Int.cast_ofNat_Int]
      exact Ev.ite (fun q => absurd q h) (fun _ => Ev.ret rfl)
theorem Cpl.vi (hC : Cpl e C J) : Cpl e (up C 3 0 2 ((J 12 0 27) + 1)) (up J 12 0 27 ((J 12 0 27) + 1)) := by
  obtain ⟨h1, h2, h3, h4, h5, h6⟩ := hC
  have f0 : ∀ k i j, k ≠ 3 → up C 3 0 2 ((J 12 0 27) + 1) k i j = C k i j := fun k i j a => up_k a
  have ej : ∀ k i j, k ≠ 12 → up J 12 0 27 ((J 12 0 27) + 1) k i j = J k i j := fun k i j a => up_k a
  have e12 : ∀ j, j ≠ 27 → up J 12 0 27 ((J 12 0 27) + 1) 12 0 j = J 12 0 j := fun j a => up_j a
  refine ⟨h1.fr (fun i j => f0 _ _ _ (by decide)) (e12 _ (by decide)) (fun k j a b => ej _ _ _ (by omega)), h2.fr (fun i j => f0 _ _ _ (by decide)) (fun i j => f0 _ _ _ (by decide)) (e12 _ (by decide)) (fun j => ej _ _ _ (by decide)) (fun j => ej _ _ _ (by decide)) (fun j => ej _ _ _ (by decide)) (HoR_c (e12 _ (by decide)) (fun j => by rw [ej _ _ _ (by decide)]) (fun j => ej _ _ _ (by decide))), h3.fr (fun i j _ => f0 _ _ _ (by decide)) (e12 _ (by decide)) (fun k j a b => ej _ _ _ (by omega)) (usF_c (e12 _ (by decide)) (e12 _ (by decide)) (fun j => by rw [ej _ _ _ (by decide)]) (fun j => ej _ _ _ (by decide)) (fun j => ej _ _ _ (by decide)) (fun j => ej _ _ _ (by decide)) (fun j => ej _ _ _ (by decide))) (lvF_c (e12 _ (by decide)) (fun j => by rw [ej _ _ _ (by decide)]) (fun j => ej _ _ _ (by decide)) (fun j => ej _ _ _ (by decide))), h4.fr (fun g => f0 _ _ _ (by decide)) (fun g => f0 _ _ _ (by decide)) (e12 _ (by decide)) (e12 _ (by decide)), h5.fr (fun k i j h => f0 _ _ _ (by omega)) (fun k i j a b => ej _ _ _ (by omega)) (e12 _ (by decide)) (e12 _ (by decide)), ?_⟩
  obtain ⟨a, b, c⟩ := h6
  refine ⟨?_, ?_, ?_⟩
  · rw [f0 _ _ _ (by decide), e12 _ (by decide)]; exact a
  · rw [up_s, up_s]
  · simp (disch := decide) only [f0]; exact c
theorem killVictims_ev (hA : WA e z) {t g n : Int} (nb0 : 0 ≤ n) (nb1 : n ≤ 1000000) (t0 : 0 ≤ t) (g0 : 0 ≤ g) : ∀ (m : Nat) (i : Int) (C J : ST), TI J → TG J → GU J → Cpl e C J → g < (J 12 0 17) → t < (J 12 0 1) → i + m = 150 → 0 ≤ i → ∃ C', Ev (fun F => J3_killVictims_3 F (rf e 3 0) (rf e 1 g) (rf e 8 t) (xk n) (xk i) (HS e C I z)) (rI (kvF t g n m J).1 (HS e C' I z)) ∧ Cpl e C' (kvF t g n m J).2 ∧ TG (kvF t g n m J).2 := by
  intro m
  induction m with
  | zero =>
    intro i C J hT hG hU hC g1 t1 hi i0
    refine ⟨C, ?_, hC, hG⟩
    refine Ev.step (fun F => E3_killVictims_3 F _ _ _ _ _ _) ?_
    simp (disch := omega) only [d_1 hA, d_9 hA, g_3_0 hA, g_3_2 hA, g_8_5 hA, p_3_2 hA, Option.bind_some, up_s, up_k, up_j, up_i, xk_add, xk_sub, xk_mul, xk_neg, lk_add, lN_z, rf_none, rb1, rb0, rbp, xk_nI, zk_eq, zk_lt, zk_eq0, zk_lt0, zk_0lt, zk_long, lz_lt, lz_gt, zmax, zmin, ↓reduceIte, Int.reduceEq, Int.reduceLT, Int.reduceNeg, Int.reduceAdd, Int.reduceSub, Int.reduceMul, Int.ofNat_eq_natCast, Int.cast_ofNat_Int]
    exact Ev.ite (fun q => absurd q (by omega)) (fun _ => Ev.ret rfl)
  | succ m ih =>
    intro i C J hT hG hU hC g1 t1 hi i0
    have n8 := hC.1.1
    have n7 := hC.2.1.1
    have n1 := hC.2.2.1.1
    have n10 := hC.2.2.2.2.1.1
    have hB := hT.1
    have := RB.tasks hB
    have := RB.spaces hB
    have := RB.groups hB
    have := RB.views hB
    have n4 := hA.2.2.2.1
    have u0 := usF_n hB (g := g)
    have u1 := hU g g0 g1
    have := RB.max hB (j := g) (by omega) (by omega)
    have hl := lacking_ev (I := I) hA hC hT (n := n) g0 g1
    rw [kvF]
    by_cases h : (J 40 0 g) < usF J g + n
    · rw [if_pos h]
      have vb := viF_b hB (g := g)
      by_cases hr : viF J g < 0
      · rw [if_pos hr]
        refine ⟨C, ?_, hC, hG⟩
        refine Ev.step (fun F => E3_killVictims_3 F _ _ _ _ _ _) ?_
        simp (disch := omega) only [d_1 hA, d_9 hA, g_3_0 hA, g_3_2 hA, g_8_5 hA, p_3_2 hA, Option.bind_some, up_s, up_k, up_j, up_i, xk_add, xk_sub, xk_mul, xk_neg, lk_add, lN_z, rf_none, rb1, rb0, rbp, xk_nI, zk_eq, zk_lt, zk_eq0, zk_lt0, zk_0lt, zk_long, lz_lt, lz_gt, zmax, zmin, ↓reduceIte, Int.reduceEq, Int.reduceLT, Int.reduceNeg, Int.reduceAdd, Int.reduceSub, Int.reduceMul, Int.ofNat_eq_natCast, Int.cast_ofNat_Int]
        refine Ev.ite (fun _ => ?_) (fun q => absurd q (by omega))
        refine Ev.kI hl ?_
        try simp (disch := omega) only [d_1 hA, d_9 hA, g_3_0 hA, g_3_2 hA, g_8_5 hA, p_3_2 hA, Option.bind_some, up_s, up_k, up_j, up_i, xk_add, xk_sub, xk_mul, xk_neg, lk_add, lN_z, rf_none, rb1, rb0, rbp, xk_nI, zk_eq, zk_lt, zk_eq0, zk_lt0, zk_0lt, zk_long, lz_lt, lz_gt, zmax, zmin, ↓reduceIte, Int.reduceEq, Int.reduceLT, Int.reduceNeg, Int.reduceAdd, Int.reduceSub, Int.reduceMul, Int.ofNat_eq_natCast, Int.cast_ofNat_Int]
        refine Ev.ite (fun _ => ?_) (fun q => absurd h (by omega))
        refine Ev.kR (victim_cl hA hC hT g0 g1) ?_
        try simp (disch := omega) only [d_1 hA, d_9 hA, g_3_0 hA, g_3_2 hA, g_8_5 hA, p_3_2 hA, Option.bind_some, up_s, up_k, up_j, up_i, xk_add, xk_sub, xk_mul, xk_neg, lk_add, lN_z, rf_none, rb1, rb0, rbp, xk_nI, zk_eq, zk_lt, zk_eq0, zk_lt0, zk_0lt, zk_long, lz_lt, lz_gt, zmax, zmin, ↓reduceIte, Int.reduceEq, Int.reduceLT, Int.reduceNeg, Int.reduceAdd, Int.reduceSub, Int.reduceMul, Int.ofNat_eq_natCast, Int.cast_ofNat_Int]
        exact Ev.ite (fun _ => Ev.ret rfl) (fun q => absurd hr q)
      · rw [if_neg hr]
        have vp := viF_p hB (g := g) (by omega)
        have hC1 := hC.vi
        have hT1 := hT.vi (v := (J 12 0 27) + 1)
        have hG1 : TG (up J 12 0 27 ((J 12 0 27) + 1)) := hG.c (up_j (by decide)) (fun j => up_k (by decide)) (fun j => up_k (by decide))
        have e1 : up J 12 0 27 ((J 12 0 27) + 1) 12 0 1 = (J 12 0 1) := up_j (by decide)
        have e2 : up J 12 0 27 ((J 12 0 27) + 1) 22 0 (viF J g) = (J 22 0 (viF J g)) := up_k (by decide)
        obtain ⟨C2, hE2, hC2⟩ := cend_ev (I := I) hA hT1 hG1 hC1 (t := viF J g) (by omega) (by omega) (by omega)
        have iv := vi_inv (v := (J 12 0 27) + 1) hT hr
        have hG2 := hG1.lv (t := viF J g) (by omega)
        have et : lvI (up J 12 0 27 ((J 12 0 27) + 1)) (viF J g) 12 0 1 = (J 12 0 1) := (lv_f (by decide)).trans e1
        have eg : lvI (up J 12 0 27 ((J 12 0 27) + 1)) (viF J g) 12 0 17 = (J 12 0 17) := (lv_f (by decide)).trans (up_j (by decide))
        have bs := RB.state iv.1.1 (j := t) t0 (by omega)
        have cs := hC2.1.state t0 (by omega)
        have cv : (C 3 0 2) = (J 12 0 27) := hC.2.2.2.2.2.2.1
        have n8' := hC2.1.1
        have pre : ∀ {r}, Ev (fun F => if lvI (up J 12 0 27 ((J 12 0 27) + 1)) (viF J g) 22 0 t = 0 then J3_killVictims_3 F (rf e 3 0) (rf e 1 g) (rf e 8 t) (xk n) (xk (i + 1)) (HS e C2 I z) else some (Sum.inl (some (Sum.inl (xk (-5)))), HS e C2 I z)) r → Ev (fun F => J3_killVictims_3 F (rf e 3 0) (rf e 1 g) (rf e 8 t) (xk n) (xk i) (HS e C I z)) r := by
          intro r hr'
          refine Ev.step (fun F => E3_killVictims_3 F _ _ _ _ _ _) ?_
          simp (disch := omega) only [d_1 hA, d_9 hA, g_3_0 hA, g_3_2 hA, g_8_5 hA, p_3_2 hA, Option.bind_some, up_s, up_k, up_j, up_i, xk_add, xk_sub, xk_mul, xk_neg, lk_add, lN_z, rf_none, rb1, rb0, rbp, xk_nI, zk_eq, zk_lt, zk_eq0, zk_lt0, zk_0lt, zk_long, lz_lt, lz_gt, zmax, zmin, ↓reduceIte, Int.reduceEq, Int.reduceLT, Int.reduceNeg, Int.reduceAdd, Int.reduceSub, Int.reduceMul, Int.ofNat_eq_natCast, Int.cast_ofNat_Int]
          refine Ev.ite (fun _ => ?_) (fun q => absurd q (by omega))
          refine Ev.kI hl ?_
          try simp (disch := omega) only [d_1 hA, d_9 hA, g_3_0 hA, g_3_2 hA, g_8_5 hA, p_3_2 hA, Option.bind_some, up_s, up_k, up_j, up_i, xk_add, xk_sub, xk_mul, xk_neg, lk_add, lN_z, rf_none, rb1, rb0, rbp, xk_nI, zk_eq, zk_lt, zk_eq0, zk_lt0, zk_0lt, zk_long, lz_lt, lz_gt, zmax, zmin, ↓reduceIte, Int.reduceEq, Int.reduceLT, Int.reduceNeg, Int.reduceAdd, Int.reduceSub, Int.reduceMul, Int.ofNat_eq_natCast, Int.cast_ofNat_Int]
          refine Ev.ite (fun _ => ?_) (fun q => absurd h (by omega))
          refine Ev.kR (victim_cl hA hC hT g0 g1) ?_
          try simp (disch := omega) only [d_1 hA, d_9 hA, g_3_0 hA, g_3_2 hA, g_8_5 hA, p_3_2 hA, Option.bind_some, up_s, up_k, up_j, up_i, xk_add, xk_sub, xk_mul, xk_neg, lk_add, lN_z, rf_none, rb1, rb0, rbp, xk_nI, zk_eq, zk_lt, zk_eq0, zk_lt0, zk_0lt, zk_long, lz_lt, lz_gt, zmax, zmin, ↓reduceIte, Int.reduceEq, Int.reduceLT, Int.reduceNeg, Int.reduceAdd, Int.reduceSub, Int.reduceMul, Int.ofNat_eq_natCast, Int.cast_ofNat_Int, cv]
          refine Ev.ite (fun q => absurd q hr) (fun _ => ?_)
          refine Ev.kI hE2 ?_
          try simp (disch := omega) only [d_1 hA, d_9 hA, g_3_0 hA, g_3_2 hA, g_8_5 hA, p_3_2 hA, Option.bind_some, up_s, up_k, up_j, up_i, xk_add, xk_sub, xk_mul, xk_neg, lk_add, lN_z, rf_none, rb1, rb0, rbp, xk_nI, zk_eq, zk_lt, zk_eq0, zk_lt0, zk_0lt, zk_long, lz_lt, lz_gt, zmax, zmin, ↓reduceIte, Int.reduceEq, Int.reduceLT, Int.reduceNeg, Int.reduceAdd, Int.reduceSub, Int.reduceMul, Int.ofNat_eq_natCast, Int.cast_ofNat_Int, cs]
          exact hr'
        by_cases hs : lvI (up J 12 0 27 ((J 12 0 27) + 1)) (viF J g) 22 0 t = 0
        · rw [if_pos hs]
          obtain ⟨C3, hE3, hC3⟩ := ih (i + 1) _ _ iv.1 hG2 (iv.2.gu hB hU) hC2 (by omega) (by omega) (by omega) (by omega)
          exact ⟨C3, pre (Ev.ite (fun _ => hE3) (fun q => absurd hs q)), hC3⟩
        · rw [if_neg hs]
          exact ⟨C2, pre (Ev.ite (fun q => absurd q hs) (fun _ => Ev.ret rfl)), hC2, hG2⟩
    · rw [if_neg h]
      refine ⟨C, ?_, hC, hG⟩
      refine Ev.step (fun F => E3_killVictims_3 F _ _ _ _ _ _) ?_
      simp (disch := omega) only [d_1 hA, d_9 hA, g_3_0 hA, g_3_2 hA, g_8_5 hA, p_3_2 hA, Option.bind_some, up_s, up_k, up_j, up_i, xk_add, xk_sub, xk_mul, xk_neg, lk_add, lN_z, rf_none, rb1, rb0, rbp, xk_nI, zk_eq, zk_lt, zk_eq0, zk_lt0, zk_0lt, zk_long, lz_lt, lz_gt, zmax, zmin, ↓reduceIte, Int.reduceEq, Int.reduceLT, Int.reduceNeg, Int.reduceAdd, Int.reduceSub, Int.reduceMul, Int.ofNat_eq_natCast, Int.cast_ofNat_Int]
      refine Ev.ite (fun _ => ?_) (fun q => absurd q (by omega))
      refine Ev.kI hl ?_
      try simp (disch := omega) only [d_1 hA, d_9 hA, g_3_0 hA, g_3_2 hA, g_8_5 hA, p_3_2 hA, Option.bind_some, up_s, up_k, up_j, up_i, xk_add, xk_sub, xk_mul, xk_neg, lk_add, lN_z, rf_none, rb1, rb0, rbp, xk_nI, zk_eq, zk_lt, zk_eq0, zk_lt0, zk_0lt, zk_long, lz_lt, lz_gt, zmax, zmin, ↓reduceIte, Int.reduceEq, Int.reduceLT, Int.reduceNeg, Int.reduceAdd, Int.reduceSub, Int.reduceMul, Int.ofNat_eq_natCast, Int.cast_ofNat_Int]
      exact Ev.ite (fun q => absurd q (by omega)) (fun _ => Ev.ret rfl)
theorem makeRoom5_ev (hA : WA e z) {t n : Int} (nb0 : 0 ≤ n) (nb1 : n ≤ 1000000) (t0 : 0 ≤ t) : ∀ (m : Nat) (g : Int) (C J : ST), TI J → TG J → GU J → Cpl e C J → (J 22 0 t) = 0 → -1 ≤ g → g < (J 12 0 17) → t < (J 12 0 1) → g < m → ∃ C', Ev (fun F => J3_makeRoom_5 F (rf e 3 0) (rf e 8 t) (xk n) (rf e 1 g) (HS e C I z)) (rI (mrF t n m J g).1 (HS e C' I z)) ∧ Cpl e C' (mrF t n m J g).2 ∧ TG (mrF t n m J g).2 := by
  intro m
  induction m with
  | zero =>
    intro g C J hT hG hU hC hs g0 g1 t1 hm
    refine ⟨C, ?_, hC, hG⟩
    refine Ev.step (fun F => E3_makeRoom_5 F _ _ _ _ _) ?_
    simp (disch := omega) only [d_3 hA, g_1_1 hA, Option.bind_some, up_s, up_k, up_j, up_i, xk_add, xk_sub, xk_mul, xk_neg, lk_add, lN_z, rf_none, rb1, rb0, rbp, xk_nI, zk_eq, zk_lt, zk_eq0, zk_lt0, zk_0lt, zk_long, lz_lt, lz_gt, zmax, zmin, ↓reduceIte, Int.reduceEq, Int.reduceLT, Int.reduceNeg, Int.reduceAdd, Int.reduceSub, Int.reduceMul, Int.ofNat_eq_natCast, Int.cast_ofNat_Int]
    exact Ev.ite (fun _ => Ev.ret rfl) (fun q => absurd q (by omega))
  | succ m ih =>
    intro g C J hT hG hU hC hs g0 g1 t1 hm
    have n8 := hC.1.1
    have n7 := hC.2.1.1
    have n1 := hC.2.2.1.1
    have n10 := hC.2.2.2.2.1.1
    have hB := hT.1
    have := RB.tasks hB
    have := RB.spaces hB
    have := RB.groups hB
    have := RB.views hB
    have n4 := hA.2.2.2.1
    rw [mrF]
    by_cases h : g < 0
    · rw [if_pos h]
      refine ⟨C, ?_, hC, hG⟩
      refine Ev.step (fun F => E3_makeRoom_5 F _ _ _ _ _) ?_
      simp (disch := omega) only [d_3 hA, g_1_1 hA, Option.bind_some, up_s, up_k, up_j, up_i, xk_add, xk_sub, xk_mul, xk_neg, lk_add, lN_z, rf_none, rb1, rb0, rbp, xk_nI, zk_eq, zk_lt, zk_eq0, zk_lt0, zk_0lt, zk_long, lz_lt, lz_gt, zmax, zmin, ↓reduceIte, Int.reduceEq, Int.reduceLT, Int.reduceNeg, Int.reduceAdd, Int.reduceSub, Int.reduceMul, Int.ofNat_eq_natCast, Int.cast_ofNat_Int]
      exact Ev.ite (fun _ => Ev.ret rfl) (fun q => absurd h q)
    · rw [if_neg h]
      have i := tc_inv (g := g) 20 J (usF J g + n - (J 40 0 g)) hT
      obtain ⟨C1, hE1, hC1⟩ := takeCaches_ev (I := I) hA nb0 nb1 20 0 C J hT hU hC (by omega) g1 (by omega) (by omega)
      have k1 : ∀ {J'}, LE J J' → J' 12 0 1 = (J 12 0 1) ∧ J' 12 0 17 = (J 12 0 17) ∧ ∀ j, J' 38 0 j = (J 38 0 j) := fun h => ⟨h.1 _ _ _ (by omega) (by omega) (by omega) (by omega) (by omega) (by omega), h.1 _ _ _ (by omega) (by omega) (by omega) (by omega) (by omega) (by omega), fun j => h.1 _ _ _ (by omega) (by omega) (by omega) (by omega) (by omega) (by omega)⟩
      have l1 := k1 i.2.1
      have hG1 : TG (tcI J g n) := by
        have : ∀ (m : Nat) (J : ST) (l : Int), TG J → TG (tcF g m J l) := by
          intro m
          induction m with
          | zero => intro J l h; exact h
          | succ m ih =>
            intro J l h
            rw [tcF]
            split
            · split
              · exact h
              · exact ih _ _ (h.c (up_k (by decide)) (fun j => up_k (by decide)) (fun j => up_k (by decide)))
            · exact h
        exact this 20 J _ hG
      have s1 : tcI J g n 22 0 t = 0 := (i.2.2 t).trans hs
      obtain ⟨C2, hE2, hC2, hG2⟩ := killVictims_ev (I := I) hA nb0 nb1 t0 (g := g) (by omega) 150 0 C1 (tcI J g n) i.1 hG1 (i.2.1.gu hB hU) hC1 (by rw [show tcI J g n 12 0 17 = (J 12 0 17) from l1.2.1]; exact g1) (by rw [show tcI J g n 12 0 1 = (J 12 0 1) from l1.1]; exact t1) (by omega) (by omega)
      have k := kv_inv (t := t) (g := g) (n := n) 150 (tcI J g n) i.1 s1
      have l2 := k1 (LE.t i.2.1 k.2.1)
      have w := RB.ww hB g (by omega) (by omega)
      have co : (C2 1 g 1) = (J 38 0 g) := by rw [hC2.2.2.1.outer (by omega) (by omega), l2.2.2]
      have n1' := hC2.2.2.1.1
      have kb : -10 ≤ (kvF t g n 150 (tcI J g n)).1 ∧ (kvF t g n 150 (tcI J g n)).1 ≤ 0 := by
        have : ∀ (m : Nat) (J : ST), -10 ≤ (kvF t g n m J).1 ∧ (kvF t g n m J).1 ≤ 0 := by
          intro m
          induction m with
          | zero => intro J; exact ⟨by show (-10 : Int) ≤ 0; decide, by show (0 : Int) ≤ 0; decide⟩
          | succ m ih =>
            intro J
            rw [kvF]
            split
            · split
              · exact ⟨by show (-10 : Int) ≤ -3; decide, by show (-3 : Int) ≤ 0; decide⟩
              · split
                · exact ih _
                · exact ⟨by show (-10 : Int) ≤ -5; decide, by show (-5 : Int) ≤ 0; decide⟩
            · exact ⟨by show (-10 : Int) ≤ 0; decide, by show (0 : Int) ≤ 0; decide⟩
        exact this _ _
      have pre : ∀ {r}, Ev (fun F => if (kvF t g n 150 (tcI J g n)).1 < 0 then some (Sum.inl (some (Sum.inl (xk (kvF t g n 150 (tcI J g n)).1))), HS e C2 I z) else J3_makeRoom_5 F (rf e 3 0) (rf e 8 t) (xk n) (rf e 1 (J 38 0 g)) (HS e C2 I z)) r → Ev (fun F => J3_makeRoom_5 F (rf e 3 0) (rf e 8 t) (xk n) (rf e 1 g) (HS e C I z)) r := by
        intro r hr
        refine Ev.step (fun F => E3_makeRoom_5 F _ _ _ _ _) ?_
        simp (disch := omega) only [d_3 hA, g_1_1 hA, Option.bind_some, up_s, up_k, up_j, up_i, xk_add, xk_sub, xk_mul, xk_neg, lk_add, lN_z, rf_none, rb1, rb0, rbp, xk_nI, zk_eq, zk_lt, zk_eq0, zk_lt0, zk_0lt, zk_long, lz_lt, lz_gt, zmax, zmin, ↓reduceIte, Int.reduceEq, Int.reduceLT, Int.reduceNeg, Int.reduceAdd, Int.reduceSub, Int.reduceMul, Int.ofNat_eq_natCast, Int.cast_ofNat_Int]
        refine Ev.ite (fun q => absurd q h) (fun _ => ?_)
        refine Ev.kV (Ev.step (fun F => E3_takeCaches F _ _ _ _) hE1) ?_
        try simp (disch := omega) only [d_3 hA, g_1_1 hA, Option.bind_some, up_s, up_k, up_j, up_i, xk_add, xk_sub, xk_mul, xk_neg, lk_add, lN_z, rf_none, rb1, rb0, rbp, xk_nI, zk_eq, zk_lt, zk_eq0, zk_lt0, zk_0lt, zk_long, lz_lt, lz_gt, zmax, zmin, ↓reduceIte, Int.reduceEq, Int.reduceLT, Int.reduceNeg, Int.reduceAdd, Int.reduceSub, Int.reduceMul, Int.ofNat_eq_natCast, Int.cast_ofNat_Int]
        refine Ev.kI (Ev.step (fun F => E3_killVictims F _ _ _ _ _) hE2) ?_
        try simp (disch := omega) only [d_3 hA, g_1_1 hA, Option.bind_some, up_s, up_k, up_j, up_i, xk_add, xk_sub, xk_mul, xk_neg, lk_add, lN_z, rf_none, rb1, rb0, rbp, xk_nI, zk_eq, zk_lt, zk_eq0, zk_lt0, zk_0lt, zk_long, lz_lt, lz_gt, zmax, zmin, ↓reduceIte, Int.reduceEq, Int.reduceLT, Int.reduceNeg, Int.reduceAdd, Int.reduceSub, Int.reduceMul, Int.ofNat_eq_natCast, Int.cast_ofNat_Int, co]
        exact hr
      by_cases hk : (kvF t g n 150 (tcI J g n)).1 < 0
      · rw [if_pos hk]
        exact ⟨C2, pre (Ev.ite (fun _ => Ev.ret rfl) (fun q => absurd hk q)), hC2, hG2⟩
      · rw [if_neg hk]
        obtain ⟨C3, hE3, hC3⟩ := ih (J 38 0 g) C2 _ k.1 hG2 ((LE.t i.2.1 k.2.1).gu hB hU) hC2 (k.2.2 hk).2 (by omega) (by omega) (by omega) (by omega)
        exact ⟨C3, pre (Ev.ite (fun q => absurd q hk) (fun _ => hE3)), hC3⟩
theorem makeRoom_cl (hA : WA e z) (hC : Cpl e C J) (hT : TI J) (hG : TG J) (hU : GU J) {t n : Int} (nb0 : 0 ≤ n) (nb1 : n ≤ 1000000) (t0 : 0 ≤ t) (t1 : t < (J 12 0 1)) (hs : (J 22 0 t) = 0) : ∃ C', Ev (fun F => J3_makeRoom F (rf e 3 0) (rf e 8 t) (xk n) (HS e C I z)) (rI (mrI J t n).1 (HS e C' I z)) ∧ Cpl e C' (mrI J t n).2 ∧ TG (mrI J t n).2 := by
  have b := hT.b t0 t1
  have n8 := hC.1.1
  have n7 := hC.2.1.1
  have n1 := hC.2.2.1.1
  have n10 := hC.2.2.2.2.1.1
  have hB := hT.1
  have := RB.tasks hB
  have := RB.spaces hB
  have := RB.groups hB
  have := RB.views hB
  have n4 := hA.2.2.2.1
  obtain ⟨C1, hE, h⟩ := makeRoom5_ev (I := I) hA nb0 nb1 t0 20 (J 25 0 t) C J hT hG hU hC hs (by omega) (by omega) t1 (by omega)
  refine ⟨C1, ?_, h⟩
  refine Ev.step (fun F => E3_makeRoom F _ _ _ _) ?_
  simp (disch := omega) only [g_8_4 hA, Option.bind_some, up_s, up_k, up_j, up_i, xk_add, xk_sub, xk_mul, xk_neg, lk_add, lN_z, rf_none, rb1, rb0, rbp, xk_nI, zk_eq, zk_lt, zk_eq0, zk_lt0, zk_0lt, zk_long, lz_lt, lz_gt, zmax, zmin, ↓reduceIte, Int.reduceEq, Int.reduceLT, Int.reduceNeg, Int.reduceAdd, Int.reduceSub, Int.reduceMul, Int.ofNat_eq_natCast, Int.cast_ofNat_Int, CT.space hC.1, CT.view hC.1, CT.parent hC.1, CT.group hC.1, CT.state hC.1, CT.pages hC.1, CT.points hC.1, CT.ticks hC.1, CT.asleep hC.1, CT.time hC.1, CP.outer hC.2.1, CP.depth hC.2.1, CP.init hC.2.1, CP.given hC.2.1, CG.outer hC.2.2.1, CG.depth hC.2.2.1, CG.max hC.2.2.1, CG.most hC.2.2.1, CG.weight hC.2.2.1, CG.quota hC.2.2.1, CG.cached hC.2.2.1, CG.ran hC.2.2.1, CG.time hC.2.2.1, CG.uses hC.2.2.1, CG.live hC.2.2.1, rf_eq hA]
  exact hE
end CL
