/-! pairs: badness, release, charge, cache: the calls -/
section OPs
variable {e : EN} {C I J : ST} {z : Nat × Nat × Nat × Nat} {n : Int}
theorem Inv.pgU (h : Inv n J) {m t v : Int} (hm : n ≤ m) (t0 : 0 ≤ t) (t1 : t < (J 12 0 1)) (hs : (J 22 0 t) = 0) (hv : 0 ≤ (J 27 0 t) + v) (hb : (J 27 0 t) + v ≤ 1000000) (hu : ∀ x, 0 ≤ x → x < (J 12 0 17) → win J (J 25 0 t) x = true → usF J x + v ≤ (J 40 0 x)) : Inv m (up J 27 0 t ((J 27 0 t) + v)) := by
  obtain ⟨h1, h2, h3, h4, h5, h6, h7, h8, h9⟩ := h
  have ej : ∀ k i j, k ≠ 27 → up J 27 0 t ((J 27 0 t) + v) k i j = J k i j := fun k i j a => up_k a
  have hB' : RB (up J 27 0 t ((J 27 0 t) + v)) := RB.u_pages h1.1 hv hb
  refine ⟨h1.pg hB' (fun k i j a b c => ej _ _ _ a), h2.c (ej _ _ _ (by decide)) (fun j => ej _ _ _ (by decide)) (fun j => ej _ _ _ (by decide)), fun g g0 g1 => ?_, h4.c (ej _ _ _ (by decide)) (fun j => ej _ _ _ (by decide)) (fun j => ej _ _ _ (by decide)), h5.c (ej _ _ _ (by decide)) (fun j => ej _ _ _ (by decide)) (fun j => ej _ _ _ (by decide)) (fun j => ej _ _ _ (by decide)), ⟨fun x a b => ?_, fun x s a b c d => ?_⟩, h7.c hm (ej _ _ _ (by decide)) (fun j => ej _ _ _ (by decide)) (fun j => ej _ _ _ (by decide)) (fun j => ej _ _ _ (by decide)), h8.c (ej _ _ _ (by decide)) (fun k j a b => ej _ _ _ (by omega)), h9.c hm (ej _ _ _ (by decide)) (fun j => ej _ _ _ (by decide))⟩
  · rw [ej _ _ _ (by decide)] at g1
    rw [ej _ _ _ (by decide), usF_pg t0 t1 hs]
    have a := h3 g g0 g1
    split
    · exact hu g g0 g1 (by assumption)
    · omega
  · rw [ej _ _ _ (by decide)] at a
    rw [up_j (by omega), ej _ _ _ (by decide), ej _ _ _ (by decide), ej _ _ _ (by decide)]
    have y := h6.1 x a b
    refine ⟨y.1, y.2.1, y.2.2.1, y.2.2.2.1, fun s a b => ?_⟩
    rw [ej _ _ _ (by decide)]
    exact y.2.2.2.2 s a b
  · rw [ej _ _ _ (by decide)] at c
    rw [ej _ _ _ (by decide)]
    exact h6.2 x s a b c d
theorem Inv.caU (h : Inv n J) {m g v : Int} (hm : n ≤ m) (g0 : 0 ≤ g) (g1 : g < (J 12 0 17)) (hv : 0 ≤ (J 43 0 g) + v) (hb : (J 43 0 g) + v ≤ 1000000) (hu : ∀ x, 0 ≤ x → x < (J 12 0 17) → win J g x = true → usF J x + v ≤ (J 40 0 x)) : Inv m (up J 43 0 g ((J 43 0 g) + v)) := by
  obtain ⟨h1, h2, h3, h4, h5, h6, h7, h8, h9⟩ := h
  have ej : ∀ k i j, k ≠ 43 → up J 43 0 g ((J 43 0 g) + v) k i j = J k i j := fun k i j a => up_k a
  have hB' : RB (up J 43 0 g ((J 43 0 g) + v)) := RB.u_cached h1.1 hv hb
  refine ⟨h1.pg hB' (fun k i j a b c => ej _ _ _ b), h2.c (ej _ _ _ (by decide)) (fun j => ej _ _ _ (by decide)) (fun j => ej _ _ _ (by decide)), fun x x0 x1 => ?_, h4.c (ej _ _ _ (by decide)) (fun j => ej _ _ _ (by decide)) (fun j => ej _ _ _ (by decide)), fun x a b => ?_, h6.c (ej _ _ _ (by decide)) (ej _ _ _ (by decide)) (fun j => ej _ _ _ (by decide)) (fun j => ej _ _ _ (by decide)) (fun j => ej _ _ _ (by decide)) (fun j => ej _ _ _ (by decide)) (fun j => ej _ _ _ (by decide)), h7.c hm (ej _ _ _ (by decide)) (fun j => ej _ _ _ (by decide)) (fun j => ej _ _ _ (by decide)) (fun j => ej _ _ _ (by decide)), h8.c (ej _ _ _ (by decide)) (fun k j a b => ej _ _ _ (by omega)), h9.c hm (ej _ _ _ (by decide)) (fun j => ej _ _ _ (by decide))⟩
  · rw [ej _ _ _ (by decide)] at x1
    rw [ej _ _ _ (by decide), usF_ca g0 g1]
    have a := h3 x x0 x1
    split
    · exact hu x x0 x1 (by assumption)
    · omega
  · rw [ej _ _ _ (by decide)] at a
    rw [ej 42 _ _ (by decide), ej 44 _ _ (by decide), up_j (show x ≠ g by omega)]
    exact h5 x a b
theorem release_pr (hO : OK n e C I z) {t v : Int} (t0 : -2147483648 ≤ t) (t1 : t < 2147483648) (v0 : -2147483648 ≤ v) (v1 : v < 2147483648) : PR n e C I z (fun F σ => J11_release F (rf e 11 0) (xk t) (xk v) σ) (fun F σ => J12_release F (rf e 12 0) (xk t) (xk v) σ) ∨ PT n e C I z 51 1 (fun F σ => J11_release F (rf e 11 0) (xk t) (xk v) σ) (fun F σ => J12_release F (rf e 12 0) (xk t) (xk v) σ) := by
  obtain ⟨hA, hR, hC0, hI0⟩ := hO
  have hO : OK n e C I z := ⟨hA, hR, hC0, hI0⟩
  have hC := hC0.th (v := 0)
  have hI := hI0.th (m := n) (v := 0) (by omega)
  have hT := hI.ti
  generalize hJ : th I 0 = J at *
  have n8 := hC.1.1
  have n7 := hC.2.1.1
  have n1 := hC.2.2.1.1
  have n10 := hC.2.2.2.2.1.1
  have hB := hT.1
  have := RB.tasks hB
  have := RB.spaces hB
  have := RB.groups hB
  have := RB.views hB
  have n4 := hA.2.2.2.1
  have lv := living_ev (I := I) hA hC hT t0 t1
  by_cases hv : v < 0
  · right
    refine ⟨⟨z.1, ?_⟩, 0, ?_⟩
    · refine Ev.step (fun F => E11_release F _ _ _ _) ?_
      simp (disch := omega) only [d_8 hA, d_9 hA, g_11_1 hA, g_8_6 hA, Option.bind_some, up_s, up_k, up_j, up_i, xk_add, xk_sub, xk_mul, xk_neg, lk_add, lN_z, rf_none, rb1, rb0, rbp, xk_nI, zk_eq, zk_lt, zk_eq0, zk_lt0, zk_0lt, zk_long, lz_lt, lz_gt, zmax, zmin, ↓reduceIte, Int.reduceEq, Int.reduceLT, Int.reduceNeg, Int.reduceAdd, Int.reduceSub, Int.reduceMul, Int.ofNat_eq_natCast, Int.cast_ofNat_Int, thr_HS]
      exact Ev.ite (fun _ => Ev.ret rfl) (fun q => absurd hv q)
    · have hA' := hA.thr
      generalize (z.1 + 1, z.2.1 + 6, z.2.2) = z' at hA' ⊢
      have hA := hA'
      refine Ev.step (fun F => E12_release F _ _ _ _) ?_
      refine Ev.ite (fun _ => ?_) (fun q => absurd (Eq.mpr (zk_lt0 v0 v1) hv) q)
      try simp (maxSteps := 2000000) (disch := omega) only [a_27 hA hR, d_12 hA hR, g_12_0 hA hR, g_12_7 hA hR, p_12_0 hA hR, s_27 hA hR, Option.bind_some, up_s, up_k, up_j, up_i, xk_add, xk_sub, xk_mul, xk_neg, lk_add, lN_z, rf_none, rb1, rb0, rbp, xk_nI, zk_eq, zk_lt, zk_eq0, zk_lt0, zk_0lt, zk_long, lz_lt, lz_gt, zmax, zmin, ↓reduceIte, Int.reduceEq, Int.reduceLT, Int.reduceNeg, Int.reduceAdd, Int.reduceSub, Int.reduceMul, Int.ofNat_eq_natCast, Int.cast_ofNat_Int]
      exact Ev.ret rfl
  · left
    have pre : ∀ {C' : ST} {r}, Ev (fun F => if 0 ≤ t ∧ t < (J 12 0 1) ∧ (J 22 0 t) = 0 then (if (J 27 0 t) < v then some (.inl (some (.inl (xk (-3)))), HS e C' J z) else some (.inl (some (.inl (xk ((J 27 0 t) - v)))), HS e C' (up J 27 0 t ((J 27 0 t) - v)) z)) else some (.inl (some (.inl (xk (-1)))), HS e C' J z)) r → Ev (fun F => J12_release F (rf e 12 0) (xk t) (xk v) (HS e C' I z)) r := by
      intro C' r hr
      refine Ev.step (fun F => E12_release F _ _ _ _) ?_
      refine Ev.ite (fun q => absurd (Eq.mp (zk_lt0 v0 v1) q) hv) (fun _ => ?_)
      try simp (maxSteps := 2000000) (disch := omega) only [a_27 hA hR, d_12 hA hR, g_12_0 hA hR, g_12_7 hA hR, p_12_0 hA hR, s_27 hA hR, Option.bind_some, up_s, up_k, up_j, up_i, xk_add, xk_sub, xk_mul, xk_neg, lk_add, lN_z, rf_none, rb1, rb0, rbp, xk_nI, zk_eq, zk_lt, zk_eq0, zk_lt0, zk_0lt, zk_long, lz_lt, lz_gt, zmax, zmin, ↓reduceIte, Int.reduceEq, Int.reduceLT, Int.reduceNeg, Int.reduceAdd, Int.reduceSub, Int.reduceMul, Int.ofNat_eq_natCast, Int.cast_ofNat_Int]
      rw [show up I 12 0 0 0 = J from hJ]
      refine Ev.kB (isLive_r hA hR hB t0 t1) (fun q => ?_) (fun q => ?_)
      · simp only [if_pos q] at hr
        have := RB.pages hB (j := t) (by omega) (by omega)
        try simp (maxSteps := 2000000) (disch := omega) only [a_27 hA hR, d_12 hA hR, g_12_0 hA hR, g_12_7 hA hR, p_12_0 hA hR, s_27 hA hR, Option.bind_some, up_s, up_k, up_j, up_i, xk_add, xk_sub, xk_mul, xk_neg, lk_add, lN_z, rf_none, rb1, rb0, rbp, xk_nI, zk_eq, zk_lt, zk_eq0, zk_lt0, zk_0lt, zk_long, lz_lt, lz_gt, zmax, zmin, ↓reduceIte, Int.reduceEq, Int.reduceLT, Int.reduceNeg, Int.reduceAdd, Int.reduceSub, Int.reduceMul, Int.ofNat_eq_natCast, Int.cast_ofNat_Int]
        exact hr
      · simp only [if_neg q] at hr
        try simp (maxSteps := 2000000) (disch := omega) only [a_27 hA hR, d_12 hA hR, g_12_0 hA hR, g_12_7 hA hR, p_12_0 hA hR, s_27 hA hR, Option.bind_some, up_s, up_k, up_j, up_i, xk_add, xk_sub, xk_mul, xk_neg, lk_add, lN_z, rf_none, rb1, rb0, rbp, xk_nI, zk_eq, zk_lt, zk_eq0, zk_lt0, zk_0lt, zk_long, lz_lt, lz_gt, zmax, zmin, ↓reduceIte, Int.reduceEq, Int.reduceLT, Int.reduceNeg, Int.reduceAdd, Int.reduceSub, Int.reduceMul, Int.ofNat_eq_natCast, Int.cast_ofNat_Int]
        exact hr
    by_cases h : (0 ≤ t ∧ t < (J 12 0 1) ∧ (J 22 0 t) = 0)
    · have := RB.pages hB (j := t) (by omega) (by omega)
      have c6 := hC.1.pages h.1 h.2.1
      by_cases hp : (J 27 0 t) < v
      · refine PR.look hO (A := -3) (by decide) (by decide) ?_ ?_
        · refine Ev.step (fun F => E11_release F _ _ _ _) ?_
          simp (disch := omega) only [d_8 hA, d_9 hA, g_11_1 hA, g_8_6 hA, Option.bind_some, up_s, up_k, up_j, up_i, xk_add, xk_sub, xk_mul, xk_neg, lk_add, lN_z, rf_none, rb1, rb0, rbp, xk_nI, zk_eq, zk_lt, zk_eq0, zk_lt0, zk_0lt, zk_long, lz_lt, lz_gt, zmax, zmin, ↓reduceIte, Int.reduceEq, Int.reduceLT, Int.reduceNeg, Int.reduceAdd, Int.reduceSub, Int.reduceMul, Int.ofNat_eq_natCast, Int.cast_ofNat_Int]
          refine Ev.ite (fun q => absurd q hv) (fun _ => ?_)
          refine Ev.kR lv ?_
          rw [lvg_y h]
          try simp (maxSteps := 2000000) (disch := omega) only [d_8 hA, d_9 hA, g_11_1 hA, g_8_6 hA, Option.bind_some, up_s, up_k, up_j, up_i, xk_add, xk_sub, xk_mul, xk_neg, lk_add, lN_z, rf_none, rb1, rb0, rbp, xk_nI, zk_eq, zk_lt, zk_eq0, zk_lt0, zk_0lt, zk_long, lz_lt, lz_gt, zmax, zmin, ↓reduceIte, Int.reduceEq, Int.reduceLT, Int.reduceNeg, Int.reduceAdd, Int.reduceSub, Int.reduceMul, Int.ofNat_eq_natCast, Int.cast_ofNat_Int, c6]
          refine Ev.ite (fun q => absurd q (by omega)) (fun _ => ?_)
          exact Ev.ite (fun _ => Ev.ret rfl) (fun q => absurd hp q)
        · rw [hJ]
          refine pre ?_
          refine Ev.ite (fun _ => ?_) (fun q => absurd h q)
          exact Ev.ite (fun _ => Ev.ret rfl) (fun q => absurd hp q)
      · have hh := hold_ev (I := I) (n := -v) hA hC hT h.1 h.2.1
        have hC' := hC.pg (n := -v) h.1 h.2.1 h.2.2
        have uu := us_win hT h.1 h.2.1 h.2.2
        have hI' := hI.pgU (m := n + 1) (v := -v) (by omega) h.1 h.2.1 h.2.2 (by omega) (by omega) (fun x x0 x1 _ => by have := hI.gu x x0 x1; omega)
        refine ⟨e, _, _, z, (J 27 0 t) + -v, ?_, ?_, ⟨hA, hR, hC', hI'⟩, NX.r (fun j => ?_), ⟨by omega, by omega⟩, ?_⟩
        · refine Ev.step (fun F => E11_release F _ _ _ _) ?_
          simp (disch := omega) only [d_8 hA, d_9 hA, g_11_1 hA, g_8_6 hA, Option.bind_some, up_s, up_k, up_j, up_i, xk_add, xk_sub, xk_mul, xk_neg, lk_add, lN_z, rf_none, rb1, rb0, rbp, xk_nI, zk_eq, zk_lt, zk_eq0, zk_lt0, zk_0lt, zk_long, lz_lt, lz_gt, zmax, zmin, ↓reduceIte, Int.reduceEq, Int.reduceLT, Int.reduceNeg, Int.reduceAdd, Int.reduceSub, Int.reduceMul, Int.ofNat_eq_natCast, Int.cast_ofNat_Int]
          refine Ev.ite (fun q => absurd q hv) (fun _ => ?_)
          refine Ev.kR lv ?_
          rw [lvg_y h]
          try simp (maxSteps := 2000000) (disch := omega) only [d_8 hA, d_9 hA, g_11_1 hA, g_8_6 hA, Option.bind_some, up_s, up_k, up_j, up_i, xk_add, xk_sub, xk_mul, xk_neg, lk_add, lN_z, rf_none, rb1, rb0, rbp, xk_nI, zk_eq, zk_lt, zk_eq0, zk_lt0, zk_0lt, zk_long, lz_lt, lz_gt, zmax, zmin, ↓reduceIte, Int.reduceEq, Int.reduceLT, Int.reduceNeg, Int.reduceAdd, Int.reduceSub, Int.reduceMul, Int.ofNat_eq_natCast, Int.cast_ofNat_Int, c6]
          refine Ev.ite (fun q => absurd q (by omega)) (fun _ => ?_)
          refine Ev.ite (fun q => absurd q hp) (fun _ => ?_)
          refine Ev.kV hh ?_
          have c6' := hC'.1.pages (t := t) h.1 (by rw [up_k (by decide)]; exact h.2.1)
          rw [up_s] at c6'
          try simp (maxSteps := 2000000) (disch := omega) only [d_8 hA, d_9 hA, g_11_1 hA, g_8_6 hA, Option.bind_some, up_s, up_k, up_j, up_i, xk_add, xk_sub, xk_mul, xk_neg, lk_add, lN_z, rf_none, rb1, rb0, rbp, xk_nI, zk_eq, zk_lt, zk_eq0, zk_lt0, zk_0lt, zk_long, lz_lt, lz_gt, zmax, zmin, ↓reduceIte, Int.reduceEq, Int.reduceLT, Int.reduceNeg, Int.reduceAdd, Int.reduceSub, Int.reduceMul, Int.ofNat_eq_natCast, Int.cast_ofNat_Int, c6']
          exact Ev.ret rfl
        · refine pre ?_
          refine Ev.ite (fun _ => ?_) (fun q => absurd h q)
          refine Ev.ite (fun q => absurd q hp) (fun _ => Ev.ret ?_)
          rw [Int.sub_eq_add_neg]
          rfl
        · rw [up_k (by decide), ← hJ]
          exact th_f (Or.inl (by decide))
        · rw [up_k (by decide), ← hJ]
          exact up_s
    · refine PR.look hO (A := -1) (by decide) (by decide) ?_ ?_
      · refine Ev.step (fun F => E11_release F _ _ _ _) ?_
        simp (disch := omega) only [d_8 hA, d_9 hA, g_11_1 hA, g_8_6 hA, Option.bind_some, up_s, up_k, up_j, up_i, xk_add, xk_sub, xk_mul, xk_neg, lk_add, lN_z, rf_none, rb1, rb0, rbp, xk_nI, zk_eq, zk_lt, zk_eq0, zk_lt0, zk_0lt, zk_long, lz_lt, lz_gt, zmax, zmin, ↓reduceIte, Int.reduceEq, Int.reduceLT, Int.reduceNeg, Int.reduceAdd, Int.reduceSub, Int.reduceMul, Int.ofNat_eq_natCast, Int.cast_ofNat_Int]
        refine Ev.ite (fun q => absurd q hv) (fun _ => ?_)
        refine Ev.kR lv ?_
        rw [lvg_n h]
        try simp (maxSteps := 2000000) (disch := omega) only [d_8 hA, d_9 hA, g_11_1 hA, g_8_6 hA, Option.bind_some, up_s, up_k, up_j, up_i, xk_add, xk_sub, xk_mul, xk_neg, lk_add, lN_z, rf_none, rb1, rb0, rbp, xk_nI, zk_eq, zk_lt, zk_eq0, zk_lt0, zk_0lt, zk_long, lz_lt, lz_gt, zmax, zmin, ↓reduceIte, Int.reduceEq, Int.reduceLT, Int.reduceNeg, Int.reduceAdd, Int.reduceSub, Int.reduceMul, Int.ofNat_eq_natCast, Int.cast_ofNat_Int]
        exact Ev.ret rfl
      · rw [hJ]
        refine pre ?_
        exact Ev.ite (fun q => absurd q h) (fun _ => Ev.ret rfl)
theorem Cpl.bad (hC : Cpl e C J) {t v : Int} : Cpl e (up C 8 t 7 v) (up J 28 0 t v) := by
  obtain ⟨h1, h2, h3, h4, h5, h6⟩ := hC
  have f0 : ∀ k i j, k ≠ 8 → up C 8 t 7 v k i j = C k i j := fun k i j a => up_k a
  have ej : ∀ k i j, k ≠ 28 → up J 28 0 t v k i j = J k i j := fun k i j a => up_k a
  refine ⟨⟨(ej 12 0 1 (by decide)).symm ▸ h1.1, fun x x0 x1 => ?_⟩, h2.fr (fun i j => f0 _ _ _ (by decide)) (fun i j => f0 _ _ _ (by decide)) (ej _ _ _ (by decide)) (fun j => ej _ _ _ (by decide)) (fun j => ej _ _ _ (by decide)) (fun j => ej _ _ _ (by decide)) (HoR_c (ej _ _ _ (by decide)) (fun j => by rw [ej _ _ _ (by decide)]) (fun j => ej _ _ _ (by decide))), h3.fr (fun i j _ => f0 _ _ _ (by decide)) (ej _ _ _ (by decide)) (fun k j a b => ej _ _ _ (by omega)) (usF_c (ej _ _ _ (by decide)) (ej _ _ _ (by decide)) (fun j => by rw [ej _ _ _ (by decide)]) (fun j => ej _ _ _ (by decide)) (fun j => ej _ _ _ (by decide)) (fun j => ej _ _ _ (by decide)) (fun j => ej _ _ _ (by decide))) (lvF_c (ej _ _ _ (by decide)) (fun j => by rw [ej _ _ _ (by decide)]) (fun j => ej _ _ _ (by decide)) (fun j => ej _ _ _ (by decide))), h4.fr (fun g => f0 _ _ _ (by decide)) (fun g => f0 _ _ _ (by decide)) (ej _ _ _ (by decide)) (ej _ _ _ (by decide)), h5.fr (fun k i j h => f0 _ _ _ (by omega)) (fun k i j a b => ej _ _ _ (by omega)) (ej _ _ _ (by decide)) (ej _ _ _ (by decide)), h6.fr (f0 _ _ _ (by decide)) (f0 _ _ _ (by decide)) (fun j => f0 _ _ _ (by decide)) (fun j => f0 _ _ _ (by decide)) (ej _ _ _ (by decide)) (ej _ _ _ (by decide))⟩
  rw [ej _ _ _ (by decide)] at x1
  have q := h1.2 x x0 x1
  have c8 : ∀ j, j ≠ 7 → up C 8 t 7 v 8 x j = C 8 x j := fun j a => up_j a
  have d8 : ∀ k, k ≠ 28 → up J 28 0 t v k 0 x = J k 0 x := fun k a => up_k a
  simp (disch := decide) only [c8, d8]
  refine ⟨q.1, q.2.1, q.2.2.1, q.2.2.2.1, q.2.2.2.2.1, q.2.2.2.2.2.1, ?_, q.2.2.2.2.2.2.2⟩
  by_cases hx : x = t
  · rw [hx, up_s, up_s]
  · rw [up_i hx, up_j hx]; exact q.2.2.2.2.2.2.1
theorem Inv.bad (h : Inv n J) {m t v : Int} (hm : n ≤ m) (t1 : t < (J 12 0 1)) (hv : -10 ≤ v) (hb : v ≤ 10) : Inv m (up J 28 0 t v) := by
  obtain ⟨h1, h2, h3, h4, h5, h6, h7, h8, h9⟩ := h
  have ej : ∀ k i j, k ≠ 28 → up J 28 0 t v k i j = J k i j := fun k i j a => up_k a
  have hB' : RB (up J 28 0 t v) := RB.u_badness h1.1 hv hb
  have hT : TI (up J 28 0 t v) := by
    refine ⟨hB', ?_⟩
    have el : lin (up J 28 0 t v) = lin J := lin_c (fun j => ej _ _ _ (by decide))
    simp (disch := decide) only [ej, el]
    exact h1.2
  refine ⟨hT, h2.c (ej _ _ _ (by decide)) (fun j => ej _ _ _ (by decide)) (fun j => ej _ _ _ (by decide)), h3.c (ej _ _ _ (by decide)) (fun j => ej _ _ _ (by decide)) (usF_c (ej _ _ _ (by decide)) (ej _ _ _ (by decide)) (fun j => by rw [ej _ _ _ (by decide)]) (fun j => ej _ _ _ (by decide)) (fun j => ej _ _ _ (by decide)) (fun j => ej _ _ _ (by decide)) (fun j => ej _ _ _ (by decide))), h4.c (ej _ _ _ (by decide)) (fun j => ej _ _ _ (by decide)) (fun j => ej _ _ _ (by decide)), h5.c (ej _ _ _ (by decide)) (fun j => ej _ _ _ (by decide)) (fun j => ej _ _ _ (by decide)) (fun j => ej _ _ _ (by decide)), ⟨fun x a b => ?_, fun x s a b c d => ?_⟩, h7.c hm (ej _ _ _ (by decide)) (fun j => ej _ _ _ (by decide)) (fun j => ej _ _ _ (by decide)) (fun j => ej _ _ _ (by decide)), h8.c (ej _ _ _ (by decide)) (fun k j a b => ej _ _ _ (by omega)), h9.c hm (ej _ _ _ (by decide)) (fun j => ej _ _ _ (by decide))⟩
  · rw [ej _ _ _ (by decide)] at a
    have y := h6.1 x a b
    rw [ej 27 _ _ (by decide), up_j (show x ≠ t by omega), ej 29 _ _ (by decide), ej 31 _ _ (by decide)]
    refine ⟨y.1, y.2.1, y.2.2.1, y.2.2.2.1, fun s a b => ?_⟩
    rw [ej _ _ _ (by decide)]
    exact y.2.2.2.2 s a b
  · rw [ej _ _ _ (by decide)] at c
    rw [ej _ _ _ (by decide)]
    exact h6.2 x s a b c d
theorem badness_pr (hO : OK n e C I z) {t v : Int} (t0 : -2147483648 ≤ t) (t1 : t < 2147483648) (v0 : -2147483648 ≤ v) (v1 : v < 2147483648) : PR n e C I z (fun F σ => J11_badness F (rf e 11 0) (xk t) (xk v) σ) (fun F σ => J12_badness F (rf e 12 0) (xk t) (xk v) σ) ∨ PT n e C I z 51 1 (fun F σ => J11_badness F (rf e 11 0) (xk t) (xk v) σ) (fun F σ => J12_badness F (rf e 12 0) (xk t) (xk v) σ) := by
  obtain ⟨hA, hR, hC0, hI0⟩ := hO
  have hO : OK n e C I z := ⟨hA, hR, hC0, hI0⟩
  have hC := hC0.th (v := 0)
  have hI := hI0.th (m := n) (v := 0) (by omega)
  have hT := hI.ti
  generalize hJ : th I 0 = J at *
  have n8 := hC.1.1
  have n7 := hC.2.1.1
  have n1 := hC.2.2.1.1
  have n10 := hC.2.2.2.2.1.1
  have hB := hT.1
  have := RB.tasks hB
  have := RB.spaces hB
  have := RB.groups hB
  have := RB.views hB
  have n4 := hA.2.2.2.1
  have lv := living_ev (I := I) hA hC hT t0 t1
  by_cases hv : -10 ≤ v ∧ v ≤ 10
  · left
    have pre : ∀ {C' : ST} {r}, Ev (fun F => if 0 ≤ t ∧ t < (J 12 0 1) ∧ (J 22 0 t) = 0 then some (.inl (some (.inl (xk 1))), HS e C' (up J 28 0 t v) z) else some (.inl (some (.inl (xk (-1)))), HS e C' J z)) r → Ev (fun F => J12_badness F (rf e 12 0) (xk t) (xk v) (HS e C' I z)) r := by
      intro C' r hr
      refine Ev.step (fun F => E12_badness F _ _ _ _) ?_
      rw [ll_n10, ll_10, zk_long v0 v1]
      refine Ev.kB (in_ev ⟨by omega, by omega⟩ ⟨by decide, by decide⟩ ⟨by decide, by decide⟩) (fun _ => ?_) (fun q => absurd hv q)
      refine Ev.ite (fun q => absurd q k10) (fun _ => ?_)
      try simp (maxSteps := 2000000) (disch := omega) only [d_12 hA hR, g_12_0 hA hR, g_12_8 hA hR, p_12_0 hA hR, s_28 hA hR, Option.bind_some, up_s, up_k, up_j, up_i, xk_add, xk_sub, xk_mul, xk_neg, lk_add, lN_z, rf_none, rb1, rb0, rbp, xk_nI, zk_eq, zk_lt, zk_eq0, zk_lt0, zk_0lt, zk_long, lz_lt, lz_gt, zmax, zmin, ↓reduceIte, Int.reduceEq, Int.reduceLT, Int.reduceNeg, Int.reduceAdd, Int.reduceSub, Int.reduceMul, Int.ofNat_eq_natCast, Int.cast_ofNat_Int]
      rw [show up I 12 0 0 0 = J from hJ]
      refine Ev.kB (isLive_r hA hR hB t0 t1) (fun q => ?_) (fun q => ?_)
      · simp only [if_pos q] at hr
        try simp (maxSteps := 2000000) (disch := omega) only [d_12 hA hR, g_12_0 hA hR, g_12_8 hA hR, p_12_0 hA hR, s_28 hA hR, Option.bind_some, up_s, up_k, up_j, up_i, xk_add, xk_sub, xk_mul, xk_neg, lk_add, lN_z, rf_none, rb1, rb0, rbp, xk_nI, zk_eq, zk_lt, zk_eq0, zk_lt0, zk_0lt, zk_long, lz_lt, lz_gt, zmax, zmin, ↓reduceIte, Int.reduceEq, Int.reduceLT, Int.reduceNeg, Int.reduceAdd, Int.reduceSub, Int.reduceMul, Int.ofNat_eq_natCast, Int.cast_ofNat_Int]
        exact hr
      · simp only [if_neg q] at hr
        try simp (maxSteps := 2000000) (disch := omega) only [d_12 hA hR, g_12_0 hA hR, g_12_8 hA hR, p_12_0 hA hR, s_28 hA hR, Option.bind_some, up_s, up_k, up_j, up_i, xk_add, xk_sub, xk_mul, xk_neg, lk_add, lN_z, rf_none, rb1, rb0, rbp, xk_nI, zk_eq, zk_lt, zk_eq0, zk_lt0, zk_0lt, zk_long, lz_lt, lz_gt, zmax, zmin, ↓reduceIte, Int.reduceEq, Int.reduceLT, Int.reduceNeg, Int.reduceAdd, Int.reduceSub, Int.reduceMul, Int.ofNat_eq_natCast, Int.cast_ofNat_Int]
        exact hr
    by_cases h : (0 ≤ t ∧ t < (J 12 0 1) ∧ (J 22 0 t) = 0)
    · refine ⟨e, _, _, z, 1, ?_, ?_, ⟨hA, hR, hC.bad (t := t) (v := v), hI.bad (by omega) h.2.1 hv.1 hv.2⟩, NX.r (fun j => ?_), ⟨by decide, by decide⟩, ?_⟩
      · refine Ev.step (fun F => E11_badness F _ _ _ _) ?_
        simp (disch := omega) only [d_9 hA, g_11_1 hA, p_8_7 hA, Option.bind_some, up_s, up_k, up_j, up_i, xk_add, xk_sub, xk_mul, xk_neg, lk_add, lN_z, rf_none, rb1, rb0, rbp, xk_nI, zk_eq, zk_lt, zk_eq0, zk_lt0, zk_0lt, zk_long, lz_lt, lz_gt, zmax, zmin, ↓reduceIte, Int.reduceEq, Int.reduceLT, Int.reduceNeg, Int.reduceAdd, Int.reduceSub, Int.reduceMul, Int.ofNat_eq_natCast, Int.cast_ofNat_Int]
        refine Ev.ite (fun q => absurd q (by omega)) (fun _ => ?_)
        refine Ev.ite (fun q => absurd q (by omega)) (fun _ => ?_)
        refine Ev.kR lv ?_
        rw [lvg_y h]
        try simp (maxSteps := 2000000) (disch := omega) only [d_9 hA, g_11_1 hA, p_8_7 hA, Option.bind_some, up_s, up_k, up_j, up_i, xk_add, xk_sub, xk_mul, xk_neg, lk_add, lN_z, rf_none, rb1, rb0, rbp, xk_nI, zk_eq, zk_lt, zk_eq0, zk_lt0, zk_0lt, zk_long, lz_lt, lz_gt, zmax, zmin, ↓reduceIte, Int.reduceEq, Int.reduceLT, Int.reduceNeg, Int.reduceAdd, Int.reduceSub, Int.reduceMul, Int.ofNat_eq_natCast, Int.cast_ofNat_Int]
        refine Ev.ite (fun q => absurd q (by omega)) (fun _ => ?_)
        try simp (maxSteps := 2000000) (disch := omega) only [d_9 hA, g_11_1 hA, p_8_7 hA, Option.bind_some, up_s, up_k, up_j, up_i, xk_add, xk_sub, xk_mul, xk_neg, lk_add, lN_z, rf_none, rb1, rb0, rbp, xk_nI, zk_eq, zk_lt, zk_eq0, zk_lt0, zk_0lt, zk_long, lz_lt, lz_gt, zmax, zmin, ↓reduceIte, Int.reduceEq, Int.reduceLT, Int.reduceNeg, Int.reduceAdd, Int.reduceSub, Int.reduceMul, Int.ofNat_eq_natCast, Int.cast_ofNat_Int]
        exact Ev.ret rfl
      · refine pre ?_
        exact Ev.ite (fun _ => Ev.ret rfl) (fun q => absurd h q)
      · rw [up_k (by decide), ← hJ]
        exact th_f (Or.inl (by decide))
      · rw [up_k (by decide), ← hJ]
        exact up_s
    · refine PR.look hO (A := -1) (by decide) (by decide) ?_ ?_
      · refine Ev.step (fun F => E11_badness F _ _ _ _) ?_
        simp (disch := omega) only [d_9 hA, g_11_1 hA, p_8_7 hA, Option.bind_some, up_s, up_k, up_j, up_i, xk_add, xk_sub, xk_mul, xk_neg, lk_add, lN_z, rf_none, rb1, rb0, rbp, xk_nI, zk_eq, zk_lt, zk_eq0, zk_lt0, zk_0lt, zk_long, lz_lt, lz_gt, zmax, zmin, ↓reduceIte, Int.reduceEq, Int.reduceLT, Int.reduceNeg, Int.reduceAdd, Int.reduceSub, Int.reduceMul, Int.ofNat_eq_natCast, Int.cast_ofNat_Int]
        refine Ev.ite (fun q => absurd q (by omega)) (fun _ => ?_)
        refine Ev.ite (fun q => absurd q (by omega)) (fun _ => ?_)
        refine Ev.kR lv ?_
        rw [lvg_n h]
        try simp (maxSteps := 2000000) (disch := omega) only [d_9 hA, g_11_1 hA, p_8_7 hA, Option.bind_some, up_s, up_k, up_j, up_i, xk_add, xk_sub, xk_mul, xk_neg, lk_add, lN_z, rf_none, rb1, rb0, rbp, xk_nI, zk_eq, zk_lt, zk_eq0, zk_lt0, zk_0lt, zk_long, lz_lt, lz_gt, zmax, zmin, ↓reduceIte, Int.reduceEq, Int.reduceLT, Int.reduceNeg, Int.reduceAdd, Int.reduceSub, Int.reduceMul, Int.ofNat_eq_natCast, Int.cast_ofNat_Int]
        exact Ev.ret rfl
      · rw [hJ]
        refine pre ?_
        exact Ev.ite (fun q => absurd q h) (fun _ => Ev.ret rfl)
  · right
    refine ⟨⟨z.1, ?_⟩, 0, ?_⟩
    · refine Ev.step (fun F => E11_badness F _ _ _ _) ?_
      simp (disch := omega) only [d_9 hA, g_11_1 hA, p_8_7 hA, Option.bind_some, up_s, up_k, up_j, up_i, xk_add, xk_sub, xk_mul, xk_neg, lk_add, lN_z, rf_none, rb1, rb0, rbp, xk_nI, zk_eq, zk_lt, zk_eq0, zk_lt0, zk_0lt, zk_long, lz_lt, lz_gt, zmax, zmin, ↓reduceIte, Int.reduceEq, Int.reduceLT, Int.reduceNeg, Int.reduceAdd, Int.reduceSub, Int.reduceMul, Int.ofNat_eq_natCast, Int.cast_ofNat_Int, thr_HS]
      refine Ev.ite (fun _ => Ev.ret rfl) (fun q => ?_)
      exact Ev.ite (fun _ => Ev.ret rfl) (fun q' => absurd hv (by omega))
    · have hA' := hA.thr
      generalize (z.1 + 1, z.2.1 + 6, z.2.2) = z' at hA' ⊢
      have hA := hA'
      refine Ev.step (fun F => E12_badness F _ _ _ _) ?_
      rw [ll_n10, ll_10, zk_long v0 v1]
      refine Ev.kB (in_ev ⟨by omega, by omega⟩ ⟨by decide, by decide⟩ ⟨by decide, by decide⟩) (fun q => absurd q hv) (fun _ => ?_)
      refine Ev.ite (fun _ => ?_) (fun q => absurd k00 q)
      try simp (maxSteps := 2000000) (disch := omega) only [d_12 hA hR, g_12_0 hA hR, g_12_8 hA hR, p_12_0 hA hR, s_28 hA hR, Option.bind_some, up_s, up_k, up_j, up_i, xk_add, xk_sub, xk_mul, xk_neg, lk_add, lN_z, rf_none, rb1, rb0, rbp, xk_nI, zk_eq, zk_lt, zk_eq0, zk_lt0, zk_0lt, zk_long, lz_lt, lz_gt, zmax, zmin, ↓reduceIte, Int.reduceEq, Int.reduceLT, Int.reduceNeg, Int.reduceAdd, Int.reduceSub, Int.reduceMul, Int.ofNat_eq_natCast, Int.cast_ofNat_Int]
      exact Ev.ret rfl
end OPs
