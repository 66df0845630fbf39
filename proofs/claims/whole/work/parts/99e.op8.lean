/-! pairs: sleep, move, group -/
section OPs
variable {e : EN} {C I J : ST} {z : Nat × Nat × Nat × Nat} {n : Int}
theorem Inv.tm (h : Inv n J) {m t v : Int} (hm : n ≤ m) (v0 : 0 ≤ v) (v1 : v ≤ 1000000 * (J 12 0 26)) : Inv m (up J 30 0 t v) := by
  obtain ⟨h1, h2, h3, h4, h5, h6, h7, h8, h9⟩ := h
  have ej : ∀ k i j, k ≠ 30 → up J 30 0 t v k i j = J k i j := fun k i j a => up_k a
  have hT : TI (up J 30 0 t v) := by
    refine ⟨RB.u_time h1.1, ?_⟩
    have el : lin (up J 30 0 t v) = lin J := lin_c (fun j => ej _ _ _ (by decide))
    simp (disch := decide) only [ej, el]
    exact h1.2
  refine ⟨hT, h2.c (ej _ _ _ (by decide)) (fun j => ej _ _ _ (by decide)) (fun j => ej _ _ _ (by decide)), h3.c (ej _ _ _ (by decide)) (fun j => ej _ _ _ (by decide)) (usF_c (ej _ _ _ (by decide)) (ej _ _ _ (by decide)) (fun j => by rw [ej _ _ _ (by decide)]) (fun j => ej _ _ _ (by decide)) (fun j => ej _ _ _ (by decide)) (fun j => ej _ _ _ (by decide)) (fun j => ej _ _ _ (by decide))), h4.c (ej _ _ _ (by decide)) (fun j => ej _ _ _ (by decide)) (fun j => ej _ _ _ (by decide)), h5.c (ej _ _ _ (by decide)) (fun j => ej _ _ _ (by decide)) (fun j => ej _ _ _ (by decide)) (fun j => ej _ _ _ (by decide)), h6.c (ej _ _ _ (by decide)) (ej _ _ _ (by decide)) (fun j => ej _ _ _ (by decide)) (fun j => ej _ _ _ (by decide)) (fun j => ej _ _ _ (by decide)) (fun j => ej _ _ _ (by decide)) (fun j => ej _ _ _ (by decide)), ⟨⟨?_, ?_⟩, fun x a b => ?_, fun g a b => ?_⟩, h8.c (ej _ _ _ (by decide)) (fun k j a b => ej _ _ _ (by omega)), h9.c hm (ej _ _ _ (by decide)) (fun j => ej _ _ _ (by decide))⟩
  · rw [ej _ _ _ (by decide)]; exact h7.1.1
  · rw [ej _ _ _ (by decide)]; have := h7.1.2; omega
  · rw [ej 12 _ _ (by decide)]
    by_cases hx : x = t
    · rw [hx, up_s]; exact ⟨v0, v1⟩
    · rw [up_j hx]; exact h7.2.1 x a b
  · rw [ej 12 _ _ (by decide), ej 45 _ _ (by decide), ej 44 _ _ (by decide)]
    exact h7.2.2 g a b
theorem Inv.gtm (h : Inv n J) {m g v : Int} (hm : n ≤ m) (v0 : 0 ≤ v) (v1 : v ≤ 1000000 * (J 12 0 26)) : Inv m (up J 45 0 g v) := by
  obtain ⟨h1, h2, h3, h4, h5, h6, h7, h8, h9⟩ := h
  have ej : ∀ k i j, k ≠ 45 → up J 45 0 g v k i j = J k i j := fun k i j a => up_k a
  have hT : TI (up J 45 0 g v) := by
    refine ⟨RB.u_groupTime h1.1, ?_⟩
    have el : lin (up J 45 0 g v) = lin J := lin_c (fun j => ej _ _ _ (by decide))
    simp (disch := decide) only [ej, el]
    exact h1.2
  refine ⟨hT, h2.c (ej _ _ _ (by decide)) (fun j => ej _ _ _ (by decide)) (fun j => ej _ _ _ (by decide)), h3.c (ej _ _ _ (by decide)) (fun j => ej _ _ _ (by decide)) (usF_c (ej _ _ _ (by decide)) (ej _ _ _ (by decide)) (fun j => by rw [ej _ _ _ (by decide)]) (fun j => ej _ _ _ (by decide)) (fun j => ej _ _ _ (by decide)) (fun j => ej _ _ _ (by decide)) (fun j => ej _ _ _ (by decide))), h4.c (ej _ _ _ (by decide)) (fun j => ej _ _ _ (by decide)) (fun j => ej _ _ _ (by decide)), h5.c (ej _ _ _ (by decide)) (fun j => ej _ _ _ (by decide)) (fun j => ej _ _ _ (by decide)) (fun j => ej _ _ _ (by decide)), h6.c (ej _ _ _ (by decide)) (ej _ _ _ (by decide)) (fun j => ej _ _ _ (by decide)) (fun j => ej _ _ _ (by decide)) (fun j => ej _ _ _ (by decide)) (fun j => ej _ _ _ (by decide)) (fun j => ej _ _ _ (by decide)), ⟨⟨?_, ?_⟩, fun x a b => ?_, fun x a b => ?_⟩, h8.c (ej _ _ _ (by decide)) (fun k j a b => ej _ _ _ (by omega)), h9.c hm (ej _ _ _ (by decide)) (fun j => ej _ _ _ (by decide))⟩
  · rw [ej _ _ _ (by decide)]; exact h7.1.1
  · rw [ej _ _ _ (by decide)]; have := h7.1.2; omega
  · rw [ej 12 _ _ (by decide), ej 30 _ _ (by decide)]
    exact h7.2.1 x a b
  · rw [ej 12 _ _ (by decide), ej 44 _ _ (by decide)]
    have y := h7.2.2 x a b
    by_cases hx : x = g
    · rw [hx, up_s]; rw [hx] at y; exact ⟨v0, v1, y.2.2⟩
    · rw [up_j hx]; exact y
theorem ltV_c (h : KI n J) {a b : Int} (a1 : a < 150) (b1 : b < 20) : -1 ≤ ltV J a b ∧ ltV J a b ≤ 1000000 * (J 12 0 26) := by
  have c := h.1.1
  unfold ltV
  split
  · split
    · omega
    · have := h.2.2 b (by omega) (by omega); omega
  · have := h.2.1 a (by omega) (by omega)
    split
    · omega
    · have := h.2.2 b (by omega) (by omega); omega
/-- a task comes into its group: both sides -/
theorem come_pr (hA : WA e z) (hR : WR e) (hC : Cpl e C J) (hI : Inv n J) (hn : n ≤ 600) {t mv : Int} (t0 : 0 ≤ t) (t1 : t < (J 12 0 1)) (m0 : 0 ≤ mv) (m1 : mv ≤ 1) : ∃ C' J', Ev (fun F => J0_admit F (rf e 0 0) (rf e 8 t) (xk mv) (HS e C I z)) (rV (HS e C' I z)) ∧ (∀ C2, Ev (fun F => J12_come F (rf e 12 0) (xk t) (xk mv) (HS e C2 J z)) (rV (HS e C2 J' z))) ∧ Cpl e C' J' ∧ Inv n J' ∧ (∀ k i j, k ≠ 30 → k ≠ 59 → J' k i j = J k i j) := by
  have hT := hI.ti
  have hB := hT.1
  have tk := RB.tasks hB
  have gk := RB.groups hB
  have hK := hI.ki.kb (by omega)
  obtain ⟨C', hs, a, b, hE, hH, ha, hb, hC'⟩ := admit_ev (I := I) hA hC hT hK t0 t1 m0 m1
  have ab := ha.b (by omega)
  have bb := hb.b (by omega)
  have lc := ltV_c hI.ki (a := a) (b := b) (by omega) (by omega)
  have tt := hI.ki.2.1 t t0 (by omega)
  refine ⟨C', cmI (frI J hs) t mv (ltV J a b), hE, fun C2 => come_ev hA hR hB hK hH t0 (by omega) m0 m1 ha hb, hC', ?_, fun k i j q q' => ?_⟩
  · rw [cmI_eq, fr_f (by decide)]
    refine (hI.fri (m := n) (by omega)).tm (by omega) ?_ ?_
    · split <;> omega
    · rw [fr_f (by decide)]
      have := hI.ki.1.1
      split <;> omega
  · rw [cmI_eq, up_k q, fr_f q']
theorem Cpl.asl (hC : Cpl e C J) {t v : Int} : Cpl e (up C 8 t 9 v) (up J 29 0 t v) := by
  obtain ⟨h1, h2, h3, h4, h5, h6⟩ := hC
  have f0 : ∀ k i j, k ≠ 8 → up C 8 t 9 v k i j = C k i j := fun k i j a => up_k a
  have ej : ∀ k i j, k ≠ 29 → up J 29 0 t v k i j = J k i j := fun k i j a => up_k a
  refine ⟨⟨(ej 12 0 1 (by decide)).symm ▸ h1.1, fun x x0 x1 => ?_⟩, h2.fr (fun i j => f0 _ _ _ (by decide)) (fun i j => f0 _ _ _ (by decide)) (ej _ _ _ (by decide)) (fun j => ej _ _ _ (by decide)) (fun j => ej _ _ _ (by decide)) (fun j => ej _ _ _ (by decide)) (HoR_c (ej _ _ _ (by decide)) (fun j => by rw [ej _ _ _ (by decide)]) (fun j => ej _ _ _ (by decide))), h3.fr (fun i j _ => f0 _ _ _ (by decide)) (ej _ _ _ (by decide)) (fun k j a b => ej _ _ _ (by omega)) (usF_c (ej _ _ _ (by decide)) (ej _ _ _ (by decide)) (fun j => by rw [ej _ _ _ (by decide)]) (fun j => ej _ _ _ (by decide)) (fun j => ej _ _ _ (by decide)) (fun j => ej _ _ _ (by decide)) (fun j => ej _ _ _ (by decide))) (lvF_c (ej _ _ _ (by decide)) (fun j => by rw [ej _ _ _ (by decide)]) (fun j => ej _ _ _ (by decide)) (fun j => ej _ _ _ (by decide))), h4.fr (fun g => f0 _ _ _ (by decide)) (fun g => f0 _ _ _ (by decide)) (ej _ _ _ (by decide)) (ej _ _ _ (by decide)), h5.fr (fun k i j h => f0 _ _ _ (by omega)) (fun k i j a b => ej _ _ _ (by omega)) (ej _ _ _ (by decide)) (ej _ _ _ (by decide)), h6.fr (f0 _ _ _ (by decide)) (f0 _ _ _ (by decide)) (fun j => f0 _ _ _ (by decide)) (fun j => f0 _ _ _ (by decide)) (ej _ _ _ (by decide)) (ej _ _ _ (by decide))⟩
  rw [ej _ _ _ (by decide)] at x1
  have q := h1.2 x x0 x1
  have c8 : ∀ j, j ≠ 9 → up C 8 t 9 v 8 x j = C 8 x j := fun j a => up_j a
  have d8 : ∀ k, k ≠ 29 → up J 29 0 t v k 0 x = J k 0 x := fun k a => up_k a
  simp (disch := decide) only [c8, d8]
  refine ⟨q.1, q.2.1, q.2.2.1, q.2.2.2.1, q.2.2.2.2.1, q.2.2.2.2.2.1, q.2.2.2.2.2.2.1, q.2.2.2.2.2.2.2.1, ?_, q.2.2.2.2.2.2.2.2.2⟩
  by_cases hx : x = t
  · rw [hx, up_s, up_s]
  · rw [up_i hx, up_j hx]; exact q.2.2.2.2.2.2.2.2.1
theorem Inv.asl (h : Inv n J) {m t v : Int} (hm : n ≤ m) (t1 : t < (J 12 0 1)) (hv : 0 ≤ v) (hb : v ≤ 1) : Inv m (up J 29 0 t v) := by
  obtain ⟨h1, h2, h3, h4, h5, h6, h7, h8, h9⟩ := h
  have ej : ∀ k i j, k ≠ 29 → up J 29 0 t v k i j = J k i j := fun k i j a => up_k a
  have hT : TI (up J 29 0 t v) := by
    refine ⟨RB.u_asleep h1.1 hv hb, ?_⟩
    have el : lin (up J 29 0 t v) = lin J := lin_c (fun j => ej _ _ _ (by decide))
    simp (disch := decide) only [ej, el]
    exact h1.2
  refine ⟨hT, h2.c (ej _ _ _ (by decide)) (fun j => ej _ _ _ (by decide)) (fun j => ej _ _ _ (by decide)), h3.c (ej _ _ _ (by decide)) (fun j => ej _ _ _ (by decide)) (usF_c (ej _ _ _ (by decide)) (ej _ _ _ (by decide)) (fun j => by rw [ej _ _ _ (by decide)]) (fun j => ej _ _ _ (by decide)) (fun j => ej _ _ _ (by decide)) (fun j => ej _ _ _ (by decide)) (fun j => ej _ _ _ (by decide))), h4.c (ej _ _ _ (by decide)) (fun j => ej _ _ _ (by decide)) (fun j => ej _ _ _ (by decide)), h5.c (ej _ _ _ (by decide)) (fun j => ej _ _ _ (by decide)) (fun j => ej _ _ _ (by decide)) (fun j => ej _ _ _ (by decide)), ⟨fun x a b => ?_, fun x s a b c d => ?_⟩, h7.c hm (ej _ _ _ (by decide)) (fun j => ej _ _ _ (by decide)) (fun j => ej _ _ _ (by decide)) (fun j => ej _ _ _ (by decide)), h8.c (ej _ _ _ (by decide)) (fun k j a b => ej _ _ _ (by omega)), h9.c hm (ej _ _ _ (by decide)) (fun j => ej _ _ _ (by decide))⟩
  · rw [ej _ _ _ (by decide)] at a
    have y := h6.1 x a b
    rw [ej 27 _ _ (by decide), ej 28 _ _ (by decide), up_j (show x ≠ t by omega), ej 31 _ _ (by decide)]
    refine ⟨y.1, y.2.1, y.2.2.1, y.2.2.2.1, fun s a b => ?_⟩
    rw [ej _ _ _ (by decide)]
    exact y.2.2.2.2 s a b
  · rw [ej _ _ _ (by decide)] at c
    rw [ej _ _ _ (by decide)]
    exact h6.2 x s a b c d
theorem sleep_pr (hO : OK n e C I z) (hn : n ≤ 600) {t v : Int} (t0 : -2147483648 ≤ t) (t1 : t < 2147483648) (v0 : 0 ≤ v) (v1 : v ≤ 1) : PR n e C I z (fun F s => J11_sleep F (rf e 11 0) (xk t) (xk v) s) (fun F s => J12_sleep F (rf e 12 0) (xk t) (xk v) s) := by
  obtain ⟨hA, hR, hC0, hI0⟩ := hO
  have hO : OK n e C I z := ⟨hA, hR, hC0, hI0⟩
  have hC := hC0.th (v := 0)
  have hI := hI0.th (m := n) (v := 0) (by omega)
  have hT := hI.ti
  generalize hJ : th I 0 = J at *
  have n8 := hC.1.1
  have n7 := hC.2.1.1
  have n1 := hC.2.2.1.1
  have n10 := hC.2.2.2.2.1.1
  have hB := hT.1
  have := RB.tasks hB
  have := RB.spaces hB
  have := RB.groups hB
  have := RB.views hB
  have n4 := hA.2.2.2.1
  have lv := living_ev (I := I) hA hC hT t0 t1
  have pre : ∀ {C' : ST} {r}, (0 ≤ t ∧ t < (J 12 0 1) ∧ (J 22 0 t) = 0 → Ev (fun F => if (J 29 0 t) = v then some (.inl (some (.inl (xk 0))), HS e C' J z) else (if v = 0 then (xcv (J12_come F (rf e 12 0) (xk t) (xk 0) (HS e C' (up J 29 0 t v) z)) fun s8 => some (.inl (some (.inl (xk 1))), s8)) else (some (.inl (some (.inl (xk 1))), HS e C' (up J 29 0 t v) z)))) r) → (¬ (0 ≤ t ∧ t < (J 12 0 1) ∧ (J 22 0 t) = 0) → r = rI (-1) (HS e C' J z)) → Ev (fun F => J12_sleep F (rf e 12 0) (xk t) (xk v) (HS e C' I z)) r := by
    intro C' r h1 h2
    refine Ev.step (fun F => E12_sleep F _ _ _ _) ?_
    simp (disch := omega) only [a_29 hA hR, d_12 hA hR, g_12_9 hA hR, p_12_0 hA hR, s_29 hA hR, Option.bind_some, up_s, up_k, up_j, up_i, xk_add, xk_sub, xk_mul, xk_neg, lk_add, lN_z, rf_none, rb1, rb0, rbp, xk_nI, zk_eq, zk_lt, zk_eq0, zk_lt0, zk_0lt, zk_long, lz_lt, lz_gt, zmax, zmin, ↓reduceIte, Int.reduceEq, Int.reduceLT, Int.reduceNeg, Int.reduceAdd, Int.reduceSub, Int.reduceMul, Int.ofNat_eq_natCast, Int.cast_ofNat_Int]
    rw [show up I 12 0 0 0 = J from hJ]
    refine Ev.kB (isLive_r hA hR hB t0 t1) (fun q => ?_) (fun q => ?_)
    · have := RB.asleep hB (j := t) (by omega) (by omega)
      have h1 := h1 q
      try simp (maxSteps := 2000000) (disch := omega) only [a_29 hA hR, d_12 hA hR, g_12_9 hA hR, p_12_0 hA hR, s_29 hA hR, Option.bind_some, up_s, up_k, up_j, up_i, xk_add, xk_sub, xk_mul, xk_neg, lk_add, lN_z, rf_none, rb1, rb0, rbp, xk_nI, zk_eq, zk_lt, zk_eq0, zk_lt0, zk_0lt, zk_long, lz_lt, lz_gt, zmax, zmin, ↓reduceIte, Int.reduceEq, Int.reduceLT, Int.reduceNeg, Int.reduceAdd, Int.reduceSub, Int.reduceMul, Int.ofNat_eq_natCast, Int.cast_ofNat_Int]
      exact h1
    · try simp (maxSteps := 2000000) (disch := omega) only [a_29 hA hR, d_12 hA hR, g_12_9 hA hR, p_12_0 hA hR, s_29 hA hR, Option.bind_some, up_s, up_k, up_j, up_i, xk_add, xk_sub, xk_mul, xk_neg, lk_add, lN_z, rf_none, rb1, rb0, rbp, xk_nI, zk_eq, zk_lt, zk_eq0, zk_lt0, zk_0lt, zk_long, lz_lt, lz_gt, zmax, zmin, ↓reduceIte, Int.reduceEq, Int.reduceLT, Int.reduceNeg, Int.reduceAdd, Int.reduceSub, Int.reduceMul, Int.ofNat_eq_natCast, Int.cast_ofNat_Int]
      exact Ev.ret (h2 q).symm
  by_cases h : (0 ≤ t ∧ t < (J 12 0 1) ∧ (J 22 0 t) = 0)
  · have := RB.asleep hB (j := t) (by omega) (by omega)
    have c9 := hC.1.asleep h.1 h.2.1
    by_cases ha : (J 29 0 t) = v
    · refine PR.look hO (A := 0) (by decide) (by decide) ?_ ?_
      · refine Ev.step (fun F => E11_sleep F _ _ _ _) ?_
        simp (disch := omega) only [d_0 hA, d_9 hA, g_11_1 hA, g_11_3 hA, g_8_9 hA, pz_8_9 hA, Option.bind_some, up_s, up_k, up_j, up_i, xk_add, xk_sub, xk_mul, xk_neg, lk_add, lN_z, rf_none, rb1, rb0, rbp, xk_nI, zk_eq, zk_lt, zk_eq0, zk_lt0, zk_0lt, zk_long, lz_lt, lz_gt, zmax, zmin, ↓reduceIte, Int.reduceEq, Int.reduceLT, Int.reduceNeg, Int.reduceAdd, Int.reduceSub, Int.reduceMul, Int.ofNat_eq_natCast, Int.cast_ofNat_Int]
        refine Ev.kR lv ?_
        rw [lvg_y h]
        try simp (maxSteps := 2000000) (disch := omega) only [d_0 hA, d_9 hA, g_11_1 hA, g_11_3 hA, g_8_9 hA, pz_8_9 hA, Option.bind_some, up_s, up_k, up_j, up_i, xk_add, xk_sub, xk_mul, xk_neg, lk_add, lN_z, rf_none, rb1, rb0, rbp, xk_nI, zk_eq, zk_lt, zk_eq0, zk_lt0, zk_0lt, zk_long, lz_lt, lz_gt, zmax, zmin, ↓reduceIte, Int.reduceEq, Int.reduceLT, Int.reduceNeg, Int.reduceAdd, Int.reduceSub, Int.reduceMul, Int.ofNat_eq_natCast, Int.cast_ofNat_Int, c9]
        refine Ev.ite (fun q => absurd q (by omega)) (fun _ => ?_)
        exact Ev.ite (fun _ => Ev.ret rfl) (fun q => absurd ha q)
      · rw [hJ]
        exact pre (fun _ => Ev.ite (fun _ => Ev.ret rfl) (fun q => absurd ha q)) (fun q => absurd h q)
    · have hC1 := hC.asl (t := t) (v := v)
      have hI1 := hI.asl (m := n) (t := t) (v := v) (by omega) h.2.1 v0 v1
      by_cases hz : v = 0
      · obtain ⟨C', J', hE, hr, hC', hI', ej⟩ := come_pr (I := I) hA hR hC1 hI1 hn (t := t) (mv := 0) h.1 (by rw [up_k (by decide)]; exact h.2.1) (by omega) (by omega)
        refine ⟨e, C', J', z, 1, ?_, pre (fun _ => Ev.ite (fun q => absurd q ha) (fun _ => Ev.ite (fun _ => Ev.kV (hr _) (Ev.ret rfl)) (fun q => absurd hz q))) (fun q => absurd h q), ⟨hA, hR, hC', hI'.sc (by omega) hI'.rb (fun _ _ _ _ _ _ => rfl)⟩, NX.r (fun j => ?_), ⟨by decide, by decide⟩, ?_⟩
        · refine Ev.step (fun F => E11_sleep F _ _ _ _) ?_
          simp (disch := omega) only [d_0 hA, d_9 hA, g_11_1 hA, g_11_3 hA, g_8_9 hA, pz_8_9 hA, Option.bind_some, up_s, up_k, up_j, up_i, xk_add, xk_sub, xk_mul, xk_neg, lk_add, lN_z, rf_none, rb1, rb0, rbp, xk_nI, zk_eq, zk_lt, zk_eq0, zk_lt0, zk_0lt, zk_long, lz_lt, lz_gt, zmax, zmin, ↓reduceIte, Int.reduceEq, Int.reduceLT, Int.reduceNeg, Int.reduceAdd, Int.reduceSub, Int.reduceMul, Int.ofNat_eq_natCast, Int.cast_ofNat_Int]
          refine Ev.kR lv ?_
          rw [lvg_y h]
          try simp (maxSteps := 2000000) (disch := omega) only [d_0 hA, d_9 hA, g_11_1 hA, g_11_3 hA, g_8_9 hA, pz_8_9 hA, Option.bind_some, up_s, up_k, up_j, up_i, xk_add, xk_sub, xk_mul, xk_neg, lk_add, lN_z, rf_none, rb1, rb0, rbp, xk_nI, zk_eq, zk_lt, zk_eq0, zk_lt0, zk_0lt, zk_long, lz_lt, lz_gt, zmax, zmin, ↓reduceIte, Int.reduceEq, Int.reduceLT, Int.reduceNeg, Int.reduceAdd, Int.reduceSub, Int.reduceMul, Int.ofNat_eq_natCast, Int.cast_ofNat_Int, c9]
          refine Ev.ite (fun q => absurd q (by omega)) (fun _ => ?_)
          refine Ev.ite (fun q => absurd q ha) (fun _ => ?_)
          try simp (maxSteps := 2000000) (disch := omega) only [d_0 hA, d_9 hA, g_11_1 hA, g_11_3 hA, g_8_9 hA, pz_8_9 hA, Option.bind_some, up_s, up_k, up_j, up_i, xk_add, xk_sub, xk_mul, xk_neg, lk_add, lN_z, rf_none, rb1, rb0, rbp, xk_nI, zk_eq, zk_lt, zk_eq0, zk_lt0, zk_0lt, zk_long, lz_lt, lz_gt, zmax, zmin, ↓reduceIte, Int.reduceEq, Int.reduceLT, Int.reduceNeg, Int.reduceAdd, Int.reduceSub, Int.reduceMul, Int.ofNat_eq_natCast, Int.cast_ofNat_Int, c9]
          refine Ev.ite (fun _ => ?_) (fun q => absurd hz q)
          exact Ev.kV hE (Ev.ret rfl)
        · rw [ej _ _ _ (by decide) (by decide), up_k (by decide), ← hJ]
          exact th_f (Or.inl (by decide))
        · rw [ej _ _ _ (by decide) (by decide), up_k (by decide), ← hJ]
          exact up_s
      · refine ⟨e, _, _, z, 1, ?_, pre (fun _ => Ev.ite (fun q => absurd q ha) (fun _ => Ev.ite (fun q => absurd q hz) (fun _ => Ev.ret rfl))) (fun q => absurd h q), ⟨hA, hR, hC1, hI1.sc (by omega) hI1.rb (fun _ _ _ _ _ _ => rfl)⟩, NX.r (fun j => ?_), ⟨by decide, by decide⟩, ?_⟩
        · refine Ev.step (fun F => E11_sleep F _ _ _ _) ?_
          simp (disch := omega) only [d_0 hA, d_9 hA, g_11_1 hA, g_11_3 hA, g_8_9 hA, pz_8_9 hA, Option.bind_some, up_s, up_k, up_j, up_i, xk_add, xk_sub, xk_mul, xk_neg, lk_add, lN_z, rf_none, rb1, rb0, rbp, xk_nI, zk_eq, zk_lt, zk_eq0, zk_lt0, zk_0lt, zk_long, lz_lt, lz_gt, zmax, zmin, ↓reduceIte, Int.reduceEq, Int.reduceLT, Int.reduceNeg, Int.reduceAdd, Int.reduceSub, Int.reduceMul, Int.ofNat_eq_natCast, Int.cast_ofNat_Int]
          refine Ev.kR lv ?_
          rw [lvg_y h]
          try simp (maxSteps := 2000000) (disch := omega) only [d_0 hA, d_9 hA, g_11_1 hA, g_11_3 hA, g_8_9 hA, pz_8_9 hA, Option.bind_some, up_s, up_k, up_j, up_i, xk_add, xk_sub, xk_mul, xk_neg, lk_add, lN_z, rf_none, rb1, rb0, rbp, xk_nI, zk_eq, zk_lt, zk_eq0, zk_lt0, zk_0lt, zk_long, lz_lt, lz_gt, zmax, zmin, ↓reduceIte, Int.reduceEq, Int.reduceLT, Int.reduceNeg, Int.reduceAdd, Int.reduceSub, Int.reduceMul, Int.ofNat_eq_natCast, Int.cast_ofNat_Int, c9]
          refine Ev.ite (fun q => absurd q (by omega)) (fun _ => ?_)
          refine Ev.ite (fun q => absurd q ha) (fun _ => ?_)
          try simp (maxSteps := 2000000) (disch := omega) only [d_0 hA, d_9 hA, g_11_1 hA, g_11_3 hA, g_8_9 hA, pz_8_9 hA, Option.bind_some, up_s, up_k, up_j, up_i, xk_add, xk_sub, xk_mul, xk_neg, lk_add, lN_z, rf_none, rb1, rb0, rbp, xk_nI, zk_eq, zk_lt, zk_eq0, zk_lt0, zk_0lt, zk_long, lz_lt, lz_gt, zmax, zmin, ↓reduceIte, Int.reduceEq, Int.reduceLT, Int.reduceNeg, Int.reduceAdd, Int.reduceSub, Int.reduceMul, Int.ofNat_eq_natCast, Int.cast_ofNat_Int, c9]
          exact Ev.ite (fun q => absurd q hz) (fun _ => Ev.ret rfl)
        · rw [up_k (by decide), ← hJ]
          exact th_f (Or.inl (by decide))
        · rw [up_k (by decide), ← hJ]
          exact up_s
  · refine PR.look hO (A := -1) (by decide) (by decide) ?_ ?_
    · refine Ev.step (fun F => E11_sleep F _ _ _ _) ?_
      simp (disch := omega) only [d_0 hA, d_9 hA, g_11_1 hA, g_11_3 hA, g_8_9 hA, pz_8_9 hA, Option.bind_some, up_s, up_k, up_j, up_i, xk_add, xk_sub, xk_mul, xk_neg, lk_add, lN_z, rf_none, rb1, rb0, rbp, xk_nI, zk_eq, zk_lt, zk_eq0, zk_lt0, zk_0lt, zk_long, lz_lt, lz_gt, zmax, zmin, ↓reduceIte, Int.reduceEq, Int.reduceLT, Int.reduceNeg, Int.reduceAdd, Int.reduceSub, Int.reduceMul, Int.ofNat_eq_natCast, Int.cast_ofNat_Int]
      refine Ev.kR lv ?_
      rw [lvg_n h]
      try simp (maxSteps := 2000000) (disch := omega) only [d_0 hA, d_9 hA, g_11_1 hA, g_11_3 hA, g_8_9 hA, pz_8_9 hA, Option.bind_some, up_s, up_k, up_j, up_i, xk_add, xk_sub, xk_mul, xk_neg, lk_add, lN_z, rf_none, rb1, rb0, rbp, xk_nI, zk_eq, zk_lt, zk_eq0, zk_lt0, zk_0lt, zk_long, lz_lt, lz_gt, zmax, zmin, ↓reduceIte, Int.reduceEq, Int.reduceLT, Int.reduceNeg, Int.reduceAdd, Int.reduceSub, Int.reduceMul, Int.ofNat_eq_natCast, Int.cast_ofNat_Int]
      exact Ev.ret rfl
    · rw [hJ]
      exact pre (fun q => absurd q h) (fun _ => rfl)
end OPs
