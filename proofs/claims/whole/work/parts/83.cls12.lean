/-! mounts: the class's add and remove -/
section CL
variable {e : EN} {C I J : ST} {z : Nat × Nat × Nat × Nat}
def umC (C : ST) (m o d n c : Int) : ST := up (up (up (up (up (up C 17 o d (-1)) 4 o 5 c) 4 m 3 (-1)) 4 m 4 0) 4 m 2 (-1)) 5 0 3 n
theorem Cpl.um (hC : Cpl e C J) (hB : RB J) {m o d : Int} (m0 : 0 ≤ m) (m1 : m < 80) (hm : (J 50 0 m) = 1) (ho : (J 52 0 m) = o) (hd : (J 53 0 m) = d) (o0 : 0 ≤ o) (om : o ≠ m) : Cpl e (umC C m o d ((C 5 0 3) - 1) ((C 4 o 5) + -1)) (up J 50 0 m 0) := by
  obtain ⟨h1, h2, h3, h4, h5, h6⟩ := hC
  have := RB.inMount hB (j := m) (by omega) (by omega)
  have := RB.inPlace hB (j := m) (by omega) (by omega)
  have f0 : ∀ k i j, k ≠ 4 → k ≠ 5 → k ≠ 17 → umC C m o d ((C 5 0 3) - 1) ((C 4 o 5) + -1) k i j = C k i j := fun k i j a b c => by simp [umC, up, a, b, c]
  have ej : ∀ k i j, k ≠ 50 → up J 50 0 m 0 k i j = J k i j := fun k i j a => up_k a
  have et : ∀ k, up J 50 0 m 0 50 0 k = if k = m then 0 else J 50 0 k := fun k => by simp [up]
  refine ⟨h1.fr (fun i j => f0 _ _ _ (by decide) (by decide) (by decide)) (ej _ _ _ (by omega)) (fun k j a b => ej _ _ _ (by omega)), h2.fr (fun i j => f0 _ _ _ (by decide) (by decide) (by decide)) (fun i j => f0 _ _ _ (by decide) (by decide) (by decide)) (ej _ _ _ (by omega)) (fun j => ej _ _ _ (by omega)) (fun j => ej _ _ _ (by omega)) (fun j => ej _ _ _ (by omega)) (HoR_c (ej _ _ _ (by omega)) (fun j => by rw [ej _ _ _ (by omega)]) (fun j => ej _ _ _ (by omega))), h3.fr (fun i j _ => f0 _ _ _ (by decide) (by decide) (by decide)) (ej _ _ _ (by omega)) (fun k j a b => ej _ _ _ (by omega)) (usF_c (ej _ _ _ (by omega)) (ej _ _ _ (by omega)) (fun j => by rw [ej _ _ _ (by omega)]) (fun j => ej _ _ _ (by omega)) (fun j => ej _ _ _ (by omega)) (fun j => ej _ _ _ (by omega)) (fun j => ej _ _ _ (by omega))) (lvF_c (ej _ _ _ (by omega)) (fun j => by rw [ej _ _ _ (by omega)]) (fun j => ej _ _ _ (by omega)) (fun j => ej _ _ _ (by omega))), h4.fr (fun g => f0 _ _ _ (by decide) (by decide) (by decide)) (fun g => f0 _ _ _ (by decide) (by decide) (by decide)) (ej _ _ _ (by omega)) (ej _ _ _ (by omega)), ?_, h6.fr (f0 _ _ _ (by decide) (by decide) (by decide)) (f0 _ _ _ (by decide) (by decide) (by decide)) (fun j => f0 _ _ _ (by decide) (by decide) (by decide)) (fun i => by simp [umC, up]) (ej _ _ _ (by omega)) (ej _ _ _ (by omega))⟩
  obtain ⟨g1, g2, g3, g4, g5⟩ := h5
  refine ⟨(ej 12 0 28 (by omega)).symm ▸ g1, fun v v0 v1 => ?_, fun k k0 k1 => ?_, ?_, ?_⟩
  · rw [ej _ _ _ (by omega)] at v1
    rw [f0 _ _ _ (by decide) (by decide) (by decide), ej _ _ _ (by omega)]
    exact g2 v v0 v1
  · have y := g3 k k0 k1
    have c6 : umC C m o d ((C 5 0 3) - 1) ((C 4 o 5) + -1) 4 k 6 = C 4 k 6 := by simp [umC, up]
    have c7 : umC C m o d ((C 5 0 3) - 1) ((C 4 o 5) + -1) 4 k 7 = C 4 k 7 := by simp [umC, up]
    have c2 : umC C m o d ((C 5 0 3) - 1) ((C 4 o 5) + -1) 4 k 2 = if k = m then -1 else C 4 k 2 := by simp [umC, up]
    have c3 : umC C m o d ((C 5 0 3) - 1) ((C 4 o 5) + -1) 4 k 3 = if k = m then -1 else C 4 k 3 := by simp [umC, up]
    have c4 : umC C m o d ((C 5 0 3) - 1) ((C 4 o 5) + -1) 4 k 4 = if k = m then 0 else C 4 k 4 := by simp [umC, up]
    have c5 : umC C m o d ((C 5 0 3) - 1) ((C 4 o 5) + -1) 4 k 5 = if k = o then C 4 o 5 + -1 else C 4 k 5 := by simp [umC, up]
    have c17 : ∀ x, umC C m o d ((C 5 0 3) - 1) ((C 4 o 5) + -1) 17 k x = if k = o ∧ x = d then -1 else C 17 k x := fun x => by simp [umC, up]
    have ejk : ∀ k', k' ≠ 50 → up J 50 0 m 0 k' 0 k = J k' 0 k := fun k' a => up_k a
    rw [c6, c7, c2, c3, c4, c5, et, ejk 54 (by decide), ejk 55 (by decide), ejk 51 (by decide), ejk 52 (by decide), ejk 53 (by decide)]
    have bz : ∀ x, sm (bzT (up J 50 0 m 0) x) 80 = sm (bzT J x) 80 - (if x = o then 1 else 0) := by
      intro x
      have := sm_u (f := bzT J x) (f' := bzT (up J 50 0 m 0) x) (n := 80) (x := m) m0 m1 (fun j _ _ hj => by unfold bzT; rw [et, ej _ _ _ (by decide), if_neg hj])
      rw [this]
      have a : bzT J x m = if x = o then 1 else 0 := by
        unfold bzT
        rw [ho]
        by_cases hx : x = o
        · rw [if_pos ⟨hm, hx.symm⟩, if_pos hx]
        · rw [if_neg (fun z => hx z.2.symm), if_neg hx]
      have b : bzT (up J 50 0 m 0) x m = 0 := by rw [bzT, if_neg (by rw [up_s]; omega)]
      rw [a, b]
      omega
    refine ⟨y.1, y.2.1, ?_, ?_, ?_, ?_, fun x x0 x1 => ?_⟩
    · by_cases hk : k = m
      · rw [if_pos hk, if_pos hk, if_neg (by decide)]
      · rw [if_neg hk, if_neg hk]; exact y.2.2.1
    · by_cases hk : k = m
      · rw [if_pos hk, if_pos hk, if_neg (by decide)]
      · rw [if_neg hk, if_neg hk]; exact y.2.2.2.1
    · by_cases hk : k = m
      · rw [if_pos hk, if_pos hk, if_neg (by decide)]
      · rw [if_neg hk, if_neg hk]; exact y.2.2.2.2.1
    · rw [bz k]
      by_cases hk : k = o
      · rw [if_pos hk, if_pos hk, ← hk, y.2.2.2.2.2.1]; omega
      · rw [if_neg hk, if_neg hk, y.2.2.2.2.2.1]; omega
    · rw [c17]
      have yt := y.2.2.2.2.2.2 x x0 x1
      have yx := yt.2 m m0 m1
      rw [ho, hd] at yx
      by_cases hk : k = o ∧ x = d
      · rw [if_pos hk]
        refine ⟨⟨by omega, by omega⟩, fun j j0 j1 => ?_⟩
        rw [et, ej _ _ _ (by decide), ej _ _ _ (by decide)]
        refine ⟨fun z => ?_, fun z => absurd z (by omega)⟩
        by_cases hj : j = m
        · rw [if_pos hj] at z; omega
        · rw [if_neg hj] at z
          have a := (yt.2 j j0 j1).mp z
          have b := yx.mp ⟨hm, hk.1.symm, hk.2.symm⟩
          omega
      · rw [if_neg hk]
        refine ⟨yt.1, fun j j0 j1 => ?_⟩
        rw [et, ej _ _ _ (by decide), ej _ _ _ (by decide)]
        by_cases hj : j = m
        · rw [if_pos hj]
          refine ⟨fun z => absurd z.1 (by omega), fun z => ?_⟩
          exfalso
          have := yx.mpr (hj ▸ z)
          exact hk ⟨this.2.1.symm, this.2.2.symm⟩
        · rw [if_neg hj]
          exact yt.2 j j0 j1
  · have : umC C m o d ((C 5 0 3) - 1) ((C 4 o 5) + -1) 5 0 3 = C 5 0 3 - 1 := by simp [umC, up]
    rw [this, g4]
    have y := sm_u (f := fun k => (J 50 0 k)) (f' := fun k => up J 50 0 m 0 50 0 k) (n := 80) (x := m) m0 m1 (fun j _ _ hj => by rw [et, if_neg hj])
    rw [y, up_s, hm]
    omega
  · rw [ej _ _ _ (by omega)]
    have : umC C m o d ((C 5 0 3) - 1) ((C 4 o 5) + -1) 5 0 5 = C 5 0 5 := by simp [umC, up]
    rw [this]; exact g5
theorem removeOne_ev (hA : WA e z) (hC : Cpl e C J) (hB : RB J) {m o d : Int} (m0 : 0 ≤ m) (m1 : m < 80) (hm : (J 50 0 m) = 1) (ho : (J 52 0 m) = o) (hd : (J 53 0 m) = d) (o0 : 0 ≤ o) (om : o ≠ m) : Ev (fun F => J5_removeOne F (rf e 5 0) (rf e 4 m) (HS e C I z)) (rV (HS e (umC C m o d ((C 5 0 3) - 1) ((C 4 o 5) + -1)) I z)) := by
  have n4 := hA.2.2.2.1
  have := RB.inMount hB (j := m) (by omega) (by omega)
  have := RB.inPlace hB (j := m) (by omega) (by omega)
  have y := hC.2.2.2.2.1.2.2.1 m m0 m1
  have y3 := y.2.2.2.1
  have y4 := y.2.2.2.2.1
  rw [if_pos hm, ho] at y3
  rw [if_pos hm, hd] at y4
  refine Ev.step (fun F => E5_removeOne F _ _ _) ?_
  simp (disch := omega) only [d_4 hA, g_5_3 hA, p_5_3 hA, Option.bind_some, up_s, up_k, up_j, up_i, xk_add, xk_sub, xk_mul, xk_neg, lk_add, lN_z, rf_none, rb1, rb0, rbp, xk_nI, zk_eq, zk_lt, zk_eq0, zk_lt0, zk_0lt, zk_long, lz_lt, lz_gt, zmax, zmin, ↓reduceIte, Int.reduceEq, Int.reduceLT, Int.reduceNeg, Int.reduceAdd, Int.reduceSub, Int.reduceMul, Int.ofNat_eq_natCast, Int.cast_ofNat_Int]
  refine Ev.kV (σ := HS e (up (up (up (up (up C 17 o d (-1)) 4 o 5 ((C 4 o 5) + -1)) 4 m 3 (-1)) 4 m 4 0) 4 m 2 (-1)) I z) ?_ ?_
  · refine Ev.step (fun F => E4_takeOff F _ _) ?_
    simp (disch := omega) only [d_4 hA, g_4_3 hA, g_4_4 hA, p_4_2 hA, p_4_3 hA, p_4_4 hA, pn_4_2 hA, pn_4_3 hA, Option.bind_some, up_s, up_k, up_j, up_i, xk_add, xk_sub, xk_mul, xk_neg, lk_add, lN_z, rf_none, rb1, rb0, rbp, xk_nI, zk_eq, zk_lt, zk_eq0, zk_lt0, zk_0lt, zk_long, lz_lt, lz_gt, zmax, zmin, ↓reduceIte, Int.reduceEq, Int.reduceLT, Int.reduceNeg, Int.reduceAdd, Int.reduceSub, Int.reduceMul, Int.ofNat_eq_natCast, Int.cast_ofNat_Int, y3, y4]
    refine Ev.ite (fun q => absurd q (by omega)) (fun _ => ?_)
    refine Ev.kV (σ := HS e (up (up C 17 o d (-1)) 4 o 5 ((C 4 o 5) + -1)) I z) ?_ ?_
    · refine Ev.step (fun F => E4_cover F _ _ _ _) ?_
      simp (disch := omega) only [g_4_1 hA, g_4_5 hA, p_4_5 hA, s_17 hA, sn_17 hA, Option.bind_some, up_s, up_k, up_j, up_i, xk_add, xk_sub, xk_mul, xk_neg, lk_add, lN_z, rf_none, rb1, rb0, rbp, xk_nI, zk_eq, zk_lt, zk_eq0, zk_lt0, zk_0lt, zk_long, lz_lt, lz_gt, zmax, zmin, ↓reduceIte, Int.reduceEq, Int.reduceLT, Int.reduceNeg, Int.reduceAdd, Int.reduceSub, Int.reduceMul, Int.ofNat_eq_natCast, Int.cast_ofNat_Int]
      refine Ev.ite (fun q => absurd q (by omega)) (fun _ => ?_)
      refine Ev.ite (fun _ => ?_) (fun q => absurd q (by omega))
      exact Ev.ret rfl
    · try simp (disch := omega) only [d_4 hA, g_4_3 hA, g_4_4 hA, p_4_2 hA, p_4_3 hA, p_4_4 hA, pn_4_2 hA, pn_4_3 hA, Option.bind_some, up_s, up_k, up_j, up_i, xk_add, xk_sub, xk_mul, xk_neg, lk_add, lN_z, rf_none, rb1, rb0, rbp, xk_nI, zk_eq, zk_lt, zk_eq0, zk_lt0, zk_0lt, zk_long, lz_lt, lz_gt, zmax, zmin, ↓reduceIte, Int.reduceEq, Int.reduceLT, Int.reduceNeg, Int.reduceAdd, Int.reduceSub, Int.reduceMul, Int.ofNat_eq_natCast, Int.cast_ofNat_Int]
      exact Ev.ret rfl
  · try simp (disch := omega) only [d_4 hA, g_5_3 hA, p_5_3 hA, Option.bind_some, up_s, up_k, up_j, up_i, xk_add, xk_sub, xk_mul, xk_neg, lk_add, lN_z, rf_none, rb1, rb0, rbp, xk_nI, zk_eq, zk_lt, zk_eq0, zk_lt0, zk_0lt, zk_long, lz_lt, lz_gt, zmax, zmin, ↓reduceIte, Int.reduceEq, Int.reduceLT, Int.reduceNeg, Int.reduceAdd, Int.reduceSub, Int.reduceMul, Int.ofNat_eq_natCast, Int.cast_ofNat_Int]
    exact Ev.ret rfl
theorem isPeer_cl (hA : WA e z) (hC : Cpl e C J) (hB : RB J) (hP : PB J) {k o : Int} (k0 : 0 ≤ k) (k1 : k < 80) (o0 : 0 ≤ o) (o1 : o < 80) : Ev (fun F => J5_isPeer F (rf e 4 k) (rf e 4 o) (HS e C I z)) (rI (bI (k ≠ o ∧ (J 50 0 k) = 1 ∧ 0 < (J 55 0 o) ∧ (J 55 0 k) = (J 55 0 o))) (HS e C I z)) := by
  have n4 := hA.2.2.2.1
  have y := hC.2.2.2.2.1.2.2.1 k k0 k1
  have y' := hC.2.2.2.2.1.2.2.1 o o0 o1
  have p1 := hP.1 k k0 k1
  have p2 := hP.1 o o0 o1
  have pl := hP.2
  have := RB.there hB (j := k) (by omega) (by omega)
  have := RB.viewOf hB (j := k) (by omega) (by omega)
  have hv : C 4 k 2 < 0 ↔ (J 50 0 k) ≠ 1 := by rw [y.2.2.1]; split <;> omega
  refine Ev.step (fun F => E5_isPeer F _ _ _) ?_
  simp (disch := omega) only [g_4_2 hA, g_4_7 hA, Option.bind_some, up_s, up_k, up_j, up_i, xk_add, xk_sub, xk_mul, xk_neg, lk_add, lN_z, rf_none, rb1, rb0, rbp, xk_nI, zk_eq, zk_lt, zk_eq0, zk_lt0, zk_0lt, zk_long, lz_lt, lz_gt, zmax, zmin, ↓reduceIte, Int.reduceEq, Int.reduceLT, Int.reduceNeg, Int.reduceAdd, Int.reduceSub, Int.reduceMul, Int.ofNat_eq_natCast, Int.cast_ofNat_Int, rf_eq hA, y.2.1, y'.2.1]
  refine Ev.ite (fun q => Ev.ret (by rw [bI_f (by omega)]; rfl)) (fun q => ?_)
  refine Ev.ite (fun q => Ev.ret (by rw [bI_f (by omega)]; rfl)) (fun q => ?_)
  refine Ev.ite (fun q => Ev.ret (by rw [bI_f (by omega)]; rfl)) (fun q => ?_)
  exact Ev.ite (fun q => Ev.ret (by rw [bI_t (by omega)]; rfl)) (fun q => Ev.ret (by rw [bI_f (by omega)]; rfl))
theorem placesFor_ev (hA : WA e z) (hC : Cpl e C J) (hB : RB J) (hP : PB J) {o d : Int} (o0 : 0 ≤ o) (o1 : o < 80) (d0 : 0 ≤ d) (d1 : d < 15) : Ev (fun F => J5_placesFor F (rf e 5 0) (rf e 4 o) (xk d) (HS e C I z)) (rI (1 + sm (pkT J (tpC C) o (J 55 0 o) d) 80) (HS e C I z)) := by
  have n4 := hA.2.2.2.1
  refine Ev.step (fun F => E5_placesFor F _ _ _ _) ?_
  refine lpN (P := fun k => ∀ n, 0 ≤ k → k ≤ 80 → n = 1 + sm (pkT J (tpC C) o (J 55 0 o) d) k → Ev (fun F => J5_placesFor_5 F (rf e 5 0) (rf e 4 o) (xk d) (xk n) (xk k) (HS e C I z)) (rI (1 + sm (pkT J (tpC C) o (J 55 0 o) d) 80) (HS e C I z))) 80 (fun k ih n k0 k1 hn => ?_) 0 1 (by omega) (by omega) rfl
  refine Ev.step (fun F => E5_placesFor_5 F _ _ _ _ _ _) ?_
  simp (disch := omega) only [b_18 hA, d_4 hA, g_5_0 hA, Option.bind_some, up_s, up_k, up_j, up_i, xk_add, xk_sub, xk_mul, xk_neg, lk_add, lN_z, rf_none, rb1, rb0, rbp, xk_nI, zk_eq, zk_lt, zk_eq0, zk_lt0, zk_0lt, zk_long, lz_lt, lz_gt, zmax, zmin, ↓reduceIte, Int.reduceEq, Int.reduceLT, Int.reduceNeg, Int.reduceAdd, Int.reduceSub, Int.reduceMul, Int.ofNat_eq_natCast, Int.cast_ofNat_Int]
  refine Ev.ite (fun h => ?_) (fun h => ?_)
  · have ih := fun n => ih h n (by omega) (by omega)
    rw [sm_s k0] at ih
    try simp (disch := omega) only [b_18 hA, d_4 hA, g_5_0 hA, Option.bind_some, up_s, up_k, up_j, up_i, xk_add, xk_sub, xk_mul, xk_neg, lk_add, lN_z, rf_none, rb1, rb0, rbp, xk_nI, zk_eq, zk_lt, zk_eq0, zk_lt0, zk_0lt, zk_long, lz_lt, lz_gt, zmax, zmin, ↓reduceIte, Int.reduceEq, Int.reduceLT, Int.reduceNeg, Int.reduceAdd, Int.reduceSub, Int.reduceMul, Int.ofNat_eq_natCast, Int.cast_ofNat_Int]
    refine Ev.kB (isPeer_cl hA hC hB hP k0 h o0 o1) (fun hi => ?_) (fun hi => ?_)
    · try simp (disch := omega) only [b_18 hA, d_4 hA, g_5_0 hA, Option.bind_some, up_s, up_k, up_j, up_i, xk_add, xk_sub, xk_mul, xk_neg, lk_add, lN_z, rf_none, rb1, rb0, rbp, xk_nI, zk_eq, zk_lt, zk_eq0, zk_lt0, zk_0lt, zk_long, lz_lt, lz_gt, zmax, zmin, ↓reduceIte, Int.reduceEq, Int.reduceLT, Int.reduceNeg, Int.reduceAdd, Int.reduceSub, Int.reduceMul, Int.ofNat_eq_natCast, Int.cast_ofNat_Int]
      refine Ev.kR (over_ev hA k0 h d0 d1) ?_
      try simp (disch := omega) only [b_18 hA, d_4 hA, g_5_0 hA, Option.bind_some, up_s, up_k, up_j, up_i, xk_add, xk_sub, xk_mul, xk_neg, lk_add, lN_z, rf_none, rb1, rb0, rbp, xk_nI, zk_eq, zk_lt, zk_eq0, zk_lt0, zk_0lt, zk_long, lz_lt, lz_gt, zmax, zmin, ↓reduceIte, Int.reduceEq, Int.reduceLT, Int.reduceNeg, Int.reduceAdd, Int.reduceSub, Int.reduceMul, Int.ofNat_eq_natCast, Int.cast_ofNat_Int]
      refine Ev.ite (fun hq => ih _ ?_) (fun hq => ih _ ?_)
      · rw [pkT, if_pos ⟨hi, hq⟩]; omega
      · rw [pkT, if_neg (fun y => hq y.2)]; omega
    · try simp (disch := omega) only [b_18 hA, d_4 hA, g_5_0 hA, Option.bind_some, up_s, up_k, up_j, up_i, xk_add, xk_sub, xk_mul, xk_neg, lk_add, lN_z, rf_none, rb1, rb0, rbp, xk_nI, zk_eq, zk_lt, zk_eq0, zk_lt0, zk_0lt, zk_long, lz_lt, lz_gt, zmax, zmin, ↓reduceIte, Int.reduceEq, Int.reduceLT, Int.reduceNeg, Int.reduceAdd, Int.reduceSub, Int.reduceMul, Int.ofNat_eq_natCast, Int.cast_ofNat_Int]
      refine ih _ ?_
      rw [pkT, if_neg (fun y => hi y.1)]; omega
  · have : k = 80 := by omega
    subst this
    exact Ev.ret (by rw [hn]; rfl)
end CL
