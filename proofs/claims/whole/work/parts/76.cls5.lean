/-! the class: memory -/
theorem TG.c {J J' : ST} (h : TG J) (h1 : J' 12 0 1 = J 12 0 1) (h2 : ∀ j, J' 22 0 j = J 22 0 j) (h3 : ∀ j, J' 23 0 j = J 23 0 j) : TG J' := by
  unfold TG
  simp only [h1, h2, h3]
  exact h
theorem TG.lv {J : ST} (h : TG J) {t : Int} (ht : (J 22 0 t) ≠ 2) : TG (lvI J t) := by
  unfold lvI
  split
  · exact ((TG.en h ht).c (J' := emP (enI J t) t) (by simp [emP]) (fun j => by simp [emP]) (fun j => by simp [emP])).fg.fg
  · exact (TG.en h ht).fg
theorem usF_ca {J : ST} {b n g : Int} (b0 : 0 ≤ b) (b1 : b < (J 12 0 17)) : usF (up J 43 0 b ((J 43 0 b) + n)) g = usF J g + (if win J b g = true then n else 0) := by
  have ew : win (up J 43 0 b ((J 43 0 b) + n)) = win J := win_c (fun k => up_k (by decide))
  unfold usF
  rw [up_k (by decide), up_k (by decide)]
  have a : sm (usT (up J 43 0 b ((J 43 0 b) + n)) g) (J 12 0 1) = sm (usT J g) (J 12 0 1) := sm_c (fun k _ _ => by
    unfold usT
    rw [ew, up_k (by decide), up_k (by decide), up_k (by decide)])
  have c := sm_u (f := usK J g) (f' := usK (up J 43 0 b ((J 43 0 b) + n)) g) (n := (J 12 0 17)) (x := b) b0 b1 (fun k _ _ hk => by unfold usK; rw [ew, up_j hk])
  have d : usK (up J 43 0 b ((J 43 0 b) + n)) g b = usK J g b + (if win J b g = true then n else 0) := by
    unfold usK
    rw [ew, up_s]
    split <;> omega
  rw [a, c, d]
  omega
theorem usF_pg {J : ST} {t n g : Int} (t0 : 0 ≤ t) (t1 : t < (J 12 0 1)) (ht : (J 22 0 t) = 0) : usF (up J 27 0 t ((J 27 0 t) + n)) g = usF J g + (if win J (J 25 0 t) g = true then n else 0) := by
  have ew : win (up J 27 0 t ((J 27 0 t) + n)) = win J := win_c (fun k => up_k (by decide))
  unfold usF
  rw [up_k (by decide), up_k (by decide)]
  have a : sm (usK (up J 27 0 t ((J 27 0 t) + n)) g) (J 12 0 17) = sm (usK J g) (J 12 0 17) := sm_c (fun k _ _ => by
    unfold usK
    rw [ew, up_k (by decide)])
  have c := sm_u (f := usT J g) (f' := usT (up J 27 0 t ((J 27 0 t) + n)) g) (n := (J 12 0 1)) (x := t) t0 t1 (fun k _ _ hk => by
    have e27 : up J 27 0 t ((J 27 0 t) + n) 27 0 k = J 27 0 k := up_j hk
    unfold usT; rw [ew, e27, up_k (k' := 22) (by decide), up_k (k' := 25) (by decide)])
  have d : usT (up J 27 0 t ((J 27 0 t) + n)) g t = usT J g t + (if win J (J 25 0 t) g = true then n else 0) := by
    unfold usT
    rw [ew, up_s, up_k (by decide), up_k (by decide)]
    simp only [ht, true_and]
    split <;> omega
  rw [a, c, d]
  omega
section CL
variable {e : EN} {C I J : ST} {z : Nat × Nat × Nat × Nat}
theorem Cpl.ca (hC : Cpl e C J) {b n : Int} (b0 : 0 ≤ b) (b1 : b < (J 12 0 17)) : Cpl e (adG J (up C 1 b 9 ((J 43 0 b) + n)) 7 b n) (up J 43 0 b ((J 43 0 b) + n)) := by
  obtain ⟨h1, h2, h3, h4, h5, h6⟩ := hC
  have f0 : ∀ k i j, k ≠ 1 → adG J (up C 1 b 9 ((J 43 0 b) + n)) 7 b n k i j = C k i j := fun k i j a => by simp [adG, up, a]
  have fc : ∀ i j, j ≠ 7 → j ≠ 9 → adG J (up C 1 b 9 ((J 43 0 b) + n)) 7 b n 1 i j = C 1 i j := fun i j a c => by simp [adG, up, a, c]
  have f7 : ∀ i, 0 ≤ i → adG J (up C 1 b 9 ((J 43 0 b) + n)) 7 b n 1 i 7 = C 1 i 7 + (if win J b i = true then n else 0) := fun i i0 => by
    simp only [adG, up]
    grind
  have f9 : ∀ i, adG J (up C 1 b 9 ((J 43 0 b) + n)) 7 b n 1 i 9 = if i = b then (J 43 0 b) + n else C 1 i 9 := fun i => by
    simp [adG, up]
  have ej : ∀ k i j, k ≠ 43 → up J 43 0 b ((J 43 0 b) + n) k i j = J k i j := fun k i j a => up_k a
  refine ⟨h1.fr (fun i j => f0 _ _ _ (by decide)) (ej _ _ _ (by decide)) (fun k j a b => ej _ _ _ (by omega)), h2.fr (fun i j => f0 _ _ _ (by decide)) (fun i j => f0 _ _ _ (by decide)) (ej _ _ _ (by decide)) (fun j => ej _ _ _ (by decide)) (fun j => ej _ _ _ (by decide)) (fun j => ej _ _ _ (by decide)) (HoR_c (ej _ _ _ (by decide)) (fun j => by rw [ej _ _ _ (by decide)]) (fun j => ej _ _ _ (by decide))), ⟨(ej 12 0 17 (by decide)).symm ▸ h3.1, fun g g0 g1 => ?_⟩, h4.fr (fun g => fc _ _ (by decide) (by decide)) (fun g => fc _ _ (by decide) (by decide)) (ej _ _ _ (by decide)) (ej _ _ _ (by decide)), h5.fr (fun k i j h => f0 _ _ _ (by omega)) (fun k i j a b => ej _ _ _ (by omega)) (ej _ _ _ (by decide)) (ej _ _ _ (by decide)), h6.fr (f0 _ _ _ (by decide)) (f0 _ _ _ (by decide)) (fun j => f0 _ _ _ (by decide)) (fun j => f0 _ _ _ (by decide)) (ej _ _ _ (by decide)) (ej _ _ _ (by decide))⟩
  rw [ej _ _ _ (by decide)] at g1
  have q := h3.2 g g0 g1
  have ed : dpG (up J 43 0 b ((J 43 0 b) + n)) = dpG J := by
    funext s
    unfold dpG
    rw [show (fun k => up J 43 0 b ((J 43 0 b) + n) 38 0 k) = (fun k => J 38 0 k) from funext (fun k => ej _ _ _ (by decide))]
  have el : lvF (up J 43 0 b ((J 43 0 b) + n)) = lvF J := lvF_c (ej _ _ _ (by decide)) (fun j => by rw [ej _ _ _ (by decide)]) (fun j => ej _ _ _ (by decide)) (fun j => ej _ _ _ (by decide))
  rw [usF_ca b0 b1, ed, el, f7 g g0, f9 g]
  simp (disch := decide) only [fc, ej]
  rw [← q.2.2.2.2.2.2.2.2.2.1]
  refine ⟨q.1, q.2.1, q.2.2.1, q.2.2.2.1, q.2.2.2.2.1, q.2.2.2.2.2.1, ?_, q.2.2.2.2.2.2.2.1, q.2.2.2.2.2.2.2.2.1, rfl, q.2.2.2.2.2.2.2.2.2.2⟩
  by_cases hg : g = b
  · rw [if_pos hg, hg, up_s]
  · rw [if_neg hg, up_j hg]; exact q.2.2.2.2.2.2.1
theorem Cpl.pg (hC : Cpl e C J) {t n : Int} (t0 : 0 ≤ t) (t1 : t < (J 12 0 1)) (ht : (J 22 0 t) = 0) : Cpl e (adG J (up C 8 t 6 ((J 27 0 t) + n)) 7 (J 25 0 t) n) (up J 27 0 t ((J 27 0 t) + n)) := by
  obtain ⟨h1, h2, h3, h4, h5, h6⟩ := hC
  have f0 : ∀ k i j, k ≠ 1 → k ≠ 8 → adG J (up C 8 t 6 ((J 27 0 t) + n)) 7 (J 25 0 t) n k i j = C k i j := fun k i j a c => by simp [adG, up, a, c]
  have fc : ∀ i j, j ≠ 7 → adG J (up C 8 t 6 ((J 27 0 t) + n)) 7 (J 25 0 t) n 1 i j = C 1 i j := fun i j a => by simp [adG, up, a]
  have f7 : ∀ i, 0 ≤ i → adG J (up C 8 t 6 ((J 27 0 t) + n)) 7 (J 25 0 t) n 1 i 7 = C 1 i 7 + (if win J (J 25 0 t) i = true then n else 0) := fun i i0 => by
    simp only [adG, up]
    grind
  have f8 : ∀ i j, adG J (up C 8 t 6 ((J 27 0 t) + n)) 7 (J 25 0 t) n 8 i j = if i = t ∧ j = 6 then (J 27 0 t) + n else C 8 i j := fun i j => by
    simp [adG, up]
  have ej : ∀ k i j, k ≠ 27 → up J 27 0 t ((J 27 0 t) + n) k i j = J k i j := fun k i j a => up_k a
  refine ⟨⟨(ej 12 0 1 (by decide)).symm ▸ h1.1, fun x x0 x1 => ?_⟩, h2.fr (fun i j => f0 _ _ _ (by decide) (by decide)) (fun i j => f0 _ _ _ (by decide) (by decide)) (ej _ _ _ (by decide)) (fun j => ej _ _ _ (by decide)) (fun j => ej _ _ _ (by decide)) (fun j => ej _ _ _ (by decide)) (HoR_c (ej _ _ _ (by decide)) (fun j => by rw [ej _ _ _ (by decide)]) (fun j => ej _ _ _ (by decide))), ⟨(ej 12 0 17 (by decide)).symm ▸ h3.1, fun g g0 g1 => ?_⟩, h4.fr (fun g => fc _ _ (by decide)) (fun g => fc _ _ (by decide)) (ej _ _ _ (by decide)) (ej _ _ _ (by decide)), h5.fr (fun k i j h => f0 _ _ _ (by omega) (by omega)) (fun k i j a b => ej _ _ _ (by omega)) (ej _ _ _ (by decide)) (ej _ _ _ (by decide)), h6.fr (f0 _ _ _ (by decide) (by decide)) (f0 _ _ _ (by decide) (by decide)) (fun j => f0 _ _ _ (by decide) (by decide)) (fun j => f0 _ _ _ (by decide) (by decide)) (ej _ _ _ (by decide)) (ej _ _ _ (by decide))⟩
  · rw [ej _ _ _ (by decide)] at x1
    have q := h1.2 x x0 x1
    simp (disch := decide) only [f8, ej]
    simp only [Int.reduceEq, and_false, if_false, and_true]
    refine ⟨q.1, q.2.1, q.2.2.1, q.2.2.2.1, q.2.2.2.2.1, ?_, q.2.2.2.2.2.2⟩
    by_cases hg : x = t
    · rw [if_pos hg, hg, up_s]
    · rw [if_neg hg, up_j hg]; exact q.2.2.2.2.2.1
  · rw [ej _ _ _ (by decide)] at g1
    have q := h3.2 g g0 g1
    have ed : dpG (up J 27 0 t ((J 27 0 t) + n)) = dpG J := by
      funext s
      unfold dpG
      rw [show (fun k => up J 27 0 t ((J 27 0 t) + n) 38 0 k) = (fun k => J 38 0 k) from funext (fun k => ej _ _ _ (by decide))]
    have el : lvF (up J 27 0 t ((J 27 0 t) + n)) = lvF J := lvF_c (ej _ _ _ (by decide)) (fun j => by rw [ej _ _ _ (by decide)]) (fun j => ej _ _ _ (by decide)) (fun j => ej _ _ _ (by decide))
    rw [usF_pg t0 t1 ht, ed, el, f7 g g0]
    simp (disch := decide) only [fc, ej]
    rw [← q.2.2.2.2.2.2.2.2.2.1]
    exact ⟨q.1, q.2.1, q.2.2.1, q.2.2.2.1, q.2.2.2.2.1, q.2.2.2.2.2.1, q.2.2.2.2.2.2.1, q.2.2.2.2.2.2.2.1, q.2.2.2.2.2.2.2.2.1, rfl, q.2.2.2.2.2.2.2.2.2.2⟩
theorem keepCached_ev (hA : WA e z) (hC : Cpl e C J) (hT : TI J) {b n : Int} (b0 : 0 ≤ b) (b1 : b < (J 12 0 17)) : Ev (fun F => J1_keepCached F (rf e 1 b) (xk n) (HS e C I z)) (rV (HS e (adG J (up C 1 b 9 ((J 43 0 b) + n)) 7 b n) I z)) := by
  have n8 := hC.1.1
  have n7 := hC.2.1.1
  have n1 := hC.2.2.1.1
  have n10 := hC.2.2.2.2.1.1
  have hB := hT.1
  have := RB.tasks hB
  have := RB.spaces hB
  have := RB.groups hB
  have := RB.views hB
  have n4 := hA.2.2.2.1
  refine Ev.step (fun F => E1_keepCached F _ _ _) ?_
  simp (disch := omega) only [d_1 hA, g_1_9 hA, p_1_9 hA, Option.bind_some, up_s, up_k, up_j, up_i, xk_add, xk_sub, xk_mul, xk_neg, lk_add, lN_z, rf_none, rb1, rb0, rbp, xk_nI, zk_eq, zk_lt, zk_eq0, zk_lt0, zk_0lt, zk_long, lz_lt, lz_gt, zmax, zmin, ↓reduceIte, Int.reduceEq, Int.reduceLT, Int.reduceNeg, Int.reduceAdd, Int.reduceSub, Int.reduceMul, Int.ofNat_eq_natCast, Int.cast_ofNat_Int, CT.space hC.1, CT.view hC.1, CT.parent hC.1, CT.group hC.1, CT.state hC.1, CT.pages hC.1, CT.points hC.1, CT.ticks hC.1, CT.asleep hC.1, CT.time hC.1, CP.outer hC.2.1, CP.depth hC.2.1, CP.init hC.2.1, CP.given hC.2.1, CG.outer hC.2.2.1, CG.depth hC.2.2.1, CG.max hC.2.2.1, CG.most hC.2.2.1, CG.weight hC.2.2.1, CG.quota hC.2.2.1, CG.cached hC.2.2.1, CG.ran hC.2.2.1, CG.time hC.2.2.1, CG.uses hC.2.2.1, CG.live hC.2.2.1, rf_eq hA]
  refine Ev.kV (Ev.step (fun F => E1_addUse F _ _ _) (addUse_ev hA hB n1 b (by omega) _ n (fun k a c => by rw [up_j (by decide)]; exact hC.2.2.1.outer a c) b1)) ?_
  exact Ev.ret rfl
theorem hold_ev (hA : WA e z) (hC : Cpl e C J) (hT : TI J) {t n : Int} (t0 : 0 ≤ t) (t1 : t < (J 12 0 1)) : Ev (fun F => J8_hold F (rf e 8 t) (xk n) (HS e C I z)) (rV (HS e (adG J (up C 8 t 6 ((J 27 0 t) + n)) 7 (J 25 0 t) n) I z)) := by
  have n8 := hC.1.1
  have n7 := hC.2.1.1
  have n1 := hC.2.2.1.1
  have n10 := hC.2.2.2.2.1.1
  have hB := hT.1
  have := RB.tasks hB
  have := RB.spaces hB
  have := RB.groups hB
  have := RB.views hB
  have n4 := hA.2.2.2.1
  have b := hT.b t0 t1
  refine Ev.step (fun F => E8_hold F _ _ _) ?_
  simp (disch := omega) only [d_1 hA, g_8_4 hA, g_8_6 hA, p_8_6 hA, Option.bind_some, up_s, up_k, up_j, up_i, xk_add, xk_sub, xk_mul, xk_neg, lk_add, lN_z, rf_none, rb1, rb0, rbp, xk_nI, zk_eq, zk_lt, zk_eq0, zk_lt0, zk_0lt, zk_long, lz_lt, lz_gt, zmax, zmin, ↓reduceIte, Int.reduceEq, Int.reduceLT, Int.reduceNeg, Int.reduceAdd, Int.reduceSub, Int.reduceMul, Int.ofNat_eq_natCast, Int.cast_ofNat_Int, CT.space hC.1, CT.view hC.1, CT.parent hC.1, CT.group hC.1, CT.state hC.1, CT.pages hC.1, CT.points hC.1, CT.ticks hC.1, CT.asleep hC.1, CT.time hC.1, CP.outer hC.2.1, CP.depth hC.2.1, CP.init hC.2.1, CP.given hC.2.1, CG.outer hC.2.2.1, CG.depth hC.2.2.1, CG.max hC.2.2.1, CG.most hC.2.2.1, CG.weight hC.2.2.1, CG.quota hC.2.2.1, CG.cached hC.2.2.1, CG.ran hC.2.2.1, CG.time hC.2.2.1, CG.uses hC.2.2.1, CG.live hC.2.2.1, rf_eq hA]
  refine Ev.kV (Ev.step (fun F => E1_addUse F _ _ _) (addUse_ev hA hB n1 (J 25 0 t) (by omega) _ n (fun k a c => by rw [up_k (by decide)]; exact hC.2.2.1.outer a c) (by omega))) ?_
  exact Ev.ret rfl
theorem lacking_ev (hA : WA e z) (hC : Cpl e C J) (hT : TI J) {g n : Int} (g0 : 0 ≤ g) (g1 : g < (J 12 0 17)) : Ev (fun F => J1_lacking F (rf e 1 g) (xk n) (HS e C I z)) (rI (usF J g + n - (J 40 0 g)) (HS e C I z)) := by
  have n8 := hC.1.1
  have n7 := hC.2.1.1
  have n1 := hC.2.2.1.1
  have n10 := hC.2.2.2.2.1.1
  have hB := hT.1
  have := RB.tasks hB
  have := RB.spaces hB
  have := RB.groups hB
  have := RB.views hB
  have n4 := hA.2.2.2.1
  refine Ev.step (fun F => E1_lacking F _ _ _) ?_
  simp (disch := omega) only [g_1_3 hA, g_1_7 hA, Option.bind_some, up_s, up_k, up_j, up_i, xk_add, xk_sub, xk_mul, xk_neg, lk_add, lN_z, rf_none, rb1, rb0, rbp, xk_nI, zk_eq, zk_lt, zk_eq0, zk_lt0, zk_0lt, zk_long, lz_lt, lz_gt, zmax, zmin, ↓reduceIte, Int.reduceEq, Int.reduceLT, Int.reduceNeg, Int.reduceAdd, Int.reduceSub, Int.reduceMul, Int.ofNat_eq_natCast, Int.cast_ofNat_Int, CT.space hC.1, CT.view hC.1, CT.parent hC.1, CT.group hC.1, CT.state hC.1, CT.pages hC.1, CT.points hC.1, CT.ticks hC.1, CT.asleep hC.1, CT.time hC.1, CP.outer hC.2.1, CP.depth hC.2.1, CP.init hC.2.1, CP.given hC.2.1, CG.outer hC.2.2.1, CG.depth hC.2.2.1, CG.max hC.2.2.1, CG.most hC.2.2.1, CG.weight hC.2.2.1, CG.quota hC.2.2.1, CG.cached hC.2.2.1, CG.ran hC.2.2.1, CG.time hC.2.2.1, CG.uses hC.2.2.1, CG.live hC.2.2.1, rf_eq hA]
  exact Ev.ret rfl
theorem richest_cl (hA : WA e z) (hC : Cpl e C J) (hT : TI J) {g : Int} (g0 : 0 ≤ g) (g1 : g < (J 12 0 17)) : Ev (fun F => J2_richestIn F (rf e 2 0) (rf e 1 g) (HS e C I z)) (rR (rf e 1 (rcF J g)) (HS e C I z)) := by
  have n8 := hC.1.1
  have n7 := hC.2.1.1
  have n1 := hC.2.2.1.1
  have n10 := hC.2.2.2.2.1.1
  have hB := hT.1
  have := RB.tasks hB
  have := RB.spaces hB
  have := RB.groups hB
  have := RB.views hB
  have n4 := hA.2.2.2.1
  refine Ev.step (fun F => E2_richestIn F _ _ _) ?_
  refine lpN (P := fun k => ∀ b r, 0 ≤ k → k ≤ (J 12 0 17) → -1 ≤ b → b < k → b = fo (rcS J g) (-1) k → r = rf e 1 b → Ev (fun F => J2_richestIn_4 F (rf e 2 0) (rf e 1 g) r (xk k) (HS e C I z)) (rR (rf e 1 (rcF J g)) (HS e C I z))) (J 12 0 17) (fun k ih b r k0 k1 b0 b1 hb hr => ?_) 0 (-1) none (by omega) (by omega) (by omega) (by omega) rfl (rf_n (by omega)).symm
  subst hr
  refine Ev.step (fun F => E2_richestIn_4 F _ _ _ _ _) ?_
  simp (disch := omega) only [b_16 hA, d_1 hA, g_1_9 hA, g_2_0 hA, g_2_1 hA, Option.bind_some, up_s, up_k, up_j, up_i, xk_add, xk_sub, xk_mul, xk_neg, lk_add, lN_z, rf_none, rb1, rb0, rbp, xk_nI, zk_eq, zk_lt, zk_eq0, zk_lt0, zk_0lt, zk_long, lz_lt, lz_gt, zmax, zmin, ↓reduceIte, Int.reduceEq, Int.reduceLT, Int.reduceNeg, Int.reduceAdd, Int.reduceSub, Int.reduceMul, Int.ofNat_eq_natCast, Int.cast_ofNat_Int, CT.space hC.1, CT.view hC.1, CT.parent hC.1, CT.group hC.1, CT.state hC.1, CT.pages hC.1, CT.points hC.1, CT.ticks hC.1, CT.asleep hC.1, CT.time hC.1, CP.outer hC.2.1, CP.depth hC.2.1, CP.init hC.2.1, CP.given hC.2.1, CG.outer hC.2.2.1, CG.depth hC.2.2.1, CG.max hC.2.2.1, CG.most hC.2.2.1, CG.weight hC.2.2.1, CG.quota hC.2.2.1, CG.cached hC.2.2.1, CG.ran hC.2.2.1, CG.time hC.2.2.1, CG.uses hC.2.2.1, CG.live hC.2.2.1, rf_eq hA]
  refine Ev.ite (fun h => ?_) (fun h => ?_)
  · have h : k < (J 12 0 17) := by omega
    have := RB.cached hB (j := k) (by omega) (by omega)
    have ih := fun b => ih h b (rf e 1 b) (by omega) (by omega)
    rw [fo_s k0, ← hb, rcS] at ih
    have no : ¬ (win J k g = true ∧ 0 < (J 43 0 k) ∧ (b < 0 ∨ (J 43 0 b) < (J 43 0 k))) → Ev (fun F => J2_richestIn_4 F (rf e 2 0) (rf e 1 g) (rf e 1 b) (xk (k + 1)) (HS e C I z)) (rR (rf e 1 (rcF J g)) (HS e C I z)) := fun q => ih b (by omega) (by omega) (by rw [if_neg q]) rfl
    have yes : (win J k g = true ∧ 0 < (J 43 0 k) ∧ (b < 0 ∨ (J 43 0 b) < (J 43 0 k))) → Ev (fun F => J2_richestIn_4 F (rf e 2 0) (rf e 1 g) (rf e 1 k) (xk (k + 1)) (HS e C I z)) (rR (rf e 1 (rcF J g)) (HS e C I z)) := fun q => ih k (by omega) (by omega) (by rw [if_pos q]) rfl
    try simp (disch := omega) only [b_16 hA, d_1 hA, g_1_9 hA, g_2_0 hA, g_2_1 hA, Option.bind_some, up_s, up_k, up_j, up_i, xk_add, xk_sub, xk_mul, xk_neg, lk_add, lN_z, rf_none, rb1, rb0, rbp, xk_nI, zk_eq, zk_lt, zk_eq0, zk_lt0, zk_0lt, zk_long, lz_lt, lz_gt, zmax, zmin, ↓reduceIte, Int.reduceEq, Int.reduceLT, Int.reduceNeg, Int.reduceAdd, Int.reduceSub, Int.reduceMul, Int.ofNat_eq_natCast, Int.cast_ofNat_Int, CT.space hC.1, CT.view hC.1, CT.parent hC.1, CT.group hC.1, CT.state hC.1, CT.pages hC.1, CT.points hC.1, CT.ticks hC.1, CT.asleep hC.1, CT.time hC.1, CP.outer hC.2.1, CP.depth hC.2.1, CP.init hC.2.1, CP.given hC.2.1, CG.outer hC.2.2.1, CG.depth hC.2.2.1, CG.max hC.2.2.1, CG.most hC.2.2.1, CG.weight hC.2.2.1, CG.quota hC.2.2.1, CG.cached hC.2.2.1, CG.ran hC.2.2.1, CG.time hC.2.2.1, CG.uses hC.2.2.1, CG.live hC.2.2.1, rf_eq hA]
    refine Ev.ite (fun hn => ?_) (fun hn => ?_)
    · refine Ev.ite (fun hc => ?_) (fun hc => no (fun q => hc q.2.1))
      refine Ev.kB (gliesIn_ev hA hC hT g0 g1 (by omega) h) (fun hi => ?_) (fun hi => ?_)
      · try simp (disch := omega) only [b_16 hA, d_1 hA, g_1_9 hA, g_2_0 hA, g_2_1 hA, Option.bind_some, up_s, up_k, up_j, up_i, xk_add, xk_sub, xk_mul, xk_neg, lk_add, lN_z, rf_none, rb1, rb0, rbp, xk_nI, zk_eq, zk_lt, zk_eq0, zk_lt0, zk_0lt, zk_long, lz_lt, lz_gt, zmax, zmin, ↓reduceIte, Int.reduceEq, Int.reduceLT, Int.reduceNeg, Int.reduceAdd, Int.reduceSub, Int.reduceMul, Int.ofNat_eq_natCast, Int.cast_ofNat_Int, CT.space hC.1, CT.view hC.1, CT.parent hC.1, CT.group hC.1, CT.state hC.1, CT.pages hC.1, CT.points hC.1, CT.ticks hC.1, CT.asleep hC.1, CT.time hC.1, CP.outer hC.2.1, CP.depth hC.2.1, CP.init hC.2.1, CP.given hC.2.1, CG.outer hC.2.2.1, CG.depth hC.2.2.1, CG.max hC.2.2.1, CG.most hC.2.2.1, CG.weight hC.2.2.1, CG.quota hC.2.2.1, CG.cached hC.2.2.1, CG.ran hC.2.2.1, CG.time hC.2.2.1, CG.uses hC.2.2.1, CG.live hC.2.2.1, rf_eq hA]
        exact yes ⟨hi, hc, by omega⟩
      · try simp (disch := omega) only [b_16 hA, d_1 hA, g_1_9 hA, g_2_0 hA, g_2_1 hA, Option.bind_some, up_s, up_k, up_j, up_i, xk_add, xk_sub, xk_mul, xk_neg, lk_add, lN_z, rf_none, rb1, rb0, rbp, xk_nI, zk_eq, zk_lt, zk_eq0, zk_lt0, zk_0lt, zk_long, lz_lt, lz_gt, zmax, zmin, ↓reduceIte, Int.reduceEq, Int.reduceLT, Int.reduceNeg, Int.reduceAdd, Int.reduceSub, Int.reduceMul, Int.ofNat_eq_natCast, Int.cast_ofNat_Int, CT.space hC.1, CT.view hC.1, CT.parent hC.1, CT.group hC.1, CT.state hC.1, CT.pages hC.1, CT.points hC.1, CT.ticks hC.1, CT.asleep hC.1, CT.time hC.1, CP.outer hC.2.1, CP.depth hC.2.1, CP.init hC.2.1, CP.given hC.2.1, CG.outer hC.2.2.1, CG.depth hC.2.2.1, CG.max hC.2.2.1, CG.most hC.2.2.1, CG.weight hC.2.2.1, CG.quota hC.2.2.1, CG.cached hC.2.2.1, CG.ran hC.2.2.1, CG.time hC.2.2.1, CG.uses hC.2.2.1, CG.live hC.2.2.1, rf_eq hA]
        exact no (fun q => hi q.1)
    · have := RB.cached hB (j := b) (by omega) (by omega)
      try simp (disch := omega) only [b_16 hA, d_1 hA, g_1_9 hA, g_2_0 hA, g_2_1 hA, Option.bind_some, up_s, up_k, up_j, up_i, xk_add, xk_sub, xk_mul, xk_neg, lk_add, lN_z, rf_none, rb1, rb0, rbp, xk_nI, zk_eq, zk_lt, zk_eq0, zk_lt0, zk_0lt, zk_long, lz_lt, lz_gt, zmax, zmin, ↓reduceIte, Int.reduceEq, Int.reduceLT, Int.reduceNeg, Int.reduceAdd, Int.reduceSub, Int.reduceMul, Int.ofNat_eq_natCast, Int.cast_ofNat_Int, CT.space hC.1, CT.view hC.1, CT.parent hC.1, CT.group hC.1, CT.state hC.1, CT.pages hC.1, CT.points hC.1, CT.ticks hC.1, CT.asleep hC.1, CT.time hC.1, CP.outer hC.2.1, CP.depth hC.2.1, CP.init hC.2.1, CP.given hC.2.1, CG.outer hC.2.2.1, CG.depth hC.2.2.1, CG.max hC.2.2.1, CG.most hC.2.2.1, CG.weight hC.2.2.1, CG.quota hC.2.2.1, CG.cached hC.2.2.1, CG.ran hC.2.2.1, CG.time hC.2.2.1, CG.uses hC.2.2.1, CG.live hC.2.2.1, rf_eq hA]
      refine Ev.ite (fun hc => ?_) (fun hc => no (fun q => by omega))
      refine Ev.kB (gliesIn_ev hA hC hT g0 g1 (by omega) h) (fun hi => ?_) (fun hi => ?_)
      · try simp (disch := omega) only [b_16 hA, d_1 hA, g_1_9 hA, g_2_0 hA, g_2_1 hA, Option.bind_some, up_s, up_k, up_j, up_i, xk_add, xk_sub, xk_mul, xk_neg, lk_add, lN_z, rf_none, rb1, rb0, rbp, xk_nI, zk_eq, zk_lt, zk_eq0, zk_lt0, zk_0lt, zk_long, lz_lt, lz_gt, zmax, zmin, ↓reduceIte, Int.reduceEq, Int.reduceLT, Int.reduceNeg, Int.reduceAdd, Int.reduceSub, Int.reduceMul, Int.ofNat_eq_natCast, Int.cast_ofNat_Int, CT.space hC.1, CT.view hC.1, CT.parent hC.1, CT.group hC.1, CT.state hC.1, CT.pages hC.1, CT.points hC.1, CT.ticks hC.1, CT.asleep hC.1, CT.time hC.1, CP.outer hC.2.1, CP.depth hC.2.1, CP.init hC.2.1, CP.given hC.2.1, CG.outer hC.2.2.1, CG.depth hC.2.2.1, CG.max hC.2.2.1, CG.most hC.2.2.1, CG.weight hC.2.2.1, CG.quota hC.2.2.1, CG.cached hC.2.2.1, CG.ran hC.2.2.1, CG.time hC.2.2.1, CG.uses hC.2.2.1, CG.live hC.2.2.1, rf_eq hA]
        exact yes ⟨hi, by omega, by omega⟩
      · try simp (disch := omega) only [b_16 hA, d_1 hA, g_1_9 hA, g_2_0 hA, g_2_1 hA, Option.bind_some, up_s, up_k, up_j, up_i, xk_add, xk_sub, xk_mul, xk_neg, lk_add, lN_z, rf_none, rb1, rb0, rbp, xk_nI, zk_eq, zk_lt, zk_eq0, zk_lt0, zk_0lt, zk_long, lz_lt, lz_gt, zmax, zmin, ↓reduceIte, Int.reduceEq, Int.reduceLT, Int.reduceNeg, Int.reduceAdd, Int.reduceSub, Int.reduceMul, Int.ofNat_eq_natCast, Int.cast_ofNat_Int, CT.space hC.1, CT.view hC.1, CT.parent hC.1, CT.group hC.1, CT.state hC.1, CT.pages hC.1, CT.points hC.1, CT.ticks hC.1, CT.asleep hC.1, CT.time hC.1, CP.outer hC.2.1, CP.depth hC.2.1, CP.init hC.2.1, CP.given hC.2.1, CG.outer hC.2.2.1, CG.depth hC.2.2.1, CG.max hC.2.2.1, CG.most hC.2.2.1, CG.weight hC.2.2.1, CG.quota hC.2.2.1, CG.cached hC.2.2.1, CG.ran hC.2.2.1, CG.time hC.2.2.1, CG.uses hC.2.2.1, CG.live hC.2.2.1, rf_eq hA]
        exact no (fun q => hi q.1)
  · have : k = (J 12 0 17) := by omega
    subst this
    exact Ev.ret (by rw [hb]; rfl)
theorem victim_cl (hA : WA e z) (hC : Cpl e C J) (hT : TI J) {g : Int} (g0 : 0 ≤ g) (g1 : g < (J 12 0 17)) : Ev (fun F => J9_victimIn F (rf e 9 0) (rf e 1 g) (HS e C I z)) (rR (rf e 8 (viF J g)) (HS e C I z)) := by
  have n8 := hC.1.1
  have n7 := hC.2.1.1
  have n1 := hC.2.2.1.1
  have n10 := hC.2.2.2.2.1.1
  have hB := hT.1
  have := RB.tasks hB
  have := RB.spaces hB
  have := RB.groups hB
  have := RB.views hB
  have n4 := hA.2.2.2.1
  refine Ev.step (fun F => E9_victimIn F _ _ _) ?_
  refine lpN (P := fun k => ∀ b r, 0 ≤ k → k ≤ (J 12 0 1) → -1 ≤ b → b < k → b = fo (viS J g) (-1) k → r = rf e 8 b → Ev (fun F => J9_victimIn_4 F (rf e 9 0) (rf e 1 g) r (xk k) (HS e C I z)) (rR (rf e 8 (viF J g)) (HS e C I z))) (J 12 0 1) (fun k ih b r k0 k1 b0 b1 hb hr => ?_) 0 (-1) none (by omega) (by omega) (by omega) (by omega) rfl (rf_n (by omega)).symm
  subst hr
  refine Ev.step (fun F => E9_victimIn_4 F _ _ _ _ _) ?_
  simp (disch := omega) only [b_13 hA, d_1 hA, d_8 hA, g_8_4 hA, g_9_0 hA, g_9_2 hA, Option.bind_some, up_s, up_k, up_j, up_i, xk_add, xk_sub, xk_mul, xk_neg, lk_add, lN_z, rf_none, rb1, rb0, rbp, xk_nI, zk_eq, zk_lt, zk_eq0, zk_lt0, zk_0lt, zk_long, lz_lt, lz_gt, zmax, zmin, ↓reduceIte, Int.reduceEq, Int.reduceLT, Int.reduceNeg, Int.reduceAdd, Int.reduceSub, Int.reduceMul, Int.ofNat_eq_natCast, Int.cast_ofNat_Int, CT.space hC.1, CT.view hC.1, CT.parent hC.1, CT.group hC.1, CT.state hC.1, CT.pages hC.1, CT.points hC.1, CT.ticks hC.1, CT.asleep hC.1, CT.time hC.1, CP.outer hC.2.1, CP.depth hC.2.1, CP.init hC.2.1, CP.given hC.2.1, CG.outer hC.2.2.1, CG.depth hC.2.2.1, CG.max hC.2.2.1, CG.most hC.2.2.1, CG.weight hC.2.2.1, CG.quota hC.2.2.1, CG.cached hC.2.2.1, CG.ran hC.2.2.1, CG.time hC.2.2.1, CG.uses hC.2.2.1, CG.live hC.2.2.1, rf_eq hA]
  refine Ev.ite (fun h => ?_) (fun h => ?_)
  · have h : k < (J 12 0 1) := by omega
    have bk := hT.b k0 h
    have := RB.badness hB (j := k) (by omega) (by omega)
    have := RB.pages hB (j := k) (by omega) (by omega)
    have ih := fun b => ih h b (rf e 8 b) (by omega) (by omega)
    rw [fo_s k0, ← hb, viS] at ih
    have no : ¬ (k ≠ 0 ∧ (J 22 0 k) = 0 ∧ (J 28 0 k) ≠ -10 ∧ win J ((J 25 0 k)) g = true ∧ (b < 0 ∨ (J 27 0 b) + 100 * (J 28 0 b) ≤ (J 27 0 k) + 100 * (J 28 0 k))) → Ev (fun F => J9_victimIn_4 F (rf e 9 0) (rf e 1 g) (rf e 8 b) (xk (k + 1)) (HS e C I z)) (rR (rf e 8 (viF J g)) (HS e C I z)) := fun q => ih b (by omega) (by omega) (by rw [if_neg q]) rfl
    have yes : (k ≠ 0 ∧ (J 22 0 k) = 0 ∧ (J 28 0 k) ≠ -10 ∧ win J ((J 25 0 k)) g = true ∧ (b < 0 ∨ (J 27 0 b) + 100 * (J 28 0 b) ≤ (J 27 0 k) + 100 * (J 28 0 k))) → Ev (fun F => J9_victimIn_4 F (rf e 9 0) (rf e 1 g) (rf e 8 k) (xk (k + 1)) (HS e C I z)) (rR (rf e 8 (viF J g)) (HS e C I z)) := fun q => ih k (by omega) (by omega) (by rw [if_pos q]) rfl
    have mb : Ev (fun F => J8_mayBeKilled F (rf e 8 k) (HS e C I z)) (rI (bI ((J 22 0 k) = 0 ∧ k ≠ 0 ∧ -10 < (J 28 0 k))) (HS e C I z)) := by
      refine Ev.step (fun F => E8_mayBeKilled F _ _) ?_
      simp (disch := omega) only [g_8_0 hA, g_8_5 hA, g_8_7 hA, Option.bind_some, up_s, up_k, up_j, up_i, xk_add, xk_sub, xk_mul, xk_neg, lk_add, lN_z, rf_none, rb1, rb0, rbp, xk_nI, zk_eq, zk_lt, zk_eq0, zk_lt0, zk_0lt, zk_long, lz_lt, lz_gt, zmax, zmin, ↓reduceIte, Int.reduceEq, Int.reduceLT, Int.reduceNeg, Int.reduceAdd, Int.reduceSub, Int.reduceMul, Int.ofNat_eq_natCast, Int.cast_ofNat_Int, CT.space hC.1, CT.view hC.1, CT.parent hC.1, CT.group hC.1, CT.state hC.1, CT.pages hC.1, CT.points hC.1, CT.ticks hC.1, CT.asleep hC.1, CT.time hC.1, CP.outer hC.2.1, CP.depth hC.2.1, CP.init hC.2.1, CP.given hC.2.1, CG.outer hC.2.2.1, CG.depth hC.2.2.1, CG.max hC.2.2.1, CG.most hC.2.2.1, CG.weight hC.2.2.1, CG.quota hC.2.2.1, CG.cached hC.2.2.1, CG.ran hC.2.2.1, CG.time hC.2.2.1, CG.uses hC.2.2.1, CG.live hC.2.2.1, rf_eq hA]
      refine Ev.ite (fun a => ?_) (fun a => Ev.ret (by rw [bI_f (by omega)]; rfl))
      refine Ev.ite (fun a => Ev.ret (by rw [bI_f (by omega)]; rfl)) (fun a => ?_)
      exact Ev.ite (fun a => Ev.ret (by rw [bI_t (by omega)]; rfl)) (fun a => Ev.ret (by rw [bI_f (by omega)]; rfl))
    have sc : ∀ x, 0 ≤ x → x < (J 12 0 1) → Ev (fun F => J8_score F (rf e 8 x) (HS e C I z)) (rI ((J 27 0 x) + 100 * (J 28 0 x)) (HS e C I z)) := by
      intro x x0 x1
      refine Ev.step (fun F => E8_score F _ _) ?_
      simp (disch := omega) only [g_8_6 hA, g_8_7 hA, Option.bind_some, up_s, up_k, up_j, up_i, xk_add, xk_sub, xk_mul, xk_neg, lk_add, lN_z, rf_none, rb1, rb0, rbp, xk_nI, zk_eq, zk_lt, zk_eq0, zk_lt0, zk_0lt, zk_long, lz_lt, lz_gt, zmax, zmin, ↓reduceIte, Int.reduceEq, Int.reduceLT, Int.reduceNeg, Int.reduceAdd, Int.reduceSub, Int.reduceMul, Int.ofNat_eq_natCast, Int.cast_ofNat_Int, CT.space hC.1, CT.view hC.1, CT.parent hC.1, CT.group hC.1, CT.state hC.1, CT.pages hC.1, CT.points hC.1, CT.ticks hC.1, CT.asleep hC.1, CT.time hC.1, CP.outer hC.2.1, CP.depth hC.2.1, CP.init hC.2.1, CP.given hC.2.1, CG.outer hC.2.2.1, CG.depth hC.2.2.1, CG.max hC.2.2.1, CG.most hC.2.2.1, CG.weight hC.2.2.1, CG.quota hC.2.2.1, CG.cached hC.2.2.1, CG.ran hC.2.2.1, CG.time hC.2.2.1, CG.uses hC.2.2.1, CG.live hC.2.2.1, rf_eq hA]
      exact Ev.ret rfl
    try simp (disch := omega) only [b_13 hA, d_1 hA, d_8 hA, g_8_4 hA, g_9_0 hA, g_9_2 hA, Option.bind_some, up_s, up_k, up_j, up_i, xk_add, xk_sub, xk_mul, xk_neg, lk_add, lN_z, rf_none, rb1, rb0, rbp, xk_nI, zk_eq, zk_lt, zk_eq0, zk_lt0, zk_0lt, zk_long, lz_lt, lz_gt, zmax, zmin, ↓reduceIte, Int.reduceEq, Int.reduceLT, Int.reduceNeg, Int.reduceAdd, Int.reduceSub, Int.reduceMul, Int.ofNat_eq_natCast, Int.cast_ofNat_Int, CT.space hC.1, CT.view hC.1, CT.parent hC.1, CT.group hC.1, CT.state hC.1, CT.pages hC.1, CT.points hC.1, CT.ticks hC.1, CT.asleep hC.1, CT.time hC.1, CP.outer hC.2.1, CP.depth hC.2.1, CP.init hC.2.1, CP.given hC.2.1, CG.outer hC.2.2.1, CG.depth hC.2.2.1, CG.max hC.2.2.1, CG.most hC.2.2.1, CG.weight hC.2.2.1, CG.quota hC.2.2.1, CG.cached hC.2.2.1, CG.ran hC.2.2.1, CG.time hC.2.2.1, CG.uses hC.2.2.1, CG.live hC.2.2.1, rf_eq hA]
    refine Ev.kB mb (fun hm => ?_) (fun hm => ?_)
    · try simp (disch := omega) only [b_13 hA, d_1 hA, d_8 hA, g_8_4 hA, g_9_0 hA, g_9_2 hA, Option.bind_some, up_s, up_k, up_j, up_i, xk_add, xk_sub, xk_mul, xk_neg, lk_add, lN_z, rf_none, rb1, rb0, rbp, xk_nI, zk_eq, zk_lt, zk_eq0, zk_lt0, zk_0lt, zk_long, lz_lt, lz_gt, zmax, zmin, ↓reduceIte, Int.reduceEq, Int.reduceLT, Int.reduceNeg, Int.reduceAdd, Int.reduceSub, Int.reduceMul, Int.ofNat_eq_natCast, Int.cast_ofNat_Int, CT.space hC.1, CT.view hC.1, CT.parent hC.1, CT.group hC.1, CT.state hC.1, CT.pages hC.1, CT.points hC.1, CT.ticks hC.1, CT.asleep hC.1, CT.time hC.1, CP.outer hC.2.1, CP.depth hC.2.1, CP.init hC.2.1, CP.given hC.2.1, CG.outer hC.2.2.1, CG.depth hC.2.2.1, CG.max hC.2.2.1, CG.most hC.2.2.1, CG.weight hC.2.2.1, CG.quota hC.2.2.1, CG.cached hC.2.2.1, CG.ran hC.2.2.1, CG.time hC.2.2.1, CG.uses hC.2.2.1, CG.live hC.2.2.1, rf_eq hA]
      refine Ev.kB (gliesIn_ev hA hC hT g0 g1 (by omega) (by omega)) (fun hi => ?_) (fun hi => ?_)
      · try simp (disch := omega) only [b_13 hA, d_1 hA, d_8 hA, g_8_4 hA, g_9_0 hA, g_9_2 hA, Option.bind_some, up_s, up_k, up_j, up_i, xk_add, xk_sub, xk_mul, xk_neg, lk_add, lN_z, rf_none, rb1, rb0, rbp, xk_nI, zk_eq, zk_lt, zk_eq0, zk_lt0, zk_0lt, zk_long, lz_lt, lz_gt, zmax, zmin, ↓reduceIte, Int.reduceEq, Int.reduceLT, Int.reduceNeg, Int.reduceAdd, Int.reduceSub, Int.reduceMul, Int.ofNat_eq_natCast, Int.cast_ofNat_Int, CT.space hC.1, CT.view hC.1, CT.parent hC.1, CT.group hC.1, CT.state hC.1, CT.pages hC.1, CT.points hC.1, CT.ticks hC.1, CT.asleep hC.1, CT.time hC.1, CP.outer hC.2.1, CP.depth hC.2.1, CP.init hC.2.1, CP.given hC.2.1, CG.outer hC.2.2.1, CG.depth hC.2.2.1, CG.max hC.2.2.1, CG.most hC.2.2.1, CG.weight hC.2.2.1, CG.quota hC.2.2.1, CG.cached hC.2.2.1, CG.ran hC.2.2.1, CG.time hC.2.2.1, CG.uses hC.2.2.1, CG.live hC.2.2.1, rf_eq hA]
        refine Ev.ite (fun hn => yes ⟨by omega, by omega, by omega, hi, by omega⟩) (fun hn => ?_)
        have := RB.badness hB (j := b) (by omega) (by omega)
        have := RB.pages hB (j := b) (by omega) (by omega)
        try simp (disch := omega) only [b_13 hA, d_1 hA, d_8 hA, g_8_4 hA, g_9_0 hA, g_9_2 hA, Option.bind_some, up_s, up_k, up_j, up_i, xk_add, xk_sub, xk_mul, xk_neg, lk_add, lN_z, rf_none, rb1, rb0, rbp, xk_nI, zk_eq, zk_lt, zk_eq0, zk_lt0, zk_0lt, zk_long, lz_lt, lz_gt, zmax, zmin, ↓reduceIte, Int.reduceEq, Int.reduceLT, Int.reduceNeg, Int.reduceAdd, Int.reduceSub, Int.reduceMul, Int.ofNat_eq_natCast, Int.cast_ofNat_Int, CT.space hC.1, CT.view hC.1, CT.parent hC.1, CT.group hC.1, CT.state hC.1, CT.pages hC.1, CT.points hC.1, CT.ticks hC.1, CT.asleep hC.1, CT.time hC.1, CP.outer hC.2.1, CP.depth hC.2.1, CP.init hC.2.1, CP.given hC.2.1, CG.outer hC.2.2.1, CG.depth hC.2.2.1, CG.max hC.2.2.1, CG.most hC.2.2.1, CG.weight hC.2.2.1, CG.quota hC.2.2.1, CG.cached hC.2.2.1, CG.ran hC.2.2.1, CG.time hC.2.2.1, CG.uses hC.2.2.1, CG.live hC.2.2.1, rf_eq hA]
        refine Ev.kI (sc k k0 h) ?_
        try simp (disch := omega) only [b_13 hA, d_1 hA, d_8 hA, g_8_4 hA, g_9_0 hA, g_9_2 hA, Option.bind_some, up_s, up_k, up_j, up_i, xk_add, xk_sub, xk_mul, xk_neg, lk_add, lN_z, rf_none, rb1, rb0, rbp, xk_nI, zk_eq, zk_lt, zk_eq0, zk_lt0, zk_0lt, zk_long, lz_lt, lz_gt, zmax, zmin, ↓reduceIte, Int.reduceEq, Int.reduceLT, Int.reduceNeg, Int.reduceAdd, Int.reduceSub, Int.reduceMul, Int.ofNat_eq_natCast, Int.cast_ofNat_Int, CT.space hC.1, CT.view hC.1, CT.parent hC.1, CT.group hC.1, CT.state hC.1, CT.pages hC.1, CT.points hC.1, CT.ticks hC.1, CT.asleep hC.1, CT.time hC.1, CP.outer hC.2.1, CP.depth hC.2.1, CP.init hC.2.1, CP.given hC.2.1, CG.outer hC.2.2.1, CG.depth hC.2.2.1, CG.max hC.2.2.1, CG.most hC.2.2.1, CG.weight hC.2.2.1, CG.quota hC.2.2.1, CG.cached hC.2.2.1, CG.ran hC.2.2.1, CG.time hC.2.2.1, CG.uses hC.2.2.1, CG.live hC.2.2.1, rf_eq hA]
        refine Ev.kI (sc b (by omega) (by omega)) ?_
        try simp (disch := omega) only [b_13 hA, d_1 hA, d_8 hA, g_8_4 hA, g_9_0 hA, g_9_2 hA, Option.bind_some, up_s, up_k, up_j, up_i, xk_add, xk_sub, xk_mul, xk_neg, lk_add, lN_z, rf_none, rb1, rb0, rbp, xk_nI, zk_eq, zk_lt, zk_eq0, zk_lt0, zk_0lt, zk_long, lz_lt, lz_gt, zmax, zmin, ↓reduceIte, Int.reduceEq, Int.reduceLT, Int.reduceNeg, Int.reduceAdd, Int.reduceSub, Int.reduceMul, Int.ofNat_eq_natCast, Int.cast_ofNat_Int, CT.space hC.1, CT.view hC.1, CT.parent hC.1, CT.group hC.1, CT.state hC.1, CT.pages hC.1, CT.points hC.1, CT.ticks hC.1, CT.asleep hC.1, CT.time hC.1, CP.outer hC.2.1, CP.depth hC.2.1, CP.init hC.2.1, CP.given hC.2.1, CG.outer hC.2.2.1, CG.depth hC.2.2.1, CG.max hC.2.2.1, CG.most hC.2.2.1, CG.weight hC.2.2.1, CG.quota hC.2.2.1, CG.cached hC.2.2.1, CG.ran hC.2.2.1, CG.time hC.2.2.1, CG.uses hC.2.2.1, CG.live hC.2.2.1, rf_eq hA]
        exact Ev.ite (fun hl => no (fun q => by omega)) (fun hl => yes ⟨by omega, by omega, by omega, hi, by omega⟩)
      · try simp (disch := omega) only [b_13 hA, d_1 hA, d_8 hA, g_8_4 hA, g_9_0 hA, g_9_2 hA, Option.bind_some, up_s, up_k, up_j, up_i, xk_add, xk_sub, xk_mul, xk_neg, lk_add, lN_z, rf_none, rb1, rb0, rbp, xk_nI, zk_eq, zk_lt, zk_eq0, zk_lt0, zk_0lt, zk_long, lz_lt, lz_gt, zmax, zmin, ↓reduceIte, Int.reduceEq, Int.reduceLT, Int.reduceNeg, Int.reduceAdd, Int.reduceSub, Int.reduceMul, Int.ofNat_eq_natCast, Int.cast_ofNat_Int, CT.space hC.1, CT.view hC.1, CT.parent hC.1, CT.group hC.1, CT.state hC.1, CT.pages hC.1, CT.points hC.1, CT.ticks hC.1, CT.asleep hC.1, CT.time hC.1, CP.outer hC.2.1, CP.depth hC.2.1, CP.init hC.2.1, CP.given hC.2.1, CG.outer hC.2.2.1, CG.depth hC.2.2.1, CG.max hC.2.2.1, CG.most hC.2.2.1, CG.weight hC.2.2.1, CG.quota hC.2.2.1, CG.cached hC.2.2.1, CG.ran hC.2.2.1, CG.time hC.2.2.1, CG.uses hC.2.2.1, CG.live hC.2.2.1, rf_eq hA]
        exact no (fun q => hi q.2.2.2.1)
    · try simp (disch := omega) only [b_13 hA, d_1 hA, d_8 hA, g_8_4 hA, g_9_0 hA, g_9_2 hA, Option.bind_some, up_s, up_k, up_j, up_i, xk_add, xk_sub, xk_mul, xk_neg, lk_add, lN_z, rf_none, rb1, rb0, rbp, xk_nI, zk_eq, zk_lt, zk_eq0, zk_lt0, zk_0lt, zk_long, lz_lt, lz_gt, zmax, zmin, ↓reduceIte, Int.reduceEq, Int.reduceLT, Int.reduceNeg, Int.reduceAdd, Int.reduceSub, Int.reduceMul, Int.ofNat_eq_natCast, Int.cast_ofNat_Int, CT.space hC.1, CT.view hC.1, CT.parent hC.1, CT.group hC.1, CT.state hC.1, CT.pages hC.1, CT.points hC.1, CT.ticks hC.1, CT.asleep hC.1, CT.time hC.1, CP.outer hC.2.1, CP.depth hC.2.1, CP.init hC.2.1, CP.given hC.2.1, CG.outer hC.2.2.1, CG.depth hC.2.2.1, CG.max hC.2.2.1, CG.most hC.2.2.1, CG.weight hC.2.2.1, CG.quota hC.2.2.1, CG.cached hC.2.2.1, CG.ran hC.2.2.1, CG.time hC.2.2.1, CG.uses hC.2.2.1, CG.live hC.2.2.1, rf_eq hA]
      exact no (fun q => hm ⟨q.2.1, q.1, by omega⟩)
  · have : k = (J 12 0 1) := by omega
    subst this
    exact Ev.ret (by rw [hb]; rfl)
end CL
