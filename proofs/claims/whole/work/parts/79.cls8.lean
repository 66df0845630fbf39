/-! the class: a task comes, tick -/
def GI (J : ST) : Prop := ∀ g, 0 ≤ g → g < (J 12 0 17) → ((J 38 0 g) < 0 ↔ g = 0) ∧ 1 ≤ (J 41 0 g)
theorem up_id {S : ST} {k : Nat} {i j : Int} : up S k i j (S k i j) = S := by
  funext k' i' j'
  unfold up
  by_cases h : k' = k ∧ i' = i ∧ j' = j
  · rw [if_pos h, h.1, h.2.1, h.2.2]
  · rw [if_neg h]
theorem cmI_eq {J : ST} {t mv x : Int} : cmI J t mv x = up J 30 0 t (if mv = 0 then max x (J 30 0 t) else max x 0) := by
  unfold cmI
  by_cases h : mv = 0
  · rw [if_pos h, if_pos h]
    by_cases q : (J 30 0 t) < x
    · rw [if_pos q, show max x (J 30 0 t) = x by omega]
    · rw [if_neg q, show max x (J 30 0 t) = (J 30 0 t) by omega, up_id]
  · rw [if_neg h, if_neg h]
    by_cases q : x < 0
    · rw [if_pos q, show max x 0 = 0 by omega]
    · rw [if_neg q, show max x 0 = x by omega]
section CL
variable {e : EN} {C I J : ST} {z : Nat × Nat × Nat × Nat}
theorem Cpl.sc {J' : ST} (hC : Cpl e C J) (h : ∀ k i j, k ≠ 59 → k ≠ 60 → (k ≠ 12 ∨ (j ≠ 0 ∧ j ≠ 37 ∧ j ≠ 38)) → J' k i j = J k i j) : Cpl e C J' := by
  obtain ⟨h1, h2, h3, h4, h5, h6⟩ := hC
  have ej : ∀ k i j, k ≠ 59 → k ≠ 60 → k ≠ 12 → J' k i j = J k i j := fun k i j a b c => h k i j a b (Or.inl c)
  have e12 : ∀ j, j ≠ 0 → j ≠ 37 → j ≠ 38 → J' 12 0 j = J 12 0 j := fun j a b c => h 12 0 j (by decide) (by decide) (Or.inr ⟨a, b, c⟩)
  exact ⟨h1.fr (fun i j => rfl) (e12 _ (by decide) (by decide) (by decide)) (fun k j a b => ej _ _ _ (by omega) (by omega) (by omega)), h2.fr (fun i j => rfl) (fun i j => rfl) (e12 _ (by decide) (by decide) (by decide)) (fun j => ej _ _ _ (by decide) (by decide) (by decide)) (fun j => ej _ _ _ (by decide) (by decide) (by decide)) (fun j => ej _ _ _ (by decide) (by decide) (by decide)) (HoR_c (e12 _ (by decide) (by decide) (by decide)) (fun j => by rw [ej _ _ _ (by decide) (by decide) (by decide)]) (fun j => ej _ _ _ (by decide) (by decide) (by decide))), h3.fr (fun i j _ => rfl) (e12 _ (by decide) (by decide) (by decide)) (fun k j a b => ej _ _ _ (by omega) (by omega) (by omega)) (usF_c (e12 _ (by decide) (by decide) (by decide)) (e12 _ (by decide) (by decide) (by decide)) (fun j => by rw [ej _ _ _ (by decide) (by decide) (by decide)]) (fun j => ej _ _ _ (by decide) (by decide) (by decide)) (fun j => ej _ _ _ (by decide) (by decide) (by decide)) (fun j => ej _ _ _ (by decide) (by decide) (by decide)) (fun j => ej _ _ _ (by decide) (by decide) (by decide))) (lvF_c (e12 _ (by decide) (by decide) (by decide)) (fun j => by rw [ej _ _ _ (by decide) (by decide) (by decide)]) (fun j => ej _ _ _ (by decide) (by decide) (by decide)) (fun j => ej _ _ _ (by decide) (by decide) (by decide))), h4.fr (fun g => rfl) (fun g => rfl) (e12 _ (by decide) (by decide) (by decide)) (e12 _ (by decide) (by decide) (by decide)), h5.fr (fun k i j h => rfl) (fun k i j a b => ej _ _ _ (by omega) (by omega) (by omega)) (e12 _ (by decide) (by decide) (by decide)) (e12 _ (by decide) (by decide) (by decide)), h6.fr rfl rfl (fun _ => rfl) (fun _ => rfl) (e12 _ (by decide) (by decide) (by decide)) (e12 _ (by decide) (by decide) (by decide))⟩
theorem Cpl.fri (hC : Cpl e C J) {hs : Int → Bool} : Cpl e C (frI J hs) := hC.sc (fun k i j a _ _ => fr_f a)
theorem Cpl.cm (hC : Cpl e C J) {t v : Int} : Cpl e (up C 8 t 10 v) (up J 30 0 t v) := by
  obtain ⟨h1, h2, h3, h4, h5, h6⟩ := hC
  have f0 : ∀ k i j, k ≠ 8 → up C 8 t 10 v k i j = C k i j := fun k i j a => up_k a
  have ej : ∀ k i j, k ≠ 30 → up J 30 0 t v k i j = J k i j := fun k i j a => up_k a
  refine ⟨⟨(ej 12 0 1 (by decide)).symm ▸ h1.1, fun x x0 x1 => ?_⟩, h2.fr (fun i j => f0 _ _ _ (by decide)) (fun i j => f0 _ _ _ (by decide)) (ej _ _ _ (by decide)) (fun j => ej _ _ _ (by decide)) (fun j => ej _ _ _ (by decide)) (fun j => ej _ _ _ (by decide)) (HoR_c (ej _ _ _ (by decide)) (fun j => by rw [ej _ _ _ (by decide)]) (fun j => ej _ _ _ (by decide))), h3.fr (fun i j _ => f0 _ _ _ (by decide)) (ej _ _ _ (by decide)) (fun k j a b => ej _ _ _ (by omega)) (usF_c (ej _ _ _ (by decide)) (ej _ _ _ (by decide)) (fun j => by rw [ej _ _ _ (by decide)]) (fun j => ej _ _ _ (by decide)) (fun j => ej _ _ _ (by decide)) (fun j => ej _ _ _ (by decide)) (fun j => ej _ _ _ (by decide))) (lvF_c (ej _ _ _ (by decide)) (fun j => by rw [ej _ _ _ (by decide)]) (fun j => ej _ _ _ (by decide)) (fun j => ej _ _ _ (by decide))), h4.fr (fun g => f0 _ _ _ (by decide)) (fun g => f0 _ _ _ (by decide)) (ej _ _ _ (by decide)) (ej _ _ _ (by decide)), h5.fr (fun k i j h => f0 _ _ _ (by omega)) (fun k i j a b => ej _ _ _ (by omega)) (ej _ _ _ (by decide)) (ej _ _ _ (by decide)), h6.fr (f0 _ _ _ (by decide)) (f0 _ _ _ (by decide)) (fun j => f0 _ _ _ (by decide)) (fun j => f0 _ _ _ (by decide)) (ej _ _ _ (by decide)) (ej _ _ _ (by decide))⟩
  rw [ej _ _ _ (by decide)] at x1
  have q := h1.2 x x0 x1
  have c8 : ∀ j, j ≠ 10 → up C 8 t 10 v 8 x j = C 8 x j := fun j a => up_j a
  have d8 : ∀ k, k ≠ 30 → up J 30 0 t v k 0 x = J k 0 x := fun k a => up_k a
  simp (disch := decide) only [c8, d8]
  refine ⟨q.1, q.2.1, q.2.2.1, q.2.2.2.1, q.2.2.2.2.1, q.2.2.2.2.2.1, q.2.2.2.2.2.2.1, q.2.2.2.2.2.2.2.1, q.2.2.2.2.2.2.2.2.1, ?_⟩
  by_cases hx : x = t
  · rw [hx, up_s, up_s]
  · rw [up_i hx, up_j hx]; exact q.2.2.2.2.2.2.2.2.2
theorem leads_ev (hA : WA e z) (hC : Cpl e C J) (hT : TI J) (hK : KB J) {g : Int} (g0 : 0 ≤ g) (g1 : g < (J 12 0 17)) : Ev (fun F => J1_leadsToGroup F (rf e 1 g) (HS e C I z)) (rI (bI (0 ≤ (C 1 g 13) ∧ ((C 1 g 12) < 0 ∨ (J 45 0 ((C 1 g 13))) < (J 30 0 ((C 1 g 12)))))) (HS e C I z)) := by
  have n8 := hC.1.1
  have n7 := hC.2.1.1
  have n1 := hC.2.2.1.1
  have n10 := hC.2.2.2.2.1.1
  have hB := hT.1
  have := RB.tasks hB
  have := RB.spaces hB
  have := RB.groups hB
  have := RB.views hB
  have n4 := hA.2.2.2.1
  have hf := hC.2.2.2.1 g g0 g1
  refine Ev.step (fun F => E1_leadsToGroup F _ _) ?_
  simp (disch := omega) only [g_1_11 hA, g_1_12 hA, g_1_13 hA, g_8_10 hA, Option.bind_some, up_s, up_k, up_j, up_i, xk_add, xk_sub, xk_mul, xk_neg, lk_add, lN_z, rf_none, rb1, rb0, rbp, xk_nI, zk_eq, zk_lt, zk_eq0, zk_lt0, zk_0lt, zk_long, lz_lt, lz_gt, zmax, zmin, ↓reduceIte, Int.reduceEq, Int.reduceLT, Int.reduceNeg, Int.reduceAdd, Int.reduceSub, Int.reduceMul, Int.ofNat_eq_natCast, Int.cast_ofNat_Int, CT.space hC.1, CT.view hC.1, CT.parent hC.1, CT.group hC.1, CT.state hC.1, CT.pages hC.1, CT.points hC.1, CT.ticks hC.1, CT.asleep hC.1, CT.time hC.1, CP.outer hC.2.1, CP.depth hC.2.1, CP.init hC.2.1, CP.given hC.2.1, CG.outer hC.2.2.1, CG.depth hC.2.2.1, CG.max hC.2.2.1, CG.most hC.2.2.1, CG.weight hC.2.2.1, CG.quota hC.2.2.1, CG.cached hC.2.2.1, CG.ran hC.2.2.1, CG.time hC.2.2.1, CG.uses hC.2.2.1, CG.live hC.2.2.1, rf_eq hA]
  refine Ev.ite (fun h => Ev.ret (by rw [bI_f (by omega)]; rfl)) (fun h => ?_)
  refine Ev.ite (fun h' => Ev.ret (by rw [bI_t (by omega)]; rfl)) (fun h' => ?_)
  have k1 := hK.1 (C 1 g 12) (by omega) (by omega)
  have k2 := hK.2.1 (C 1 g 13) (by omega) (by omega)
  try simp (disch := omega) only [g_1_11 hA, g_1_12 hA, g_1_13 hA, g_8_10 hA, Option.bind_some, up_s, up_k, up_j, up_i, xk_add, xk_sub, xk_mul, xk_neg, lk_add, lN_z, rf_none, rb1, rb0, rbp, xk_nI, zk_eq, zk_lt, zk_eq0, zk_lt0, zk_0lt, zk_long, lz_lt, lz_gt, zmax, zmin, ↓reduceIte, Int.reduceEq, Int.reduceLT, Int.reduceNeg, Int.reduceAdd, Int.reduceSub, Int.reduceMul, Int.ofNat_eq_natCast, Int.cast_ofNat_Int, CT.space hC.1, CT.view hC.1, CT.parent hC.1, CT.group hC.1, CT.state hC.1, CT.pages hC.1, CT.points hC.1, CT.ticks hC.1, CT.asleep hC.1, CT.time hC.1, CP.outer hC.2.1, CP.depth hC.2.1, CP.init hC.2.1, CP.given hC.2.1, CG.outer hC.2.2.1, CG.depth hC.2.2.1, CG.max hC.2.2.1, CG.most hC.2.2.1, CG.weight hC.2.2.1, CG.quota hC.2.2.1, CG.cached hC.2.2.1, CG.ran hC.2.2.1, CG.time hC.2.2.1, CG.uses hC.2.2.1, CG.live hC.2.2.1, rf_eq hA]
  exact Ev.ite (fun q => Ev.ret (by rw [bI_t (by omega)]; rfl)) (fun q => Ev.ret (by rw [bI_f (by omega)]; rfl))
theorem leastTime_cl (hA : WA e z) (hC : Cpl e C J) (hT : TI J) (hK : KB J) {g : Int} (g0 : 0 ≤ g) (g1 : g < (J 12 0 17)) : Ev (fun F => J1_leastTime F (rf e 1 g) (HS e C I z)) (rL (ltV J (C 1 g 12) (C 1 g 13)) (HS e C I z)) := by
  have n8 := hC.1.1
  have n7 := hC.2.1.1
  have n1 := hC.2.2.1.1
  have n10 := hC.2.2.2.2.1.1
  have hB := hT.1
  have := RB.tasks hB
  have := RB.spaces hB
  have := RB.groups hB
  have := RB.views hB
  have n4 := hA.2.2.2.1
  have hf := hC.2.2.2.1 g g0 g1
  refine Ev.step (fun F => E1_leastTime F _ _) ?_
  simp (disch := omega) only [d_1 hA, g_1_11 hA, g_1_12 hA, g_1_13 hA, g_8_10 hA, Option.bind_some, up_s, up_k, up_j, up_i, xk_add, xk_sub, xk_mul, xk_neg, lk_add, lN_z, rf_none, rb1, rb0, rbp, xk_nI, zk_eq, zk_lt, zk_eq0, zk_lt0, zk_0lt, zk_long, lz_lt, lz_gt, zmax, zmin, ↓reduceIte, Int.reduceEq, Int.reduceLT, Int.reduceNeg, Int.reduceAdd, Int.reduceSub, Int.reduceMul, Int.ofNat_eq_natCast, Int.cast_ofNat_Int, CT.space hC.1, CT.view hC.1, CT.parent hC.1, CT.group hC.1, CT.state hC.1, CT.pages hC.1, CT.points hC.1, CT.ticks hC.1, CT.asleep hC.1, CT.time hC.1, CP.outer hC.2.1, CP.depth hC.2.1, CP.init hC.2.1, CP.given hC.2.1, CG.outer hC.2.2.1, CG.depth hC.2.2.1, CG.max hC.2.2.1, CG.most hC.2.2.1, CG.weight hC.2.2.1, CG.quota hC.2.2.1, CG.cached hC.2.2.1, CG.ran hC.2.2.1, CG.time hC.2.2.1, CG.uses hC.2.2.1, CG.live hC.2.2.1, rf_eq hA]
  unfold ltV
  refine Ev.kB (leads_ev hA hC hT hK g0 g1) (fun h => ?_) (fun h => ?_)
  · have k2 := hK.2.1 (C 1 g 13) (by omega) (by omega)
    try simp (disch := omega) only [d_1 hA, g_1_11 hA, g_1_12 hA, g_1_13 hA, g_8_10 hA, Option.bind_some, up_s, up_k, up_j, up_i, xk_add, xk_sub, xk_mul, xk_neg, lk_add, lN_z, rf_none, rb1, rb0, rbp, xk_nI, zk_eq, zk_lt, zk_eq0, zk_lt0, zk_0lt, zk_long, lz_lt, lz_gt, zmax, zmin, ↓reduceIte, Int.reduceEq, Int.reduceLT, Int.reduceNeg, Int.reduceAdd, Int.reduceSub, Int.reduceMul, Int.ofNat_eq_natCast, Int.cast_ofNat_Int, CT.space hC.1, CT.view hC.1, CT.parent hC.1, CT.group hC.1, CT.state hC.1, CT.pages hC.1, CT.points hC.1, CT.ticks hC.1, CT.asleep hC.1, CT.time hC.1, CP.outer hC.2.1, CP.depth hC.2.1, CP.init hC.2.1, CP.given hC.2.1, CG.outer hC.2.2.1, CG.depth hC.2.2.1, CG.max hC.2.2.1, CG.most hC.2.2.1, CG.weight hC.2.2.1, CG.quota hC.2.2.1, CG.cached hC.2.2.1, CG.ran hC.2.2.1, CG.time hC.2.2.1, CG.uses hC.2.2.1, CG.live hC.2.2.1, rf_eq hA]
    refine Ev.ret ?_
    rw [if_neg (by omega : ¬ (C 1 g 13) < 0), if_neg (by omega : ¬ (C 1 g 13) < 0)]
    split
    · rfl
    · rw [show min (J 30 0 ((C 1 g 12))) (J 45 0 ((C 1 g 13))) = (J 45 0 ((C 1 g 13))) by omega]; rfl
  · try simp (disch := omega) only [d_1 hA, g_1_11 hA, g_1_12 hA, g_1_13 hA, g_8_10 hA, Option.bind_some, up_s, up_k, up_j, up_i, xk_add, xk_sub, xk_mul, xk_neg, lk_add, lN_z, rf_none, rb1, rb0, rbp, xk_nI, zk_eq, zk_lt, zk_eq0, zk_lt0, zk_0lt, zk_long, lz_lt, lz_gt, zmax, zmin, ↓reduceIte, Int.reduceEq, Int.reduceLT, Int.reduceNeg, Int.reduceAdd, Int.reduceSub, Int.reduceMul, Int.ofNat_eq_natCast, Int.cast_ofNat_Int, CT.space hC.1, CT.view hC.1, CT.parent hC.1, CT.group hC.1, CT.state hC.1, CT.pages hC.1, CT.points hC.1, CT.ticks hC.1, CT.asleep hC.1, CT.time hC.1, CP.outer hC.2.1, CP.depth hC.2.1, CP.init hC.2.1, CP.given hC.2.1, CG.outer hC.2.2.1, CG.depth hC.2.2.1, CG.max hC.2.2.1, CG.most hC.2.2.1, CG.weight hC.2.2.1, CG.quota hC.2.2.1, CG.cached hC.2.2.1, CG.ran hC.2.2.1, CG.time hC.2.2.1, CG.uses hC.2.2.1, CG.live hC.2.2.1, rf_eq hA, ll_n1]
    refine Ev.ite (fun q => Ev.ret ?_) (fun q => ?_)
    · rw [if_pos q, if_pos (by omega)]; rfl
    · have k1 := hK.1 (C 1 g 12) (by omega) (by omega)
      try simp (disch := omega) only [d_1 hA, g_1_11 hA, g_1_12 hA, g_1_13 hA, g_8_10 hA, Option.bind_some, up_s, up_k, up_j, up_i, xk_add, xk_sub, xk_mul, xk_neg, lk_add, lN_z, rf_none, rb1, rb0, rbp, xk_nI, zk_eq, zk_lt, zk_eq0, zk_lt0, zk_0lt, zk_long, lz_lt, lz_gt, zmax, zmin, ↓reduceIte, Int.reduceEq, Int.reduceLT, Int.reduceNeg, Int.reduceAdd, Int.reduceSub, Int.reduceMul, Int.ofNat_eq_natCast, Int.cast_ofNat_Int, CT.space hC.1, CT.view hC.1, CT.parent hC.1, CT.group hC.1, CT.state hC.1, CT.pages hC.1, CT.points hC.1, CT.ticks hC.1, CT.asleep hC.1, CT.time hC.1, CP.outer hC.2.1, CP.depth hC.2.1, CP.init hC.2.1, CP.given hC.2.1, CG.outer hC.2.2.1, CG.depth hC.2.2.1, CG.max hC.2.2.1, CG.most hC.2.2.1, CG.weight hC.2.2.1, CG.quota hC.2.2.1, CG.cached hC.2.2.1, CG.ran hC.2.2.1, CG.time hC.2.2.1, CG.uses hC.2.2.1, CG.live hC.2.2.1, rf_eq hA]
      refine Ev.ret ?_
      rw [if_neg q]
      split
      · rfl
      · rw [show min (J 30 0 ((C 1 g 12))) (J 45 0 ((C 1 g 13))) = (J 30 0 ((C 1 g 12))) by omega]; rfl
theorem ltV_b (hK : KB J) {a b : Int} (a1 : a < 150) (b1 : b < 20) : -1 ≤ ltV J a b ∧ ltV J a b < 1000000000000 := by
  unfold ltV
  split
  · split
    · omega
    · have := hK.2.1 b (by omega) (by omega); omega
  · have := hK.1 a (by omega) (by omega)
    split
    · omega
    · have := hK.2.1 b (by omega) (by omega); omega
theorem admit_ev (hA : WA e z) (hC : Cpl e C J) (hT : TI J) (hK : KB J) {t mv : Int} (t0 : 0 ≤ t) (t1 : t < (J 12 0 1)) (m0 : 0 ≤ mv) (m1 : mv ≤ 1) : ∃ C' hs a b, Ev (fun F => J0_admit F (rf e 0 0) (rf e 8 t) (xk mv) (HS e C I z)) (rV (HS e C' I z)) ∧ HsR J hs ∧ AM (ltP J (J 25 0 t) 0 t) (fun k => (J 30 0 k)) (J 12 0 1) a ∧ AM (ltQ hs J (J 25 0 t) 0 t) (fun k => (J 45 0 k)) (J 12 0 17) b ∧ Cpl e C' (cmI (frI J hs) t mv (ltV J a b)) := by
  have n8 := hC.1.1
  have n7 := hC.2.1.1
  have n1 := hC.2.2.1.1
  have n10 := hC.2.2.2.2.1.1
  have hB := hT.1
  have := RB.tasks hB
  have := RB.spaces hB
  have := RB.groups hB
  have := RB.views hB
  have n4 := hA.2.2.2.1
  have bt := hT.b t0 t1
  obtain ⟨hs', ft, fg, hE, hF, hX⟩ := look_ev (I := I) hA hC hT hK (x := t) ⟨by omega, t1⟩
  obtain ⟨hs, hH⟩ := HsR.ex hB
  have q := hF (J 25 0 t) (by omega) (by omega)
  have b1 := q.1.b (by omega)
  have b2 := q.2.b (by omega)
  have hC1 : Cpl e (lkC J C ft fg) J := hC.lk (fun g g0 g1 => ⟨(hF g g0 g1).1.b (by omega), (hF g g0 g1).2.b (by omega)⟩)
  have hl := leastTime_cl (I := I) hA hC1 hT hK (g := (J 25 0 t)) (by omega) (by omega)
  rw [lk_t (by omega) (by omega), lk_g (by omega) (by omega)] at hl
  have lb := ltV_b hK (a := ft (J 25 0 t)) (b := fg (J 25 0 t)) (by omega) (by omega)
  have tt := hK.1 t t0 (by omega)
  refine ⟨up (lkC J C ft fg) 8 t 10 (if mv = 0 then max (ltV J (ft (J 25 0 t)) (fg (J 25 0 t))) (J 30 0 t) else max (ltV J (ft (J 25 0 t)) (fg (J 25 0 t))) 0), hs, ft (J 25 0 t), fg (J 25 0 t), ?_, hH, ?_, ?_, ?_⟩
  · have c4 : lkC J C ft fg 8 t 4 = (J 25 0 t) := (lk_f (Or.inl (by decide))).trans (hC.1.group t0 t1)
    have c10 : lkC J C ft fg 8 t 10 = (J 30 0 t) := (lk_f (Or.inl (by decide))).trans (hC.1.time t0 t1)
    refine Ev.step (fun F => E0_admit F _ _ _ _) ?_
    simp (disch := omega) only [d_0 hA, d_1 hA, g_8_10 hA, g_8_4 hA, p_8_10 hA, Option.bind_some, up_s, up_k, up_j, up_i, xk_add, xk_sub, xk_mul, xk_neg, lk_add, lN_z, rf_none, rb1, rb0, rbp, xk_nI, zk_eq, zk_lt, zk_eq0, zk_lt0, zk_0lt, zk_long, lz_lt, lz_gt, zmax, zmin, ↓reduceIte, Int.reduceEq, Int.reduceLT, Int.reduceNeg, Int.reduceAdd, Int.reduceSub, Int.reduceMul, Int.ofNat_eq_natCast, Int.cast_ofNat_Int]
    refine Ev.kV hE ?_
    try simp (disch := omega) only [d_0 hA, d_1 hA, g_8_10 hA, g_8_4 hA, p_8_10 hA, Option.bind_some, up_s, up_k, up_j, up_i, xk_add, xk_sub, xk_mul, xk_neg, lk_add, lN_z, rf_none, rb1, rb0, rbp, xk_nI, zk_eq, zk_lt, zk_eq0, zk_lt0, zk_0lt, zk_long, lz_lt, lz_gt, zmax, zmin, ↓reduceIte, Int.reduceEq, Int.reduceLT, Int.reduceNeg, Int.reduceAdd, Int.reduceSub, Int.reduceMul, Int.ofNat_eq_natCast, Int.cast_ofNat_Int, c4]
    refine Ev.kL hl ?_
    try simp (disch := omega) only [d_0 hA, d_1 hA, g_8_10 hA, g_8_4 hA, p_8_10 hA, Option.bind_some, up_s, up_k, up_j, up_i, xk_add, xk_sub, xk_mul, xk_neg, lk_add, lN_z, rf_none, rb1, rb0, rbp, xk_nI, zk_eq, zk_lt, zk_eq0, zk_lt0, zk_0lt, zk_long, lz_lt, lz_gt, zmax, zmin, ↓reduceIte, Int.reduceEq, Int.reduceLT, Int.reduceNeg, Int.reduceAdd, Int.reduceSub, Int.reduceMul, Int.ofNat_eq_natCast, Int.cast_ofNat_Int, c10]
    refine Ev.ite (fun h => ?_) (fun h => ?_)
    · rw [if_pos h]
      exact Ev.ret rfl
    · rw [if_neg h]
      exact Ev.ret rfl
  · refine q.1.c (fun x _ _ => ⟨fun w => ⟨w.1, fun y => w.2 y.2⟩, fun w => ⟨w.1, fun y => w.2 ⟨rfl, y⟩⟩⟩) (fun _ _ _ _ => rfl)
  · refine q.2.c (fun x x0 x1 => ?_) (fun _ _ _ _ => rfl)
    have key : 0 < x → (J 38 0 x) = (J 25 0 t) → hs x = hs' x := by
      intro a c
      refine HsX.eq hB hH hX t0 (by omega) 20 x x0 x1 (by omega) ?_
      rw [← Bool.not_eq_true]
      intro w
      have := chn_le (RB.ww hB) _ (by omega) (by omega) w
      have := RB.wiw hB (j := x) (by omega) (by omega)
      omega
    constructor
    · rintro ⟨a, b, c, d, f⟩; exact ⟨⟨a, b, c, (key a c).symm ▸ d, f⟩, by omega⟩
    · rintro ⟨⟨a, b, c, d, f⟩, -⟩; exact ⟨a, b, c, (key a c) ▸ d, f⟩
  · rw [cmI_eq, fr_f (by decide)]
    exact hC1.fri.cm
theorem choose_ev (hA : WA e z) (hC : Cpl e C J) (hT : TI J) (hK : KB J) {ft fg : Int → Int} {hs : Int → Bool} (hF : FtR hs J ft fg) (hft : ∀ g, 0 ≤ g → g < (J 12 0 17) → (C 1 g 12) = ft g ∧ (C 1 g 13) = fg g) : Ev (fun F => J0_choose F (rf e 0 0) (HS e C I z)) (rR (rf e 8 (wkF J ft fg 20 0).2) (HS e C I z)) := by
  have n8 := hC.1.1
  have n7 := hC.2.1.1
  have n1 := hC.2.2.1.1
  have n10 := hC.2.2.2.2.1.1
  have hB := hT.1
  have := RB.tasks hB
  have := RB.spaces hB
  have := RB.groups hB
  have := RB.views hB
  have n4 := hA.2.2.2.1
  have key : ∀ (n : Nat) (g : Int) (r : Option Nat), 0 ≤ g → g < (J 12 0 17) → (J 12 0 17) - g ≤ n → Ev (fun F => J0_choose_11 F r (rf e 1 g) (HS e C I z)) (rR (rf e 8 (wkF J ft fg n g).2) (HS e C I z)) := by
    intro n
    induction n with
    | zero => intro g r a b c; omega
    | succ n ih =>
      intro g r g0 g1 gn
      have q := hft g g0 g1
      have p := hF g g0 g1
      have pb := p.2.b (by omega)
      rw [wkF]
      have hl := leads_ev (I := I) hA hC hT hK g0 g1
      rw [q.1, q.2] at hl
      refine Ev.step (fun F => E0_choose_11 F _ _ _) ?_
      simp (disch := omega) only [d_1 hA, g_1_12 hA, g_1_13 hA, Option.bind_some, up_s, up_k, up_j, up_i, xk_add, xk_sub, xk_mul, xk_neg, lk_add, lN_z, rf_none, rb1, rb0, rbp, xk_nI, zk_eq, zk_lt, zk_eq0, zk_lt0, zk_0lt, zk_long, lz_lt, lz_gt, zmax, zmin, ↓reduceIte, Int.reduceEq, Int.reduceLT, Int.reduceNeg, Int.reduceAdd, Int.reduceSub, Int.reduceMul, Int.ofNat_eq_natCast, Int.cast_ofNat_Int, CT.space hC.1, CT.view hC.1, CT.parent hC.1, CT.group hC.1, CT.state hC.1, CT.pages hC.1, CT.points hC.1, CT.ticks hC.1, CT.asleep hC.1, CT.time hC.1, CP.outer hC.2.1, CP.depth hC.2.1, CP.init hC.2.1, CP.given hC.2.1, CG.outer hC.2.2.1, CG.depth hC.2.2.1, CG.max hC.2.2.1, CG.most hC.2.2.1, CG.weight hC.2.2.1, CG.quota hC.2.2.1, CG.cached hC.2.2.1, CG.ran hC.2.2.1, CG.time hC.2.2.1, CG.uses hC.2.2.1, CG.live hC.2.2.1, rf_eq hA, q.1, q.2]
      refine Ev.ite (fun w => absurd w (by omega)) (fun _ => ?_)
      refine Ev.kB hl (fun h => ?_) (fun h => ?_)
      · rw [if_pos (ld_i.mpr h)]
        have pp := p.2.p h.1
        have := pp.2.2.1
        have a1 := pp.1
        have a2 := pp.2.1
        have := RB.wiw hB (j := (fg g)) (by omega) (by omega)
        try simp (disch := omega) only [d_1 hA, g_1_12 hA, g_1_13 hA, Option.bind_some, up_s, up_k, up_j, up_i, xk_add, xk_sub, xk_mul, xk_neg, lk_add, lN_z, rf_none, rb1, rb0, rbp, xk_nI, zk_eq, zk_lt, zk_eq0, zk_lt0, zk_0lt, zk_long, lz_lt, lz_gt, zmax, zmin, ↓reduceIte, Int.reduceEq, Int.reduceLT, Int.reduceNeg, Int.reduceAdd, Int.reduceSub, Int.reduceMul, Int.ofNat_eq_natCast, Int.cast_ofNat_Int, CT.space hC.1, CT.view hC.1, CT.parent hC.1, CT.group hC.1, CT.state hC.1, CT.pages hC.1, CT.points hC.1, CT.ticks hC.1, CT.asleep hC.1, CT.time hC.1, CP.outer hC.2.1, CP.depth hC.2.1, CP.init hC.2.1, CP.given hC.2.1, CG.outer hC.2.2.1, CG.depth hC.2.2.1, CG.max hC.2.2.1, CG.most hC.2.2.1, CG.weight hC.2.2.1, CG.quota hC.2.2.1, CG.cached hC.2.2.1, CG.ran hC.2.2.1, CG.time hC.2.2.1, CG.uses hC.2.2.1, CG.live hC.2.2.1, rf_eq hA, q.1, q.2]
        exact ih _ _ h.1 (by omega) (by omega)
      · rw [if_neg (fun w => h (ld_i.mp w))]
        try simp (disch := omega) only [d_1 hA, g_1_12 hA, g_1_13 hA, Option.bind_some, up_s, up_k, up_j, up_i, xk_add, xk_sub, xk_mul, xk_neg, lk_add, lN_z, rf_none, rb1, rb0, rbp, xk_nI, zk_eq, zk_lt, zk_eq0, zk_lt0, zk_0lt, zk_long, lz_lt, lz_gt, zmax, zmin, ↓reduceIte, Int.reduceEq, Int.reduceLT, Int.reduceNeg, Int.reduceAdd, Int.reduceSub, Int.reduceMul, Int.ofNat_eq_natCast, Int.cast_ofNat_Int, CT.space hC.1, CT.view hC.1, CT.parent hC.1, CT.group hC.1, CT.state hC.1, CT.pages hC.1, CT.points hC.1, CT.ticks hC.1, CT.asleep hC.1, CT.time hC.1, CP.outer hC.2.1, CP.depth hC.2.1, CP.init hC.2.1, CP.given hC.2.1, CG.outer hC.2.2.1, CG.depth hC.2.2.1, CG.max hC.2.2.1, CG.most hC.2.2.1, CG.weight hC.2.2.1, CG.quota hC.2.2.1, CG.cached hC.2.2.1, CG.ran hC.2.2.1, CG.time hC.2.2.1, CG.uses hC.2.2.1, CG.live hC.2.2.1, rf_eq hA, q.1, q.2]
        refine Ev.step (fun F => E0_choose_11 F _ _ _) ?_
        simp only [if_true]
        exact Ev.ret rfl
  have hm : Ev (fun F => J2_madeAt F (rf e 2 0) (xk 0) (HS e C I z)) (rR (rf e 1 0) (HS e C I z)) := by
    refine Ev.step (fun F => E2_madeAt F _ _ _) ?_
    simp (disch := omega) only [b_16 hA, g_2_0 hA, g_2_1 hA, Option.bind_some, up_s, up_k, up_j, up_i, xk_add, xk_sub, xk_mul, xk_neg, lk_add, lN_z, rf_none, rb1, rb0, rbp, xk_nI, zk_eq, zk_lt, zk_eq0, zk_lt0, zk_0lt, zk_long, lz_lt, lz_gt, zmax, zmin, ↓reduceIte, Int.reduceEq, Int.reduceLT, Int.reduceNeg, Int.reduceAdd, Int.reduceSub, Int.reduceMul, Int.ofNat_eq_natCast, Int.cast_ofNat_Int, CT.space hC.1, CT.view hC.1, CT.parent hC.1, CT.group hC.1, CT.state hC.1, CT.pages hC.1, CT.points hC.1, CT.ticks hC.1, CT.asleep hC.1, CT.time hC.1, CP.outer hC.2.1, CP.depth hC.2.1, CP.init hC.2.1, CP.given hC.2.1, CG.outer hC.2.2.1, CG.depth hC.2.2.1, CG.max hC.2.2.1, CG.most hC.2.2.1, CG.weight hC.2.2.1, CG.quota hC.2.2.1, CG.cached hC.2.2.1, CG.ran hC.2.2.1, CG.time hC.2.2.1, CG.uses hC.2.2.1, CG.live hC.2.2.1, rf_eq hA]
    refine Ev.ite (fun _ => ?_) (fun q => absurd q (by omega))
    try simp (disch := omega) only [b_16 hA, g_2_0 hA, g_2_1 hA, Option.bind_some, up_s, up_k, up_j, up_i, xk_add, xk_sub, xk_mul, xk_neg, lk_add, lN_z, rf_none, rb1, rb0, rbp, xk_nI, zk_eq, zk_lt, zk_eq0, zk_lt0, zk_0lt, zk_long, lz_lt, lz_gt, zmax, zmin, ↓reduceIte, Int.reduceEq, Int.reduceLT, Int.reduceNeg, Int.reduceAdd, Int.reduceSub, Int.reduceMul, Int.ofNat_eq_natCast, Int.cast_ofNat_Int, CT.space hC.1, CT.view hC.1, CT.parent hC.1, CT.group hC.1, CT.state hC.1, CT.pages hC.1, CT.points hC.1, CT.ticks hC.1, CT.asleep hC.1, CT.time hC.1, CP.outer hC.2.1, CP.depth hC.2.1, CP.init hC.2.1, CP.given hC.2.1, CG.outer hC.2.2.1, CG.depth hC.2.2.1, CG.max hC.2.2.1, CG.most hC.2.2.1, CG.weight hC.2.2.1, CG.quota hC.2.2.1, CG.cached hC.2.2.1, CG.ran hC.2.2.1, CG.time hC.2.2.1, CG.uses hC.2.2.1, CG.live hC.2.2.1, rf_eq hA]
    exact Ev.ret rfl
  refine Ev.step (fun F => E0_choose F _ _) ?_
  simp (disch := omega) only [d_2 hA, g_0_1 hA, Option.bind_some, up_s, up_k, up_j, up_i, xk_add, xk_sub, xk_mul, xk_neg, lk_add, lN_z, rf_none, rb1, rb0, rbp, xk_nI, zk_eq, zk_lt, zk_eq0, zk_lt0, zk_0lt, zk_long, lz_lt, lz_gt, zmax, zmin, ↓reduceIte, Int.reduceEq, Int.reduceLT, Int.reduceNeg, Int.reduceAdd, Int.reduceSub, Int.reduceMul, Int.ofNat_eq_natCast, Int.cast_ofNat_Int, CT.space hC.1, CT.view hC.1, CT.parent hC.1, CT.group hC.1, CT.state hC.1, CT.pages hC.1, CT.points hC.1, CT.ticks hC.1, CT.asleep hC.1, CT.time hC.1, CP.outer hC.2.1, CP.depth hC.2.1, CP.init hC.2.1, CP.given hC.2.1, CG.outer hC.2.2.1, CG.depth hC.2.2.1, CG.max hC.2.2.1, CG.most hC.2.2.1, CG.weight hC.2.2.1, CG.quota hC.2.2.1, CG.cached hC.2.2.1, CG.ran hC.2.2.1, CG.time hC.2.2.1, CG.uses hC.2.2.1, CG.live hC.2.2.1, rf_eq hA]
  refine Ev.kR hm ?_
  exact key 20 0 _ (by omega) (by omega) (by omega)
theorem CG.rn (h : CG e C J) {k v w : Int} : CG e (up (up C 1 k 10 v) 1 k 11 w) (up (up J 44 0 k v) 45 0 k w) := by
  have ej : ∀ k' i j, k' ≠ 44 → k' ≠ 45 → up (up J 44 0 k v) 45 0 k w k' i j = J k' i j := fun k' i j a b => by rw [up_k b, up_k a]
  refine ⟨(ej 12 0 17 (by decide) (by decide)).symm ▸ h.1, fun g g0 g1 => ?_⟩
  rw [ej _ _ _ (by decide) (by decide)] at g1
  have q := h.2 g g0 g1
  have ed : dpG (up (up J 44 0 k v) 45 0 k w) = dpG J := by
    funext s
    unfold dpG
    rw [show (fun k' => up (up J 44 0 k v) 45 0 k w 38 0 k') = (fun k => J 38 0 k) from funext (fun k => ej _ _ _ (by decide) (by decide))]
  have el : lvF (up (up J 44 0 k v) 45 0 k w) = lvF J := lvF_c (ej _ _ _ (by decide) (by decide)) (fun j => by rw [ej _ _ _ (by decide) (by decide)]) (fun j => ej _ _ _ (by decide) (by decide)) (fun j => ej _ _ _ (by decide) (by decide))
  have eu : usF (up (up J 44 0 k v) 45 0 k w) = usF J := usF_c (ej _ _ _ (by decide) (by decide)) (ej _ _ _ (by decide) (by decide)) (fun j => by rw [ej _ _ _ (by decide) (by decide)]) (fun j => ej _ _ _ (by decide) (by decide)) (fun j => ej _ _ _ (by decide) (by decide)) (fun j => ej _ _ _ (by decide) (by decide)) (fun j => ej _ _ _ (by decide) (by decide))
  have fc : ∀ j, j ≠ 10 → j ≠ 11 → up (up C 1 k 10 v) 1 k 11 w 1 g j = C 1 g j := fun j a b => by rw [up_j b, up_j a]
  have ej' : ∀ k', k' ≠ 44 → k' ≠ 45 → up (up J 44 0 k v) 45 0 k w k' 0 g = J k' 0 g := fun k' a b => ej _ _ _ a b
  rw [ed, el, eu]
  simp (disch := decide) only [fc, ej']
  refine ⟨q.1, q.2.1, q.2.2.1, q.2.2.2.1, q.2.2.2.2.1, q.2.2.2.2.2.1, q.2.2.2.2.2.2.1, ?_, ?_, q.2.2.2.2.2.2.2.2.2⟩
  · rw [up_j (by decide), up_k (k' := 44) (k := 45) (by decide)]
    by_cases hg : g = k
    · rw [hg, up_s, up_s]
    · rw [up_i hg, up_j hg]; exact q.2.2.2.2.2.2.2.1
  · by_cases hg : g = k
    · rw [hg, up_s, up_s]
    · rw [up_i hg, up_j hg, up_j (by decide), up_k (by decide)]; exact q.2.2.2.2.2.2.2.2.1
theorem run27_ev (hA : WA e z) : ∀ (n : Nat) (k : Int) (C J : ST), CG e C J → RB J → GI J → -1 ≤ k → k < (J 12 0 17) → k < n → ∃ C', Ev (fun F => J0_run_27 F (rf e 1 k) (HS e C I z)) (rV (HS e C' I z)) ∧ CG e C' (rnF n k J) ∧ (∀ k i j, k ≠ 1 ∨ (j ≠ 10 ∧ j ≠ 11) → C' k i j = C k i j) := by
  intro n
  induction n with
  | zero =>
    intro k C J hC hB hG k0 k1 kn
    refine ⟨C, ?_, hC, fun _ _ _ _ => rfl⟩
    refine Ev.step (fun F => E0_run_27 F _ _) ?_
    simp (disch := omega) only [g_1_1 hA, g_1_10 hA, g_1_11 hA, g_1_5 hA, p_1_10 hA, p_1_11 hA, Option.bind_some, up_s, up_k, up_j, up_i, xk_add, xk_sub, xk_mul, xk_neg, lk_add, lN_z, rf_none, rb1, rb0, rbp, xk_nI, zk_eq, zk_lt, zk_eq0, zk_lt0, zk_0lt, zk_long, lz_lt, lz_gt, zmax, zmin, ↓reduceIte, Int.reduceEq, Int.reduceLT, Int.reduceNeg, Int.reduceAdd, Int.reduceSub, Int.reduceMul, Int.ofNat_eq_natCast, Int.cast_ofNat_Int]
    exact Ev.ite (fun _ => Ev.ret rfl) (fun q => absurd q (by omega))
  | succ n ih =>
    intro k C J hC hB hG k0 k1 kn
    rw [rnF]
    have := RB.groups hB
    have n1 := hC.1
    by_cases h : k < 0
    · rw [if_pos h]
      refine ⟨C, ?_, hC, fun _ _ _ _ => rfl⟩
      refine Ev.step (fun F => E0_run_27 F _ _) ?_
      simp (disch := omega) only [g_1_1 hA, g_1_10 hA, g_1_11 hA, g_1_5 hA, p_1_10 hA, p_1_11 hA, Option.bind_some, up_s, up_k, up_j, up_i, xk_add, xk_sub, xk_mul, xk_neg, lk_add, lN_z, rf_none, rb1, rb0, rbp, xk_nI, zk_eq, zk_lt, zk_eq0, zk_lt0, zk_0lt, zk_long, lz_lt, lz_gt, zmax, zmin, ↓reduceIte, Int.reduceEq, Int.reduceLT, Int.reduceNeg, Int.reduceAdd, Int.reduceSub, Int.reduceMul, Int.ofNat_eq_natCast, Int.cast_ofNat_Int]
      exact Ev.ite (fun _ => Ev.ret rfl) (fun q => absurd h q)
    · rw [if_neg h]
      have w := RB.ww hB k (by omega) (by omega)
      have g := hG k (by omega) k1
      have co := hC.outer (g := k) (by omega) k1
      have cr := hC.ran (g := k) (by omega) k1
      have ct := hC.time (g := k) (by omega) k1
      have cw := hC.weight (g := k) (by omega) k1
      unfold rnS
      by_cases hk : 0 < k
      · rw [if_pos hk]
        have := RB.weight hB (j := k) (by omega) (by omega)
        have d0 : 0 ≤ 1000000 / (J 41 0 k) := Int.ediv_nonneg (by omega) (by omega)
        have d1 : 1000000 / (J 41 0 k) ≤ 1000000 := Int.ediv_le_self _ (by omega)
        have ej : ∀ k' i j, k' ≠ 44 → k' ≠ 45 → up (up J 44 0 k ((J 44 0 k) + 1)) 45 0 k ((J 45 0 k) + 1000000 / (J 41 0 k)) k' i j = J k' i j := fun k' i j a b => by rw [up_k b, up_k a]
        obtain ⟨C', hE, hC', hf⟩ := ih (J 38 0 k) _ _ (hC.rn (k := k) (v := (J 44 0 k) + 1) (w := (J 45 0 k) + 1000000 / (J 41 0 k))) (RB.u_groupTime (RB.u_ranNow hB)) (fun x x0 x1 => by rw [ej _ _ _ (by decide) (by decide)] at x1; rw [ej _ _ _ (by decide) (by decide), ej _ _ _ (by decide) (by decide)]; exact hG x x0 x1) (by omega) (by rw [ej _ _ _ (by decide) (by decide)]; omega) (by omega)
        refine ⟨C', ?_, hC', fun k' i j q => ?_⟩
        · refine Ev.step (fun F => E0_run_27 F _ _) ?_
          simp (disch := omega) only [g_1_1 hA, g_1_10 hA, g_1_11 hA, g_1_5 hA, p_1_10 hA, p_1_11 hA, Option.bind_some, up_s, up_k, up_j, up_i, xk_add, xk_sub, xk_mul, xk_neg, lk_add, lN_z, rf_none, rb1, rb0, rbp, xk_nI, zk_eq, zk_lt, zk_eq0, zk_lt0, zk_0lt, zk_long, lz_lt, lz_gt, zmax, zmin, ↓reduceIte, Int.reduceEq, Int.reduceLT, Int.reduceNeg, Int.reduceAdd, Int.reduceSub, Int.reduceMul, Int.ofNat_eq_natCast, Int.cast_ofNat_Int, co, cr, ct, cw, i32_m, zdiv]
          refine Ev.ite (fun q => absurd q h) (fun _ => ?_)
          try simp (disch := omega) only [g_1_1 hA, g_1_10 hA, g_1_11 hA, g_1_5 hA, p_1_10 hA, p_1_11 hA, Option.bind_some, up_s, up_k, up_j, up_i, xk_add, xk_sub, xk_mul, xk_neg, lk_add, lN_z, rf_none, rb1, rb0, rbp, xk_nI, zk_eq, zk_lt, zk_eq0, zk_lt0, zk_0lt, zk_long, lz_lt, lz_gt, zmax, zmin, ↓reduceIte, Int.reduceEq, Int.reduceLT, Int.reduceNeg, Int.reduceAdd, Int.reduceSub, Int.reduceMul, Int.ofNat_eq_natCast, Int.cast_ofNat_Int, co, cr, ct, cw, i32_m, zdiv]
          refine Ev.ite (fun q => absurd q (by omega)) (fun _ => ?_)
          refine Ev.ite (fun _ => ?_) (fun q => absurd q (by omega))
          refine Ev.ite (fun q => absurd q (by omega)) (fun _ => ?_)
          exact hE
        · rw [hf k' i j q]
          unfold up
          rw [if_neg (by omega), if_neg (by omega)]
      · rw [if_neg hk]
        have k00 : k = 0 := by omega
        have ej : ∀ k' i j, k' ≠ 44 → up J 44 0 k ((J 44 0 k) + 1) k' i j = J k' i j := fun k' i j a => up_k a
        have hC1 : CG e (up C 1 k 10 ((J 44 0 k) + 1)) (up J 44 0 k ((J 44 0 k) + 1)) := by
          have := hC.rn (k := k) (v := (J 44 0 k) + 1) (w := (J 45 0 k))
          have e1 : up (up C 1 k 10 ((J 44 0 k) + 1)) 1 k 11 (J 45 0 k) = up C 1 k 10 ((J 44 0 k) + 1) := by
            have : (J 45 0 k) = up C 1 k 10 ((J 44 0 k) + 1) 1 k 11 := by rw [up_j (by decide), ct]
            rw [this, up_id]
          have e2 : up (up J 44 0 k ((J 44 0 k) + 1)) 45 0 k (J 45 0 k) = up J 44 0 k ((J 44 0 k) + 1) := by
            have : (J 45 0 k) = up J 44 0 k ((J 44 0 k) + 1) 45 0 k := by rw [up_k (by decide)]
            rw [this, up_id]
          rw [e1, e2] at this
          exact this
        obtain ⟨C', hE, hC', hf⟩ := ih (J 38 0 k) _ _ hC1 (RB.u_ranNow hB) (fun x x0 x1 => by rw [ej _ _ _ (by decide)] at x1; rw [ej _ _ _ (by decide), ej _ _ _ (by decide)]; exact hG x x0 x1) (by omega) (by rw [ej _ _ _ (by decide)]; omega) (by omega)
        refine ⟨C', ?_, hC', fun k' i j q => ?_⟩
        · refine Ev.step (fun F => E0_run_27 F _ _) ?_
          simp (disch := omega) only [g_1_1 hA, g_1_10 hA, g_1_11 hA, g_1_5 hA, p_1_10 hA, p_1_11 hA, Option.bind_some, up_s, up_k, up_j, up_i, xk_add, xk_sub, xk_mul, xk_neg, lk_add, lN_z, rf_none, rb1, rb0, rbp, xk_nI, zk_eq, zk_lt, zk_eq0, zk_lt0, zk_0lt, zk_long, lz_lt, lz_gt, zmax, zmin, ↓reduceIte, Int.reduceEq, Int.reduceLT, Int.reduceNeg, Int.reduceAdd, Int.reduceSub, Int.reduceMul, Int.ofNat_eq_natCast, Int.cast_ofNat_Int, co, cr, ct, cw]
          refine Ev.ite (fun q => absurd q h) (fun _ => ?_)
          try simp (disch := omega) only [g_1_1 hA, g_1_10 hA, g_1_11 hA, g_1_5 hA, p_1_10 hA, p_1_11 hA, Option.bind_some, up_s, up_k, up_j, up_i, xk_add, xk_sub, xk_mul, xk_neg, lk_add, lN_z, rf_none, rb1, rb0, rbp, xk_nI, zk_eq, zk_lt, zk_eq0, zk_lt0, zk_0lt, zk_long, lz_lt, lz_gt, zmax, zmin, ↓reduceIte, Int.reduceEq, Int.reduceLT, Int.reduceNeg, Int.reduceAdd, Int.reduceSub, Int.reduceMul, Int.ofNat_eq_natCast, Int.cast_ofNat_Int, co, cr, ct, cw]
          refine Ev.ite (fun _ => ?_) (fun q => absurd (g.1.mpr k00) q)
          exact hE
        · rw [hf k' i j q]
          unfold up
          rw [if_neg (by omega)]
end CL
