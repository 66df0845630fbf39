/-! the class: small methods -/
section CL
variable {e : EN} {C I J : ST} {z : Nat × Nat × Nat × Nat}
theorem TI.b (hT : TI J) {t : Int} (t0 : 0 ≤ t) (t1 : t < (J 12 0 1)) : (0 ≤ (J 24 0 t) ∧ (J 24 0 t) < (J 12 0 13)) ∧ (-1 ≤ (J 23 0 t) ∧ (J 23 0 t) < (J 12 0 1)) ∧ (0 ≤ (J 25 0 t) ∧ (J 25 0 t) < (J 12 0 17)) ∧ (0 ≤ (J 26 0 t) ∧ (J 26 0 t) < (J 12 0 28)) ∧ (0 ≤ (J 22 0 t) ∧ (J 22 0 t) ≤ 2) := by
  have hB := hT.1
  have := RB.tasks hB
  have := RB.space hB (j := t) (by omega) (by omega)
  have := RB.parent hB (j := t) (by omega) (by omega)
  have := RB.group hB (j := t) (by omega) (by omega)
  have := RB.view hB (j := t) (by omega) (by omega)
  have := RB.state hB (j := t) (by omega) (by omega)
  have := hT.2.2.2.2.1 t t0 t1
  omega
theorem TI.ib (hT : TI J) {s : Int} (s0 : 0 ≤ s) (s1 : s < (J 12 0 13)) : (0 ≤ (J 35 0 s) ∧ (J 35 0 s) < (J 12 0 1)) ∧ (-1 ≤ (J 34 0 s) ∧ (J 34 0 s) < s) := by
  have hB := hT.1
  have := RB.spaces hB
  have := RB.init hB (j := s) (by omega) (by omega)
  have := RB.around hB (j := s) (by omega) (by omega)
  have := RB.arw hB (j := s) (by omega) (by omega)
  have := hT.2.2.2.1 s s0 s1
  omega
theorem everMade_ev (hA : WA e z) (hC : Cpl e C J) (hT : TI J) {t : Int} (t0 : -2147483648 ≤ t) (t1 : t < 2147483648) : Ev (fun F => J9_everMade F (rf e 9 0) (xk t) (HS e C I z)) (rR (rf e 8 (if 0 ≤ t ∧ t < (J 12 0 1) then t else -1)) (HS e C I z)) := by
  have n8 := hC.1.1
  have n7 := hC.2.1.1
  have n1 := hC.2.2.1.1
  have n10 := hC.2.2.2.2.1.1
  have hB := hT.1
  have := RB.tasks hB
  have := RB.spaces hB
  have := RB.groups hB
  have := RB.views hB
  have n4 := hA.2.2.2.1
  refine Ev.step (fun F => E9_everMade F _ _ _) ?_
  simp (disch := omega) only [b_13 hA, g_9_0 hA, g_9_2 hA, Option.bind_some, up_s, up_k, up_j, up_i, xk_add, xk_sub, xk_mul, xk_neg, lk_add, lN_z, rf_none, rb1, rb0, rbp, xk_nI, zk_eq, zk_lt, zk_eq0, zk_lt0, zk_0lt, zk_long, lz_lt, lz_gt, zmax, zmin, ↓reduceIte, Int.reduceEq, Int.reduceLT, Int.reduceNeg, Int.reduceAdd, Int.reduceSub, Int.reduceMul, Int.ofNat_eq_natCast, Int.cast_ofNat_Int, CT.space hC.1, CT.view hC.1, CT.parent hC.1, CT.group hC.1, CT.state hC.1, CT.pages hC.1, CT.points hC.1, CT.ticks hC.1, CT.asleep hC.1, CT.time hC.1, CP.outer hC.2.1, CP.depth hC.2.1, CP.init hC.2.1, CP.given hC.2.1, CG.outer hC.2.2.1, CG.depth hC.2.2.1, CG.max hC.2.2.1, CG.most hC.2.2.1, CG.weight hC.2.2.1, CG.quota hC.2.2.1, CG.cached hC.2.2.1, CG.ran hC.2.2.1, CG.time hC.2.2.1, CG.uses hC.2.2.1, CG.live hC.2.2.1, rf_eq hA]
  refine Ev.ite (fun h => Ev.ret (by rw [if_neg (by omega), rf_n (by omega)]; rfl)) (fun h => ?_)
  refine Ev.ite (fun h' => ?_) (fun h' => Ev.ret (by rw [if_neg (by omega), rf_n (by omega)]; rfl))
  refine Ev.ite (fun h'' => ?_) (fun h'' => absurd h'' (by omega))
  try simp (disch := omega) only [b_13 hA, g_9_0 hA, g_9_2 hA, Option.bind_some, up_s, up_k, up_j, up_i, xk_add, xk_sub, xk_mul, xk_neg, lk_add, lN_z, rf_none, rb1, rb0, rbp, xk_nI, zk_eq, zk_lt, zk_eq0, zk_lt0, zk_0lt, zk_long, lz_lt, lz_gt, zmax, zmin, ↓reduceIte, Int.reduceEq, Int.reduceLT, Int.reduceNeg, Int.reduceAdd, Int.reduceSub, Int.reduceMul, Int.ofNat_eq_natCast, Int.cast_ofNat_Int, CT.space hC.1, CT.view hC.1, CT.parent hC.1, CT.group hC.1, CT.state hC.1, CT.pages hC.1, CT.points hC.1, CT.ticks hC.1, CT.asleep hC.1, CT.time hC.1, CP.outer hC.2.1, CP.depth hC.2.1, CP.init hC.2.1, CP.given hC.2.1, CG.outer hC.2.2.1, CG.depth hC.2.2.1, CG.max hC.2.2.1, CG.most hC.2.2.1, CG.weight hC.2.2.1, CG.quota hC.2.2.1, CG.cached hC.2.2.1, CG.ran hC.2.2.1, CG.time hC.2.2.1, CG.uses hC.2.2.1, CG.live hC.2.2.1, rf_eq hA]
  exact Ev.ret (by rw [if_pos (by omega)]; rfl)
def lvg (J : ST) (t : Int) : Int := if 0 ≤ t ∧ t < (J 12 0 1) ∧ (J 22 0 t) = 0 then t else -1
theorem lvg_b {t : Int} : -1 ≤ lvg J t ∧ (0 ≤ lvg J t → lvg J t = t ∧ t < (J 12 0 1) ∧ (J 22 0 t) = 0) := by
  unfold lvg
  split
  · rename_i h; exact ⟨by omega, fun _ => ⟨rfl, h.2.1, h.2.2⟩⟩
  · exact ⟨by omega, fun q => absurd q (by omega)⟩
theorem living_ev (hA : WA e z) (hC : Cpl e C J) (hT : TI J) {t : Int} (t0 : -2147483648 ≤ t) (t1 : t < 2147483648) : Ev (fun F => J9_living F (rf e 9 0) (xk t) (HS e C I z)) (rR (rf e 8 (lvg J t)) (HS e C I z)) := by
  have n8 := hC.1.1
  have n7 := hC.2.1.1
  have n1 := hC.2.2.1.1
  have n10 := hC.2.2.2.2.1.1
  have hB := hT.1
  have := RB.tasks hB
  have := RB.spaces hB
  have := RB.groups hB
  have := RB.views hB
  have n4 := hA.2.2.2.1
  refine Ev.step (fun F => E9_living F _ _ _) ?_
  simp (disch := omega) only [d_9 hA, g_8_5 hA, Option.bind_some, up_s, up_k, up_j, up_i, xk_add, xk_sub, xk_mul, xk_neg, lk_add, lN_z, rf_none, rb1, rb0, rbp, xk_nI, zk_eq, zk_lt, zk_eq0, zk_lt0, zk_0lt, zk_long, lz_lt, lz_gt, zmax, zmin, ↓reduceIte, Int.reduceEq, Int.reduceLT, Int.reduceNeg, Int.reduceAdd, Int.reduceSub, Int.reduceMul, Int.ofNat_eq_natCast, Int.cast_ofNat_Int, CT.space hC.1, CT.view hC.1, CT.parent hC.1, CT.group hC.1, CT.state hC.1, CT.pages hC.1, CT.points hC.1, CT.ticks hC.1, CT.asleep hC.1, CT.time hC.1, CP.outer hC.2.1, CP.depth hC.2.1, CP.init hC.2.1, CP.given hC.2.1, CG.outer hC.2.2.1, CG.depth hC.2.2.1, CG.max hC.2.2.1, CG.most hC.2.2.1, CG.weight hC.2.2.1, CG.quota hC.2.2.1, CG.cached hC.2.2.1, CG.ran hC.2.2.1, CG.time hC.2.2.1, CG.uses hC.2.2.1, CG.live hC.2.2.1, rf_eq hA]
  refine Ev.kR (everMade_ev hA hC hT t0 t1) ?_
  unfold lvg
  by_cases h : 0 ≤ t ∧ t < (J 12 0 1)
  · have b := hT.b h.1 h.2
    rw [if_pos h]
    try simp (disch := omega) only [d_9 hA, g_8_5 hA, Option.bind_some, up_s, up_k, up_j, up_i, xk_add, xk_sub, xk_mul, xk_neg, lk_add, lN_z, rf_none, rb1, rb0, rbp, xk_nI, zk_eq, zk_lt, zk_eq0, zk_lt0, zk_0lt, zk_long, lz_lt, lz_gt, zmax, zmin, ↓reduceIte, Int.reduceEq, Int.reduceLT, Int.reduceNeg, Int.reduceAdd, Int.reduceSub, Int.reduceMul, Int.ofNat_eq_natCast, Int.cast_ofNat_Int, CT.space hC.1, CT.view hC.1, CT.parent hC.1, CT.group hC.1, CT.state hC.1, CT.pages hC.1, CT.points hC.1, CT.ticks hC.1, CT.asleep hC.1, CT.time hC.1, CP.outer hC.2.1, CP.depth hC.2.1, CP.init hC.2.1, CP.given hC.2.1, CG.outer hC.2.2.1, CG.depth hC.2.2.1, CG.max hC.2.2.1, CG.most hC.2.2.1, CG.weight hC.2.2.1, CG.quota hC.2.2.1, CG.cached hC.2.2.1, CG.ran hC.2.2.1, CG.time hC.2.2.1, CG.uses hC.2.2.1, CG.live hC.2.2.1, rf_eq hA]
    refine Ev.ite (fun q => absurd q (by omega)) (fun _ => ?_)
    refine Ev.ite (fun q => Ev.ret ?_) (fun q => Ev.ret ?_)
    · rw [if_pos ⟨h.1, h.2, q⟩]; rfl
    · rw [if_neg (fun w => q w.2.2), rf_n (i := -1) (by omega)]; rfl
  · rw [if_neg h]
    try simp (disch := omega) only [d_9 hA, g_8_5 hA, Option.bind_some, up_s, up_k, up_j, up_i, xk_add, xk_sub, xk_mul, xk_neg, lk_add, lN_z, rf_none, rb1, rb0, rbp, xk_nI, zk_eq, zk_lt, zk_eq0, zk_lt0, zk_0lt, zk_long, lz_lt, lz_gt, zmax, zmin, ↓reduceIte, Int.reduceEq, Int.reduceLT, Int.reduceNeg, Int.reduceAdd, Int.reduceSub, Int.reduceMul, Int.ofNat_eq_natCast, Int.cast_ofNat_Int, CT.space hC.1, CT.view hC.1, CT.parent hC.1, CT.group hC.1, CT.state hC.1, CT.pages hC.1, CT.points hC.1, CT.ticks hC.1, CT.asleep hC.1, CT.time hC.1, CP.outer hC.2.1, CP.depth hC.2.1, CP.init hC.2.1, CP.given hC.2.1, CG.outer hC.2.2.1, CG.depth hC.2.2.1, CG.max hC.2.2.1, CG.most hC.2.2.1, CG.weight hC.2.2.1, CG.quota hC.2.2.1, CG.cached hC.2.2.1, CG.ran hC.2.2.1, CG.time hC.2.2.1, CG.uses hC.2.2.1, CG.live hC.2.2.1, rf_eq hA]
    refine Ev.ret ?_
    rw [if_neg (fun q : 0 ≤ t ∧ t < (J 12 0 1) ∧ (J 22 0 t) = 0 => h ⟨q.1, q.2.1⟩), rf_n (i := -1) (by omega)]
    rfl
theorem gliesIn_ev (hA : WA e z) (hC : Cpl e C J) (hT : TI J) {k o : Int} (o0 : 0 ≤ o) (o1 : o < (J 12 0 17)) (k0 : -1 ≤ k) (k1 : k < (J 12 0 17)) : Ev (fun F => J1_liesIn F (rf e 1 k) (rf e 1 o) (HS e C I z)) (rI (bI (win J k o = true)) (HS e C I z)) := by
  have n8 := hC.1.1
  have n7 := hC.2.1.1
  have n1 := hC.2.2.1.1
  have n10 := hC.2.2.2.2.1.1
  have hB := hT.1
  have := RB.tasks hB
  have := RB.spaces hB
  have := RB.groups hB
  have := RB.views hB
  have n4 := hA.2.2.2.1
  refine Ev.step (fun F => E1_liesIn F _ _ _) ?_
  refine lpD (P := fun k => k < (J 12 0 17) → Ev (fun F => J1_liesIn_2 F (rf e 1 o) (rf e 1 k) (HS e C I z)) (rI (bI (win J k o = true)) (HS e C I z))) (fun k k0 ih k1 => ?_) k k0 k1
  rw [win_u hB k0 (by omega)]
  refine Ev.step (fun F => E1_liesIn_2 F _ _ _) ?_
  simp (disch := omega) only [g_1_1 hA, Option.bind_some, up_s, up_k, up_j, up_i, xk_add, xk_sub, xk_mul, xk_neg, lk_add, lN_z, rf_none, rb1, rb0, rbp, xk_nI, zk_eq, zk_lt, zk_eq0, zk_lt0, zk_0lt, zk_long, lz_lt, lz_gt, zmax, zmin, ↓reduceIte, Int.reduceEq, Int.reduceLT, Int.reduceNeg, Int.reduceAdd, Int.reduceSub, Int.reduceMul, Int.ofNat_eq_natCast, Int.cast_ofNat_Int, CT.space hC.1, CT.view hC.1, CT.parent hC.1, CT.group hC.1, CT.state hC.1, CT.pages hC.1, CT.points hC.1, CT.ticks hC.1, CT.asleep hC.1, CT.time hC.1, CP.outer hC.2.1, CP.depth hC.2.1, CP.init hC.2.1, CP.given hC.2.1, CG.outer hC.2.2.1, CG.depth hC.2.2.1, CG.max hC.2.2.1, CG.most hC.2.2.1, CG.weight hC.2.2.1, CG.quota hC.2.2.1, CG.cached hC.2.2.1, CG.ran hC.2.2.1, CG.time hC.2.2.1, CG.uses hC.2.2.1, CG.live hC.2.2.1, rf_eq hA]
  refine Ev.ite (fun h => ?_) (fun h => ?_)
  · exact Ev.ret (by rw [bI_f (by rw [if_neg (by omega), if_pos h]; decide)]; rfl)
  · refine Ev.ite (fun h => ?_) (fun h => ?_)
    · simp only [if_pos h]
      exact Ev.ret (by rw [bI_t trivial]; rfl)
    · have := RB.ww hB k (by omega) (by omega)
      rw [if_neg h, if_neg (by omega)]
      try simp (disch := omega) only [g_1_1 hA, Option.bind_some, up_s, up_k, up_j, up_i, xk_add, xk_sub, xk_mul, xk_neg, lk_add, lN_z, rf_none, rb1, rb0, rbp, xk_nI, zk_eq, zk_lt, zk_eq0, zk_lt0, zk_0lt, zk_long, lz_lt, lz_gt, zmax, zmin, ↓reduceIte, Int.reduceEq, Int.reduceLT, Int.reduceNeg, Int.reduceAdd, Int.reduceSub, Int.reduceMul, Int.ofNat_eq_natCast, Int.cast_ofNat_Int, CT.space hC.1, CT.view hC.1, CT.parent hC.1, CT.group hC.1, CT.state hC.1, CT.pages hC.1, CT.points hC.1, CT.ticks hC.1, CT.asleep hC.1, CT.time hC.1, CP.outer hC.2.1, CP.depth hC.2.1, CP.init hC.2.1, CP.given hC.2.1, CG.outer hC.2.2.1, CG.depth hC.2.2.1, CG.max hC.2.2.1, CG.most hC.2.2.1, CG.weight hC.2.2.1, CG.quota hC.2.2.1, CG.cached hC.2.2.1, CG.ran hC.2.2.1, CG.time hC.2.2.1, CG.uses hC.2.2.1, CG.live hC.2.2.1, rf_eq hA]
      exact ih _ (by omega) (by omega) (by omega)
theorem pliesIn_ev (hA : WA e z) (hC : Cpl e C J) (hT : TI J) {k o : Int} (o0 : 0 ≤ o) (o1 : o < (J 12 0 13)) (k0 : -1 ≤ k) (k1 : k < (J 12 0 13)) : Ev (fun F => J7_liesIn F (rf e 7 k) (rf e 7 o) (HS e C I z)) (rI (bI (lin J k o = true)) (HS e C I z)) := by
  have n8 := hC.1.1
  have n7 := hC.2.1.1
  have n1 := hC.2.2.1.1
  have n10 := hC.2.2.2.2.1.1
  have hB := hT.1
  have := RB.tasks hB
  have := RB.spaces hB
  have := RB.groups hB
  have := RB.views hB
  have n4 := hA.2.2.2.1
  refine Ev.step (fun F => E7_liesIn F _ _ _) ?_
  refine lpD (P := fun k => k < (J 12 0 13) → Ev (fun F => J7_liesIn_2 F (rf e 7 o) (rf e 7 k) (HS e C I z)) (rI (bI (lin J k o = true)) (HS e C I z))) (fun k k0 ih k1 => ?_) k k0 k1
  rw [lin_u hB k0 (by omega)]
  refine Ev.step (fun F => E7_liesIn_2 F _ _ _) ?_
  simp (disch := omega) only [g_7_1 hA, Option.bind_some, up_s, up_k, up_j, up_i, xk_add, xk_sub, xk_mul, xk_neg, lk_add, lN_z, rf_none, rb1, rb0, rbp, xk_nI, zk_eq, zk_lt, zk_eq0, zk_lt0, zk_0lt, zk_long, lz_lt, lz_gt, zmax, zmin, ↓reduceIte, Int.reduceEq, Int.reduceLT, Int.reduceNeg, Int.reduceAdd, Int.reduceSub, Int.reduceMul, Int.ofNat_eq_natCast, Int.cast_ofNat_Int, CT.space hC.1, CT.view hC.1, CT.parent hC.1, CT.group hC.1, CT.state hC.1, CT.pages hC.1, CT.points hC.1, CT.ticks hC.1, CT.asleep hC.1, CT.time hC.1, CP.outer hC.2.1, CP.depth hC.2.1, CP.init hC.2.1, CP.given hC.2.1, CG.outer hC.2.2.1, CG.depth hC.2.2.1, CG.max hC.2.2.1, CG.most hC.2.2.1, CG.weight hC.2.2.1, CG.quota hC.2.2.1, CG.cached hC.2.2.1, CG.ran hC.2.2.1, CG.time hC.2.2.1, CG.uses hC.2.2.1, CG.live hC.2.2.1, rf_eq hA]
  refine Ev.ite (fun h => ?_) (fun h => ?_)
  · exact Ev.ret (by rw [bI_f (by rw [if_neg (by omega), if_pos h]; decide)]; rfl)
  · refine Ev.ite (fun h => ?_) (fun h => ?_)
    · simp only [if_pos h]
      exact Ev.ret (by rw [bI_t trivial]; rfl)
    · have := RB.aw hB k (by omega) (by omega)
      rw [if_neg h, if_neg (by omega)]
      try simp (disch := omega) only [g_7_1 hA, Option.bind_some, up_s, up_k, up_j, up_i, xk_add, xk_sub, xk_mul, xk_neg, lk_add, lN_z, rf_none, rb1, rb0, rbp, xk_nI, zk_eq, zk_lt, zk_eq0, zk_lt0, zk_0lt, zk_long, lz_lt, lz_gt, zmax, zmin, ↓reduceIte, Int.reduceEq, Int.reduceLT, Int.reduceNeg, Int.reduceAdd, Int.reduceSub, Int.reduceMul, Int.ofNat_eq_natCast, Int.cast_ofNat_Int, CT.space hC.1, CT.view hC.1, CT.parent hC.1, CT.group hC.1, CT.state hC.1, CT.pages hC.1, CT.points hC.1, CT.ticks hC.1, CT.asleep hC.1, CT.time hC.1, CP.outer hC.2.1, CP.depth hC.2.1, CP.init hC.2.1, CP.given hC.2.1, CG.outer hC.2.2.1, CG.depth hC.2.2.1, CG.max hC.2.2.1, CG.most hC.2.2.1, CG.weight hC.2.2.1, CG.quota hC.2.2.1, CG.cached hC.2.2.1, CG.ran hC.2.2.1, CG.time hC.2.2.1, CG.uses hC.2.2.1, CG.live hC.2.2.1, rf_eq hA]
      exact ih _ (by omega) (by omega) (by omega)
/-- field f of all groups around g grows by n -/
def adG (J C : ST) (f g n : Int) : ST := fun k i j => if k = 1 ∧ j = f ∧ 0 ≤ i ∧ win J g i = true then C k i j + n else C k i j
theorem adG_u {J C C' : ST} (hB : RB J) {f g n : Int} (g0 : 0 ≤ g) (g1 : g < 20) (hC' : C' = up C 1 g f (C 1 g f + n)) : adG J C' f (J 38 0 g) n = adG J C f g n := by
  have w := RB.ww hB g g0 g1
  have hn : win J (J 38 0 g) g = false := by
    rw [← Bool.not_eq_true]
    intro q
    have := chn_le (RB.ww hB) _ (by omega) (by omega) q
    omega
  rw [hC']
  funext k i j
  simp only [adG, up]
  have hu := win_u hB (o := i) (k := g) (by omega) g1
  rw [if_neg (c := g < 0) (by omega)] at hu
  by_cases hi : i = g
  · subst hi
    rw [hn]
    rw [if_pos rfl] at hu
    simp only [hu]
    grind
  · rw [if_neg (fun q => hi q.symm)] at hu
    rw [hu]
    grind
theorem addUse_ev (hA : WA e z) (hB : RB J) (n1 : (e.2.1 1) = (J 12 0 17)) : ∀ g, -1 ≤ g → ∀ (C : ST) (n : Int), (∀ k, 0 ≤ k → k < (J 12 0 17) → (C 1 k 1) = (J 38 0 k)) → g < (J 12 0 17) → Ev (fun F => J1_addUse_2 F (xk n) (rf e 1 g) (HS e C I z)) (rV (HS e (adG J C 7 g n) I z)) := by
  have := RB.groups hB
  intro g hg
  refine lpD (P := fun g => ∀ (C : ST) (n : Int), (∀ k, 0 ≤ k → k < (J 12 0 17) → (C 1 k 1) = (J 38 0 k)) → g < (J 12 0 17) → Ev (fun F => J1_addUse_2 F (xk n) (rf e 1 g) (HS e C I z)) (rV (HS e (adG J C 7 g n) I z))) (fun g g0 ih C n ho g1 => ?_) g hg
  refine Ev.step (fun F => E1_addUse_2 F _ _ _) ?_
  simp (disch := omega) only [g_1_1 hA, g_1_7 hA, p_1_7 hA, Option.bind_some, up_s, up_k, up_j, up_i, xk_add, xk_sub, xk_mul, xk_neg, lk_add, lN_z, rf_none, rb1, rb0, rbp, xk_nI, zk_eq, zk_lt, zk_eq0, zk_lt0, zk_0lt, zk_long, lz_lt, lz_gt, zmax, zmin, ↓reduceIte, Int.reduceEq, Int.reduceLT, Int.reduceNeg, Int.reduceAdd, Int.reduceSub, Int.reduceMul, Int.ofNat_eq_natCast, Int.cast_ofNat_Int, ho]
  refine Ev.ite (fun h => Ev.ret ?_) (fun h => ?_)
  · unfold rV
    congr 2
    funext k i j
    unfold adG
    rw [if_neg]
    rintro ⟨-, -, i0, q⟩
    rw [win_u hB (by omega) (by omega), if_neg (by omega), if_pos h] at q
    exact absurd q (by decide)
  · have w := RB.ww hB g (by omega) (by omega)
    try simp (disch := omega) only [g_1_1 hA, g_1_7 hA, p_1_7 hA, Option.bind_some, up_s, up_k, up_j, up_i, xk_add, xk_sub, xk_mul, xk_neg, lk_add, lN_z, rf_none, rb1, rb0, rbp, xk_nI, zk_eq, zk_lt, zk_eq0, zk_lt0, zk_0lt, zk_long, lz_lt, lz_gt, zmax, zmin, ↓reduceIte, Int.reduceEq, Int.reduceLT, Int.reduceNeg, Int.reduceAdd, Int.reduceSub, Int.reduceMul, Int.ofNat_eq_natCast, Int.cast_ofNat_Int, ho]
    rw [← adG_u (f := 7) hB (by omega) (by omega) rfl]
    refine ih _ (by omega) (by omega) _ n (fun k k0 k1 => ?_) (by omega)
    rw [up_j (by omega)]
    exact ho k k0 k1
theorem addLive_ev (hA : WA e z) (hB : RB J) (n1 : (e.2.1 1) = (J 12 0 17)) : ∀ g, -1 ≤ g → ∀ (C : ST) (n : Int), (∀ k, 0 ≤ k → k < (J 12 0 17) → (C 1 k 1) = (J 38 0 k)) → g < (J 12 0 17) → Ev (fun F => J1_addLive_2 F (xk n) (rf e 1 g) (HS e C I z)) (rV (HS e (adG J C 8 g n) I z)) := by
  have := RB.groups hB
  intro g hg
  refine lpD (P := fun g => ∀ (C : ST) (n : Int), (∀ k, 0 ≤ k → k < (J 12 0 17) → (C 1 k 1) = (J 38 0 k)) → g < (J 12 0 17) → Ev (fun F => J1_addLive_2 F (xk n) (rf e 1 g) (HS e C I z)) (rV (HS e (adG J C 8 g n) I z))) (fun g g0 ih C n ho g1 => ?_) g hg
  refine Ev.step (fun F => E1_addLive_2 F _ _ _) ?_
  simp (disch := omega) only [g_1_1 hA, g_1_8 hA, p_1_8 hA, Option.bind_some, up_s, up_k, up_j, up_i, xk_add, xk_sub, xk_mul, xk_neg, lk_add, lN_z, rf_none, rb1, rb0, rbp, xk_nI, zk_eq, zk_lt, zk_eq0, zk_lt0, zk_0lt, zk_long, lz_lt, lz_gt, zmax, zmin, ↓reduceIte, Int.reduceEq, Int.reduceLT, Int.reduceNeg, Int.reduceAdd, Int.reduceSub, Int.reduceMul, Int.ofNat_eq_natCast, Int.cast_ofNat_Int, ho]
  refine Ev.ite (fun h => Ev.ret ?_) (fun h => ?_)
  · unfold rV
    congr 2
    funext k i j
    unfold adG
    rw [if_neg]
    rintro ⟨-, -, i0, q⟩
    rw [win_u hB (by omega) (by omega), if_neg (by omega), if_pos h] at q
    exact absurd q (by decide)
  · have w := RB.ww hB g (by omega) (by omega)
    try simp (disch := omega) only [g_1_1 hA, g_1_8 hA, p_1_8 hA, Option.bind_some, up_s, up_k, up_j, up_i, xk_add, xk_sub, xk_mul, xk_neg, lk_add, lN_z, rf_none, rb1, rb0, rbp, xk_nI, zk_eq, zk_lt, zk_eq0, zk_lt0, zk_0lt, zk_long, lz_lt, lz_gt, zmax, zmin, ↓reduceIte, Int.reduceEq, Int.reduceLT, Int.reduceNeg, Int.reduceAdd, Int.reduceSub, Int.reduceMul, Int.ofNat_eq_natCast, Int.cast_ofNat_Int, ho]
    rw [← adG_u (f := 8) hB (by omega) (by omega) rfl]
    refine ih _ (by omega) (by omega) _ n (fun k k0 k1 => ?_) (by omega)
    rw [up_j (by omega)]
    exact ho k k0 k1
theorem heir_ev (hA : WA e z) (hC : Cpl e C J) (hT : TI J) {t : Int} (t0 : 0 < t) (t1 : t < (J 12 0 1)) : Ev (fun F => J8_heir F (rf e 8 t) (HS e C I z)) (rR (rf e 8 (heI J t)) (HS e C I z)) := by
  have n8 := hC.1.1
  have n7 := hC.2.1.1
  have n1 := hC.2.2.1.1
  have n10 := hC.2.2.2.2.1.1
  have hB := hT.1
  have := RB.tasks hB
  have := RB.spaces hB
  have := RB.groups hB
  have := RB.views hB
  have n4 := hA.2.2.2.1
  have b := hT.b (by omega) t1
  have i := hT.ib b.1.1 b.1.2
  refine Ev.step (fun F => E8_heir F _ _) ?_
  simp (disch := omega) only [g_7_1 hA, g_7_4 hA, g_8_1 hA, Option.bind_some, up_s, up_k, up_j, up_i, xk_add, xk_sub, xk_mul, xk_neg, lk_add, lN_z, rf_none, rb1, rb0, rbp, xk_nI, zk_eq, zk_lt, zk_eq0, zk_lt0, zk_0lt, zk_long, lz_lt, lz_gt, zmax, zmin, ↓reduceIte, Int.reduceEq, Int.reduceLT, Int.reduceNeg, Int.reduceAdd, Int.reduceSub, Int.reduceMul, Int.ofNat_eq_natCast, Int.cast_ofNat_Int, CT.space hC.1, CT.view hC.1, CT.parent hC.1, CT.group hC.1, CT.state hC.1, CT.pages hC.1, CT.points hC.1, CT.ticks hC.1, CT.asleep hC.1, CT.time hC.1, CP.outer hC.2.1, CP.depth hC.2.1, CP.init hC.2.1, CP.given hC.2.1, CG.outer hC.2.2.1, CG.depth hC.2.2.1, CG.max hC.2.2.1, CG.most hC.2.2.1, CG.weight hC.2.2.1, CG.quota hC.2.2.1, CG.cached hC.2.2.1, CG.ran hC.2.2.1, CG.time hC.2.2.1, CG.uses hC.2.2.1, CG.live hC.2.2.1, rf_eq hA]
  unfold heI
  refine Ev.ite (fun h => ?_) (fun h => ?_)
  · have a := hT.sp0 t0 t1 h
    have i2 := hT.ib a (by omega)
    rw [if_pos h]
    refine Ev.ite (fun q => absurd q (by omega)) (fun _ => ?_)
    try simp (disch := omega) only [g_7_1 hA, g_7_4 hA, g_8_1 hA, Option.bind_some, up_s, up_k, up_j, up_i, xk_add, xk_sub, xk_mul, xk_neg, lk_add, lN_z, rf_none, rb1, rb0, rbp, xk_nI, zk_eq, zk_lt, zk_eq0, zk_lt0, zk_0lt, zk_long, lz_lt, lz_gt, zmax, zmin, ↓reduceIte, Int.reduceEq, Int.reduceLT, Int.reduceNeg, Int.reduceAdd, Int.reduceSub, Int.reduceMul, Int.ofNat_eq_natCast, Int.cast_ofNat_Int, CT.space hC.1, CT.view hC.1, CT.parent hC.1, CT.group hC.1, CT.state hC.1, CT.pages hC.1, CT.points hC.1, CT.ticks hC.1, CT.asleep hC.1, CT.time hC.1, CP.outer hC.2.1, CP.depth hC.2.1, CP.init hC.2.1, CP.given hC.2.1, CG.outer hC.2.2.1, CG.depth hC.2.2.1, CG.max hC.2.2.1, CG.most hC.2.2.1, CG.weight hC.2.2.1, CG.quota hC.2.2.1, CG.cached hC.2.2.1, CG.ran hC.2.2.1, CG.time hC.2.2.1, CG.uses hC.2.2.1, CG.live hC.2.2.1, rf_eq hA]
    exact Ev.ret rfl
  · rw [if_neg h]
    exact Ev.ret rfl
end CL
