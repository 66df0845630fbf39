/-! the class: move; numbers; room -/
/-- groups outward from g on have room for a task -/
def ttB (I : ST) : Nat → Int → Bool
  | 0, _ => true
  | n + 1, g => if g < 0 then true else if lvF I g < (I 39 0 g) then ttB I n (I 38 0 g) else false
theorem sm_u2 {f f' : Int → Int} {n x d : Int} (x0 : 0 ≤ x) (x1 : x < n) (h : ∀ k, 0 ≤ k → k < n → k ≠ x → f' k = f k) (hd : f' x = f x + d) : sm f' n = sm f n + d := by
  rw [sm_u x0 x1 h, hd]; omega
section CL
variable {e : EN} {C I J : ST} {z : Nat × Nat × Nat × Nat}
theorem lvF_b (hB : RB J) {g : Int} : 0 ≤ lvF J g ∧ lvF J g ≤ (J 12 0 1) := by
  have := RB.tasks hB
  exact sm_b1 (fun k => by unfold lvT; split <;> omega) (by omega)
theorem takesTask_ev (hA : WA e z) (hC : Cpl e C J) (hT : TI J) : ∀ (n : Nat) (g : Int), g < n → -1 ≤ g → g < (J 12 0 17) → Ev (fun F => J1_takesTask_2 F (rf e 1 g) (HS e C I z)) (rI (bI (ttB J n g = true)) (HS e C I z)) := by
  have n8 := hC.1.1
  have n7 := hC.2.1.1
  have n1 := hC.2.2.1.1
  have n10 := hC.2.2.2.2.1.1
  have hB := hT.1
  have := RB.tasks hB
  have := RB.spaces hB
  have := RB.groups hB
  have := RB.views hB
  have n4 := hA.2.2.2.1
  intro n
  induction n with
  | zero =>
    intro g h0 h1 h2
    rw [ttB]
    refine Ev.step (fun F => E1_takesTask_2 F _ _) ?_
    simp (disch := omega) only [g_1_1 hA, g_1_4 hA, g_1_8 hA, Option.bind_some, up_s, up_k, up_j, up_i, xk_add, xk_sub, xk_mul, xk_neg, lk_add, lN_z, rf_none, rb1, rb0, rbp, xk_nI, zk_eq, zk_lt, zk_eq0, zk_lt0, zk_0lt, zk_long, lz_lt, lz_gt, zmax, zmin, ↓reduceIte, Int.reduceEq, Int.reduceLT, Int.reduceNeg, Int.reduceAdd, Int.reduceSub, Int.reduceMul, Int.ofNat_eq_natCast, Int.cast_ofNat_Int, CT.space hC.1, CT.view hC.1, CT.parent hC.1, CT.group hC.1, CT.state hC.1, CT.pages hC.1, CT.points hC.1, CT.ticks hC.1, CT.asleep hC.1, CT.time hC.1, CP.outer hC.2.1, CP.depth hC.2.1, CP.init hC.2.1, CP.given hC.2.1, CG.outer hC.2.2.1, CG.depth hC.2.2.1, CG.max hC.2.2.1, CG.most hC.2.2.1, CG.weight hC.2.2.1, CG.quota hC.2.2.1, CG.cached hC.2.2.1, CG.ran hC.2.2.1, CG.time hC.2.2.1, CG.uses hC.2.2.1, CG.live hC.2.2.1, rf_eq hA]
    exact Ev.ite (fun _ => Ev.ret (by rw [bI_t trivial]; rfl)) (fun q => absurd q (by omega))
  | succ n ih =>
    intro g h0 h1 h2
    rw [ttB]
    refine Ev.step (fun F => E1_takesTask_2 F _ _) ?_
    simp (disch := omega) only [g_1_1 hA, g_1_4 hA, g_1_8 hA, Option.bind_some, up_s, up_k, up_j, up_i, xk_add, xk_sub, xk_mul, xk_neg, lk_add, lN_z, rf_none, rb1, rb0, rbp, xk_nI, zk_eq, zk_lt, zk_eq0, zk_lt0, zk_0lt, zk_long, lz_lt, lz_gt, zmax, zmin, ↓reduceIte, Int.reduceEq, Int.reduceLT, Int.reduceNeg, Int.reduceAdd, Int.reduceSub, Int.reduceMul, Int.ofNat_eq_natCast, Int.cast_ofNat_Int, CT.space hC.1, CT.view hC.1, CT.parent hC.1, CT.group hC.1, CT.state hC.1, CT.pages hC.1, CT.points hC.1, CT.ticks hC.1, CT.asleep hC.1, CT.time hC.1, CP.outer hC.2.1, CP.depth hC.2.1, CP.init hC.2.1, CP.given hC.2.1, CG.outer hC.2.2.1, CG.depth hC.2.2.1, CG.max hC.2.2.1, CG.most hC.2.2.1, CG.weight hC.2.2.1, CG.quota hC.2.2.1, CG.cached hC.2.2.1, CG.ran hC.2.2.1, CG.time hC.2.2.1, CG.uses hC.2.2.1, CG.live hC.2.2.1, rf_eq hA]
    refine Ev.ite (fun q => Ev.ret (by rw [if_pos q, bI_t rfl]; rfl)) (fun q => ?_)
    have lb := lvF_b hB (g := g)
    have w := RB.ww hB g (by omega) (by omega)
    have := RB.most hB (j := g) (by omega) (by omega)
    rw [if_neg q]
    try simp (disch := omega) only [g_1_1 hA, g_1_4 hA, g_1_8 hA, Option.bind_some, up_s, up_k, up_j, up_i, xk_add, xk_sub, xk_mul, xk_neg, lk_add, lN_z, rf_none, rb1, rb0, rbp, xk_nI, zk_eq, zk_lt, zk_eq0, zk_lt0, zk_0lt, zk_long, lz_lt, lz_gt, zmax, zmin, ↓reduceIte, Int.reduceEq, Int.reduceLT, Int.reduceNeg, Int.reduceAdd, Int.reduceSub, Int.reduceMul, Int.ofNat_eq_natCast, Int.cast_ofNat_Int, CT.space hC.1, CT.view hC.1, CT.parent hC.1, CT.group hC.1, CT.state hC.1, CT.pages hC.1, CT.points hC.1, CT.ticks hC.1, CT.asleep hC.1, CT.time hC.1, CP.outer hC.2.1, CP.depth hC.2.1, CP.init hC.2.1, CP.given hC.2.1, CG.outer hC.2.2.1, CG.depth hC.2.2.1, CG.max hC.2.2.1, CG.most hC.2.2.1, CG.weight hC.2.2.1, CG.quota hC.2.2.1, CG.cached hC.2.2.1, CG.ran hC.2.2.1, CG.time hC.2.2.1, CG.uses hC.2.2.1, CG.live hC.2.2.1, rf_eq hA]
    refine Ev.ite (fun y => ?_) (fun y => Ev.ret (by rw [if_neg y, bI_f (by decide)]; rfl))
    rw [if_pos y]
    exact ih _ (by omega) (by omega) (by omega)
theorem takesFrom_ev (hA : WA e z) (hC : Cpl e C J) (hT : TI J) (hU : GU J) {t : Int} (t0 : 0 ≤ t) (t1 : t < (J 12 0 1)) : ∀ (n : Nat) (g : Int), g < n → -1 ≤ g → g < (J 12 0 17) → Ev (fun F => J1_takesFrom_2 F (rf e 8 t) (rf e 1 g) (HS e C I z)) (rI (bI (tkB J (J 25 0 t) (J 27 0 t) n g = true)) (HS e C I z)) := by
  have n8 := hC.1.1
  have n7 := hC.2.1.1
  have n1 := hC.2.2.1.1
  have n10 := hC.2.2.2.2.1.1
  have hB := hT.1
  have := RB.tasks hB
  have := RB.spaces hB
  have := RB.groups hB
  have := RB.views hB
  have n4 := hA.2.2.2.1
  have bt := hT.b t0 t1
  intro n
  induction n with
  | zero =>
    intro g h0 h1 h2
    rw [tkB]
    refine Ev.step (fun F => E1_takesFrom_2 F _ _ _) ?_
    simp (disch := omega) only [d_1 hA, g_1_1 hA, g_1_4 hA, g_1_8 hA, g_8_4 hA, g_8_6 hA, Option.bind_some, up_s, up_k, up_j, up_i, xk_add, xk_sub, xk_mul, xk_neg, lk_add, lN_z, rf_none, rb1, rb0, rbp, xk_nI, zk_eq, zk_lt, zk_eq0, zk_lt0, zk_0lt, zk_long, lz_lt, lz_gt, zmax, zmin, ↓reduceIte, Int.reduceEq, Int.reduceLT, Int.reduceNeg, Int.reduceAdd, Int.reduceSub, Int.reduceMul, Int.ofNat_eq_natCast, Int.cast_ofNat_Int, CT.space hC.1, CT.view hC.1, CT.parent hC.1, CT.group hC.1, CT.state hC.1, CT.pages hC.1, CT.points hC.1, CT.ticks hC.1, CT.asleep hC.1, CT.time hC.1, CP.outer hC.2.1, CP.depth hC.2.1, CP.init hC.2.1, CP.given hC.2.1, CG.outer hC.2.2.1, CG.depth hC.2.2.1, CG.max hC.2.2.1, CG.most hC.2.2.1, CG.weight hC.2.2.1, CG.quota hC.2.2.1, CG.cached hC.2.2.1, CG.ran hC.2.2.1, CG.time hC.2.2.1, CG.uses hC.2.2.1, CG.live hC.2.2.1, rf_eq hA]
    exact Ev.ite (fun _ => Ev.ret (by rw [bI_t trivial]; rfl)) (fun q => absurd q (by omega))
  | succ n ih =>
    intro g h0 h1 h2
    rw [tkB]
    refine Ev.step (fun F => E1_takesFrom_2 F _ _ _) ?_
    simp (disch := omega) only [d_1 hA, g_1_1 hA, g_1_4 hA, g_1_8 hA, g_8_4 hA, g_8_6 hA, Option.bind_some, up_s, up_k, up_j, up_i, xk_add, xk_sub, xk_mul, xk_neg, lk_add, lN_z, rf_none, rb1, rb0, rbp, xk_nI, zk_eq, zk_lt, zk_eq0, zk_lt0, zk_0lt, zk_long, lz_lt, lz_gt, zmax, zmin, ↓reduceIte, Int.reduceEq, Int.reduceLT, Int.reduceNeg, Int.reduceAdd, Int.reduceSub, Int.reduceMul, Int.ofNat_eq_natCast, Int.cast_ofNat_Int, CT.space hC.1, CT.view hC.1, CT.parent hC.1, CT.group hC.1, CT.state hC.1, CT.pages hC.1, CT.points hC.1, CT.ticks hC.1, CT.asleep hC.1, CT.time hC.1, CP.outer hC.2.1, CP.depth hC.2.1, CP.init hC.2.1, CP.given hC.2.1, CG.outer hC.2.2.1, CG.depth hC.2.2.1, CG.max hC.2.2.1, CG.most hC.2.2.1, CG.weight hC.2.2.1, CG.quota hC.2.2.1, CG.cached hC.2.2.1, CG.ran hC.2.2.1, CG.time hC.2.2.1, CG.uses hC.2.2.1, CG.live hC.2.2.1, rf_eq hA]
    refine Ev.ite (fun q => Ev.ret (by rw [if_pos q, bI_t rfl]; rfl)) (fun q => ?_)
    have lb := lvF_b hB (g := g)
    have w := RB.ww hB g (by omega) (by omega)
    have u0 := usF_n hB (g := g)
    have u1 := hU g (by omega) h2
    have := RB.most hB (j := g) (by omega) (by omega)
    have := RB.max hB (j := g) (by omega) (by omega)
    have := RB.pages hB (j := t) (by omega) (by omega)
    rw [if_neg q]
    try simp (disch := omega) only [d_1 hA, g_1_1 hA, g_1_4 hA, g_1_8 hA, g_8_4 hA, g_8_6 hA, Option.bind_some, up_s, up_k, up_j, up_i, xk_add, xk_sub, xk_mul, xk_neg, lk_add, lN_z, rf_none, rb1, rb0, rbp, xk_nI, zk_eq, zk_lt, zk_eq0, zk_lt0, zk_0lt, zk_long, lz_lt, lz_gt, zmax, zmin, ↓reduceIte, Int.reduceEq, Int.reduceLT, Int.reduceNeg, Int.reduceAdd, Int.reduceSub, Int.reduceMul, Int.ofNat_eq_natCast, Int.cast_ofNat_Int, CT.space hC.1, CT.view hC.1, CT.parent hC.1, CT.group hC.1, CT.state hC.1, CT.pages hC.1, CT.points hC.1, CT.ticks hC.1, CT.asleep hC.1, CT.time hC.1, CP.outer hC.2.1, CP.depth hC.2.1, CP.init hC.2.1, CP.given hC.2.1, CG.outer hC.2.2.1, CG.depth hC.2.2.1, CG.max hC.2.2.1, CG.most hC.2.2.1, CG.weight hC.2.2.1, CG.quota hC.2.2.1, CG.cached hC.2.2.1, CG.ran hC.2.2.1, CG.time hC.2.2.1, CG.uses hC.2.2.1, CG.live hC.2.2.1, rf_eq hA]
    refine Ev.kB (gliesIn_ev hA hC hT (by omega) h2 (by omega) (by omega)) (fun hw => ?_) (fun hw => ?_)
    · rw [if_pos hw]
      try simp (disch := omega) only [d_1 hA, g_1_1 hA, g_1_4 hA, g_1_8 hA, g_8_4 hA, g_8_6 hA, Option.bind_some, up_s, up_k, up_j, up_i, xk_add, xk_sub, xk_mul, xk_neg, lk_add, lN_z, rf_none, rb1, rb0, rbp, xk_nI, zk_eq, zk_lt, zk_eq0, zk_lt0, zk_0lt, zk_long, lz_lt, lz_gt, zmax, zmin, ↓reduceIte, Int.reduceEq, Int.reduceLT, Int.reduceNeg, Int.reduceAdd, Int.reduceSub, Int.reduceMul, Int.ofNat_eq_natCast, Int.cast_ofNat_Int, CT.space hC.1, CT.view hC.1, CT.parent hC.1, CT.group hC.1, CT.state hC.1, CT.pages hC.1, CT.points hC.1, CT.ticks hC.1, CT.asleep hC.1, CT.time hC.1, CP.outer hC.2.1, CP.depth hC.2.1, CP.init hC.2.1, CP.given hC.2.1, CG.outer hC.2.2.1, CG.depth hC.2.2.1, CG.max hC.2.2.1, CG.most hC.2.2.1, CG.weight hC.2.2.1, CG.quota hC.2.2.1, CG.cached hC.2.2.1, CG.ran hC.2.2.1, CG.time hC.2.2.1, CG.uses hC.2.2.1, CG.live hC.2.2.1, rf_eq hA]
      exact ih _ (by omega) (by omega) (by omega)
    · rw [if_neg hw]
      try simp (disch := omega) only [d_1 hA, g_1_1 hA, g_1_4 hA, g_1_8 hA, g_8_4 hA, g_8_6 hA, Option.bind_some, up_s, up_k, up_j, up_i, xk_add, xk_sub, xk_mul, xk_neg, lk_add, lN_z, rf_none, rb1, rb0, rbp, xk_nI, zk_eq, zk_lt, zk_eq0, zk_lt0, zk_0lt, zk_long, lz_lt, lz_gt, zmax, zmin, ↓reduceIte, Int.reduceEq, Int.reduceLT, Int.reduceNeg, Int.reduceAdd, Int.reduceSub, Int.reduceMul, Int.ofNat_eq_natCast, Int.cast_ofNat_Int, CT.space hC.1, CT.view hC.1, CT.parent hC.1, CT.group hC.1, CT.state hC.1, CT.pages hC.1, CT.points hC.1, CT.ticks hC.1, CT.asleep hC.1, CT.time hC.1, CP.outer hC.2.1, CP.depth hC.2.1, CP.init hC.2.1, CP.given hC.2.1, CG.outer hC.2.2.1, CG.depth hC.2.2.1, CG.max hC.2.2.1, CG.most hC.2.2.1, CG.weight hC.2.2.1, CG.quota hC.2.2.1, CG.cached hC.2.2.1, CG.ran hC.2.2.1, CG.time hC.2.2.1, CG.uses hC.2.2.1, CG.live hC.2.2.1, rf_eq hA]
      refine Ev.ite (fun y => ?_) (fun y => Ev.ret (by rw [if_pos (by omega), bI_f (by decide)]; rfl))
      refine Ev.kI (lacking_ev hA hC hT (by omega) h2) ?_
      try simp (disch := omega) only [d_1 hA, g_1_1 hA, g_1_4 hA, g_1_8 hA, g_8_4 hA, g_8_6 hA, Option.bind_some, up_s, up_k, up_j, up_i, xk_add, xk_sub, xk_mul, xk_neg, lk_add, lN_z, rf_none, rb1, rb0, rbp, xk_nI, zk_eq, zk_lt, zk_eq0, zk_lt0, zk_0lt, zk_long, lz_lt, lz_gt, zmax, zmin, ↓reduceIte, Int.reduceEq, Int.reduceLT, Int.reduceNeg, Int.reduceAdd, Int.reduceSub, Int.reduceMul, Int.ofNat_eq_natCast, Int.cast_ofNat_Int, CT.space hC.1, CT.view hC.1, CT.parent hC.1, CT.group hC.1, CT.state hC.1, CT.pages hC.1, CT.points hC.1, CT.ticks hC.1, CT.asleep hC.1, CT.time hC.1, CP.outer hC.2.1, CP.depth hC.2.1, CP.init hC.2.1, CP.given hC.2.1, CG.outer hC.2.2.1, CG.depth hC.2.2.1, CG.max hC.2.2.1, CG.most hC.2.2.1, CG.weight hC.2.2.1, CG.quota hC.2.2.1, CG.cached hC.2.2.1, CG.ran hC.2.2.1, CG.time hC.2.2.1, CG.uses hC.2.2.1, CG.live hC.2.2.1, rf_eq hA]
      refine Ev.ite (fun y' => Ev.ret (by rw [if_pos (by omega), bI_f (by decide)]; rfl)) (fun y' => ?_)
      rw [if_neg (by omega)]
      exact ih _ (by omega) (by omega) (by omega)
def mvC (J C : ST) (t to : Int) : ST := adG J (adG J (up (adG J (adG J C 7 (J 25 0 t) (-(J 27 0 t))) 8 (J 25 0 t) (-1)) 8 t 4 to) 7 to (J 27 0 t)) 8 to 1
theorem changeGroup_ev (hA : WA e z) (hC : Cpl e C J) (hT : TI J) {t to : Int} (t0 : 0 ≤ t) (t1 : t < (J 12 0 1)) (o0 : 0 ≤ to) (o1 : to < (J 12 0 17)) : Ev (fun F => J8_changeGroup F (rf e 8 t) (rf e 1 to) (HS e C I z)) (rV (HS e (mvC J C t to) I z)) := by
  have n8 := hC.1.1
  have n7 := hC.2.1.1
  have n1 := hC.2.2.1.1
  have n10 := hC.2.2.2.2.1.1
  have hB := hT.1
  have := RB.tasks hB
  have := RB.spaces hB
  have := RB.groups hB
  have := RB.views hB
  have n4 := hA.2.2.2.1
  have bt := hT.b t0 t1
  have co : ∀ (C' : ST), (∀ k, C' 1 k 1 = C 1 k 1) → ∀ k, 0 ≤ k → k < (J 12 0 17) → C' 1 k 1 = (J 38 0 k) := fun C' h k a b => (h k).trans (hC.2.2.1.outer a b)
  have a7 : ∀ (C' : ST) (f g n : Int), f ≠ 1 → ∀ k, adG J C' f g n 1 k 1 = C' 1 k 1 := fun C' f g n hf k => by simp [adG]; omega
  have a8 : ∀ (C' : ST) (f g n : Int), ∀ i j, adG J C' f g n 8 i j = C' 8 i j := fun C' f g n i j => by simp [adG]
  refine Ev.step (fun F => E8_changeGroup F _ _ _) ?_
  simp (disch := omega) only [d_1 hA, g_8_4 hA, g_8_6 hA, p_8_4 hA, pn_8_4 hA, Option.bind_some, up_s, up_k, up_j, up_i, xk_add, xk_sub, xk_mul, xk_neg, lk_add, lN_z, rf_none, rb1, rb0, rbp, xk_nI, zk_eq, zk_lt, zk_eq0, zk_lt0, zk_0lt, zk_long, lz_lt, lz_gt, zmax, zmin, ↓reduceIte, Int.reduceEq, Int.reduceLT, Int.reduceNeg, Int.reduceAdd, Int.reduceSub, Int.reduceMul, Int.ofNat_eq_natCast, Int.cast_ofNat_Int, CT.space hC.1, CT.view hC.1, CT.parent hC.1, CT.group hC.1, CT.state hC.1, CT.pages hC.1, CT.points hC.1, CT.ticks hC.1, CT.asleep hC.1, CT.time hC.1, CP.outer hC.2.1, CP.depth hC.2.1, CP.init hC.2.1, CP.given hC.2.1, CG.outer hC.2.2.1, CG.depth hC.2.2.1, CG.max hC.2.2.1, CG.most hC.2.2.1, CG.weight hC.2.2.1, CG.quota hC.2.2.1, CG.cached hC.2.2.1, CG.ran hC.2.2.1, CG.time hC.2.2.1, CG.uses hC.2.2.1, CG.live hC.2.2.1, rf_eq hA]
  refine Ev.kV (Ev.step (fun F => E1_addUse F _ _ _) (addUse_ev hA hB n1 (J 25 0 t) (by omega) C (-(J 27 0 t)) (co C (fun _ => rfl)) (by omega))) ?_
  try simp (disch := omega) only [d_1 hA, g_8_4 hA, g_8_6 hA, p_8_4 hA, pn_8_4 hA, Option.bind_some, up_s, up_k, up_j, up_i, xk_add, xk_sub, xk_mul, xk_neg, lk_add, lN_z, rf_none, rb1, rb0, rbp, xk_nI, zk_eq, zk_lt, zk_eq0, zk_lt0, zk_0lt, zk_long, lz_lt, lz_gt, zmax, zmin, ↓reduceIte, Int.reduceEq, Int.reduceLT, Int.reduceNeg, Int.reduceAdd, Int.reduceSub, Int.reduceMul, Int.ofNat_eq_natCast, Int.cast_ofNat_Int, CT.space hC.1, CT.view hC.1, CT.parent hC.1, CT.group hC.1, CT.state hC.1, CT.pages hC.1, CT.points hC.1, CT.ticks hC.1, CT.asleep hC.1, CT.time hC.1, CP.outer hC.2.1, CP.depth hC.2.1, CP.init hC.2.1, CP.given hC.2.1, CG.outer hC.2.2.1, CG.depth hC.2.2.1, CG.max hC.2.2.1, CG.most hC.2.2.1, CG.weight hC.2.2.1, CG.quota hC.2.2.1, CG.cached hC.2.2.1, CG.ran hC.2.2.1, CG.time hC.2.2.1, CG.uses hC.2.2.1, CG.live hC.2.2.1, rf_eq hA, a8]
  refine Ev.kV (Ev.step (fun F => E1_addLive F _ _ _) (addLive_ev hA hB n1 (J 25 0 t) (by omega) _ (-1) (co _ (fun k => a7 _ _ _ _ (by decide) k)) (by omega))) ?_
  try simp (disch := omega) only [d_1 hA, g_8_4 hA, g_8_6 hA, p_8_4 hA, pn_8_4 hA, Option.bind_some, up_s, up_k, up_j, up_i, xk_add, xk_sub, xk_mul, xk_neg, lk_add, lN_z, rf_none, rb1, rb0, rbp, xk_nI, zk_eq, zk_lt, zk_eq0, zk_lt0, zk_0lt, zk_long, lz_lt, lz_gt, zmax, zmin, ↓reduceIte, Int.reduceEq, Int.reduceLT, Int.reduceNeg, Int.reduceAdd, Int.reduceSub, Int.reduceMul, Int.ofNat_eq_natCast, Int.cast_ofNat_Int, CT.space hC.1, CT.view hC.1, CT.parent hC.1, CT.group hC.1, CT.state hC.1, CT.pages hC.1, CT.points hC.1, CT.ticks hC.1, CT.asleep hC.1, CT.time hC.1, CP.outer hC.2.1, CP.depth hC.2.1, CP.init hC.2.1, CP.given hC.2.1, CG.outer hC.2.2.1, CG.depth hC.2.2.1, CG.max hC.2.2.1, CG.most hC.2.2.1, CG.weight hC.2.2.1, CG.quota hC.2.2.1, CG.cached hC.2.2.1, CG.ran hC.2.2.1, CG.time hC.2.2.1, CG.uses hC.2.2.1, CG.live hC.2.2.1, rf_eq hA, a8]
  refine Ev.kV (Ev.step (fun F => E1_addUse F _ _ _) (addUse_ev hA hB n1 to (by omega) _ (J 27 0 t) (co _ (fun k => by rw [up_k (by decide), a7 _ _ _ _ (by decide), a7 _ _ _ _ (by decide)])) o1)) ?_
  try simp (disch := omega) only [d_1 hA, g_8_4 hA, g_8_6 hA, p_8_4 hA, pn_8_4 hA, Option.bind_some, up_s, up_k, up_j, up_i, xk_add, xk_sub, xk_mul, xk_neg, lk_add, lN_z, rf_none, rb1, rb0, rbp, xk_nI, zk_eq, zk_lt, zk_eq0, zk_lt0, zk_0lt, zk_long, lz_lt, lz_gt, zmax, zmin, ↓reduceIte, Int.reduceEq, Int.reduceLT, Int.reduceNeg, Int.reduceAdd, Int.reduceSub, Int.reduceMul, Int.ofNat_eq_natCast, Int.cast_ofNat_Int, CT.space hC.1, CT.view hC.1, CT.parent hC.1, CT.group hC.1, CT.state hC.1, CT.pages hC.1, CT.points hC.1, CT.ticks hC.1, CT.asleep hC.1, CT.time hC.1, CP.outer hC.2.1, CP.depth hC.2.1, CP.init hC.2.1, CP.given hC.2.1, CG.outer hC.2.2.1, CG.depth hC.2.2.1, CG.max hC.2.2.1, CG.most hC.2.2.1, CG.weight hC.2.2.1, CG.quota hC.2.2.1, CG.cached hC.2.2.1, CG.ran hC.2.2.1, CG.time hC.2.2.1, CG.uses hC.2.2.1, CG.live hC.2.2.1, rf_eq hA, a8]
  refine Ev.kV (Ev.step (fun F => E1_addLive F _ _ _) (addLive_ev hA hB n1 to (by omega) _ 1 (co _ (fun k => by rw [a7 _ _ _ _ (by decide), up_k (by decide), a7 _ _ _ _ (by decide), a7 _ _ _ _ (by decide)])) o1)) ?_
  exact Ev.ret rfl
theorem usF_mv {t to g : Int} (t0 : 0 ≤ t) (t1 : t < (J 12 0 1)) (ht : (J 22 0 t) = 0) : usF (up J 25 0 t to) g = usF J g - (if win J (J 25 0 t) g = true then (J 27 0 t) else 0) + (if win J to g = true then (J 27 0 t) else 0) ∧ lvF (up J 25 0 t to) g = lvF J g - (if win J (J 25 0 t) g = true then 1 else 0) + (if win J to g = true then 1 else 0) := by
  have ew : win (up J 25 0 t to) = win J := win_c (fun k => up_k (by decide))
  have e22 : ∀ j, up J 25 0 t to 22 0 j = J 22 0 j := fun j => up_k (by decide)
  have e27 : ∀ j, up J 25 0 t to 27 0 j = J 27 0 j := fun j => up_k (by decide)
  have e43 : ∀ j, up J 25 0 t to 43 0 j = J 43 0 j := fun j => up_k (by decide)
  have e25 : ∀ j, j ≠ t → up J 25 0 t to 25 0 j = J 25 0 j := fun j h => up_j h
  constructor
  · unfold usF
    rw [up_k (k' := 12) (by decide), up_k (k' := 12) (by decide)]
    have a := sm_u (f := usT J g) (f' := usT (up J 25 0 t to) g) (n := (J 12 0 1)) (x := t) t0 t1 (fun k _ _ hk => by unfold usT; rw [ew, e25 k hk, e22, e27])
    have b : sm (usK (up J 25 0 t to) g) (J 12 0 17) = sm (usK J g) (J 12 0 17) := sm_c (fun k _ _ => by unfold usK; rw [ew, e43])
    have c : usT (up J 25 0 t to) g t = if win J to g = true then (J 27 0 t) else 0 := by
      unfold usT
      rw [ew, up_s, e22, e27]
      simp only [ht, true_and]
    have d : usT J g t = if win J (J 25 0 t) g = true then (J 27 0 t) else 0 := by
      unfold usT
      simp only [ht, true_and]
    rw [a, b, c, d]
    omega
  · unfold lvF
    rw [up_k (k' := 12) (by decide)]
    have a := sm_u (f := lvT J g) (f' := lvT (up J 25 0 t to) g) (n := (J 12 0 1)) (x := t) t0 t1 (fun k _ _ hk => by unfold lvT; rw [ew, e25 k hk, e22])
    have c : lvT (up J 25 0 t to) g t = if win J to g = true then 1 else 0 := by
      unfold lvT
      rw [ew, up_s, e22]
      simp only [ht, true_and]
    have d : lvT J g t = if win J (J 25 0 t) g = true then 1 else 0 := by
      unfold lvT
      simp only [ht, true_and]
    rw [a, c, d]
    omega
theorem Cpl.mv (hC : Cpl e C J) {t to : Int} (t0 : 0 ≤ t) (t1 : t < (J 12 0 1)) (ht : (J 22 0 t) = 0) : Cpl e (mvC J C t to) (up J 25 0 t to) := by
  obtain ⟨h1, h2, h3, h4, h5, h6⟩ := hC
  have f0 : ∀ k i j, k ≠ 1 → k ≠ 8 → mvC J C t to k i j = C k i j := fun k i j a b => by simp [mvC, adG, up, a, b]
  have f1 : ∀ i j, j ≠ 7 → j ≠ 8 → mvC J C t to 1 i j = C 1 i j := fun i j a b => by simp [mvC, adG, up, a, b]
  have f7 : ∀ i, 0 ≤ i → mvC J C t to 1 i 7 = C 1 i 7 - (if win J (J 25 0 t) i = true then (J 27 0 t) else 0) + (if win J to i = true then (J 27 0 t) else 0) := fun i i0 => by
    simp only [mvC, adG, up]
    grind
  have f8 : ∀ i, 0 ≤ i → mvC J C t to 1 i 8 = C 1 i 8 - (if win J (J 25 0 t) i = true then 1 else 0) + (if win J to i = true then 1 else 0) := fun i i0 => by
    simp only [mvC, adG, up]
    grind
  have g8 : ∀ i j, mvC J C t to 8 i j = if i = t ∧ j = 4 then to else C 8 i j := fun i j => by simp [mvC, adG, up]
  have ej : ∀ k i j, k ≠ 25 → up J 25 0 t to k i j = J k i j := fun k i j a => up_k a
  refine ⟨⟨(ej 12 0 1 (by decide)).symm ▸ h1.1, fun x x0 x1 => ?_⟩, h2.fr (fun i j => f0 _ _ _ (by decide) (by decide)) (fun i j => f0 _ _ _ (by decide) (by decide)) (ej _ _ _ (by decide)) (fun j => ej _ _ _ (by decide)) (fun j => ej _ _ _ (by decide)) (fun j => ej _ _ _ (by decide)) (HoR_c (ej _ _ _ (by decide)) (fun j => by rw [ej _ _ _ (by decide)]) (fun j => ej _ _ _ (by decide))), ⟨(ej 12 0 17 (by decide)).symm ▸ h3.1, fun g g0 g1 => ?_⟩, h4.fr (fun g => f1 _ _ (by decide) (by decide)) (fun g => f1 _ _ (by decide) (by decide)) (ej _ _ _ (by decide)) (ej _ _ _ (by decide)), h5.fr (fun k i j h => f0 _ _ _ (by omega) (by omega)) (fun k i j a b => ej _ _ _ (by omega)) (ej _ _ _ (by decide)) (ej _ _ _ (by decide)), h6.fr (f0 _ _ _ (by decide) (by decide)) (f0 _ _ _ (by decide) (by decide)) (fun j => f0 _ _ _ (by decide) (by decide)) (fun j => f0 _ _ _ (by decide) (by decide)) (ej _ _ _ (by decide)) (ej _ _ _ (by decide))⟩
  · rw [ej _ _ _ (by decide)] at x1
    have q := h1.2 x x0 x1
    simp (disch := decide) only [g8, ej]
    simp only [Int.reduceEq, and_false, if_false, and_true]
    refine ⟨q.1, q.2.1, q.2.2.1, ?_, q.2.2.2.2⟩
    by_cases hx : x = t
    · rw [if_pos hx, hx, up_s]
    · rw [if_neg hx, up_j hx]; exact q.2.2.2.1
  · rw [ej _ _ _ (by decide)] at g1
    have q := h3.2 g g0 g1
    have ed : dpG (up J 25 0 t to) = dpG J := by
      funext s
      unfold dpG
      rw [show (fun k => up J 25 0 t to 38 0 k) = (fun k => J 38 0 k) from funext (fun k => ej _ _ _ (by decide))]
    have us := usF_mv (J := J) (to := to) (g := g) t0 t1 ht
    rw [us.1, us.2, ed, f7 g g0, f8 g g0]
    simp (disch := decide) only [f1, ej]
    rw [← q.2.2.2.2.2.2.2.2.2.1, ← q.2.2.2.2.2.2.2.2.2.2]
    exact ⟨q.1, q.2.1, q.2.2.1, q.2.2.2.1, q.2.2.2.2.1, q.2.2.2.2.2.1, q.2.2.2.2.2.2.1, q.2.2.2.2.2.2.2.1, q.2.2.2.2.2.2.2.2.1, rfl, rfl⟩
theorem nextNumber_cl (hA : WA e z) {s g : Int} (s0 : 0 ≤ s) (s1 : s < (e.2.1 7)) (hg : (C 7 s 5) = g) (g0 : 0 ≤ g) (g1 : g ≤ 40) : Ev (fun F => J7_nextNumber F (rf e 7 s) (HS e C I z)) (rI (nxF (fun n => (C 15 s n)) 40 g) (HS e C I z)) := by
  have n4 := hA.2.2.2.1
  refine Ev.step (fun F => E7_nextNumber F _ _) ?_
  simp (disch := omega) only [g_7_5 hA, Option.bind_some, up_s, up_k, up_j, up_i, xk_add, xk_sub, xk_mul, xk_neg, lk_add, lN_z, rf_none, rb1, rb0, rbp, xk_nI, zk_eq, zk_lt, zk_eq0, zk_lt0, zk_0lt, zk_long, lz_lt, lz_gt, zmax, zmin, ↓reduceIte, Int.reduceEq, Int.reduceLT, Int.reduceNeg, Int.reduceAdd, Int.reduceSub, Int.reduceMul, Int.ofNat_eq_natCast, Int.cast_ofNat_Int, hg]
  have key : ∀ (d : Nat) (k n : Int), 0 ≤ k → k + d = 40 → 0 ≤ n → n ≤ 40 → Ev (fun F => J7_nextNumber_7 F (rf e 7 s) (xk n) (xk k) (HS e C I z)) (rI (nxF (fun n => (C 15 s n)) d n) (HS e C I z)) := by
    intro d
    induction d with
    | zero =>
      intro k n k0 hk n0 n1
      refine Ev.step (fun F => E7_nextNumber_7 F _ _ _ _) ?_
      simp (disch := omega) only [a_15 hA, g_7_3 hA, Option.bind_some, up_s, up_k, up_j, up_i, xk_add, xk_sub, xk_mul, xk_neg, lk_add, lN_z, rf_none, rb1, rb0, rbp, xk_nI, zk_eq, zk_lt, zk_eq0, zk_lt0, zk_0lt, zk_long, lz_lt, lz_gt, zmax, zmin, ↓reduceIte, Int.reduceEq, Int.reduceLT, Int.reduceNeg, Int.reduceAdd, Int.reduceSub, Int.reduceMul, Int.ofNat_eq_natCast, Int.cast_ofNat_Int]
      exact Ev.ite (fun q => absurd q (by omega)) (fun _ => Ev.ret rfl)
    | succ d ih =>
      intro k n k0 hk n0 n1
      rw [nxF]
      refine Ev.step (fun F => E7_nextNumber_7 F _ _ _ _) ?_
      simp (disch := omega) only [a_15 hA, g_7_3 hA, Option.bind_some, up_s, up_k, up_j, up_i, xk_add, xk_sub, xk_mul, xk_neg, lk_add, lN_z, rf_none, rb1, rb0, rbp, xk_nI, zk_eq, zk_lt, zk_eq0, zk_lt0, zk_0lt, zk_long, lz_lt, lz_gt, zmax, zmin, ↓reduceIte, Int.reduceEq, Int.reduceLT, Int.reduceNeg, Int.reduceAdd, Int.reduceSub, Int.reduceMul, Int.ofNat_eq_natCast, Int.cast_ofNat_Int]
      refine Ev.ite (fun _ => ?_) (fun q => absurd q (by omega))
      refine Ev.ite (fun hn => ?_) (fun hn => ?_)
      · try simp (disch := omega) only [a_15 hA, g_7_3 hA, Option.bind_some, up_s, up_k, up_j, up_i, xk_add, xk_sub, xk_mul, xk_neg, lk_add, lN_z, rf_none, rb1, rb0, rbp, xk_nI, zk_eq, zk_lt, zk_eq0, zk_lt0, zk_0lt, zk_long, lz_lt, lz_gt, zmax, zmin, ↓reduceIte, Int.reduceEq, Int.reduceLT, Int.reduceNeg, Int.reduceAdd, Int.reduceSub, Int.reduceMul, Int.ofNat_eq_natCast, Int.cast_ofNat_Int]
        simp only [if_neg (by omega : ¬ n = 40)]
        refine Ev.ite (fun q => Ev.ret (by rw [if_pos q]; rfl)) (fun q => ?_)
        rw [if_neg q]
        exact ih _ _ (by omega) (by omega) (by omega) (by omega)
      · simp only [if_pos (by omega : n = 40)]
        refine Ev.ite (fun q => Ev.ret (by rw [if_pos q]; rfl)) (fun q => ?_)
        rw [if_neg q]
        exact ih _ _ (by omega) (by omega) (by omega) (by omega)
  exact key 40 0 g (by omega) (by omega) g0 g1
theorem nxF_b {h : Int → Int} : ∀ (d : Nat) (n : Int), 0 ≤ n → n ≤ 40 → 0 ≤ nxF h d n ∧ nxF h d n ≤ 40
  | 0, n, _, _ => by rw [nxF]; omega
  | d + 1, n, h0, h1 => by
    rw [nxF]
    have hm : 1 ≤ (if n = 40 then 1 else n + 1) ∧ (if n = 40 then 1 else n + 1) ≤ 40 := by split <;> omega
    generalize (if n = 40 then 1 else n + 1) = m at *
    by_cases y : h m < 0
    · rw [if_pos y]; omega
    · rw [if_neg y]
      exact nxF_b d m (by omega) hm.2
theorem nxF_h {h : Int → Int} : ∀ (d : Nat) (n : Int), 0 ≤ n → n ≤ 40 → nxF h d n ≠ 0 → h (nxF h d n) < 0
  | 0, n, _, _ => fun q => absurd rfl q
  | d + 1, n, h0, h1 => by
    intro q
    rw [nxF] at q ⊢
    by_cases y : h (if n = 40 then 1 else n + 1) < 0
    · rw [if_pos y]; exact y
    · rw [if_neg y] at q ⊢
      exact nxF_h d _ (by split <;> omega) (by split <;> omega) q
/-- spaces outward from s on have a number left -/
def rmB (J C : ST) : Nat → Int → Bool
  | 0, _ => true
  | n + 1, s => if s < 0 then true else if nxF (fun x => (C 15 s x)) 40 (J 36 0 s) = 0 then false else rmB J C n (J 34 0 s)
theorem hasRoom37_ev (hA : WA e z) (hC : Cpl e C J) (hT : TI J) : ∀ (n : Nat) (s : Int), s < n → -1 ≤ s → s < (J 12 0 13) → Ev (fun F => J9_hasRoom_37 F (rf e 7 s) (HS e C I z)) (rI (bI (rmB J C n s = true)) (HS e C I z)) := by
  have n8 := hC.1.1
  have n7 := hC.2.1.1
  have n1 := hC.2.2.1.1
  have n10 := hC.2.2.2.2.1.1
  have hB := hT.1
  have := RB.tasks hB
  have := RB.spaces hB
  have := RB.groups hB
  have := RB.views hB
  have n4 := hA.2.2.2.1
  intro n
  induction n with
  | zero =>
    intro s h0 h1 h2
    rw [rmB]
    refine Ev.step (fun F => E9_hasRoom_37 F _ _) ?_
    simp (disch := omega) only [d_7 hA, g_7_1 hA, Option.bind_some, up_s, up_k, up_j, up_i, xk_add, xk_sub, xk_mul, xk_neg, lk_add, lN_z, rf_none, rb1, rb0, rbp, xk_nI, zk_eq, zk_lt, zk_eq0, zk_lt0, zk_0lt, zk_long, lz_lt, lz_gt, zmax, zmin, ↓reduceIte, Int.reduceEq, Int.reduceLT, Int.reduceNeg, Int.reduceAdd, Int.reduceSub, Int.reduceMul, Int.ofNat_eq_natCast, Int.cast_ofNat_Int, CT.space hC.1, CT.view hC.1, CT.parent hC.1, CT.group hC.1, CT.state hC.1, CT.pages hC.1, CT.points hC.1, CT.ticks hC.1, CT.asleep hC.1, CT.time hC.1, CP.outer hC.2.1, CP.depth hC.2.1, CP.init hC.2.1, CP.given hC.2.1, CG.outer hC.2.2.1, CG.depth hC.2.2.1, CG.max hC.2.2.1, CG.most hC.2.2.1, CG.weight hC.2.2.1, CG.quota hC.2.2.1, CG.cached hC.2.2.1, CG.ran hC.2.2.1, CG.time hC.2.2.1, CG.uses hC.2.2.1, CG.live hC.2.2.1, rf_eq hA]
    exact Ev.ite (fun _ => Ev.ret (by rw [bI_t trivial]; rfl)) (fun q => absurd q (by omega))
  | succ n ih =>
    intro s h0 h1 h2
    rw [rmB]
    refine Ev.step (fun F => E9_hasRoom_37 F _ _) ?_
    simp (disch := omega) only [d_7 hA, g_7_1 hA, Option.bind_some, up_s, up_k, up_j, up_i, xk_add, xk_sub, xk_mul, xk_neg, lk_add, lN_z, rf_none, rb1, rb0, rbp, xk_nI, zk_eq, zk_lt, zk_eq0, zk_lt0, zk_0lt, zk_long, lz_lt, lz_gt, zmax, zmin, ↓reduceIte, Int.reduceEq, Int.reduceLT, Int.reduceNeg, Int.reduceAdd, Int.reduceSub, Int.reduceMul, Int.ofNat_eq_natCast, Int.cast_ofNat_Int, CT.space hC.1, CT.view hC.1, CT.parent hC.1, CT.group hC.1, CT.state hC.1, CT.pages hC.1, CT.points hC.1, CT.ticks hC.1, CT.asleep hC.1, CT.time hC.1, CP.outer hC.2.1, CP.depth hC.2.1, CP.init hC.2.1, CP.given hC.2.1, CG.outer hC.2.2.1, CG.depth hC.2.2.1, CG.max hC.2.2.1, CG.most hC.2.2.1, CG.weight hC.2.2.1, CG.quota hC.2.2.1, CG.cached hC.2.2.1, CG.ran hC.2.2.1, CG.time hC.2.2.1, CG.uses hC.2.2.1, CG.live hC.2.2.1, rf_eq hA]
    refine Ev.ite (fun q => Ev.ret (by rw [if_pos q, bI_t rfl]; rfl)) (fun q => ?_)
    have w := RB.aw hB s (by omega) (by omega)
    have := RB.given hB (j := s) (by omega) (by omega)
    have nb := nxF_b (h := fun x => (C 15 s x)) 40 (J 36 0 s) (by omega) (by omega)
    rw [if_neg q]
    try simp (disch := omega) only [d_7 hA, g_7_1 hA, Option.bind_some, up_s, up_k, up_j, up_i, xk_add, xk_sub, xk_mul, xk_neg, lk_add, lN_z, rf_none, rb1, rb0, rbp, xk_nI, zk_eq, zk_lt, zk_eq0, zk_lt0, zk_0lt, zk_long, lz_lt, lz_gt, zmax, zmin, ↓reduceIte, Int.reduceEq, Int.reduceLT, Int.reduceNeg, Int.reduceAdd, Int.reduceSub, Int.reduceMul, Int.ofNat_eq_natCast, Int.cast_ofNat_Int, CT.space hC.1, CT.view hC.1, CT.parent hC.1, CT.group hC.1, CT.state hC.1, CT.pages hC.1, CT.points hC.1, CT.ticks hC.1, CT.asleep hC.1, CT.time hC.1, CP.outer hC.2.1, CP.depth hC.2.1, CP.init hC.2.1, CP.given hC.2.1, CG.outer hC.2.2.1, CG.depth hC.2.2.1, CG.max hC.2.2.1, CG.most hC.2.2.1, CG.weight hC.2.2.1, CG.quota hC.2.2.1, CG.cached hC.2.2.1, CG.ran hC.2.2.1, CG.time hC.2.2.1, CG.uses hC.2.2.1, CG.live hC.2.2.1, rf_eq hA]
    refine Ev.kI (nextNumber_cl hA (by omega) (by omega) (hC.2.1.given (by omega) h2) (by omega) (by omega)) ?_
    try simp (disch := omega) only [d_7 hA, g_7_1 hA, Option.bind_some, up_s, up_k, up_j, up_i, xk_add, xk_sub, xk_mul, xk_neg, lk_add, lN_z, rf_none, rb1, rb0, rbp, xk_nI, zk_eq, zk_lt, zk_eq0, zk_lt0, zk_0lt, zk_long, lz_lt, lz_gt, zmax, zmin, ↓reduceIte, Int.reduceEq, Int.reduceLT, Int.reduceNeg, Int.reduceAdd, Int.reduceSub, Int.reduceMul, Int.ofNat_eq_natCast, Int.cast_ofNat_Int, CT.space hC.1, CT.view hC.1, CT.parent hC.1, CT.group hC.1, CT.state hC.1, CT.pages hC.1, CT.points hC.1, CT.ticks hC.1, CT.asleep hC.1, CT.time hC.1, CP.outer hC.2.1, CP.depth hC.2.1, CP.init hC.2.1, CP.given hC.2.1, CG.outer hC.2.2.1, CG.depth hC.2.2.1, CG.max hC.2.2.1, CG.most hC.2.2.1, CG.weight hC.2.2.1, CG.quota hC.2.2.1, CG.cached hC.2.2.1, CG.ran hC.2.2.1, CG.time hC.2.2.1, CG.uses hC.2.2.1, CG.live hC.2.2.1, rf_eq hA]
    refine Ev.ite (fun y => Ev.ret (by rw [if_pos y, bI_f (by decide)]; rfl)) (fun y => ?_)
    rw [if_neg y]
    exact ih _ (by omega) (by omega) (by omega)
end CL
