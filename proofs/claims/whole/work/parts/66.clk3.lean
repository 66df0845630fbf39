/-! the reference: tick -/
def ldF (J : ST) (ft fg : Int → Int) (g : Int) : Prop := 0 ≤ fg g ∧ (ft g < 0 ∨ (J 45 0 (fg g)) < (J 30 0 (ft g)))
def ldB (J : ST) (ft fg : Int → Int) (g : Int) : Bool := decide (0 ≤ fg g) && (decide (ft g < 0) || decide ((J 45 0 (fg g)) < (J 30 0 (ft g))))
theorem ld_i {J : ST} {ft fg : Int → Int} {g : Int} : ldB J ft fg g = true ↔ ldF J ft fg g := by
  unfold ldB ldF
  simp only [Bool.and_eq_true, Bool.or_eq_true, decide_eq_true_eq]
def wkF (J : ST) (ft fg : Int → Int) : Nat → Int → Int × Int
  | 0, g => (g, ft g)
  | n + 1, g => if ldB J ft fg g = true then wkF J ft fg n (fg g) else (g, ft g)
/-- ft, fg: each group's first ready task and first ready group -/
def FtR (hs : Int → Bool) (J : ST) (ft fg : Int → Int) : Prop := ∀ g, 0 ≤ g → g < (J 12 0 17) → AM (rt J g) (fun k => (J 30 0 k)) (J 12 0 1) (ft g) ∧ AM (rg hs J g) (fun k => (J 45 0 k)) (J 12 0 17) (fg g)
def rnS (J : ST) (k : Int) : ST := if 0 < k then up (up J 44 0 k ((J 44 0 k) + 1)) 45 0 k ((J 45 0 k) + 1000000 / (J 41 0 k)) else up J 44 0 k ((J 44 0 k) + 1)
def rnF : Nat → Int → ST → ST
  | 0, _, J => J
  | n + 1, k, J => if k < 0 then J else rnF n (J 38 0 k) (rnS J k)
def rsI (J : ST) : ST := fun k i j => if k = 44 ∧ i = 0 ∧ 0 ≤ j ∧ j < (J 12 0 17) then 0 else J k i j
def peI (J : ST) : ST := if (J 12 0 26) % 20 = 0 then rsI J else J
def ruI (J : ST) (g t : Int) : ST := if t < 0 then J else rnF 20 g (up (up J 30 0 t ((J 30 0 t) + 10000)) 31 0 t ((J 31 0 t) + 1))
section RA
variable {e : EN} {C I : ST} {z : Nat × Nat × Nat × Nat}
theorem tick328_ev (hA : WA e z) (hR : WR e) {I : ST} (hB : RB I) {t : Int} : Ev (fun F => J12_tick_328 F (rf e 12 0) (xk t) (xk 0) (HS e C I z)) (rI t (HS e C (rsI I) z)) := by
  have := RB.groups hB
  refine lpN (P := fun k => ∀ I', 0 ≤ k → k ≤ (I 12 0 17) → I' = (fun k' i j => if k' = 44 ∧ i = 0 ∧ 0 ≤ j ∧ j < k then 0 else I k' i j) → Ev (fun F => J12_tick_328 F (rf e 12 0) (xk t) (xk k) (HS e C I' z)) (rI t (HS e C (rsI I) z))) (I 12 0 17) (fun k ih I' k0 k1 hI => ?_) 0 _ (by omega) (by omega) ?_
  · have e1 : I' 12 0 17 = (I 12 0 17) := by rw [hI]; simp
    refine Ev.step (fun F => E12_tick_328 F _ _ _ _) ?_
    simp (disch := omega) only [g_12_17 hA hR, g_12_24 hA hR, s_44 hA hR, Option.bind_some, up_s, up_k, up_j, up_i, xk_add, xk_sub, xk_mul, xk_neg, lk_add, lN_z, rf_none, rb1, rb0, rbp, xk_nI, zk_eq, zk_lt, zk_eq0, zk_lt0, zk_0lt, zk_long, lz_lt, lz_gt, zmax, zmin, ↓reduceIte, Int.reduceEq, Int.reduceLT, Int.reduceNeg, Int.reduceAdd, Int.reduceSub, Int.reduceMul, Int.ofNat_eq_natCast, Int.cast_ofNat_Int, e1]
    refine Ev.ite (fun h => ?_) (fun h => ?_)
    · refine ih h _ (by omega) (by omega) ?_
      rw [hI]
      funext k i j
      simp only [up]
      repeat' split
      all_goals first | rfl | (exfalso; omega)
    · refine Ev.ret ?_
      have : k = (I 12 0 17) := by omega
      subst this
      rw [hI]
      rfl
  · funext k i j
    rw [if_neg (by omega)]
theorem per_ev (hA : WA e z) (hR : WR e) {I : ST} (hB : RB I) (c0 : 0 ≤ (I 12 0 26)) (c1 : (I 12 0 26) < 10000000) {t : Int} : Ev (fun F => if ((I 12 0 26) - (I 12 0 26) / 20 * 20) = 0 then J12_tick_328 F (rf e 12 0) (xk t) (xk 0) (HS e C I z) else some (.inl (some (.inl (xk t))), HS e C I z)) (rI t (HS e C (peI I) z)) := by
  unfold peI
  refine Ev.ite (fun h => ?_) (fun h => ?_)
  · rw [if_pos (by omega)]; exact tick328_ev hA hR hB
  · rw [if_neg (by omega)]; exact Ev.ret rfl
theorem tick260_ev (hA : WA e z) (hR : WR e) {t : Int} (t0 : 0 ≤ t) (t1 : t < 150) : ∀ (n : Nat) (k : Int) (I : ST), RB I → (∀ g, 0 ≤ g → g < (I 12 0 17) → 1 ≤ (I 41 0 g)) → -1 ≤ k → k < (I 12 0 17) → k < n → 0 ≤ (I 12 0 26) → (I 12 0 26) < 10000000 → Ev (fun F => J12_tick_260 F (rf e 12 0) (xk t) (xk k) (HS e C I z)) (rI t (HS e C (peI (rnF n k I)) z)) := by
  intro n
  induction n with
  | zero =>
    intro k I hB hW k0 k1 kn c0 c1
    refine Ev.step (fun F => E12_tick_260 F _ _ _ _) ?_
    simp (disch := omega) only [a_38 hA hR, a_41 hA hR, a_44 hA hR, a_45 hA hR, g_12_18 hA hR, g_12_21 hA hR, g_12_24 hA hR, g_12_25 hA hR, g_12_26 hA hR, s_38 hA hR, s_41 hA hR, s_44 hA hR, s_45 hA hR, Option.bind_some, up_s, up_k, up_j, up_i, xk_add, xk_sub, xk_mul, xk_neg, lk_add, lN_z, rf_none, rb1, rb0, rbp, xk_nI, zk_eq, zk_lt, zk_eq0, zk_lt0, zk_0lt, zk_long, lz_lt, lz_gt, zmax, zmin, ↓reduceIte, Int.reduceEq, Int.reduceLT, Int.reduceNeg, Int.reduceAdd, Int.reduceSub, Int.reduceMul, Int.ofNat_eq_natCast, Int.cast_ofNat_Int, zdiv]
    refine Ev.ite (fun _ => ?_) (fun q => absurd q (by omega))
    exact per_ev hA hR hB c0 c1
  | succ n ih =>
    intro k I hB hW k0 k1 kn c0 c1
    have := RB.groups hB
    rw [rnF]
    refine Ev.step (fun F => E12_tick_260 F _ _ _ _) ?_
    simp (disch := omega) only [a_38 hA hR, a_41 hA hR, a_44 hA hR, a_45 hA hR, g_12_18 hA hR, g_12_21 hA hR, g_12_24 hA hR, g_12_25 hA hR, g_12_26 hA hR, s_38 hA hR, s_41 hA hR, s_44 hA hR, s_45 hA hR, Option.bind_some, up_s, up_k, up_j, up_i, xk_add, xk_sub, xk_mul, xk_neg, lk_add, lN_z, rf_none, rb1, rb0, rbp, xk_nI, zk_eq, zk_lt, zk_eq0, zk_lt0, zk_0lt, zk_long, lz_lt, lz_gt, zmax, zmin, ↓reduceIte, Int.reduceEq, Int.reduceLT, Int.reduceNeg, Int.reduceAdd, Int.reduceSub, Int.reduceMul, Int.ofNat_eq_natCast, Int.cast_ofNat_Int, zdiv]
    refine Ev.ite (fun h => ?_) (fun h => ?_)
    · rw [if_pos (by omega)]
      exact per_ev hA hR hB c0 c1
    · rw [if_neg (by omega)]
      have w1 := hW k (by omega) k1
      have := RB.weight hB (j := k) (by omega) (by omega)
      have := RB.within hB (j := k) (by omega) (by omega)
      have := RB.wiw hB (j := k) (by omega) (by omega)
      unfold rnS
      refine Ev.ite (fun q => ?_) (fun q => ?_)
      · rw [if_pos q]
        have d0 : 0 ≤ 1000000 / (I 41 0 k) := Int.ediv_nonneg (by omega) (by omega)
        have d1 : 1000000 / (I 41 0 k) ≤ 1000000 := Int.ediv_le_self _ (by omega)
        try simp (disch := omega) only [a_38 hA hR, a_41 hA hR, a_44 hA hR, a_45 hA hR, g_12_18 hA hR, g_12_21 hA hR, g_12_24 hA hR, g_12_25 hA hR, g_12_26 hA hR, s_38 hA hR, s_41 hA hR, s_44 hA hR, s_45 hA hR, Option.bind_some, up_s, up_k, up_j, up_i, xk_add, xk_sub, xk_mul, xk_neg, lk_add, lN_z, rf_none, rb1, rb0, rbp, xk_nI, zk_eq, zk_lt, zk_eq0, zk_lt0, zk_0lt, zk_long, lz_lt, lz_gt, zmax, zmin, ↓reduceIte, Int.reduceEq, Int.reduceLT, Int.reduceNeg, Int.reduceAdd, Int.reduceSub, Int.reduceMul, Int.ofNat_eq_natCast, Int.cast_ofNat_Int, i32_m, zdiv]
        refine Ev.ite (fun w => absurd w (by omega)) (fun _ => ?_)
        refine ih _ _ (RB.u_groupTime (RB.u_ranNow hB)) ?_ (by omega) ?_ (by omega) ?_ ?_
        · intro g; rw [up_k (by decide), up_k (by decide), up_k (by decide), up_k (by decide)]; exact hW g
        · rw [up_k (by decide), up_k (by decide)]; omega
        · rw [up_k (by decide), up_k (by decide)]; exact c0
        · rw [up_k (by decide), up_k (by decide)]; exact c1
      · rw [if_neg q]
        try simp (disch := omega) only [a_38 hA hR, a_41 hA hR, a_44 hA hR, a_45 hA hR, g_12_18 hA hR, g_12_21 hA hR, g_12_24 hA hR, g_12_25 hA hR, g_12_26 hA hR, s_38 hA hR, s_41 hA hR, s_44 hA hR, s_45 hA hR, Option.bind_some, up_s, up_k, up_j, up_i, xk_add, xk_sub, xk_mul, xk_neg, lk_add, lN_z, rf_none, rb1, rb0, rbp, xk_nI, zk_eq, zk_lt, zk_eq0, zk_lt0, zk_0lt, zk_long, lz_lt, lz_gt, zmax, zmin, ↓reduceIte, Int.reduceEq, Int.reduceLT, Int.reduceNeg, Int.reduceAdd, Int.reduceSub, Int.reduceMul, Int.ofNat_eq_natCast, Int.cast_ofNat_Int]
        refine ih _ _ (RB.u_ranNow hB) ?_ (by omega) ?_ (by omega) ?_ ?_
        · intro g; rw [up_k (by decide), up_k (by decide)]; exact hW g
        · rw [up_k (by decide)]; omega
        · rw [up_k (by decide)]; exact c0
        · rw [up_k (by decide)]; exact c1
theorem tick25z_ev (hA : WA e z) (hR : WR e) (hB : RB I) (hW : ∀ g, 0 ≤ g → g < (I 12 0 17) → 1 ≤ (I 41 0 g)) (c0 : 0 ≤ (I 12 0 26)) (c1 : (I 12 0 26) < 10000000) {t g : Int} (t0 : -1 ≤ t) (t1 : t < 150) (g0 : 0 ≤ g) (g1 : g < (I 12 0 17)) : Ev (fun F => J12_tick_25 F (rf e 12 0) (xk t) (xk g) (xk 0) (HS e C I z)) (rI t (HS e C (peI (ruI I g t)) z)) := by
  have := RB.groups hB
  refine Ev.step (fun F => E12_tick_25 F _ _ _ _ _) ?_
  simp (disch := omega) only [a_30 hA hR, a_31 hA hR, g_12_10 hA hR, g_12_11 hA hR, g_12_26 hA hR, s_30 hA hR, s_31 hA hR, Option.bind_some, up_s, up_k, up_j, up_i, xk_add, xk_sub, xk_mul, xk_neg, lk_add, lN_z, rf_none, rb1, rb0, rbp, xk_nI, zk_eq, zk_lt, zk_eq0, zk_lt0, zk_0lt, zk_long, lz_lt, lz_gt, zmax, zmin, ↓reduceIte, Int.reduceEq, Int.reduceLT, Int.reduceNeg, Int.reduceAdd, Int.reduceSub, Int.reduceMul, Int.ofNat_eq_natCast, Int.cast_ofNat_Int, zdiv, ll_10000]
  unfold ruI
  refine Ev.ite (fun h => ?_) (fun h => ?_)
  · rw [if_pos (by omega)]
    exact per_ev hA hR hB c0 c1
  · rw [if_neg (by omega)]
    try simp (disch := omega) only [a_30 hA hR, a_31 hA hR, g_12_10 hA hR, g_12_11 hA hR, g_12_26 hA hR, s_30 hA hR, s_31 hA hR, Option.bind_some, up_s, up_k, up_j, up_i, xk_add, xk_sub, xk_mul, xk_neg, lk_add, lN_z, rf_none, rb1, rb0, rbp, xk_nI, zk_eq, zk_lt, zk_eq0, zk_lt0, zk_0lt, zk_long, lz_lt, lz_gt, zmax, zmin, ↓reduceIte, Int.reduceEq, Int.reduceLT, Int.reduceNeg, Int.reduceAdd, Int.reduceSub, Int.reduceMul, Int.ofNat_eq_natCast, Int.cast_ofNat_Int, ll_10000]
    refine tick260_ev hA hR (by omega) t1 20 g _ (RB.u_ran (RB.u_time hB)) ?_ (by omega) ?_ (by omega) ?_ ?_
    · intro g; rw [up_k (by decide), up_k (by decide), up_k (by decide), up_k (by decide)]; exact hW g
    · rw [up_k (by decide), up_k (by decide)]; exact g1
    · rw [up_k (by decide), up_k (by decide)]; exact c0
    · rw [up_k (by decide), up_k (by decide)]; exact c1
theorem tick115_ev (hA : WA e z) (hR : WR e) (hB : RB I) (hK : KB I) {hs : Int → Bool} (hF : ∀ k, 0 ≤ k → k < (I 12 0 17) → I 59 0 k = bI (hs k = true)) {g a b : Int} {r : XV × XH} (g0 : 0 ≤ g) (g1 : g < 20) (a0 : -1 ≤ a) (a1 : a < 150) (hb : AM (rg hs I g) (fun k => (I 45 0 k)) (I 12 0 17) b) (hab : ¬ (a = -1 ∧ b = -1)) (h1 : (0 ≤ b ∧ (a < 0 ∨ (I 45 0 b) < (I 30 0 a))) → Ev (fun F => J12_tick_25 F (rf e 12 0) (xk (-1)) (xk b) (xk 1) (HS e C I z)) r) (h2 : ¬ (0 ≤ b ∧ (a < 0 ∨ (I 45 0 b) < (I 30 0 a))) → Ev (fun F => J12_tick_25 F (rf e 12 0) (xk a) (xk g) (xk 0) (HS e C I z)) r) : ∀ k x, 1 ≤ k → k ≤ (I 12 0 17) → AM (rg hs I g) (fun k => (I 45 0 k)) k x → Ev (fun F => J12_tick_115 F (rf e 12 0) (xk (-1)) (xk g) (xk a) (xk x) (xk k) (HS e C I z)) r := by
  have := RB.groups hB
  intro k
  refine lpN (P := fun k => ∀ x, 1 ≤ k → k ≤ (I 12 0 17) → AM (rg hs I g) (fun k => (I 45 0 k)) k x → Ev (fun F => J12_tick_115 F (rf e 12 0) (xk (-1)) (xk g) (xk a) (xk x) (xk k) (HS e C I z)) r) (I 12 0 17) (fun k ih x k0 k1 hx => ?_) k
  have xb := hx.b (by omega)
  refine Ev.step (fun F => E12_tick_115 F _ _ _ _ _ _ _) ?_
  simp (disch := omega) only [a_30 hA hR, a_38 hA hR, a_45 hA hR, d_12 hA hR, g_12_10 hA hR, g_12_17 hA hR, g_12_18 hA hR, g_12_25 hA hR, Option.bind_some, up_s, up_k, up_j, up_i, xk_add, xk_sub, xk_mul, xk_neg, lk_add, lN_z, rf_none, rb1, rb0, rbp, xk_nI, zk_eq, zk_lt, zk_eq0, zk_lt0, zk_0lt, zk_long, lz_lt, lz_gt, zmax, zmin, ↓reduceIte, Int.reduceEq, Int.reduceLT, Int.reduceNeg, Int.reduceAdd, Int.reduceSub, Int.reduceMul, Int.ofNat_eq_natCast, Int.cast_ofNat_Int]
  refine Ev.ite (fun h => ?_) (fun h => ?_)
  · have := RB.within hB (j := k) (by omega) (by omega)
    have ih := fun x => ih h x (by omega) (by omega)
    have tk := hK.2.1 k (by omega) (by omega)
    try simp (disch := omega) only [a_30 hA hR, a_38 hA hR, a_45 hA hR, d_12 hA hR, g_12_10 hA hR, g_12_17 hA hR, g_12_18 hA hR, g_12_25 hA hR, Option.bind_some, up_s, up_k, up_j, up_i, xk_add, xk_sub, xk_mul, xk_neg, lk_add, lN_z, rf_none, rb1, rb0, rbp, xk_nI, zk_eq, zk_lt, zk_eq0, zk_lt0, zk_0lt, zk_long, lz_lt, lz_gt, zmax, zmin, ↓reduceIte, Int.reduceEq, Int.reduceLT, Int.reduceNeg, Int.reduceAdd, Int.reduceSub, Int.reduceMul, Int.ofNat_eq_natCast, Int.cast_ofNat_Int]
    refine Ev.ite (fun hw => ?_) (fun hw => ih x (hx.no (fun q => hw q.2.2.1)))
    refine Ev.kB (isReadyR_ev hA hR hB (by omega) (by omega) (by omega) (by omega)) (fun hi => ?_) (fun hi => ?_)
    · rw [hF k (by omega) h, bI_1] at hi
      have hq : rg hs I g k := ⟨by omega, h, hw, hi.1, hi.2⟩
      try simp (disch := omega) only [a_30 hA hR, a_38 hA hR, a_45 hA hR, d_12 hA hR, g_12_10 hA hR, g_12_17 hA hR, g_12_18 hA hR, g_12_25 hA hR, Option.bind_some, up_s, up_k, up_j, up_i, xk_add, xk_sub, xk_mul, xk_neg, lk_add, lN_z, rf_none, rb1, rb0, rbp, xk_nI, zk_eq, zk_lt, zk_eq0, zk_lt0, zk_0lt, zk_long, lz_lt, lz_gt, zmax, zmin, ↓reduceIte, Int.reduceEq, Int.reduceLT, Int.reduceNeg, Int.reduceAdd, Int.reduceSub, Int.reduceMul, Int.ofNat_eq_natCast, Int.cast_ofNat_Int]
      refine Ev.ite (fun hz => ih k (hx.take (by omega) hq (Or.inl (by omega)))) (fun hz => ?_)
      have tx := hK.2.1 x (by omega) (by omega)
      try simp (disch := omega) only [a_30 hA hR, a_38 hA hR, a_45 hA hR, d_12 hA hR, g_12_10 hA hR, g_12_17 hA hR, g_12_18 hA hR, g_12_25 hA hR, Option.bind_some, up_s, up_k, up_j, up_i, xk_add, xk_sub, xk_mul, xk_neg, lk_add, lN_z, rf_none, rb1, rb0, rbp, xk_nI, zk_eq, zk_lt, zk_eq0, zk_lt0, zk_0lt, zk_long, lz_lt, lz_gt, zmax, zmin, ↓reduceIte, Int.reduceEq, Int.reduceLT, Int.reduceNeg, Int.reduceAdd, Int.reduceSub, Int.reduceMul, Int.ofNat_eq_natCast, Int.cast_ofNat_Int]
      exact Ev.ite (fun hc => ih k (hx.take (by omega) hq (Or.inr hc))) (fun hc => ih x (hx.keep (by omega) (by show (I 45 0 x) ≤ (I 45 0 k); omega)))
    · rw [hF k (by omega) h, bI_1] at hi
      try simp (disch := omega) only [a_30 hA hR, a_38 hA hR, a_45 hA hR, d_12 hA hR, g_12_10 hA hR, g_12_17 hA hR, g_12_18 hA hR, g_12_25 hA hR, Option.bind_some, up_s, up_k, up_j, up_i, xk_add, xk_sub, xk_mul, xk_neg, lk_add, lN_z, rf_none, rb1, rb0, rbp, xk_nI, zk_eq, zk_lt, zk_eq0, zk_lt0, zk_0lt, zk_long, lz_lt, lz_gt, zmax, zmin, ↓reduceIte, Int.reduceEq, Int.reduceLT, Int.reduceNeg, Int.reduceAdd, Int.reduceSub, Int.reduceMul, Int.ofNat_eq_natCast, Int.cast_ofNat_Int]
      exact ih x (hx.no (fun q => hi ⟨q.2.2.2.1, q.2.2.2.2⟩))
  · have : k = (I 12 0 17) := by omega
    subst this
    have e := hx.uq hb
    subst e
    refine Ev.ite (fun q => h1 ⟨by omega, by omega⟩) (fun q => ?_)
    refine Ev.ite (fun q => h2 (by omega)) (fun q => ?_)
    have ta := hK.1 a (by omega) (by omega)
    have tx := hK.2.1 x (by omega) (by omega)
    try simp (disch := omega) only [a_30 hA hR, a_38 hA hR, a_45 hA hR, d_12 hA hR, g_12_10 hA hR, g_12_17 hA hR, g_12_18 hA hR, g_12_25 hA hR, Option.bind_some, up_s, up_k, up_j, up_i, xk_add, xk_sub, xk_mul, xk_neg, lk_add, lN_z, rf_none, rb1, rb0, rbp, xk_nI, zk_eq, zk_lt, zk_eq0, zk_lt0, zk_0lt, zk_long, lz_lt, lz_gt, zmax, zmin, ↓reduceIte, Int.reduceEq, Int.reduceLT, Int.reduceNeg, Int.reduceAdd, Int.reduceSub, Int.reduceMul, Int.ofNat_eq_natCast, Int.cast_ofNat_Int]
    exact Ev.ite (fun q => h1 ⟨by omega, by omega⟩) (fun q => h2 (by omega))
theorem tick38_ev (hA : WA e z) (hR : WR e) (hB : RB I) {g a : Int} {r : XV × XH} (hK : KB I) (g0 : 0 ≤ g) (g1 : g < 20) (ha : AM (rt I g) (fun k => (I 30 0 k)) (I 12 0 1) a) (hr : Ev (fun F => J12_tick_115 F (rf e 12 0) (xk (-1)) (xk g) (xk a) (xk (-1)) (xk 1) (HS e C I z)) r) : ∀ k x, 0 ≤ k → k ≤ (I 12 0 1) → AM (rt I g) (fun k => (I 30 0 k)) k x → Ev (fun F => J12_tick_38 F (rf e 12 0) (xk (-1)) (xk g) (xk x) (xk (-1)) (xk k) (HS e C I z)) r := by
  have := RB.tasks hB
  intro k
  refine lpN (P := fun k => ∀ x, 0 ≤ k → k ≤ (I 12 0 1) → AM (rt I g) (fun k => (I 30 0 k)) k x → Ev (fun F => J12_tick_38 F (rf e 12 0) (xk (-1)) (xk g) (xk x) (xk (-1)) (xk k) (HS e C I z)) r) (I 12 0 1) (fun k ih x k0 k1 hx => ?_) k
  have xb := hx.b (by omega)
  refine Ev.step (fun F => E12_tick_38 F _ _ _ _ _ _ _) ?_
  simp (disch := omega) only [a_22 hA hR, a_25 hA hR, a_29 hA hR, a_30 hA hR, g_12_1 hA hR, g_12_10 hA hR, g_12_2 hA hR, g_12_5 hA hR, g_12_9 hA hR, Option.bind_some, up_s, up_k, up_j, up_i, xk_add, xk_sub, xk_mul, xk_neg, lk_add, lN_z, rf_none, rb1, rb0, rbp, xk_nI, zk_eq, zk_lt, zk_eq0, zk_lt0, zk_0lt, zk_long, lz_lt, lz_gt, zmax, zmin, ↓reduceIte, Int.reduceEq, Int.reduceLT, Int.reduceNeg, Int.reduceAdd, Int.reduceSub, Int.reduceMul, Int.ofNat_eq_natCast, Int.cast_ofNat_Int]
  refine Ev.ite (fun h => ?_) (fun h => ?_)
  · have := RB.state hB (j := k) (by omega) (by omega)
    have := RB.asleep hB (j := k) (by omega) (by omega)
    have := RB.group hB (j := k) (by omega) (by omega)
    have ih := fun x => ih h x (by omega) (by omega)
    have tk := hK.1 k (by omega) (by omega)
    try simp (disch := omega) only [a_22 hA hR, a_25 hA hR, a_29 hA hR, a_30 hA hR, g_12_1 hA hR, g_12_10 hA hR, g_12_2 hA hR, g_12_5 hA hR, g_12_9 hA hR, Option.bind_some, up_s, up_k, up_j, up_i, xk_add, xk_sub, xk_mul, xk_neg, lk_add, lN_z, rf_none, rb1, rb0, rbp, xk_nI, zk_eq, zk_lt, zk_eq0, zk_lt0, zk_0lt, zk_long, lz_lt, lz_gt, zmax, zmin, ↓reduceIte, Int.reduceEq, Int.reduceLT, Int.reduceNeg, Int.reduceAdd, Int.reduceSub, Int.reduceMul, Int.ofNat_eq_natCast, Int.cast_ofNat_Int]
    refine Ev.ite (fun h1 => ?_) (fun h1 => ih x (hx.no (fun q => h1 q.2.2.1)))
    refine Ev.ite (fun h2 => ?_) (fun h2 => ih x (hx.no (fun q => h2 q.2.2.2.1)))
    refine Ev.ite (fun h3 => ?_) (fun h3 => ih x (hx.no (fun q => h3 q.2.2.2.2)))
    have hq : rt I g k := ⟨k0, h, h1, h2, h3⟩
    refine Ev.ite (fun hz => ih k (hx.take (by omega) hq (Or.inl (by omega)))) (fun hz => ?_)
    have tx := hK.1 x (by omega) (by omega)
    try simp (disch := omega) only [a_22 hA hR, a_25 hA hR, a_29 hA hR, a_30 hA hR, g_12_1 hA hR, g_12_10 hA hR, g_12_2 hA hR, g_12_5 hA hR, g_12_9 hA hR, Option.bind_some, up_s, up_k, up_j, up_i, xk_add, xk_sub, xk_mul, xk_neg, lk_add, lN_z, rf_none, rb1, rb0, rbp, xk_nI, zk_eq, zk_lt, zk_eq0, zk_lt0, zk_0lt, zk_long, lz_lt, lz_gt, zmax, zmin, ↓reduceIte, Int.reduceEq, Int.reduceLT, Int.reduceNeg, Int.reduceAdd, Int.reduceSub, Int.reduceMul, Int.ofNat_eq_natCast, Int.cast_ofNat_Int]
    exact Ev.ite (fun hc => ih k (hx.take (by omega) hq (Or.inr hc))) (fun hc => ih x (hx.keep (by omega) (by show (I 30 0 x) ≤ (I 30 0 k); omega)))
  · have : k = (I 12 0 1) := by omega
    subst this
    rw [hx.uq ha]
    exact hr
theorem tick25_ev (hA : WA e z) (hR : WR e) (hB : RB I) (hK : KB I) {hs : Int → Bool} (hH : HsR I hs) (hF : ∀ k, 0 ≤ k → k < (I 12 0 17) → I 59 0 k = bI (hs k = true)) {ft fg : Int → Int} (hf : FtR hs I ft fg) {r : XV × XH} : ∀ (n : Nat) (g : Int), 0 ≤ g → g < (I 12 0 17) → (I 12 0 17) - g ≤ n → hs g = true → Ev (fun F => J12_tick_25 F (rf e 12 0) (xk (wkF I ft fg n g).2) (xk (wkF I ft fg n g).1) (xk 0) (HS e C I z)) r → Ev (fun F => J12_tick_25 F (rf e 12 0) (xk (-1)) (xk g) (xk 1) (HS e C I z)) r := by
  have := RB.groups hB
  have := RB.tasks hB
  intro n
  induction n with
  | zero => intro g a b c; omega
  | succ n ih =>
    intro g g0 g1 gn hg hr
    have q := hf g g0 g1
    have ab := q.1.b (by omega)
    have bb := q.2.b (by omega)
    have hab : ¬ (ft g = -1 ∧ fg g = -1) := by
      rintro ⟨w1, w2⟩
      rcases (hH g g0 g1).mp hg with ⟨t, ht⟩ | ⟨k, hk⟩
      · rcases q.1 with p | p
        · exact p.2 t ht.1 ht.2.1 ht
        · omega
      · rcases q.2 with p | p
        · exact p.2 k (by have := hk.1; omega) hk.2.1 hk
        · omega
    rw [wkF] at hr
    refine Ev.step (fun F => E12_tick_25 F _ _ _ _ _) ?_
    simp (disch := omega) only [a_30 hA hR, a_31 hA hR, g_12_10 hA hR, g_12_11 hA hR, g_12_26 hA hR, s_30 hA hR, s_31 hA hR, Option.bind_some, up_s, up_k, up_j, up_i, xk_add, xk_sub, xk_mul, xk_neg, lk_add, lN_z, rf_none, rb1, rb0, rbp, xk_nI, zk_eq, zk_lt, zk_eq0, zk_lt0, zk_0lt, zk_long, lz_lt, lz_gt, zmax, zmin, ↓reduceIte, Int.reduceEq, Int.reduceLT, Int.reduceNeg, Int.reduceAdd, Int.reduceSub, Int.reduceMul, Int.ofNat_eq_natCast, Int.cast_ofNat_Int]
    refine tick38_ev hA hR hB hK g0 (by omega) q.1 ?_ 0 (-1) (by omega) (by omega) AM.z
    refine tick115_ev hA hR hB hK hF g0 (by omega) (by omega) (by omega) q.2 hab (fun w => ?_) (fun w => ?_) 1 (-1) (by omega) (by omega) (AM.z.no (fun q => absurd q.1 (by omega)))
    · have p := q.2.p w.1
      have := RB.wiw hB (j := (fg g)) (by omega) (by omega)
      rw [if_pos (ld_i.mpr w)] at hr
      have := p.2.2.1
      exact ih (fg g) w.1 bb.2 (by omega) p.2.2.2.1 hr
    · rw [if_neg (fun y => w (ld_i.mp y))] at hr
      exact hr
theorem wk_b {J : ST} {ft fg : Int → Int} {hs : Int → Bool} (hf : FtR hs J ft fg) (hB : RB J) : ∀ (n : Nat) (g : Int), 0 ≤ g → g < (J 12 0 17) → (0 ≤ (wkF J ft fg n g).1 ∧ (wkF J ft fg n g).1 < (J 12 0 17)) ∧ (-1 ≤ (wkF J ft fg n g).2 ∧ (wkF J ft fg n g).2 < (J 12 0 1)) ∧ (0 ≤ (wkF J ft fg n g).2 → rt J (wkF J ft fg n g).1 (wkF J ft fg n g).2) := by
  have := RB.groups hB
  have := RB.tasks hB
  intro n
  induction n with
  | zero =>
    intro g g0 g1
    have q := (hf g g0 g1).1
    exact ⟨⟨g0, g1⟩, q.b (by omega), fun w => q.p w⟩
  | succ n ih =>
    intro g g0 g1
    rw [wkF]
    split
    · rename_i w
      exact ih _ (ld_i.mp w).1 ((hf g g0 g1).2.b (by omega)).2
    · have q := (hf g g0 g1).1
      exact ⟨⟨g0, g1⟩, q.b (by omega), fun w => q.p w⟩
def tkJ (J : ST) (hs : Int → Bool) : ST := frI (up J 12 0 26 ((J 12 0 26) + 1)) hs
def tkI (J : ST) (hs : Int → Bool) (ft fg : Int → Int) : ST := peI (ruI (tkJ J hs) (wkF J ft fg 20 0).1 (wkF J ft fg 20 0).2)
theorem wkF_c {J J' : ST} {ft fg : Int → Int} (h1 : ∀ j, J' 30 0 j = J 30 0 j) (h2 : ∀ j, J' 45 0 j = J 45 0 j) : wkF J' ft fg = wkF J ft fg := by
  funext n
  induction n with
  | zero => rfl
  | succ n ih =>
    funext g
    rw [wkF, wkF, ih]
    unfold ldB
    rw [h1, h2]
theorem tkJ_f {J : ST} {hs : Int → Bool} {k : Nat} {i j : Int} (h : k ≠ 12 ∨ j ≠ 26) (h' : k ≠ 59) : tkJ J hs k i j = J k i j := by
  unfold tkJ
  rw [fr_f h']
  unfold up
  rw [if_neg (by omega)]
theorem rt_tk {J : ST} {hs : Int → Bool} : rt (tkJ J hs) = rt J := rt_c (tkJ_f (Or.inr (by decide)) (by decide)) (fun _ => tkJ_f (Or.inl (by decide)) (by decide)) (fun _ => tkJ_f (Or.inl (by decide)) (by decide)) (fun _ => tkJ_f (Or.inl (by decide)) (by decide))
theorem rg_tk {J : ST} {hs hs' : Int → Bool} : rg hs' (tkJ J hs) = rg hs' J := rg_c (tkJ_f (Or.inr (by decide)) (by decide)) (fun _ => tkJ_f (Or.inl (by decide)) (by decide)) (fun _ => tkJ_f (Or.inl (by decide)) (by decide)) (fun _ => tkJ_f (Or.inl (by decide)) (by decide))
theorem KB.cl {J : ST} (h : KB J) (hc : (J 12 0 26) + 1 < 1000000) : KB (up J 12 0 26 ((J 12 0 26) + 1)) := by
  refine ⟨fun t => ?_, fun g => ?_, ?_⟩
  · rw [up_k (by decide)]; exact h.1 t
  · rw [up_k (by decide), up_k (by decide)]; exact h.2.1 g
  · rw [up_s]; have := h.2.2; omega
theorem tick_ev (hA : WA e z) (hR : WR e) (hB : RB I) (hK : KB I) (hc : (I 12 0 26) + 1 < 1000000) (hW : ∀ g, 0 ≤ g → g < (I 12 0 17) → 1 ≤ (I 41 0 g)) {hs : Int → Bool} (hH : HsR I hs) {ft fg : Int → Int} (hf : FtR hs I ft fg) : Ev (fun F => J12_tick F (rf e 12 0) (HS e C I z)) (rI (wkF I ft fg 20 0).2 (HS e C (tkI I hs ft fg) z)) := by
  have := RB.groups hB
  have := RB.tasks hB
  have hB1 : RB (up I 12 0 26 ((I 12 0 26) + 1)) := hB.uS (by omega) (by omega) (by omega) (by omega)
  have hK1 := hK.cl hc
  have r1 : rt (up I 12 0 26 ((I 12 0 26) + 1)) = rt I := rt_c (up_j (by decide)) (fun _ => up_k (by decide)) (fun _ => up_k (by decide)) (fun _ => up_k (by decide))
  have r2 : ∀ hs, rg hs (up I 12 0 26 ((I 12 0 26) + 1)) = rg hs I := fun hs => rg_c (up_j (by decide)) (fun _ => up_k (by decide)) (fun _ => up_k (by decide)) (fun _ => up_k (by decide))
  have hH1 : HsR (up I 12 0 26 ((I 12 0 26) + 1)) hs := by
    intro g
    rw [r1, r2, up_j (by decide)]
    exact hH g
  have eg : tkJ I hs 12 0 17 = (I 12 0 17) := tkJ_f (Or.inr (by decide)) (by decide)
  have et : tkJ I hs 12 0 1 = (I 12 0 1) := tkJ_f (Or.inr (by decide)) (by decide)
  have h0 : tkJ I hs 59 0 0 = bI (hs 0 = true) := fr_h (by omega) (by rw [up_j (by decide)]; omega)
  have hB2 : RB (tkJ I hs) := hB1.fri
  have hK2 : KB (tkJ I hs) := hK1.fr
  have ew : wkF (tkJ I hs) ft fg = wkF I ft fg := wkF_c (fun j => tkJ_f (Or.inl (by decide)) (by decide)) (fun j => tkJ_f (Or.inl (by decide)) (by decide))
  have wb := wk_b hf hB 20 0 (by omega) (by omega)
  have zz : Ev (fun F => J12_tick_25 F (rf e 12 0) (xk (wkF I ft fg 20 0).2) (xk (wkF I ft fg 20 0).1) (xk 0) (HS e C (tkJ I hs) z)) (rI (wkF I ft fg 20 0).2 (HS e C (tkI I hs ft fg) z)) := by
    refine tick25z_ev hA hR hB2 ?_ hK2.2.2.1 (by have := hK2.2.2; omega) wb.2.1.1 (by omega) wb.1.1 (by omega)
    intro g
    rw [eg, tkJ_f (Or.inl (by decide)) (by decide)]
    exact hW g
  refine Ev.step (fun F => E12_tick F _ _) ?_
  simp (disch := omega) only [a_59 hA hR, d_12 hA hR, g_12_26 hA hR, g_12_39 hA hR, p_12_26 hA hR, Option.bind_some, up_s, up_k, up_j, up_i, xk_add, xk_sub, xk_mul, xk_neg, lk_add, lN_z, rf_none, rb1, rb0, rbp, xk_nI, zk_eq, zk_lt, zk_eq0, zk_lt0, zk_0lt, zk_long, lz_lt, lz_gt, zmax, zmin, ↓reduceIte, Int.reduceEq, Int.reduceLT, Int.reduceNeg, Int.reduceAdd, Int.reduceSub, Int.reduceMul, Int.ofNat_eq_natCast, Int.cast_ofNat_Int]
  refine Ev.kV (findReady_ev hA hR hB1 hK1 hH1) ?_
  show Ev (fun F => (xgr (HS e C (tkJ I hs) z) (rf e 12 0) 12 39).bind fun v4 => (xaz (HS e C (tkJ I hs) z) v4 (xk 0)).bind fun v5 => J12_tick_25 F (rf e 12 0) (xk (-1)) (xk 0) v5 (HS e C (tkJ I hs) z)) _
  simp (disch := omega) only [g_12_39 hA hR, a_59 hA hR, h0, Option.bind_some, up_s, up_k, up_j, up_i, xk_add, xk_sub, xk_mul, xk_neg, lk_add, lN_z, rf_none, rb1, rb0, rbp, xk_nI, zk_eq, zk_lt, zk_eq0, zk_lt0, zk_0lt, zk_long, lz_lt, lz_gt, zmax, zmin, ↓reduceIte, Int.reduceEq, Int.reduceLT, Int.reduceNeg, Int.reduceAdd, Int.reduceSub, Int.reduceMul, Int.ofNat_eq_natCast, Int.cast_ofNat_Int]
  by_cases hb : hs 0 = true
  · rw [bI_t hb]
    refine tick25_ev hA hR hB2 hK2 (hs := hs) ?_ ?_ (ft := ft) (fg := fg) ?_ 20 0 (by omega) (by omega) (by omega) hb (by rw [ew]; exact zz)
    · intro g
      rw [rt_tk, rg_tk, eg]
      exact hH g
    · intro k k0 k1
      rw [eg] at k1
      exact fr_h k0 (by rw [up_j (by decide)]; exact k1)
    · intro g g0 g1
      rw [rt_tk, rg_tk, eg, et]
      rw [eg] at g1
      have := hf g g0 g1
      refine ⟨this.1.c (fun _ _ _ => Iff.rfl) (fun t _ _ _ => tkJ_f (Or.inl (by decide)) (by decide)), this.2.c (fun _ _ _ => Iff.rfl) (fun t _ _ _ => tkJ_f (Or.inl (by decide)) (by decide))⟩
  · rw [bI_f hb]
    have q := hf 0 (by omega) (by omega)
    have n1 : ft 0 = -1 := by
      rcases q.1 with p | p
      · exact p.1
      · exact absurd ((hH 0 (by omega) (by omega)).mpr (Or.inl ⟨_, p.2.2.1⟩)) hb
    have n2 : fg 0 = -1 := by
      rcases q.2 with p | p
      · exact p.1
      · exact absurd ((hH 0 (by omega) (by omega)).mpr (Or.inr ⟨_, p.2.2.1⟩)) hb
    have e1 : wkF I ft fg 20 0 = (0, -1) := by
      rw [wkF, if_neg (fun w => by have := (ld_i.mp w).1; omega), n1]
    rw [e1] at zz ⊢
    exact zz
end RA
