/-! pairs: move, group -/
theorem tkB_ok {J : ST} (hB : RB J) {f p : Int} : ∀ (n : Nat) (g : Int), g < n → -1 ≤ g → g < (J 12 0 17) → tkB J f p n g = true → ∀ x, 0 ≤ x → win J g x = true → win J f x = false → usF J x + p ≤ (J 40 0 x) := by
  have := RB.groups hB
  intro n
  induction n with
  | zero =>
    intro g h0 h1 h2 hb x x0 hw hf
    exfalso
    rw [win_u hB h1 (by omega), if_neg (by omega), if_pos (by omega)] at hw
    exact absurd hw (by decide)
  | succ n ih =>
    intro g h0 h1 h2 hb x x0 hw hf
    rw [tkB] at hb
    rw [win_u hB h1 (by omega)] at hw
    by_cases hg : g < 0
    · exfalso
      rw [if_neg (by omega), if_pos hg] at hw
      exact absurd hw (by decide)
    · rw [if_neg hg] at hb
      rw [if_neg hg] at hw
      have w := RB.ww hB g (by omega) (by omega)
      by_cases hx : g = x
      · subst hx
        rw [hf, if_neg (by decide)] at hb
        by_cases q : (J 39 0 g) < lvF J g + 1 ∨ (J 40 0 g) < usF J g + p
        · rw [if_pos q] at hb
          exact absurd hb (by decide)
        · omega
      · rw [if_neg hx] at hw
        refine ih (J 38 0 g) (by omega) (by omega) (by omega) ?_ x x0 hw hf
        by_cases y : win J f g = true
        · rw [if_pos y] at hb; exact hb
        · rw [if_neg y] at hb
          by_cases q : (J 39 0 g) < lvF J g + 1 ∨ (J 40 0 g) < usF J g + p
          · rw [if_pos q] at hb
            exact absurd hb (by decide)
          · rw [if_neg q] at hb; exact hb
section OPs
variable {e : EN} {C I J : ST} {z : Nat × Nat × Nat × Nat} {n : Int}
theorem Inv.mv (h : Inv n J) {m t to : Int} (hm : n ≤ m) (t0 : 0 ≤ t) (t1 : t < (J 12 0 1)) (hs : (J 22 0 t) = 0) (o0 : 0 ≤ to) (o1 : to < (J 12 0 17)) (hk : tkB J (J 25 0 t) (J 27 0 t) 20 to = true) : Inv m (up J 25 0 t to) := by
  obtain ⟨h1, h2, h3, h4, h5, h6, h7, h8, h9⟩ := h
  have hB := h1.1
  have gk := RB.groups hB
  have tk := RB.tasks hB
  have ej : ∀ k i j, k ≠ 25 → up J 25 0 t to k i j = J k i j := fun k i j a => up_k a
  have hT : TI (up J 25 0 t to) := by
    obtain ⟨q1, q2, q3, q4, q5, q6, q7⟩ := h1
    have el : lin (up J 25 0 t to) = lin J := lin_c (fun j => ej _ _ _ (by decide))
    refine ⟨RB.u_group hB (by omega) (by omega), ?_, ?_, ?_, fun x x0 x1 => ?_, ?_, ?_⟩
    · simp (disch := decide) only [ej]; exact q2
    · simp (disch := decide) only [ej]; exact q3
    · simp (disch := decide) only [ej]; exact q4
    · simp (disch := decide) only [ej] at x1 ⊢
      have y := q5 x x0 x1
      refine ⟨y.1, y.2.1, ?_, y.2.2.2⟩
      by_cases hx : x = t
      · rw [hx, up_s]; exact o1
      · rw [up_j hx]; exact y.2.2.1
    · simp (disch := decide) only [ej, el]; exact q6
    · simp (disch := decide) only [ej, el]; exact q7
  have bt := h1.b t0 t1
  have pg := RB.pages hB (j := t) t0 (by omega)
  refine ⟨hT, h2.c (ej _ _ _ (by decide)) (fun j => ej _ _ _ (by decide)) (fun j => ej _ _ _ (by decide)), fun g g0 g1 => ?_, h4.c (ej _ _ _ (by decide)) (fun j => ej _ _ _ (by decide)) (fun j => ej _ _ _ (by decide)), h5.c (ej _ _ _ (by decide)) (fun j => ej _ _ _ (by decide)) (fun j => ej _ _ _ (by decide)) (fun j => ej _ _ _ (by decide)), h6.c (ej _ _ _ (by decide)) (ej _ _ _ (by decide)) (fun j => ej _ _ _ (by decide)) (fun j => ej _ _ _ (by decide)) (fun j => ej _ _ _ (by decide)) (fun j => ej _ _ _ (by decide)) (fun j => ej _ _ _ (by decide)), h7.c hm (ej _ _ _ (by decide)) (fun j => ej _ _ _ (by decide)) (fun j => ej _ _ _ (by decide)) (fun j => ej _ _ _ (by decide)), h8.c (ej _ _ _ (by decide)) (fun k j a b => ej _ _ _ (by omega)), h9.c hm (ej _ _ _ (by decide)) (fun j => ej _ _ _ (by decide))⟩
  rw [ej _ _ _ (by decide)] at g1
  rw [ej _ _ _ (by decide), (usF_mv (to := to) t0 t1 hs).1]
  have u := h3 g g0 g1
  by_cases hw : win J to g = true
  · rw [if_pos hw]
    by_cases hf : win J (J 25 0 t) g = true
    · rw [if_pos hf]; omega
    · have := tkB_ok hB 20 to (by omega) (by omega) o1 hk g g0 hw (by simpa using hf)
      rw [if_neg hf]; omega
  · rw [if_neg hw]
    split <;> omega
theorem move_pr (hO : OK n e C I z) (hn : n ≤ 600) {t to : Int} (t0 : -2147483648 ≤ t) (t1 : t < 2147483648) (o0 : -2147483648 ≤ to) (o1 : to < 2147483648) : PR n e C I z (fun F s => J11_move F (rf e 11 0) (xk t) (xk to) s) (fun F s => J12_move F (rf e 12 0) (xk t) (xk to) s) := by
  obtain ⟨hA, hR, hC0, hI0⟩ := hO
  have hO : OK n e C I z := ⟨hA, hR, hC0, hI0⟩
  have hC := hC0.th (v := 0)
  have hI := hI0.th (m := n) (v := 0) (by omega)
  have hT := hI.ti
  generalize hJ : th I 0 = J at *
  have n8 := hC.1.1
  have n7 := hC.2.1.1
  have n1 := hC.2.2.1.1
  have n10 := hC.2.2.2.2.1.1
  have hB := hT.1
  have := RB.tasks hB
  have := RB.spaces hB
  have := RB.groups hB
  have := RB.views hB
  have n4 := hA.2.2.2.1
  have lv := living_ev (I := I) hA hC hT t0 t1
  have ma := madeAt_ev (I := I) hA hC hT o0 o1
  have rp : ∀ {C' : ST} {r}, (0 ≤ t ∧ t < (J 12 0 1) ∧ (J 22 0 t) = 0 → (0 ≤ to ∧ to < (J 12 0 17)) → Ev (fun F => if (J 25 0 t) = to then some (.inl (some (.inl (xk 0))), HS e C' J z) else J12_move_40 F (rf e 12 0) (xk t) (xk to) (xk (J 25 0 t)) (xk to) (HS e C' J z)) r) → (¬ ((0 ≤ t ∧ t < (J 12 0 1) ∧ (J 22 0 t) = 0) ∧ (0 ≤ to ∧ to < (J 12 0 17))) → r = rI (-1) (HS e C' J z)) → Ev (fun F => J12_move F (rf e 12 0) (xk t) (xk to) (HS e C' I z)) r := by
    intro C' r h1 h2
    refine Ev.step (fun F => E12_move F _ _ _ _) ?_
    simp (disch := omega) only [a_25 hA hR, d_12 hA hR, g_12_5 hA hR, p_12_0 hA hR, Option.bind_some, up_s, up_k, up_j, up_i, xk_add, xk_sub, xk_mul, xk_neg, lk_add, lN_z, rf_none, rb1, rb0, rbp, xk_nI, zk_eq, zk_lt, zk_eq0, zk_lt0, zk_0lt, zk_long, lz_lt, lz_gt, zmax, zmin, ↓reduceIte, Int.reduceEq, Int.reduceLT, Int.reduceNeg, Int.reduceAdd, Int.reduceSub, Int.reduceMul, Int.ofNat_eq_natCast, Int.cast_ofNat_Int]
    rw [show up I 12 0 0 0 = J from hJ]
    refine Ev.kB (isLive_r hA hR hB t0 t1) (fun q => ?_) (fun q => ?_)
    · try simp (maxSteps := 2000000) (disch := omega) only [a_25 hA hR, d_12 hA hR, g_12_5 hA hR, p_12_0 hA hR, Option.bind_some, up_s, up_k, up_j, up_i, xk_add, xk_sub, xk_mul, xk_neg, lk_add, lN_z, rf_none, rb1, rb0, rbp, xk_nI, zk_eq, zk_lt, zk_eq0, zk_lt0, zk_0lt, zk_long, lz_lt, lz_gt, zmax, zmin, ↓reduceIte, Int.reduceEq, Int.reduceLT, Int.reduceNeg, Int.reduceAdd, Int.reduceSub, Int.reduceMul, Int.ofNat_eq_natCast, Int.cast_ofNat_Int]
      refine Ev.kB (isGroup_ev hA hR hB o0 o1) (fun q' => ?_) (fun q' => ?_)
      · have bt := hT.b q.1 q.2.1
        have h1 := h1 q q'
        try simp (maxSteps := 2000000) (disch := omega) only [a_25 hA hR, d_12 hA hR, g_12_5 hA hR, p_12_0 hA hR, Option.bind_some, up_s, up_k, up_j, up_i, xk_add, xk_sub, xk_mul, xk_neg, lk_add, lN_z, rf_none, rb1, rb0, rbp, xk_nI, zk_eq, zk_lt, zk_eq0, zk_lt0, zk_0lt, zk_long, lz_lt, lz_gt, zmax, zmin, ↓reduceIte, Int.reduceEq, Int.reduceLT, Int.reduceNeg, Int.reduceAdd, Int.reduceSub, Int.reduceMul, Int.ofNat_eq_natCast, Int.cast_ofNat_Int]
        exact h1
      · try simp (maxSteps := 2000000) (disch := omega) only [a_25 hA hR, d_12 hA hR, g_12_5 hA hR, p_12_0 hA hR, Option.bind_some, up_s, up_k, up_j, up_i, xk_add, xk_sub, xk_mul, xk_neg, lk_add, lN_z, rf_none, rb1, rb0, rbp, xk_nI, zk_eq, zk_lt, zk_eq0, zk_lt0, zk_0lt, zk_long, lz_lt, lz_gt, zmax, zmin, ↓reduceIte, Int.reduceEq, Int.reduceLT, Int.reduceNeg, Int.reduceAdd, Int.reduceSub, Int.reduceMul, Int.ofNat_eq_natCast, Int.cast_ofNat_Int]
        exact Ev.ret (h2 (fun w => q' w.2)).symm
    · try simp (maxSteps := 2000000) (disch := omega) only [a_25 hA hR, d_12 hA hR, g_12_5 hA hR, p_12_0 hA hR, Option.bind_some, up_s, up_k, up_j, up_i, xk_add, xk_sub, xk_mul, xk_neg, lk_add, lN_z, rf_none, rb1, rb0, rbp, xk_nI, zk_eq, zk_lt, zk_eq0, zk_lt0, zk_0lt, zk_long, lz_lt, lz_gt, zmax, zmin, ↓reduceIte, Int.reduceEq, Int.reduceLT, Int.reduceNeg, Int.reduceAdd, Int.reduceSub, Int.reduceMul, Int.ofNat_eq_natCast, Int.cast_ofNat_Int]
      exact Ev.ret (h2 (fun w => q w.1)).symm
  by_cases h : (0 ≤ t ∧ t < (J 12 0 1) ∧ (J 22 0 t) = 0) ∧ (0 ≤ to ∧ to < (J 12 0 17))
  · have bt := hT.b h.1.1 h.1.2.1
    rw [if_pos h.2] at ma
    have c4 := hC.1.group h.1.1 h.1.2.1
    by_cases hs : (J 25 0 t) = to
    · refine PR.look hO (A := 0) (by decide) (by decide) ?_ ?_
      · refine Ev.step (fun F => E11_move F _ _ _ _) ?_
        simp (disch := omega) only [d_0 hA, d_1 hA, d_2 hA, d_8 hA, d_9 hA, g_11_0 hA, g_11_1 hA, g_11_3 hA, g_8_4 hA, Option.bind_some, up_s, up_k, up_j, up_i, xk_add, xk_sub, xk_mul, xk_neg, lk_add, lN_z, rf_none, rb1, rb0, rbp, xk_nI, zk_eq, zk_lt, zk_eq0, zk_lt0, zk_0lt, zk_long, lz_lt, lz_gt, zmax, zmin, ↓reduceIte, Int.reduceEq, Int.reduceLT, Int.reduceNeg, Int.reduceAdd, Int.reduceSub, Int.reduceMul, Int.ofNat_eq_natCast, Int.cast_ofNat_Int]
        refine Ev.kR lv ?_
        rw [lvg_y h.1]
        try simp (maxSteps := 2000000) (disch := omega) only [d_0 hA, d_1 hA, d_2 hA, d_8 hA, d_9 hA, g_11_0 hA, g_11_1 hA, g_11_3 hA, g_8_4 hA, Option.bind_some, up_s, up_k, up_j, up_i, xk_add, xk_sub, xk_mul, xk_neg, lk_add, lN_z, rf_none, rb1, rb0, rbp, xk_nI, zk_eq, zk_lt, zk_eq0, zk_lt0, zk_0lt, zk_long, lz_lt, lz_gt, zmax, zmin, ↓reduceIte, Int.reduceEq, Int.reduceLT, Int.reduceNeg, Int.reduceAdd, Int.reduceSub, Int.reduceMul, Int.ofNat_eq_natCast, Int.cast_ofNat_Int]
        refine Ev.kR ma ?_
        try simp (maxSteps := 2000000) (disch := omega) only [d_0 hA, d_1 hA, d_2 hA, d_8 hA, d_9 hA, g_11_0 hA, g_11_1 hA, g_11_3 hA, g_8_4 hA, Option.bind_some, up_s, up_k, up_j, up_i, xk_add, xk_sub, xk_mul, xk_neg, lk_add, lN_z, rf_none, rb1, rb0, rbp, xk_nI, zk_eq, zk_lt, zk_eq0, zk_lt0, zk_0lt, zk_long, lz_lt, lz_gt, zmax, zmin, ↓reduceIte, Int.reduceEq, Int.reduceLT, Int.reduceNeg, Int.reduceAdd, Int.reduceSub, Int.reduceMul, Int.ofNat_eq_natCast, Int.cast_ofNat_Int, c4, rf_eq hA]
        refine Ev.ite (fun q => absurd q (by omega)) (fun _ => ?_)
        refine Ev.ite (fun q => absurd q (by omega)) (fun _ => ?_)
        exact Ev.ite (fun _ => Ev.ret rfl) (fun q => absurd hs q)
      · rw [hJ]
        exact rp (fun _ _ => Ev.ite (fun _ => Ev.ret rfl) (fun q => absurd hs q)) (fun q => absurd h q)
    · have tf := takesFrom_ev (I := I) hA hC hT hI.gu h.1.1 h.1.2.1 20 to (by omega) (by omega) h.2.2
      have cl : ∀ {r}, (tkB J (J 25 0 t) (J 27 0 t) 20 to = true → Ev (fun F => xcv (J8_changeGroup F (rf e 8 t) (rf e 1 to) (HS e C I z)) fun s10 => (xgr s10 (rf e 11 0) 11 3).bind fun v11 => xgd s10 v11 0 (xcv (J0_admit F v11 (rf e 8 t) (xk 1) s10) fun s12 => some (.inl (some (.inl (xk 1))), s12))) r) → (¬ tkB J (J 25 0 t) (J 27 0 t) 20 to = true → r = rI (-3) (HS e C I z)) → Ev (fun F => J11_move F (rf e 11 0) (xk t) (xk to) (HS e C I z)) r := by
        intro r h1 h2
        refine Ev.step (fun F => E11_move F _ _ _ _) ?_
        simp (disch := omega) only [d_0 hA, d_1 hA, d_2 hA, d_8 hA, d_9 hA, g_11_0 hA, g_11_1 hA, g_11_3 hA, g_8_4 hA, Option.bind_some, up_s, up_k, up_j, up_i, xk_add, xk_sub, xk_mul, xk_neg, lk_add, lN_z, rf_none, rb1, rb0, rbp, xk_nI, zk_eq, zk_lt, zk_eq0, zk_lt0, zk_0lt, zk_long, lz_lt, lz_gt, zmax, zmin, ↓reduceIte, Int.reduceEq, Int.reduceLT, Int.reduceNeg, Int.reduceAdd, Int.reduceSub, Int.reduceMul, Int.ofNat_eq_natCast, Int.cast_ofNat_Int]
        refine Ev.kR lv ?_
        rw [lvg_y h.1]
        try simp (maxSteps := 2000000) (disch := omega) only [d_0 hA, d_1 hA, d_2 hA, d_8 hA, d_9 hA, g_11_0 hA, g_11_1 hA, g_11_3 hA, g_8_4 hA, Option.bind_some, up_s, up_k, up_j, up_i, xk_add, xk_sub, xk_mul, xk_neg, lk_add, lN_z, rf_none, rb1, rb0, rbp, xk_nI, zk_eq, zk_lt, zk_eq0, zk_lt0, zk_0lt, zk_long, lz_lt, lz_gt, zmax, zmin, ↓reduceIte, Int.reduceEq, Int.reduceLT, Int.reduceNeg, Int.reduceAdd, Int.reduceSub, Int.reduceMul, Int.ofNat_eq_natCast, Int.cast_ofNat_Int]
        refine Ev.kR ma ?_
        try simp (maxSteps := 2000000) (disch := omega) only [d_0 hA, d_1 hA, d_2 hA, d_8 hA, d_9 hA, g_11_0 hA, g_11_1 hA, g_11_3 hA, g_8_4 hA, Option.bind_some, up_s, up_k, up_j, up_i, xk_add, xk_sub, xk_mul, xk_neg, lk_add, lN_z, rf_none, rb1, rb0, rbp, xk_nI, zk_eq, zk_lt, zk_eq0, zk_lt0, zk_0lt, zk_long, lz_lt, lz_gt, zmax, zmin, ↓reduceIte, Int.reduceEq, Int.reduceLT, Int.reduceNeg, Int.reduceAdd, Int.reduceSub, Int.reduceMul, Int.ofNat_eq_natCast, Int.cast_ofNat_Int, c4, rf_eq hA]
        refine Ev.ite (fun q => absurd q (by omega)) (fun _ => ?_)
        refine Ev.ite (fun q => absurd q (by omega)) (fun _ => ?_)
        refine Ev.ite (fun q => absurd q hs) (fun _ => ?_)
        refine Ev.kB (Ev.step (fun F => E1_takesFrom F _ _ _) tf) (fun q => ?_) (fun q => ?_)
        · have h1 := h1 q
          try simp (maxSteps := 2000000) (disch := omega) only [d_0 hA, d_1 hA, d_2 hA, d_8 hA, d_9 hA, g_11_0 hA, g_11_1 hA, g_11_3 hA, g_8_4 hA, Option.bind_some, up_s, up_k, up_j, up_i, xk_add, xk_sub, xk_mul, xk_neg, lk_add, lN_z, rf_none, rb1, rb0, rbp, xk_nI, zk_eq, zk_lt, zk_eq0, zk_lt0, zk_0lt, zk_long, lz_lt, lz_gt, zmax, zmin, ↓reduceIte, Int.reduceEq, Int.reduceLT, Int.reduceNeg, Int.reduceAdd, Int.reduceSub, Int.reduceMul, Int.ofNat_eq_natCast, Int.cast_ofNat_Int]
          exact h1
        · try simp (maxSteps := 2000000) (disch := omega) only [d_0 hA, d_1 hA, d_2 hA, d_8 hA, d_9 hA, g_11_0 hA, g_11_1 hA, g_11_3 hA, g_8_4 hA, Option.bind_some, up_s, up_k, up_j, up_i, xk_add, xk_sub, xk_mul, xk_neg, lk_add, lN_z, rf_none, rb1, rb0, rbp, xk_nI, zk_eq, zk_lt, zk_eq0, zk_lt0, zk_0lt, zk_long, lz_lt, lz_gt, zmax, zmin, ↓reduceIte, Int.reduceEq, Int.reduceLT, Int.reduceNeg, Int.reduceAdd, Int.reduceSub, Int.reduceMul, Int.ofNat_eq_natCast, Int.cast_ofNat_Int]
          exact Ev.ret (h2 q).symm
      by_cases hk : tkB J (J 25 0 t) (J 27 0 t) 20 to = true
      · have hC1 := hC.mv (to := to) h.1.1 h.1.2.1 h.1.2.2
        have hI1 := hI.mv (m := n) (by omega) h.1.1 h.1.2.1 h.1.2.2 h.2.1 h.2.2 hk
        have cg := changeGroup_ev (I := I) hA hC hT h.1.1 h.1.2.1 h.2.1 h.2.2
        obtain ⟨C', J', hE, hr, hC', hI', ej⟩ := come_pr (I := I) hA hR hC1 hI1 hn (t := t) (mv := 1) h.1.1 (by rw [up_k (by decide)]; exact h.1.2.1) (by omega) (by omega)
        refine ⟨e, C', J', z, 1, cl (fun _ => Ev.kV cg ?_) (fun q => absurd hk q), rp (fun _ _ => Ev.ite (fun q => absurd q hs) (fun _ => ?_)) (fun q => absurd h q), ⟨hA, hR, hC', hI'.sc (by omega) hI'.rb (fun _ _ _ _ _ _ => rfl)⟩, NX.r (fun j => ?_), ⟨by decide, by decide⟩, ?_⟩
        · simp (disch := omega) only [g_11_3 hA, d_0 hA, Option.bind_some]
          exact Ev.kV hE (Ev.ret rfl)
        · refine move40_ev hA hR hB hI.gu rfl h.1.1 h.1.2.1 (by omega) (by omega) (b := true) (fun q => absurd q (by decide)) (fun _ => ?_) 20 to (by omega) (by omega) h.2.2 hk
          refine Ev.step (fun F => E12_move_40 F _ _ _ _ _ _) ?_
          simp (disch := omega) only [a_25 hA hR, a_27 hA hR, a_38 hA hR, a_39 hA hR, a_40 hA hR, d_12 hA hR, g_12_18 hA hR, g_12_19 hA hR, g_12_20 hA hR, g_12_5 hA hR, g_12_7 hA hR, s_25 hA hR, s_27 hA hR, s_38 hA hR, s_39 hA hR, s_40 hA hR, Option.bind_some, up_s, up_k, up_j, up_i, xk_add, xk_sub, xk_mul, xk_neg, lk_add, lN_z, rf_none, rb1, rb0, rbp, xk_nI, zk_eq, zk_lt, zk_eq0, zk_lt0, zk_0lt, zk_long, lz_lt, lz_gt, zmax, zmin, ↓reduceIte, Int.reduceEq, Int.reduceLT, Int.reduceNeg, Int.reduceAdd, Int.reduceSub, Int.reduceMul, Int.ofNat_eq_natCast, Int.cast_ofNat_Int]
          exact Ev.kV (hr _) (Ev.ret rfl)
        · rw [ej _ _ _ (by decide) (by decide), up_k (by decide), ← hJ]
          exact th_f (Or.inl (by decide))
        · rw [ej _ _ _ (by decide) (by decide), up_k (by decide), ← hJ]
          exact up_s
      · refine PR.look hO (A := -3) (by decide) (by decide) ?_ ?_
        · exact cl (fun q => absurd q hk) (fun _ => rfl)
        · rw [hJ]
          refine rp (fun _ _ => Ev.ite (fun q => absurd q hs) (fun _ => ?_)) (fun q => absurd h q)
          exact move40_ev hA hR hB hI.gu rfl h.1.1 h.1.2.1 (by omega) (by omega) (b := false) (fun _ => rfl) (fun q => absurd q (by decide)) 20 to (by omega) (by omega) h.2.2 (by simpa using hk)
  · refine PR.look hO (A := -1) (by decide) (by decide) ?_ ?_
    · refine Ev.step (fun F => E11_move F _ _ _ _) ?_
      simp (disch := omega) only [d_0 hA, d_1 hA, d_2 hA, d_8 hA, d_9 hA, g_11_0 hA, g_11_1 hA, g_11_3 hA, g_8_4 hA, Option.bind_some, up_s, up_k, up_j, up_i, xk_add, xk_sub, xk_mul, xk_neg, lk_add, lN_z, rf_none, rb1, rb0, rbp, xk_nI, zk_eq, zk_lt, zk_eq0, zk_lt0, zk_0lt, zk_long, lz_lt, lz_gt, zmax, zmin, ↓reduceIte, Int.reduceEq, Int.reduceLT, Int.reduceNeg, Int.reduceAdd, Int.reduceSub, Int.reduceMul, Int.ofNat_eq_natCast, Int.cast_ofNat_Int]
      refine Ev.kR lv ?_
      try simp (maxSteps := 2000000) (disch := omega) only [d_0 hA, d_1 hA, d_2 hA, d_8 hA, d_9 hA, g_11_0 hA, g_11_1 hA, g_11_3 hA, g_8_4 hA, Option.bind_some, up_s, up_k, up_j, up_i, xk_add, xk_sub, xk_mul, xk_neg, lk_add, lN_z, rf_none, rb1, rb0, rbp, xk_nI, zk_eq, zk_lt, zk_eq0, zk_lt0, zk_0lt, zk_long, lz_lt, lz_gt, zmax, zmin, ↓reduceIte, Int.reduceEq, Int.reduceLT, Int.reduceNeg, Int.reduceAdd, Int.reduceSub, Int.reduceMul, Int.ofNat_eq_natCast, Int.cast_ofNat_Int]
      refine Ev.kR ma ?_
      by_cases h1 : (0 ≤ t ∧ t < (J 12 0 1) ∧ (J 22 0 t) = 0)
      · rw [lvg_y h1, if_neg (fun q => h ⟨h1, q⟩)]
        try simp (maxSteps := 2000000) (disch := omega) only [d_0 hA, d_1 hA, d_2 hA, d_8 hA, d_9 hA, g_11_0 hA, g_11_1 hA, g_11_3 hA, g_8_4 hA, Option.bind_some, up_s, up_k, up_j, up_i, xk_add, xk_sub, xk_mul, xk_neg, lk_add, lN_z, rf_none, rb1, rb0, rbp, xk_nI, zk_eq, zk_lt, zk_eq0, zk_lt0, zk_0lt, zk_long, lz_lt, lz_gt, zmax, zmin, ↓reduceIte, Int.reduceEq, Int.reduceLT, Int.reduceNeg, Int.reduceAdd, Int.reduceSub, Int.reduceMul, Int.ofNat_eq_natCast, Int.cast_ofNat_Int]
        refine Ev.ite (fun q => absurd q (by omega)) (fun _ => ?_)
        exact Ev.ret rfl
      · rw [lvg_n h1]
        try simp (maxSteps := 2000000) (disch := omega) only [d_0 hA, d_1 hA, d_2 hA, d_8 hA, d_9 hA, g_11_0 hA, g_11_1 hA, g_11_3 hA, g_8_4 hA, Option.bind_some, up_s, up_k, up_j, up_i, xk_add, xk_sub, xk_mul, xk_neg, lk_add, lN_z, rf_none, rb1, rb0, rbp, xk_nI, zk_eq, zk_lt, zk_eq0, zk_lt0, zk_0lt, zk_long, lz_lt, lz_gt, zmax, zmin, ↓reduceIte, Int.reduceEq, Int.reduceLT, Int.reduceNeg, Int.reduceAdd, Int.reduceSub, Int.reduceMul, Int.ofNat_eq_natCast, Int.cast_ofNat_Int]
        exact Ev.ret rfl
    · rw [hJ]
      exact rp (fun q q' => absurd ⟨q, q'⟩ h) (fun _ => rfl)
theorem Inv.ng (h : Inv n J) {m o : Int} (hm : n ≤ m) (g1 : (J 12 0 17) < 20) (o0 : 0 ≤ o) (o1 : o < (J 12 0 17)) : Inv m (ngI J o) := by
  obtain ⟨h1, h2, h3, h4, h5, h6, h7, h8, h9⟩ := h
  have hB := h1.1
  have gk := RB.groups hB
  have ej : ∀ k i j, k ≠ 38 ∧ k ≠ 39 ∧ k ≠ 40 ∧ k ≠ 41 ∧ k ≠ 45 → (k ≠ 12 ∨ j ≠ 17) → ngI J o k i j = J k i j := fun k i j q q' => ng_f q q'
  have hB' := hB.ng g1 (o := o) (by omega) o1
  have hT : TI (ngI J o) := by
    obtain ⟨q1, q2, q3, q4, q5, q6, q7⟩ := h1
    have e1 : ∀ k, k ≠ 38 ∧ k ≠ 39 ∧ k ≠ 40 ∧ k ≠ 41 ∧ k ≠ 45 → k ≠ 12 → ∀ j, ngI J o k 0 j = J k 0 j := fun k a b j => ej k 0 j a (Or.inl b)
    have e12 : ∀ j, j ≠ 17 → ngI J o 12 0 j = J 12 0 j := fun j a => ej 12 0 j (by decide) (Or.inr a)
    have el : lin (ngI J o) = lin J := lin_c (fun j => e1 _ (by decide) (by decide) j)
    refine ⟨hB', ?_, ?_, ?_, fun x x0 x1 => ?_, ?_, ?_⟩
    · simp (disch := decide) only [e1, e12]; exact q2
    · simp (disch := decide) only [e1, e12]; exact q3
    · simp (disch := decide) only [e1, e12]; exact q4
    · rw [e12 _ (by decide)] at x1
      have y := q5 x x0 x1
      rw [ng_17]
      simp (disch := decide) only [e1, e12]
      exact ⟨y.1, y.2.1, by omega, y.2.2.2⟩
    · simp (disch := decide) only [e1, e12, el]; exact q6
    · simp (disch := decide) only [e1, e12, el]; exact q7
  refine ⟨hT, h2.c (ej _ _ _ (by decide) (Or.inr (by decide))) (fun j => ej _ _ _ (by decide) (Or.inl (by decide))) (fun j => ej _ _ _ (by decide) (Or.inl (by decide))), fun g g0 gl => ?_, fun g g0 gl => ?_, fun g a b => ?_, h6.c (ej _ _ _ (by decide) (Or.inr (by decide))) (ej _ _ _ (by decide) (Or.inr (by decide))) (fun j => ej _ _ _ (by decide) (Or.inl (by decide))) (fun j => ej _ _ _ (by decide) (Or.inl (by decide))) (fun j => ej _ _ _ (by decide) (Or.inl (by decide))) (fun j => ej _ _ _ (by decide) (Or.inl (by decide))) (fun j => ej _ _ _ (by decide) (Or.inl (by decide))), ⟨⟨?_, ?_⟩, fun t a b => ?_, fun g a b => ?_⟩, h8.c (ej _ _ _ (by decide) (Or.inr (by decide))) (fun k j a b => ej _ _ _ (by omega) (Or.inl (by omega))), h9.c hm (ej _ _ _ (by decide) (Or.inr (by decide))) (fun j => ej _ _ _ (by decide) (Or.inl (by decide)))⟩
  · rw [ng_17] at gl
    rw [(usF_ng h1 h5 g1 (o := o) (by omega) o1 g0 (by omega)).1]
    by_cases hg : g = (J 12 0 17)
    · rw [if_pos hg, hg, ng_40]; decide
    · rw [if_neg hg, ng_o hg (by decide)]
      exact h3 g g0 (by omega)
  · rw [ng_17] at gl
    by_cases hg : g = (J 12 0 17)
    · rw [hg, ng_38, ng_41]
      omega
    · rw [ng_o hg (by decide), ng_o hg (by decide)]
      exact h4 g g0 (by omega)
  · rw [ng_17] at a
    rw [ng_o (by omega) (by decide), ng_o (by omega) (by decide), ng_o (by omega) (by decide)]
    exact h5 g (by omega) b
  · rw [ej _ _ _ (by decide) (Or.inr (by decide))]; exact h7.1.1
  · rw [ej _ _ _ (by decide) (Or.inr (by decide))]; have := h7.1.2; omega
  · rw [ej 30 _ _ (by decide) (Or.inl (by decide)), ej 12 _ _ (by decide) (Or.inr (by decide))]
    exact h7.2.1 t a b
  · rw [ej 12 _ _ (by decide) (Or.inr (by decide)), ej 44 _ _ (by decide) (Or.inl (by decide))]
    have y := h7.2.2 g a b
    have c := h7.1.1
    by_cases hg : g = (J 12 0 17)
    · rw [hg, ng_45]
      rw [hg] at y
      omega
    · rw [ng_o hg (by decide)]; exact y
theorem group_pr (hO : OK n e C I z) (hn : n ≤ 600) {o : Int} (o0 : -2147483648 ≤ o) (o1 : o < 2147483648) : PR n e C I z (fun F s => J11_group F (rf e 11 0) (xk o) s) (fun F s => J12_group F (rf e 12 0) (xk o) s) := by
  obtain ⟨hA, hR, hC0, hI0⟩ := hO
  have hO : OK n e C I z := ⟨hA, hR, hC0, hI0⟩
  have hC := hC0.th (v := 0)
  have hI := hI0.th (m := n) (v := 0) (by omega)
  have hT := hI.ti
  generalize hJ : th I 0 = J at *
  have n8 := hC.1.1
  have n7 := hC.2.1.1
  have n1 := hC.2.2.1.1
  have n10 := hC.2.2.2.2.1.1
  have hB := hT.1
  have := RB.tasks hB
  have := RB.spaces hB
  have := RB.groups hB
  have := RB.views hB
  have n4 := hA.2.2.2.1
  have ma := madeAt_ev (I := I) hA hC hT o0 o1
  by_cases h : 0 ≤ o ∧ o < (J 12 0 17)
  · rw [if_pos h] at ma
    have cd := hC.2.2.1.depth h.1 h.2
    have db : 0 ≤ dpG J o ∧ dpG J o ≤ 20 := by
      have : ∀ (m : Nat) (k : Int), 0 ≤ dpF (fun k => (J 38 0 k)) m k ∧ dpF (fun k => (J 38 0 k)) m k ≤ m := by
        intro m
        induction m with
        | zero => intro k; exact ⟨Int.le_refl _, Int.le_refl _⟩
        | succ m ih =>
          intro k
          rw [dpF]
          split
          · omega
          · have := ih (J 38 0 k); omega
      exact this 20 o
    have hr : Ev (fun F => J2_hasRoom F (rf e 2 0) (rf e 1 o) (HS e C I z)) (rI (bI ((J 12 0 17) < 20 ∧ dpG J o < 5)) (HS e C I z)) := by
      refine Ev.step (fun F => E2_hasRoom F _ _ _) ?_
      simp (disch := omega) only [g_1_2 hA, g_2_1 hA, Option.bind_some, up_s, up_k, up_j, up_i, xk_add, xk_sub, xk_mul, xk_neg, lk_add, lN_z, rf_none, rb1, rb0, rbp, xk_nI, zk_eq, zk_lt, zk_eq0, zk_lt0, zk_0lt, zk_long, lz_lt, lz_gt, zmax, zmin, ↓reduceIte, Int.reduceEq, Int.reduceLT, Int.reduceNeg, Int.reduceAdd, Int.reduceSub, Int.reduceMul, Int.ofNat_eq_natCast, Int.cast_ofNat_Int, cd]
      refine Ev.ite (fun q => ?_) (fun q => Ev.ret (by rw [bI_f (by omega)]; rfl))
      try simp (maxSteps := 2000000) (disch := omega) only [g_1_2 hA, g_2_1 hA, Option.bind_some, up_s, up_k, up_j, up_i, xk_add, xk_sub, xk_mul, xk_neg, lk_add, lN_z, rf_none, rb1, rb0, rbp, xk_nI, zk_eq, zk_lt, zk_eq0, zk_lt0, zk_0lt, zk_long, lz_lt, lz_gt, zmax, zmin, ↓reduceIte, Int.reduceEq, Int.reduceLT, Int.reduceNeg, Int.reduceAdd, Int.reduceSub, Int.reduceMul, Int.ofNat_eq_natCast, Int.cast_ofNat_Int, cd]
      exact Ev.ite (fun q' => Ev.ret (by rw [bI_t (by omega)]; rfl)) (fun q' => Ev.ret (by rw [bI_f (by omega)]; rfl))
    by_cases hg : (J 12 0 17) < 20 ∧ dpG J o < 5
    · have hD := Cpl.bd (I := I) hA hC hT hI.mi
      obtain ⟨op, hA1⟩ := open_ev (o := o) hA hD (by omega) (by omega) (by omega) (by omega)
      rw [if_neg (by omega), n1] at op
      have hC1 := hC.ng hT hI.gz (a := z.1) hg.1 h.1 h.2
      have hI1 := hI.ng (m := n) (by omega) hg.1 h.1 h.2
      have hR1 : WR (exE e 1 z.1) := fun k hk => by
        rw [exE_n, if_neg (by omega)]
        exact hR k hk
      have g17 : ngI J o 12 0 17 = (J 12 0 17) + 1 := ng_17
      have hB1 := hI1.rb
      have gb : ∀ t, ¬ rt (ngI J o) (J 12 0 17) t := by
        intro t q
        have q1 := q.2.1
        have q2 := q.2.2.2.2
        rw [ng_f (by decide) (Or.inr (by decide))] at q1
        rw [ng_f (by decide) (Or.inl (by decide))] at q2
        have := hT.b q.1 q1
        omega
      have gc : ∀ k, 0 ≤ k → k < ngI J o 12 0 17 → ngI J o 38 0 k ≠ (J 12 0 17) := by
        intro k k0 k1 q
        have := RB.wiw hB1 (j := k) k0 (by omega)
        omega
      obtain ⟨C', hs, a, b, hE, hH, ha, hb, hC'⟩ := admitGroup_ev (I := I) (e := exE e 1 z.1) (z := (z.1 + 1, z.2.1 + 14, z.2.2)) hA1 hC1 hI1.ti (hI1.ki.kb (by omega)) (g := (J 12 0 17)) (o := o) (by omega) (by omega) ng_38 h.1 ng_45 gb gc
      have tk1 := RB.tasks hB1
      have ab := ha.b (by omega)
      have bb := hb.b (by omega)
      have lc := ltV_c hI1.ki (a := a) (b := b) (by omega) (by omega)
      have hI2 : Inv (n + 1) (agI (frI (ngI J o) hs) (J 12 0 17) (ltV (ngI J o) a b)) := by
        unfold agI
        split
        · refine (hI1.fri (m := n) (by omega)).gtm (by omega) (by omega) ?_
          rw [fr_f (by decide)]
          exact lc.2
        · exact hI1.fri (by omega)
      have ej : ∀ k i j, k ≠ 45 → k ≠ 59 → agI (frI (ngI J o) hs) (J 12 0 17) (ltV (ngI J o) a b) k i j = ngI J o k i j := fun k i j q q' => by
        unfold agI
        split
        · rw [up_k q, fr_f q']
        · rw [fr_f q']
      have v11 : Va e 11 0 := ⟨by decide, by decide, hA.s rfl⟩
      have v12 : Va e 12 0 := ⟨by decide, by decide, by rw [hR 12 (by omega)]; decide⟩
      have v2 : Va e 2 0 := ⟨by decide, by decide, hA.s rfl⟩
      have v0 : Va e 0 0 := ⟨by decide, by decide, hA.s rfl⟩
      have q11 : rf e 11 0 = rf (exE e 1 z.1) 11 0 := (rf_ex (Or.inl (by decide))).symm
      have q12 : rf e 12 0 = rf (exE e 1 z.1) 12 0 := (rf_ex (Or.inl (by decide))).symm
      refine ⟨exE e 1 z.1, C', _, (z.1 + 1, z.2.1 + 14, z.2.2), (J 12 0 17), ?_, ?_, ⟨hA1, hR1, hC', hI2⟩, ⟨⟨by show z.1 + 1 ≤ z.1 + 10; omega, by show z.2.1 + 14 ≤ z.2.1 + 200; omega⟩, ⟨rfl, fun k hk => by rw [exE_n, if_neg (by omega)]⟩, fun k hk => ?_, fun j => ?_⟩, ⟨by omega, by omega⟩, ?_⟩
      · refine Ev.step (fun F => E11_group F _ _ _) ?_
        simp (disch := omega) only [d_0 hA, d_2 hA, g_11_0 hA, g_11_3 hA, g_1_0 hA, Option.bind_some, up_s, up_k, up_j, up_i, xk_add, xk_sub, xk_mul, xk_neg, lk_add, lN_z, rf_none, rb1, rb0, rbp, xk_nI, zk_eq, zk_lt, zk_eq0, zk_lt0, zk_0lt, zk_long, lz_lt, lz_gt, zmax, zmin, ↓reduceIte, Int.reduceEq, Int.reduceLT, Int.reduceNeg, Int.reduceAdd, Int.reduceSub, Int.reduceMul, Int.ofNat_eq_natCast, Int.cast_ofNat_Int]
        refine Ev.kR ma ?_
        try simp (maxSteps := 2000000) (disch := omega) only [d_0 hA, d_2 hA, g_11_0 hA, g_11_3 hA, g_1_0 hA, Option.bind_some, up_s, up_k, up_j, up_i, xk_add, xk_sub, xk_mul, xk_neg, lk_add, lN_z, rf_none, rb1, rb0, rbp, xk_nI, zk_eq, zk_lt, zk_eq0, zk_lt0, zk_0lt, zk_long, lz_lt, lz_gt, zmax, zmin, ↓reduceIte, Int.reduceEq, Int.reduceLT, Int.reduceNeg, Int.reduceAdd, Int.reduceSub, Int.reduceMul, Int.ofNat_eq_natCast, Int.cast_ofNat_Int]
        refine Ev.ite (fun q => absurd q (by omega)) (fun _ => ?_)
        refine Ev.kB hr (fun _ => ?_) (fun q => absurd hg q)
        try simp (maxSteps := 2000000) (disch := omega) only [d_0 hA, d_2 hA, g_11_0 hA, g_11_3 hA, g_1_0 hA, Option.bind_some, up_s, up_k, up_j, up_i, xk_add, xk_sub, xk_mul, xk_neg, lk_add, lN_z, rf_none, rb1, rb0, rbp, xk_nI, zk_eq, zk_lt, zk_eq0, zk_lt0, zk_0lt, zk_long, lz_lt, lz_gt, zmax, zmin, ↓reduceIte, Int.reduceEq, Int.reduceLT, Int.reduceNeg, Int.reduceAdd, Int.reduceSub, Int.reduceMul, Int.ofNat_eq_natCast, Int.cast_ofNat_Int]
        refine Ev.kR op ?_
        rw [q11]
        have hA := hA1
        have n1' := hC'.2.2.1.1
        rw [show agI (frI (ngI J o) hs) (J 12 0 17) (ltV (ngI J o) a b) 12 0 17 = (J 12 0 17) + 1 by rw [ej _ _ _ (by decide) (by decide), ng_17]] at n1'
        try simp (maxSteps := 2000000) (disch := omega) only [d_0 hA, d_2 hA, g_11_0 hA, g_11_3 hA, g_1_0 hA, Option.bind_some, up_s, up_k, up_j, up_i, xk_add, xk_sub, xk_mul, xk_neg, lk_add, lN_z, rf_none, rb1, rb0, rbp, xk_nI, zk_eq, zk_lt, zk_eq0, zk_lt0, zk_0lt, zk_long, lz_lt, lz_gt, zmax, zmin, ↓reduceIte, Int.reduceEq, Int.reduceLT, Int.reduceNeg, Int.reduceAdd, Int.reduceSub, Int.reduceMul, Int.ofNat_eq_natCast, Int.cast_ofNat_Int]
        refine Ev.kV hE ?_
        try simp (maxSteps := 2000000) (disch := omega) only [d_0 hA, d_2 hA, g_11_0 hA, g_11_3 hA, g_1_0 hA, Option.bind_some, up_s, up_k, up_j, up_i, xk_add, xk_sub, xk_mul, xk_neg, lk_add, lN_z, rf_none, rb1, rb0, rbp, xk_nI, zk_eq, zk_lt, zk_eq0, zk_lt0, zk_0lt, zk_long, lz_lt, lz_gt, zmax, zmin, ↓reduceIte, Int.reduceEq, Int.reduceLT, Int.reduceNeg, Int.reduceAdd, Int.reduceSub, Int.reduceMul, Int.ofNat_eq_natCast, Int.cast_ofNat_Int]
        exact Ev.ret rfl
      · rw [q12]
        have hA := hA1
        have hR := hR1
        refine Ev.step (fun F => E12_group F _ _ _) ?_
        simp (disch := omega) only [a_38 hA hR, d_12 hA hR, g_12_18 hA hR, p_12_0 hA hR, Option.bind_some, up_s, up_k, up_j, up_i, xk_add, xk_sub, xk_mul, xk_neg, lk_add, lN_z, rf_none, rb1, rb0, rbp, xk_nI, zk_eq, zk_lt, zk_eq0, zk_lt0, zk_0lt, zk_long, lz_lt, lz_gt, zmax, zmin, ↓reduceIte, Int.reduceEq, Int.reduceLT, Int.reduceNeg, Int.reduceAdd, Int.reduceSub, Int.reduceMul, Int.ofNat_eq_natCast, Int.cast_ofNat_Int]
        rw [show up I 12 0 0 0 = J from hJ]
        refine Ev.kB (isGroup_ev hA hR hB o0 o1) (fun _ => ?_) (fun q => absurd h q)
        try simp (maxSteps := 2000000) (disch := omega) only [a_38 hA hR, d_12 hA hR, g_12_18 hA hR, p_12_0 hA hR, Option.bind_some, up_s, up_k, up_j, up_i, xk_add, xk_sub, xk_mul, xk_neg, lk_add, lN_z, rf_none, rb1, rb0, rbp, xk_nI, zk_eq, zk_lt, zk_eq0, zk_lt0, zk_0lt, zk_long, lz_lt, lz_gt, zmax, zmin, ↓reduceIte, Int.reduceEq, Int.reduceLT, Int.reduceNeg, Int.reduceAdd, Int.reduceSub, Int.reduceMul, Int.ofNat_eq_natCast, Int.cast_ofNat_Int]
        refine group24_ev hA hR hB h.1 h.2 (fun q => absurd q (by omega)) (fun _ _ => ?_)
        refine Ev.kI (newGroup_ev hA hR hB hg.1) ?_
        simp (disch := omega) only [d_12 hA hR]
        refine Ev.kL (leastTime_ev hA hR hB1 (hI1.ki.kb (by omega)) hH h.1 (by omega) (by omega) (by omega) (by omega) (by omega) ha hb) ?_
        have ck := hI1.ki.1
        simp (disch := omega) only [lN_z, lz_gt, Int.ofNat_eq_natCast, Int.cast_ofNat_Int]
        unfold agI
        refine Ev.ite (fun q => ?_) (fun q => ?_)
        · have q' : 0 < ltV (ngI J o) a b := by simpa using q
          rw [if_pos q']
          simp (disch := omega) only [g_12_25 hA hR, s_45 hA hR, Option.bind_some]
          exact Ev.ret rfl
        · have q' : ¬ 0 < ltV (ngI J o) a b := by simpa using q
          rw [if_neg q']
          exact Ev.ret rfl
      · rw [exE_a, if_neg (by omega)]
      · rw [ej _ _ _ (by decide) (by decide), ng_f (by decide) (Or.inl (by decide)), ← hJ]
        exact th_f (Or.inl (by decide))
      · rw [ej _ _ _ (by decide) (by decide), ng_f (by decide) (Or.inr (by decide)), ← hJ]
        exact up_s
    · refine PR.look hO (A := -2) (by decide) (by decide) ?_ ?_
      · refine Ev.step (fun F => E11_group F _ _ _) ?_
        simp (disch := omega) only [d_0 hA, d_2 hA, g_11_0 hA, g_11_3 hA, g_1_0 hA, Option.bind_some, up_s, up_k, up_j, up_i, xk_add, xk_sub, xk_mul, xk_neg, lk_add, lN_z, rf_none, rb1, rb0, rbp, xk_nI, zk_eq, zk_lt, zk_eq0, zk_lt0, zk_0lt, zk_long, lz_lt, lz_gt, zmax, zmin, ↓reduceIte, Int.reduceEq, Int.reduceLT, Int.reduceNeg, Int.reduceAdd, Int.reduceSub, Int.reduceMul, Int.ofNat_eq_natCast, Int.cast_ofNat_Int]
        refine Ev.kR ma ?_
        try simp (maxSteps := 2000000) (disch := omega) only [d_0 hA, d_2 hA, g_11_0 hA, g_11_3 hA, g_1_0 hA, Option.bind_some, up_s, up_k, up_j, up_i, xk_add, xk_sub, xk_mul, xk_neg, lk_add, lN_z, rf_none, rb1, rb0, rbp, xk_nI, zk_eq, zk_lt, zk_eq0, zk_lt0, zk_0lt, zk_long, lz_lt, lz_gt, zmax, zmin, ↓reduceIte, Int.reduceEq, Int.reduceLT, Int.reduceNeg, Int.reduceAdd, Int.reduceSub, Int.reduceMul, Int.ofNat_eq_natCast, Int.cast_ofNat_Int]
        refine Ev.ite (fun q => absurd q (by omega)) (fun _ => ?_)
        refine Ev.kB hr (fun q => absurd q hg) (fun _ => ?_)
        try simp (maxSteps := 2000000) (disch := omega) only [d_0 hA, d_2 hA, g_11_0 hA, g_11_3 hA, g_1_0 hA, Option.bind_some, up_s, up_k, up_j, up_i, xk_add, xk_sub, xk_mul, xk_neg, lk_add, lN_z, rf_none, rb1, rb0, rbp, xk_nI, zk_eq, zk_lt, zk_eq0, zk_lt0, zk_0lt, zk_long, lz_lt, lz_gt, zmax, zmin, ↓reduceIte, Int.reduceEq, Int.reduceLT, Int.reduceNeg, Int.reduceAdd, Int.reduceSub, Int.reduceMul, Int.ofNat_eq_natCast, Int.cast_ofNat_Int]
        exact Ev.ret rfl
      · refine Ev.step (fun F => E12_group F _ _ _) ?_
        simp (disch := omega) only [a_38 hA hR, d_12 hA hR, g_12_18 hA hR, p_12_0 hA hR, Option.bind_some, up_s, up_k, up_j, up_i, xk_add, xk_sub, xk_mul, xk_neg, lk_add, lN_z, rf_none, rb1, rb0, rbp, xk_nI, zk_eq, zk_lt, zk_eq0, zk_lt0, zk_0lt, zk_long, lz_lt, lz_gt, zmax, zmin, ↓reduceIte, Int.reduceEq, Int.reduceLT, Int.reduceNeg, Int.reduceAdd, Int.reduceSub, Int.reduceMul, Int.ofNat_eq_natCast, Int.cast_ofNat_Int]
        rw [show up I 12 0 0 0 = J from hJ, hJ]
        refine Ev.kB (isGroup_ev hA hR hB o0 o1) (fun _ => ?_) (fun q => absurd h q)
        try simp (maxSteps := 2000000) (disch := omega) only [a_38 hA hR, d_12 hA hR, g_12_18 hA hR, p_12_0 hA hR, Option.bind_some, up_s, up_k, up_j, up_i, xk_add, xk_sub, xk_mul, xk_neg, lk_add, lN_z, rf_none, rb1, rb0, rbp, xk_nI, zk_eq, zk_lt, zk_eq0, zk_lt0, zk_0lt, zk_long, lz_lt, lz_gt, zmax, zmin, ↓reduceIte, Int.reduceEq, Int.reduceLT, Int.reduceNeg, Int.reduceAdd, Int.reduceSub, Int.reduceMul, Int.ofNat_eq_natCast, Int.cast_ofNat_Int]
        exact group24_ev hA hR hB h.1 h.2 (fun _ => rfl) (fun a b => absurd ⟨a, b⟩ hg)
  · rw [if_neg h] at ma
    refine PR.look hO (A := -1) (by decide) (by decide) ?_ ?_
    · refine Ev.step (fun F => E11_group F _ _ _) ?_
      simp (disch := omega) only [d_0 hA, d_2 hA, g_11_0 hA, g_11_3 hA, g_1_0 hA, Option.bind_some, up_s, up_k, up_j, up_i, xk_add, xk_sub, xk_mul, xk_neg, lk_add, lN_z, rf_none, rb1, rb0, rbp, xk_nI, zk_eq, zk_lt, zk_eq0, zk_lt0, zk_0lt, zk_long, lz_lt, lz_gt, zmax, zmin, ↓reduceIte, Int.reduceEq, Int.reduceLT, Int.reduceNeg, Int.reduceAdd, Int.reduceSub, Int.reduceMul, Int.ofNat_eq_natCast, Int.cast_ofNat_Int]
      refine Ev.kR ma ?_
      try simp (maxSteps := 2000000) (disch := omega) only [d_0 hA, d_2 hA, g_11_0 hA, g_11_3 hA, g_1_0 hA, Option.bind_some, up_s, up_k, up_j, up_i, xk_add, xk_sub, xk_mul, xk_neg, lk_add, lN_z, rf_none, rb1, rb0, rbp, xk_nI, zk_eq, zk_lt, zk_eq0, zk_lt0, zk_0lt, zk_long, lz_lt, lz_gt, zmax, zmin, ↓reduceIte, Int.reduceEq, Int.reduceLT, Int.reduceNeg, Int.reduceAdd, Int.reduceSub, Int.reduceMul, Int.ofNat_eq_natCast, Int.cast_ofNat_Int]
      exact Ev.ret rfl
    · refine Ev.step (fun F => E12_group F _ _ _) ?_
      simp (disch := omega) only [a_38 hA hR, d_12 hA hR, g_12_18 hA hR, p_12_0 hA hR, Option.bind_some, up_s, up_k, up_j, up_i, xk_add, xk_sub, xk_mul, xk_neg, lk_add, lN_z, rf_none, rb1, rb0, rbp, xk_nI, zk_eq, zk_lt, zk_eq0, zk_lt0, zk_0lt, zk_long, lz_lt, lz_gt, zmax, zmin, ↓reduceIte, Int.reduceEq, Int.reduceLT, Int.reduceNeg, Int.reduceAdd, Int.reduceSub, Int.reduceMul, Int.ofNat_eq_natCast, Int.cast_ofNat_Int]
      rw [show up I 12 0 0 0 = J from hJ, hJ]
      refine Ev.kB (isGroup_ev hA hR hB o0 o1) (fun q => absurd q h) (fun _ => ?_)
      try simp (maxSteps := 2000000) (disch := omega) only [a_38 hA hR, d_12 hA hR, g_12_18 hA hR, p_12_0 hA hR, Option.bind_some, up_s, up_k, up_j, up_i, xk_add, xk_sub, xk_mul, xk_neg, lk_add, lN_z, rf_none, rb1, rb0, rbp, xk_nI, zk_eq, zk_lt, zk_eq0, zk_lt0, zk_0lt, zk_long, lz_lt, lz_gt, zmax, zmin, ↓reduceIte, Int.reduceEq, Int.reduceLT, Int.reduceNeg, Int.reduceAdd, Int.reduceSub, Int.reduceMul, Int.ofNat_eq_natCast, Int.cast_ofNat_Int]
      exact Ev.ret rfl
end OPs
