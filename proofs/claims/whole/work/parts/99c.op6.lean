/-! pairs: charge, cache -/
section OPs
variable {e : EN} {C I J : ST} {z : Nat × Nat × Nat × Nat} {n : Int}
theorem mrI_b {t p : Int} : ∀ (m : Nat) (J : ST) (g : Int), -10 ≤ (mrF t p m J g).1 ∧ (mrF t p m J g).1 ≤ 0 := by
  have kb : ∀ (g : Int) (m : Nat) (J : ST), -10 ≤ (kvF t g p m J).1 ∧ (kvF t g p m J).1 ≤ 0 := by
    intro g m
    induction m with
    | zero => intro J; exact ⟨by show (-10 : Int) ≤ 0; decide, by show (0 : Int) ≤ 0; decide⟩
    | succ m ih =>
      intro J
      rw [kvF]
      split
      · split
        · exact ⟨by show (-10 : Int) ≤ -3; decide, by show (-3 : Int) ≤ 0; decide⟩
        · split
          · exact ih _
          · exact ⟨by show (-10 : Int) ≤ -5; decide, by show (-5 : Int) ≤ 0; decide⟩
      · exact ⟨by show (-10 : Int) ≤ 0; decide, by show (0 : Int) ≤ 0; decide⟩
  intro m
  induction m with
  | zero => intro J g; exact ⟨by show (-10 : Int) ≤ 0; decide, by show (0 : Int) ≤ 0; decide⟩
  | succ m ih =>
    intro J g
    rw [mrF]
    split
    · exact ⟨by show (-10 : Int) ≤ 0; decide, by show (0 : Int) ≤ 0; decide⟩
    · split
      · exact kb _ _ _
      · exact ih _ _
/-- room is made on both sides -/
theorem room_pr (hA : WA e z) (hR : WR e) (hC : Cpl e C J) (hI : Inv n J) {t v : Int} (v0 : 0 ≤ v) (v1 : v ≤ 1000000) (h : 0 ≤ t ∧ t < (J 12 0 1) ∧ (J 22 0 t) = 0) : ∃ C' J2 A, Ev (fun F => J3_makeRoom F (rf e 3 0) (rf e 8 t) (xk v) (HS e C I z)) (rI A (HS e C' I z)) ∧ (∀ C2, Ev (fun F => J12_makeRoom F (rf e 12 0) (xk t) (xk v) (HS e C2 J z)) (rI A (HS e C2 J2 z))) ∧ Cpl e C' J2 ∧ Inv n J2 ∧ (-10 ≤ A ∧ A ≤ 0) ∧ (∀ k i j, k ≠ 22 ∧ k ≠ 23 ∧ k ≠ 27 ∧ k ≠ 32 ∧ k ≠ 43 → (k ≠ 12 ∨ j ≠ 27) → J2 k i j = J k i j) ∧ (¬ A < 0 → (J2 22 0 t) = 0 ∧ ∀ x, 0 ≤ x → win J2 (J2 25 0 t) x = true → usF J2 x + v ≤ (J2 40 0 x)) := by
  have hT := hI.ti
  have bt := hT.b h.1 h.2.1
  have gk := RB.groups hT.1
  obtain ⟨C', hE, hC', hG'⟩ := makeRoom_cl (I := I) hA hC hT hI.tg hI.gu v0 v1 h.1 h.2.1 h.2.2
  have hr := fun C2 => makeRoom_ev (C := C2) hA hR v0 v1 h.1 hT hI.gu h.2.1 h.2.2
  have mi := mr_inv (t := t) (n := v) 20 J (J 25 0 t) hT h.2.2
  have nz := NZ.mr (t := t) (p := v) 20 J (J 25 0 t)
  have ej : ∀ k i j, k ≠ 22 ∧ k ≠ 23 ∧ k ≠ 27 ∧ k ≠ 32 ∧ k ≠ 43 → (k ≠ 12 ∨ j ≠ 27) → (mrI J t v).2 k i j = J k i j := fun k i j q q' => mi.2.1.1 k i j q.1 q.2.1 q.2.2.1 q.2.2.2.1 q.2.2.2.2 q'
  refine ⟨C', (mrI J t v).2, (mrI J t v).1, hE, hr, hC', hI.le (by omega) mi.2.1 mi.1 hG' nz, mrI_b _ _ _, ej, fun hn => ⟨(mi.2.2 hn).2, fun x x0 hw => ?_⟩⟩
  have ew : win (mrI J t v).2 = win J := win_c (fun k => ej _ _ _ (by decide) (Or.inl (by decide)))
  rw [ew, ej 25 _ _ (by decide) (Or.inl (by decide))] at hw
  rw [ej 40 _ _ (by decide) (Or.inl (by decide))]
  exact mr_nf 20 J (J 25 0 t) hT h.2.2 (by omega) (by omega) (by omega) hn x x0 hw
theorem charge_pr (hO : OK n e C I z) {t v : Int} (t0 : -2147483648 ≤ t) (t1 : t < 2147483648) (v0 : -2147483648 ≤ v) (v1 : v < 2147483648) : PR n e C I z (fun F σ => J11_charge F (rf e 11 0) (xk t) (xk v) σ) (fun F σ => J12_charge F (rf e 12 0) (xk t) (xk v) σ) ∨ PT n e C I z 51 1 (fun F σ => J11_charge F (rf e 11 0) (xk t) (xk v) σ) (fun F σ => J12_charge F (rf e 12 0) (xk t) (xk v) σ) := by
  obtain ⟨hA, hR, hC0, hI0⟩ := hO
  have hO : OK n e C I z := ⟨hA, hR, hC0, hI0⟩
  have hC := hC0.th (v := 0)
  have hI := hI0.th (m := n) (v := 0) (by omega)
  have hT := hI.ti
  generalize hJ : th I 0 = J at *
  have n8 := hC.1.1
  have n7 := hC.2.1.1
  have n1 := hC.2.2.1.1
  have n10 := hC.2.2.2.2.1.1
  have hB := hT.1
  have := RB.tasks hB
  have := RB.spaces hB
  have := RB.groups hB
  have := RB.views hB
  have n4 := hA.2.2.2.1
  have lv := living_ev (I := I) hA hC hT t0 t1
  have m0 : -2147483648 ≤ (1000000 : Int) := by decide
  by_cases hv : 0 ≤ v ∧ v ≤ 1000000
  · left
    have pre : ∀ {C' : ST} {r}, (0 ≤ t ∧ t < (J 12 0 1) ∧ (J 22 0 t) = 0 → Ev (fun F => xci (J12_makeRoom F (rf e 12 0) (xk t) (xk v) (HS e C' J z)) fun v19 s18 => if v19 < 0 then (some (.inl (some (.inl v19)), s18)) else ((xgr s18 (rf e 12 0) 12 7).bind fun v20 => (xai s18 v20 (xk t)).bind fun v21 => (xsi s18 v20 (xk t) (v21 + xk v)).bind fun s22 => (xgr s22 (rf e 12 0) 12 7).bind fun v23 => (xai s22 v23 (xk t)).bind fun v24 => some (.inl (some (.inl v24)), s22))) r) → (¬ (0 ≤ t ∧ t < (J 12 0 1) ∧ (J 22 0 t) = 0) → r = rI (-1) (HS e C' J z)) → Ev (fun F => J12_charge F (rf e 12 0) (xk t) (xk v) (HS e C' I z)) r := by
      intro C' r h1 h2
      refine Ev.step (fun F => E12_charge F _ _ _ _) ?_
      rw [ll_1000000, lN_z, zk_long v0 v1]
      refine Ev.kB (in_ev ⟨by omega, by omega⟩ ⟨by decide, by decide⟩ ⟨by decide, by decide⟩) (fun _ => ?_) (fun q => absurd hv q)
      refine Ev.ite (fun q => absurd q k10) (fun _ => ?_)
      simp (disch := omega) only [g_12_0 hA hR, p_12_0 hA hR, d_12 hA hR, Option.bind_some, up_s, up_k, up_j, up_i, xk_add, xk_sub, xk_mul, xk_neg, lk_add, lN_z, rf_none, rb1, rb0, rbp, xk_nI, zk_eq, zk_lt, zk_eq0, zk_lt0, zk_0lt, zk_long, lz_lt, lz_gt, zmax, zmin, ↓reduceIte, Int.reduceEq, Int.reduceLT, Int.reduceNeg, Int.reduceAdd, Int.reduceSub, Int.reduceMul, Int.ofNat_eq_natCast, Int.cast_ofNat_Int]
      rw [show up I 12 0 0 0 = J from hJ]
      refine Ev.kB (isLive_r hA hR hB t0 t1) (fun q => ?_) (fun q => ?_)
      · refine Ev.ite (fun q => absurd q k10) (fun _ => ?_)
        simp (disch := omega) only [d_12 hA hR]
        exact h1 q
      · refine Ev.ite (fun _ => ?_) (fun q => absurd k00 q)
        exact Ev.ret (h2 q).symm
    by_cases h : (0 ≤ t ∧ t < (J 12 0 1) ∧ (J 22 0 t) = 0)
    · obtain ⟨C', J2, A, hE, hr, hC', hI', Ab, ej, hok⟩ := room_pr (I := I) hA hR hC hI hv.1 hv.2 h
      have hT2 := hI'.ti
      have hB2 := hT2.1
      have e1 : (J2 12 0 1) = (J 12 0 1) := ej _ _ _ (by decide) (Or.inr (by decide))
      have clp : ∀ {r}, Ev (fun F => if A < 0 then some (.inl (some (.inl (xk A))), HS e C' I z) else xcv (J8_hold F (rf e 8 t) (xk v) (HS e C' I z)) fun s7 => (xgi s7 (rf e 8 t) 8 6).bind fun v8 => some (.inl (some (.inl v8)), s7)) r → Ev (fun F => J11_charge F (rf e 11 0) (xk t) (xk v) (HS e C I z)) r := by
        intro r hr'
        refine Ev.step (fun F => E11_charge F _ _ _ _) ?_
        simp (disch := omega) only [d_3 hA, d_8 hA, d_9 hA, g_11_1 hA, g_11_2 hA, g_8_6 hA, Option.bind_some, up_s, up_k, up_j, up_i, xk_add, xk_sub, xk_mul, xk_neg, lk_add, lN_z, rf_none, rb1, rb0, rbp, xk_nI, zk_eq, zk_lt, zk_eq0, zk_lt0, zk_0lt, zk_long, lz_lt, lz_gt, zmax, zmin, ↓reduceIte, Int.reduceEq, Int.reduceLT, Int.reduceNeg, Int.reduceAdd, Int.reduceSub, Int.reduceMul, Int.ofNat_eq_natCast, Int.cast_ofNat_Int, i32_m]
        refine Ev.ite (fun q => absurd q (by omega)) (fun _ => ?_)
        refine Ev.ite (fun q => absurd q (by omega)) (fun _ => ?_)
        refine Ev.kR lv ?_
        rw [lvg_y h]
        try simp (maxSteps := 2000000) (disch := omega) only [d_3 hA, d_8 hA, d_9 hA, g_11_1 hA, g_11_2 hA, g_8_6 hA, Option.bind_some, up_s, up_k, up_j, up_i, xk_add, xk_sub, xk_mul, xk_neg, lk_add, lN_z, rf_none, rb1, rb0, rbp, xk_nI, zk_eq, zk_lt, zk_eq0, zk_lt0, zk_0lt, zk_long, lz_lt, lz_gt, zmax, zmin, ↓reduceIte, Int.reduceEq, Int.reduceLT, Int.reduceNeg, Int.reduceAdd, Int.reduceSub, Int.reduceMul, Int.ofNat_eq_natCast, Int.cast_ofNat_Int]
        refine Ev.ite (fun q => absurd q (by omega)) (fun _ => ?_)
        refine Ev.kI hE ?_
        have n8' := hC'.1.1
        try simp (maxSteps := 2000000) (disch := omega) only [d_3 hA, d_8 hA, d_9 hA, g_11_1 hA, g_11_2 hA, g_8_6 hA, Option.bind_some, up_s, up_k, up_j, up_i, xk_add, xk_sub, xk_mul, xk_neg, lk_add, lN_z, rf_none, rb1, rb0, rbp, xk_nI, zk_eq, zk_lt, zk_eq0, zk_lt0, zk_0lt, zk_long, lz_lt, lz_gt, zmax, zmin, ↓reduceIte, Int.reduceEq, Int.reduceLT, Int.reduceNeg, Int.reduceAdd, Int.reduceSub, Int.reduceMul, Int.ofNat_eq_natCast, Int.cast_ofNat_Int]
        exact hr'
      by_cases ha : A < 0
      · refine ⟨e, C', J2, z, A, clp (Ev.ite (fun _ => Ev.ret rfl) (fun q => absurd ha q)), pre (fun _ => Ev.kI (hr _) ?_) (fun q => absurd h q), ⟨hA, hR, hC', hI'.sc (by omega) hB2 (fun _ _ _ _ _ _ => rfl)⟩, NX.r (fun j => ?_), ⟨by omega, by omega⟩, ?_⟩
        · simp (disch := omega) only [zk_lt0]
          exact Ev.ite (fun _ => Ev.ret rfl) (fun q => absurd ha q)
        · rw [ej _ _ _ (by decide) (Or.inl (by decide)), ← hJ]
          exact th_f (Or.inl (by decide))
        · rw [ej _ _ _ (by decide) (Or.inr (by decide)), ← hJ]
          exact up_s
      · have ok := hok ha
        have bt := hT2.b h.1 (by omega)
        have hh := hold_ev (I := I) (n := v) hA hC' hT2 (t := t) h.1 (by omega)
        have hC2 := hC'.pg (n := v) (t := t) h.1 (by omega) ok.1
        have uu := us_win hT2 h.1 (by omega) ok.1
        have mm := ok.2 (J2 25 0 t) bt.2.2.1.1 chn_r
        have gk := RB.groups hB2
        have mx := RB.max hB2 (j := (J2 25 0 t)) (by omega) (by omega)
        have pg := RB.pages hB2 (j := t) h.1 (by omega)
        have hI2 := hI'.pgU (m := n + 1) (t := t) (v := v) (by omega) h.1 (by omega) ok.1 (by omega) (by omega) (fun x x0 x1 hw => ok.2 x x0 hw)
        refine ⟨e, adG J2 (up C' 8 t 6 ((J2 27 0 t) + v)) 7 (J2 25 0 t) v, up J2 27 0 t ((J2 27 0 t) + v), z, (J2 27 0 t) + v, clp (Ev.ite (fun q => absurd q ha) (fun _ => ?_)), pre (fun _ => Ev.kI (hr _) ?_) (fun q => absurd h q), ⟨hA, hR, hC2, hI2⟩, NX.r (fun j => ?_), ⟨by omega, by omega⟩, ?_⟩
        · refine Ev.kV hh ?_
          have c6 := hC2.1.pages (t := t) h.1 (by rw [up_k (by decide)]; omega)
          have n8' := hC'.1.1
          rw [up_s] at c6
          simp (disch := omega) only [g_8_6 hA, c6, Option.bind_some]
          exact Ev.ret rfl
        · simp (disch := omega) only [zk_lt0]
          refine Ev.ite (fun q => absurd q ha) (fun _ => ?_)
          simp (disch := omega) only [g_12_7 hA hR, a_27 hA hR, s_27 hA hR, Option.bind_some, up_s, up_k, up_j, up_i, xk_add, xk_sub, xk_mul, xk_neg, lk_add, lN_z, rf_none, rb1, rb0, rbp, xk_nI, zk_eq, zk_lt, zk_eq0, zk_lt0, zk_0lt, zk_long, lz_lt, lz_gt, zmax, zmin, ↓reduceIte, Int.reduceEq, Int.reduceLT, Int.reduceNeg, Int.reduceAdd, Int.reduceSub, Int.reduceMul, Int.ofNat_eq_natCast, Int.cast_ofNat_Int]
          exact Ev.ret rfl
        · rw [up_k (by decide), ej _ _ _ (by decide) (Or.inl (by decide)), ← hJ]
          exact th_f (Or.inl (by decide))
        · rw [up_k (by decide), ej _ _ _ (by decide) (Or.inr (by decide)), ← hJ]
          exact up_s
    · refine PR.look hO (A := -1) (by decide) (by decide) ?_ ?_
      · refine Ev.step (fun F => E11_charge F _ _ _ _) ?_
        simp (disch := omega) only [d_3 hA, d_8 hA, d_9 hA, g_11_1 hA, g_11_2 hA, g_8_6 hA, Option.bind_some, up_s, up_k, up_j, up_i, xk_add, xk_sub, xk_mul, xk_neg, lk_add, lN_z, rf_none, rb1, rb0, rbp, xk_nI, zk_eq, zk_lt, zk_eq0, zk_lt0, zk_0lt, zk_long, lz_lt, lz_gt, zmax, zmin, ↓reduceIte, Int.reduceEq, Int.reduceLT, Int.reduceNeg, Int.reduceAdd, Int.reduceSub, Int.reduceMul, Int.ofNat_eq_natCast, Int.cast_ofNat_Int, i32_m]
        refine Ev.ite (fun q => absurd q (by omega)) (fun _ => ?_)
        refine Ev.ite (fun q => absurd q (by omega)) (fun _ => ?_)
        refine Ev.kR lv ?_
        rw [lvg_n h]
        try simp (maxSteps := 2000000) (disch := omega) only [d_3 hA, d_8 hA, d_9 hA, g_11_1 hA, g_11_2 hA, g_8_6 hA, Option.bind_some, up_s, up_k, up_j, up_i, xk_add, xk_sub, xk_mul, xk_neg, lk_add, lN_z, rf_none, rb1, rb0, rbp, xk_nI, zk_eq, zk_lt, zk_eq0, zk_lt0, zk_0lt, zk_long, lz_lt, lz_gt, zmax, zmin, ↓reduceIte, Int.reduceEq, Int.reduceLT, Int.reduceNeg, Int.reduceAdd, Int.reduceSub, Int.reduceMul, Int.ofNat_eq_natCast, Int.cast_ofNat_Int]
        exact Ev.ret rfl
      · rw [hJ]
        exact pre (fun q => absurd q h) (fun _ => rfl)
  · right
    refine ⟨⟨z.1, ?_⟩, 0, ?_⟩
    · refine Ev.step (fun F => E11_charge F _ _ _ _) ?_
      simp (disch := omega) only [d_3 hA, d_8 hA, d_9 hA, g_11_1 hA, g_11_2 hA, g_8_6 hA, Option.bind_some, up_s, up_k, up_j, up_i, xk_add, xk_sub, xk_mul, xk_neg, lk_add, lN_z, rf_none, rb1, rb0, rbp, xk_nI, zk_eq, zk_lt, zk_eq0, zk_lt0, zk_0lt, zk_long, lz_lt, lz_gt, zmax, zmin, ↓reduceIte, Int.reduceEq, Int.reduceLT, Int.reduceNeg, Int.reduceAdd, Int.reduceSub, Int.reduceMul, Int.ofNat_eq_natCast, Int.cast_ofNat_Int, thr_HS, i32_m]
      refine Ev.ite (fun _ => Ev.ret rfl) (fun q => ?_)
      exact Ev.ite (fun _ => Ev.ret rfl) (fun q' => absurd hv (by omega))
    · have hA' := hA.thr
      generalize (z.1 + 1, z.2.1 + 6, z.2.2) = z' at hA' ⊢
      have hA := hA'
      refine Ev.step (fun F => E12_charge F _ _ _ _) ?_
      rw [ll_1000000, lN_z, zk_long v0 v1]
      refine Ev.kB (in_ev ⟨by omega, by omega⟩ ⟨by decide, by decide⟩ ⟨by decide, by decide⟩) (fun q => absurd q hv) (fun _ => ?_)
      refine Ev.ite (fun _ => ?_) (fun q => absurd k00 q)
      simp (disch := omega) only [g_12_0 hA hR, p_12_0 hA hR, Option.bind_some, up_s, up_k, up_j, up_i, xk_add, xk_sub, xk_mul, xk_neg, lk_add, lN_z, rf_none, rb1, rb0, rbp, xk_nI, zk_eq, zk_lt, zk_eq0, zk_lt0, zk_0lt, zk_long, lz_lt, lz_gt, zmax, zmin, ↓reduceIte, Int.reduceEq, Int.reduceLT, Int.reduceNeg, Int.reduceAdd, Int.reduceSub, Int.reduceMul, Int.ofNat_eq_natCast, Int.cast_ofNat_Int]
      exact Ev.ret rfl
theorem cache_pr (hO : OK n e C I z) {t v : Int} (t0 : -2147483648 ≤ t) (t1 : t < 2147483648) (v0 : -2147483648 ≤ v) (v1 : v < 2147483648) : PR n e C I z (fun F σ => J11_cache F (rf e 11 0) (xk t) (xk v) σ) (fun F σ => J12_cache F (rf e 12 0) (xk t) (xk v) σ) ∨ PT n e C I z 51 1 (fun F σ => J11_cache F (rf e 11 0) (xk t) (xk v) σ) (fun F σ => J12_cache F (rf e 12 0) (xk t) (xk v) σ) := by
  obtain ⟨hA, hR, hC0, hI0⟩ := hO
  have hO : OK n e C I z := ⟨hA, hR, hC0, hI0⟩
  have hC := hC0.th (v := 0)
  have hI := hI0.th (m := n) (v := 0) (by omega)
  have hT := hI.ti
  generalize hJ : th I 0 = J at *
  have n8 := hC.1.1
  have n7 := hC.2.1.1
  have n1 := hC.2.2.1.1
  have n10 := hC.2.2.2.2.1.1
  have hB := hT.1
  have := RB.tasks hB
  have := RB.spaces hB
  have := RB.groups hB
  have := RB.views hB
  have n4 := hA.2.2.2.1
  have lv := living_ev (I := I) hA hC hT t0 t1
  by_cases hv : 0 ≤ v ∧ v ≤ 1000000
  · left
    have pre : ∀ {C' : ST} {r}, (0 ≤ t ∧ t < (J 12 0 1) ∧ (J 22 0 t) = 0 → Ev (fun F => xci (J12_makeRoom F (rf e 12 0) (xk t) (xk v) (HS e C' J z)) fun v23 s22 => if v23 < 0 then (some (.inl (some (.inl v23)), s22)) else ((xgr s22 (rf e 12 0) 12 23).bind fun v24 => (xgr s22 (rf e 12 0) 12 5).bind fun v25 => (xai s22 v25 (xk t)).bind fun v26 => (xai s22 v24 v26).bind fun v27 => (xsi s22 v24 v26 (v27 + xk v)).bind fun s28 => (xgr s28 (rf e 12 0) 12 23).bind fun v29 => (xgr s28 (rf e 12 0) 12 5).bind fun v30 => (xai s28 v30 (xk t)).bind fun v31 => (xai s28 v29 v31).bind fun v32 => some (.inl (some (.inl v32)), s28))) r) → (¬ (0 ≤ t ∧ t < (J 12 0 1) ∧ (J 22 0 t) = 0) → r = rI (-1) (HS e C' J z)) → Ev (fun F => J12_cache F (rf e 12 0) (xk t) (xk v) (HS e C' I z)) r := by
      intro C' r h1 h2
      refine Ev.step (fun F => E12_cache F _ _ _ _) ?_
      rw [ll_1000000, lN_z, zk_long v0 v1]
      refine Ev.kB (in_ev ⟨by omega, by omega⟩ ⟨by decide, by decide⟩ ⟨by decide, by decide⟩) (fun _ => ?_) (fun q => absurd hv q)
      refine Ev.ite (fun q => absurd q k10) (fun _ => ?_)
      simp (disch := omega) only [g_12_0 hA hR, p_12_0 hA hR, d_12 hA hR, Option.bind_some, up_s, up_k, up_j, up_i, xk_add, xk_sub, xk_mul, xk_neg, lk_add, lN_z, rf_none, rb1, rb0, rbp, xk_nI, zk_eq, zk_lt, zk_eq0, zk_lt0, zk_0lt, zk_long, lz_lt, lz_gt, zmax, zmin, ↓reduceIte, Int.reduceEq, Int.reduceLT, Int.reduceNeg, Int.reduceAdd, Int.reduceSub, Int.reduceMul, Int.ofNat_eq_natCast, Int.cast_ofNat_Int]
      rw [show up I 12 0 0 0 = J from hJ]
      refine Ev.kB (isLive_r hA hR hB t0 t1) (fun q => ?_) (fun q => ?_)
      · refine Ev.ite (fun q => absurd q k10) (fun _ => ?_)
        simp (disch := omega) only [d_12 hA hR]
        exact h1 q
      · refine Ev.ite (fun _ => ?_) (fun q => absurd k00 q)
        exact Ev.ret (h2 q).symm
    by_cases h : (0 ≤ t ∧ t < (J 12 0 1) ∧ (J 22 0 t) = 0)
    · obtain ⟨C', J2, A, hE, hr, hC', hI', Ab, ej, hok⟩ := room_pr (I := I) hA hR hC hI hv.1 hv.2 h
      have hT2 := hI'.ti
      have hB2 := hT2.1
      have e1 : (J2 12 0 1) = (J 12 0 1) := ej _ _ _ (by decide) (Or.inr (by decide))
      have bt := hT2.b (t := t) h.1 (by omega)
      have c4 := hC'.1.group (t := t) h.1 (by omega)
      have n8' := hC'.1.1
      have n1' := hC'.2.2.1.1
      have clp : ∀ {r}, Ev (fun F => if A < 0 then some (.inl (some (.inl (xk A))), HS e C' I z) else xcv (J1_keepCached F (rf e 1 (J2 25 0 t)) (xk v) (HS e C' I z)) fun s8 => (xgr s8 (rf e 8 t) 8 4).bind fun v9 => (xgi s8 v9 1 9).bind fun v10 => some (.inl (some (.inl v10)), s8)) r → Ev (fun F => J11_cache F (rf e 11 0) (xk t) (xk v) (HS e C I z)) r := by
        intro r hr'
        refine Ev.step (fun F => E11_cache F _ _ _ _) ?_
        simp (disch := omega) only [d_1 hA, d_3 hA, d_9 hA, g_11_1 hA, g_11_2 hA, g_1_9 hA, g_8_4 hA, Option.bind_some, up_s, up_k, up_j, up_i, xk_add, xk_sub, xk_mul, xk_neg, lk_add, lN_z, rf_none, rb1, rb0, rbp, xk_nI, zk_eq, zk_lt, zk_eq0, zk_lt0, zk_0lt, zk_long, lz_lt, lz_gt, zmax, zmin, ↓reduceIte, Int.reduceEq, Int.reduceLT, Int.reduceNeg, Int.reduceAdd, Int.reduceSub, Int.reduceMul, Int.ofNat_eq_natCast, Int.cast_ofNat_Int, i32_m]
        refine Ev.ite (fun q => absurd q (by omega)) (fun _ => ?_)
        refine Ev.ite (fun q => absurd q (by omega)) (fun _ => ?_)
        refine Ev.kR lv ?_
        rw [lvg_y h]
        try simp (maxSteps := 2000000) (disch := omega) only [d_1 hA, d_3 hA, d_9 hA, g_11_1 hA, g_11_2 hA, g_1_9 hA, g_8_4 hA, Option.bind_some, up_s, up_k, up_j, up_i, xk_add, xk_sub, xk_mul, xk_neg, lk_add, lN_z, rf_none, rb1, rb0, rbp, xk_nI, zk_eq, zk_lt, zk_eq0, zk_lt0, zk_0lt, zk_long, lz_lt, lz_gt, zmax, zmin, ↓reduceIte, Int.reduceEq, Int.reduceLT, Int.reduceNeg, Int.reduceAdd, Int.reduceSub, Int.reduceMul, Int.ofNat_eq_natCast, Int.cast_ofNat_Int]
        refine Ev.ite (fun q => absurd q (by omega)) (fun _ => ?_)
        refine Ev.kI hE ?_
        try simp (maxSteps := 2000000) (disch := omega) only [d_1 hA, d_3 hA, d_9 hA, g_11_1 hA, g_11_2 hA, g_1_9 hA, g_8_4 hA, Option.bind_some, up_s, up_k, up_j, up_i, xk_add, xk_sub, xk_mul, xk_neg, lk_add, lN_z, rf_none, rb1, rb0, rbp, xk_nI, zk_eq, zk_lt, zk_eq0, zk_lt0, zk_0lt, zk_long, lz_lt, lz_gt, zmax, zmin, ↓reduceIte, Int.reduceEq, Int.reduceLT, Int.reduceNeg, Int.reduceAdd, Int.reduceSub, Int.reduceMul, Int.ofNat_eq_natCast, Int.cast_ofNat_Int, c4]
        exact hr'
      by_cases ha : A < 0
      · refine ⟨e, C', J2, z, A, clp (Ev.ite (fun _ => Ev.ret rfl) (fun q => absurd ha q)), pre (fun _ => Ev.kI (hr _) ?_) (fun q => absurd h q), ⟨hA, hR, hC', hI'.sc (by omega) hB2 (fun _ _ _ _ _ _ => rfl)⟩, NX.r (fun j => ?_), ⟨by omega, by omega⟩, ?_⟩
        · simp (disch := omega) only [zk_lt0]
          exact Ev.ite (fun _ => Ev.ret rfl) (fun q => absurd ha q)
        · rw [ej _ _ _ (by decide) (Or.inl (by decide)), ← hJ]
          exact th_f (Or.inl (by decide))
        · rw [ej _ _ _ (by decide) (Or.inr (by decide)), ← hJ]
          exact up_s
      · have ok := hok ha
        have hh := keepCached_ev (I := I) (n := v) hA hC' hT2 (b := (J2 25 0 t)) bt.2.2.1.1 bt.2.2.1.2
        have hC2 := hC'.ca (n := v) (b := (J2 25 0 t)) bt.2.2.1.1 bt.2.2.1.2
        have uu := us_cach hT2 bt.2.2.1.1 bt.2.2.1.2
        have mm := ok.2 (J2 25 0 t) bt.2.2.1.1 chn_r
        have gk := RB.groups hB2
        have mx := RB.max hB2 (j := (J2 25 0 t)) (by omega) (by omega)
        have pg := RB.cached hB2 (j := (J2 25 0 t)) (by omega) (by omega)
        have hI2 := hI'.caU (m := n + 1) (g := (J2 25 0 t)) (v := v) (by omega) bt.2.2.1.1 bt.2.2.1.2 (by omega) (by omega) (fun x x0 x1 hw => ok.2 x x0 hw)
        refine ⟨e, adG J2 (up C' 1 (J2 25 0 t) 9 ((J2 43 0 ((J2 25 0 t))) + v)) 7 (J2 25 0 t) v, up J2 43 0 (J2 25 0 t) ((J2 43 0 ((J2 25 0 t))) + v), z, (J2 43 0 ((J2 25 0 t))) + v, clp (Ev.ite (fun q => absurd q ha) (fun _ => ?_)), pre (fun _ => Ev.kI (hr _) ?_) (fun q => absurd h q), ⟨hA, hR, hC2, hI2⟩, NX.r (fun j => ?_), ⟨by omega, by omega⟩, ?_⟩
        · refine Ev.kV hh ?_
          have c9 := hC2.2.2.1.cached (g := (J2 25 0 t)) bt.2.2.1.1 (by rw [up_k (by decide)]; exact bt.2.2.1.2)
          have c4' := hC2.1.group (t := t) h.1 (by rw [up_k (by decide)]; omega)
          rw [up_s] at c9
          rw [up_k (by decide)] at c4'
          simp (disch := omega) only [g_8_4 hA, g_1_9 hA, c4', c9, Option.bind_some]
          exact Ev.ret rfl
        · simp (disch := omega) only [zk_lt0]
          refine Ev.ite (fun q => absurd q ha) (fun _ => ?_)
          simp (disch := omega) only [g_12_23 hA hR, g_12_5 hA hR, a_43 hA hR, a_25 hA hR, s_43 hA hR, Option.bind_some, up_s, up_k, up_j, up_i, xk_add, xk_sub, xk_mul, xk_neg, lk_add, lN_z, rf_none, rb1, rb0, rbp, xk_nI, zk_eq, zk_lt, zk_eq0, zk_lt0, zk_0lt, zk_long, lz_lt, lz_gt, zmax, zmin, ↓reduceIte, Int.reduceEq, Int.reduceLT, Int.reduceNeg, Int.reduceAdd, Int.reduceSub, Int.reduceMul, Int.ofNat_eq_natCast, Int.cast_ofNat_Int]
          exact Ev.ret rfl
        · rw [up_k (by decide), ej _ _ _ (by decide) (Or.inl (by decide)), ← hJ]
          exact th_f (Or.inl (by decide))
        · rw [up_k (by decide), ej _ _ _ (by decide) (Or.inr (by decide)), ← hJ]
          exact up_s
    · refine PR.look hO (A := -1) (by decide) (by decide) ?_ ?_
      · refine Ev.step (fun F => E11_cache F _ _ _ _) ?_
        simp (disch := omega) only [d_1 hA, d_3 hA, d_9 hA, g_11_1 hA, g_11_2 hA, g_1_9 hA, g_8_4 hA, Option.bind_some, up_s, up_k, up_j, up_i, xk_add, xk_sub, xk_mul, xk_neg, lk_add, lN_z, rf_none, rb1, rb0, rbp, xk_nI, zk_eq, zk_lt, zk_eq0, zk_lt0, zk_0lt, zk_long, lz_lt, lz_gt, zmax, zmin, ↓reduceIte, Int.reduceEq, Int.reduceLT, Int.reduceNeg, Int.reduceAdd, Int.reduceSub, Int.reduceMul, Int.ofNat_eq_natCast, Int.cast_ofNat_Int, i32_m]
        refine Ev.ite (fun q => absurd q (by omega)) (fun _ => ?_)
        refine Ev.ite (fun q => absurd q (by omega)) (fun _ => ?_)
        refine Ev.kR lv ?_
        rw [lvg_n h]
        try simp (maxSteps := 2000000) (disch := omega) only [d_1 hA, d_3 hA, d_9 hA, g_11_1 hA, g_11_2 hA, g_1_9 hA, g_8_4 hA, Option.bind_some, up_s, up_k, up_j, up_i, xk_add, xk_sub, xk_mul, xk_neg, lk_add, lN_z, rf_none, rb1, rb0, rbp, xk_nI, zk_eq, zk_lt, zk_eq0, zk_lt0, zk_0lt, zk_long, lz_lt, lz_gt, zmax, zmin, ↓reduceIte, Int.reduceEq, Int.reduceLT, Int.reduceNeg, Int.reduceAdd, Int.reduceSub, Int.reduceMul, Int.ofNat_eq_natCast, Int.cast_ofNat_Int]
        exact Ev.ret rfl
      · rw [hJ]
        exact pre (fun q => absurd q h) (fun _ => rfl)
  · right
    refine ⟨⟨z.1, ?_⟩, 0, ?_⟩
    · refine Ev.step (fun F => E11_cache F _ _ _ _) ?_
      simp (disch := omega) only [d_1 hA, d_3 hA, d_9 hA, g_11_1 hA, g_11_2 hA, g_1_9 hA, g_8_4 hA, Option.bind_some, up_s, up_k, up_j, up_i, xk_add, xk_sub, xk_mul, xk_neg, lk_add, lN_z, rf_none, rb1, rb0, rbp, xk_nI, zk_eq, zk_lt, zk_eq0, zk_lt0, zk_0lt, zk_long, lz_lt, lz_gt, zmax, zmin, ↓reduceIte, Int.reduceEq, Int.reduceLT, Int.reduceNeg, Int.reduceAdd, Int.reduceSub, Int.reduceMul, Int.ofNat_eq_natCast, Int.cast_ofNat_Int, thr_HS, i32_m]
      refine Ev.ite (fun _ => Ev.ret rfl) (fun q => ?_)
      exact Ev.ite (fun _ => Ev.ret rfl) (fun q' => absurd hv (by omega))
    · have hA' := hA.thr
      generalize (z.1 + 1, z.2.1 + 6, z.2.2) = z' at hA' ⊢
      have hA := hA'
      refine Ev.step (fun F => E12_cache F _ _ _ _) ?_
      rw [ll_1000000, lN_z, zk_long v0 v1]
      refine Ev.kB (in_ev ⟨by omega, by omega⟩ ⟨by decide, by decide⟩ ⟨by decide, by decide⟩) (fun q => absurd q hv) (fun _ => ?_)
      refine Ev.ite (fun _ => ?_) (fun q => absurd k00 q)
      simp (disch := omega) only [g_12_0 hA hR, p_12_0 hA hR, Option.bind_some, up_s, up_k, up_j, up_i, xk_add, xk_sub, xk_mul, xk_neg, lk_add, lN_z, rf_none, rb1, rb0, rbp, xk_nI, zk_eq, zk_lt, zk_eq0, zk_lt0, zk_0lt, zk_long, lz_lt, lz_gt, zmax, zmin, ↓reduceIte, Int.reduceEq, Int.reduceLT, Int.reduceNeg, Int.reduceAdd, Int.reduceSub, Int.reduceMul, Int.ofNat_eq_natCast, Int.cast_ofNat_Int]
      exact Ev.ret rfl
end OPs
