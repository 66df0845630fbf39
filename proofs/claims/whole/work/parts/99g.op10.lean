/-! pairs: told, count, share, mounted, at -/
theorem Ev.bs {α : Type} {a : Option α} {x : α} {k : Nat → α → XR} {r : XV × XH} (h : a = some x) (hk : Ev (fun F => k F x) r) : Ev (fun F => a.bind (k F)) r := by
  subst h
  exact hk
theorem Ev.xg {σ : XH} {o : Option Nat} {t : Nat} {f : Nat → XR} {r : XV × XH} (h : ∀ {K : XR}, xgd σ o t K = K) (hk : Ev f r) : Ev (fun F => xgd σ o t (f F)) r := by
  simp only [h]
  exact hk
theorem Ev.sw {w : Int} {k : Nat} {a b : Nat → XR} {r : XV × XH} (w0 : -2147483648 ≤ w) (w1 : w < 2147483648) (hk : k < 100) (h1 : w = k → Ev a r) (h2 : w ≠ k → Ev b r) : Ev (fun F => if xk w = nI k then a F else b F) r := by
  have e : (xk w = xk (k : Int)) = (w = k) := zk_eq w0 w1 (by omega) (by omega)
  exact Ev.ite (fun q => h1 (Eq.mp e q)) (fun q => h2 (fun y => q (Eq.mpr e y)))
theorem n0k : ¬ (0 : Int32) < xk 0 := by decide +kernel
theorem p0k : (0 : Int32) < xk 1 := by decide +kernel
theorem rI_n {v : Int} {σ : XH} : rI v σ = rI (xk v).toInt σ := by
  unfold rI
  rw [show xk (xk v).toInt = xk v from Int32.ofInt_toInt _]
theorem xkt_b {v : Int} : -2147483648 ≤ (xk v).toInt ∧ (xk v).toInt < 2147483648 := ⟨Int32.le_toInt _, Int32.toInt_lt _⟩
section OPs
variable {e : EN} {C I J : ST} {z : Nat × Nat × Nat × Nat} {n : Int}
theorem PR.look' (hO : OK n e C I z) {fc fr : Nat → XH → XR} {A : Int} (hc : Ev (fun F => fc F (HS e C I z)) (rI A (HS e C I z))) (hr : Ev (fun F => fr F (HS e C I z)) (rI A (HS e C (th I 0) z))) : PR n e C I z fc fr := by
  rw [rI_n] at hc hr
  exact PR.look hO xkt_b.1 xkt_b.2 hc hr
def gtT (J : ST) (g w : Int) : Int := if w = 0 then usF J g else if w = 1 then lvF J g else if w = 2 then (J 43 0 g) else if w = 3 then (J 40 0 g) else if w = 4 then (J 39 0 g) else if w = 5 then (J 41 0 g) else if w = 6 then (J 42 0 g) else if w = 7 then (J 44 0 g) else (J 38 0 g)
theorem gtell_ev (hA : WA e z) (hC : Cpl e C J) (hT : TI J) {g w : Int} (g0 : 0 ≤ g) (g1 : g < (J 12 0 17)) (w0 : 0 ≤ w) (w1 : w ≤ 8) : Ev (fun F => J1_tell F (rf e 1 g) (xk w) (HS e C I z)) (rI (gtT J g w) (HS e C I z)) := by
  have n8 := hC.1.1
  have n7 := hC.2.1.1
  have n1 := hC.2.2.1.1
  have n10 := hC.2.2.2.2.1.1
  have hB := hT.1
  have := RB.tasks hB
  have := RB.spaces hB
  have := RB.groups hB
  have := RB.views hB
  have n4 := hA.2.2.2.1
  have ww := RB.ww hB g g0 (by omega)
  refine Ev.step (fun F => E1_tell F _ _ _) ?_
  simp (disch := omega) only [g_1_0 hA, g_1_1 hA, g_1_10 hA, g_1_3 hA, g_1_4 hA, g_1_5 hA, g_1_6 hA, g_1_7 hA, g_1_8 hA, g_1_9 hA, Option.bind_some, up_s, up_k, up_j, up_i, xk_add, xk_sub, xk_mul, xk_neg, lk_add, lN_z, rf_none, rb1, rb0, rbp, xk_nI, zk_eq, zk_lt, zk_eq0, zk_lt0, zk_0lt, zk_long, lz_lt, lz_gt, zmax, zmin, ↓reduceIte, Int.reduceEq, Int.reduceLT, Int.reduceNeg, Int.reduceAdd, Int.reduceSub, Int.reduceMul, Int.ofNat_eq_natCast, Int.cast_ofNat_Int, CT.space hC.1, CT.view hC.1, CT.parent hC.1, CT.group hC.1, CT.state hC.1, CT.pages hC.1, CT.points hC.1, CT.ticks hC.1, CT.asleep hC.1, CT.time hC.1, CP.outer hC.2.1, CP.depth hC.2.1, CP.init hC.2.1, CP.given hC.2.1, CG.outer hC.2.2.1, CG.depth hC.2.2.1, CG.max hC.2.2.1, CG.most hC.2.2.1, CG.weight hC.2.2.1, CG.quota hC.2.2.1, CG.cached hC.2.2.1, CG.ran hC.2.2.1, CG.time hC.2.2.1, CG.uses hC.2.2.1, CG.live hC.2.2.1, rf_eq hA]
  unfold gtT
  refine Ev.ite (fun h => Ev.ret (by rw [if_pos (c := w = 0) (by omega)]; rfl)) (fun h => ?_)
  rw [if_neg (c := w = 0) (by omega)]
  refine Ev.ite (fun h => Ev.ret (by rw [if_pos (c := w = 1) (by omega)]; rfl)) (fun h => ?_)
  rw [if_neg (c := w = 1) (by omega)]
  refine Ev.ite (fun h => Ev.ret (by rw [if_pos (c := w = 2) (by omega)]; rfl)) (fun h => ?_)
  rw [if_neg (c := w = 2) (by omega)]
  refine Ev.ite (fun h => Ev.ret (by rw [if_pos (c := w = 3) (by omega)]; rfl)) (fun h => ?_)
  rw [if_neg (c := w = 3) (by omega)]
  refine Ev.ite (fun h => Ev.ret (by rw [if_pos (c := w = 4) (by omega)]; rfl)) (fun h => ?_)
  rw [if_neg (c := w = 4) (by omega)]
  refine Ev.ite (fun h => Ev.ret (by rw [if_pos (c := w = 5) (by omega)]; rfl)) (fun h => ?_)
  rw [if_neg (c := w = 5) (by omega)]
  refine Ev.ite (fun h => Ev.ret (by rw [if_pos (c := w = 6) (by omega)]; rfl)) (fun h => ?_)
  rw [if_neg (c := w = 6) (by omega)]
  refine Ev.ite (fun h => Ev.ret (by rw [if_pos (c := w = 7) (by omega)]; rfl)) (fun h => ?_)
  rw [if_neg (c := w = 7) (by omega)]
  refine Ev.ite (fun q => Ev.ret (by rw [show (J 38 0 g) = -1 by omega]; rfl)) (fun q => ?_)
  try simp (maxSteps := 2000000) (disch := omega) only [g_1_0 hA, g_1_1 hA, g_1_10 hA, g_1_3 hA, g_1_4 hA, g_1_5 hA, g_1_6 hA, g_1_7 hA, g_1_8 hA, g_1_9 hA, Option.bind_some, up_s, up_k, up_j, up_i, xk_add, xk_sub, xk_mul, xk_neg, lk_add, lN_z, rf_none, rb1, rb0, rbp, xk_nI, zk_eq, zk_lt, zk_eq0, zk_lt0, zk_0lt, zk_long, lz_lt, lz_gt, zmax, zmin, ↓reduceIte, Int.reduceEq, Int.reduceLT, Int.reduceNeg, Int.reduceAdd, Int.reduceSub, Int.reduceMul, Int.ofNat_eq_natCast, Int.cast_ofNat_Int, CT.space hC.1, CT.view hC.1, CT.parent hC.1, CT.group hC.1, CT.state hC.1, CT.pages hC.1, CT.points hC.1, CT.ticks hC.1, CT.asleep hC.1, CT.time hC.1, CP.outer hC.2.1, CP.depth hC.2.1, CP.init hC.2.1, CP.given hC.2.1, CG.outer hC.2.2.1, CG.depth hC.2.2.1, CG.max hC.2.2.1, CG.most hC.2.2.1, CG.weight hC.2.2.1, CG.quota hC.2.2.1, CG.cached hC.2.2.1, CG.ran hC.2.2.1, CG.time hC.2.2.1, CG.uses hC.2.2.1, CG.live hC.2.2.1, rf_eq hA]
  exact Ev.ret rfl
theorem told_pr (hO : OK n e C I z) {g w : Int} (t0 : -2147483648 ≤ g) (t1 : g < 2147483648) (w0 : -2147483648 ≤ w) (w1 : w < 2147483648) : PR n e C I z (fun F σ => J11_told F (rf e 11 0) (xk g) (xk w) σ) (fun F σ => J12_told F (rf e 12 0) (xk g) (xk w) σ) ∨ PT n e C I z 50 1 (fun F σ => J11_told F (rf e 11 0) (xk g) (xk w) σ) (fun F σ => J12_told F (rf e 12 0) (xk g) (xk w) σ) := by
  obtain ⟨hA, hR, hC0, hI0⟩ := hO
  have hO : OK n e C I z := ⟨hA, hR, hC0, hI0⟩
  have hC := hC0.th (v := 0)
  have hI := hI0.th (m := n) (v := 0) (by omega)
  have hT := hI.ti
  generalize hJ : th I 0 = J at *
  have n8 := hC.1.1
  have n7 := hC.2.1.1
  have n1 := hC.2.2.1.1
  have n10 := hC.2.2.2.2.1.1
  have hB := hT.1
  have := RB.tasks hB
  have := RB.spaces hB
  have := RB.groups hB
  have := RB.views hB
  have n4 := hA.2.2.2.1
  have ma := madeAt_ev (I := I) hA hC hT t0 t1
  have ig := isGroup_ev (C := C) (I := J) hA hR hB t0 t1
  by_cases h : 0 ≤ w ∧ w ≤ 8
  · left
    by_cases ht : 0 ≤ g ∧ g < (J 12 0 17)
    · rw [if_pos ht] at ma
      refine PR.look' hO (A := gtT J g w) ?_ ?_
      · refine Ev.step (fun F => E11_told F _ _ _ _) ?_
        simp (disch := omega) only [d_1 hA, d_2 hA, g_11_0 hA, Option.bind_some, up_s, up_k, up_j, up_i, xk_add, xk_sub, xk_mul, xk_neg, lk_add, lN_z, rf_none, rb1, rb0, rbp, xk_nI, zk_eq, zk_lt, zk_eq0, zk_lt0, zk_0lt, zk_long, lz_lt, lz_gt, zmax, zmin, ↓reduceIte, Int.reduceEq, Int.reduceLT, Int.reduceNeg, Int.reduceAdd, Int.reduceSub, Int.reduceMul, Int.ofNat_eq_natCast, Int.cast_ofNat_Int]
        refine Ev.ite (fun q => absurd q (by omega)) (fun _ => ?_)
        refine Ev.ite (fun q => absurd q (by omega)) (fun _ => ?_)
        refine Ev.kR ma ?_
        try simp (maxSteps := 2000000) (disch := omega) only [d_1 hA, d_2 hA, g_11_0 hA, Option.bind_some, up_s, up_k, up_j, up_i, xk_add, xk_sub, xk_mul, xk_neg, lk_add, lN_z, rf_none, rb1, rb0, rbp, xk_nI, zk_eq, zk_lt, zk_eq0, zk_lt0, zk_0lt, zk_long, lz_lt, lz_gt, zmax, zmin, ↓reduceIte, Int.reduceEq, Int.reduceLT, Int.reduceNeg, Int.reduceAdd, Int.reduceSub, Int.reduceMul, Int.ofNat_eq_natCast, Int.cast_ofNat_Int]
        refine Ev.ite (fun q => absurd q (by omega)) (fun _ => ?_)
        exact Ev.kI (gtell_ev hA hC hT ht.1 ht.2 h.1 h.2) (Ev.ret rfl)
      · refine Ev.step (fun F => E12_told F _ _ _ _) ?_
        rw [ll_8, lN_z, zk_long w0 w1]
        refine Ev.kB (in_ev ⟨by omega, by omega⟩ ⟨by decide, by decide⟩ ⟨by decide, by decide⟩) (fun _ => ?_) (fun q => absurd h q)
        refine Ev.ite (fun q => absurd q k10) (fun _ => ?_)
        refine Ev.bs (p_12_0 hA hR) ?_
        refine Ev.bs (g_12_0 hA hR) ?_
        refine Ev.ite (fun q => absurd q (by rw [up_s]; exact n0k)) (fun _ => ?_)
        rw [show up I 12 0 0 0 = J from hJ, hJ]
        refine Ev.xg (d_12 hA hR) ?_
        refine Ev.kB ig (fun _ => ?_) (fun q => absurd ht q)
        refine Ev.ite (fun q => absurd q k10) (fun _ => ?_)
        unfold gtT
        refine Ev.sw w0 w1 (by decide) (fun h => ?_) (fun h => ?_)
        · rw [if_pos (c := w = 0) (by omega)]
          exact Ev.xg (d_12 hA hR) (Ev.kI (uses_ev hA hR hB (by omega) (by omega)) (Ev.ret rfl))
        rw [if_neg (c := w = 0) (by omega)]
        refine Ev.sw w0 w1 (by decide) (fun h => ?_) (fun h => ?_)
        · rw [if_pos (c := w = 1) (by omega)]
          exact Ev.xg (d_12 hA hR) (Ev.kI (liveIn_ev hA hR hB (by omega) (by omega)) (Ev.ret rfl))
        rw [if_neg (c := w = 1) (by omega)]
        refine Ev.sw w0 w1 (by decide) (fun h => Ev.bs (g_12_23 hA hR) (Ev.bs (a_43 hA hR ht.1 (by omega)) (Ev.ret (by rw [if_pos (c := w = 2) (by omega)]; rfl)))) (fun h => ?_)
        rw [if_neg (c := w = 2) (by omega)]
        refine Ev.sw w0 w1 (by decide) (fun h => Ev.bs (g_12_20 hA hR) (Ev.bs (a_40 hA hR ht.1 (by omega)) (Ev.ret (by rw [if_pos (c := w = 3) (by omega)]; rfl)))) (fun h => ?_)
        rw [if_neg (c := w = 3) (by omega)]
        refine Ev.sw w0 w1 (by decide) (fun h => Ev.bs (g_12_19 hA hR) (Ev.bs (a_39 hA hR ht.1 (by omega)) (Ev.ret (by rw [if_pos (c := w = 4) (by omega)]; rfl)))) (fun h => ?_)
        rw [if_neg (c := w = 4) (by omega)]
        refine Ev.sw w0 w1 (by decide) (fun h => Ev.bs (g_12_21 hA hR) (Ev.bs (a_41 hA hR ht.1 (by omega)) (Ev.ret (by rw [if_pos (c := w = 5) (by omega)]; rfl)))) (fun h => ?_)
        rw [if_neg (c := w = 5) (by omega)]
        refine Ev.sw w0 w1 (by decide) (fun h => Ev.bs (g_12_22 hA hR) (Ev.bs (a_42 hA hR ht.1 (by omega)) (Ev.ret (by rw [if_pos (c := w = 6) (by omega)]; rfl)))) (fun h => ?_)
        rw [if_neg (c := w = 6) (by omega)]
        refine Ev.sw w0 w1 (by decide) (fun h => Ev.bs (g_12_24 hA hR) (Ev.bs (a_44 hA hR ht.1 (by omega)) (Ev.ret (by rw [if_pos (c := w = 7) (by omega)]; rfl)))) (fun h => ?_)
        rw [if_neg (c := w = 7) (by omega)]
        exact Ev.bs (g_12_18 hA hR) (Ev.bs (a_38 hA hR ht.1 (by omega)) (Ev.ret rfl))
    · rw [if_neg ht] at ma
      refine PR.look' hO (A := -1) ?_ ?_
      · refine Ev.step (fun F => E11_told F _ _ _ _) ?_
        simp (disch := omega) only [d_1 hA, d_2 hA, g_11_0 hA, Option.bind_some, up_s, up_k, up_j, up_i, xk_add, xk_sub, xk_mul, xk_neg, lk_add, lN_z, rf_none, rb1, rb0, rbp, xk_nI, zk_eq, zk_lt, zk_eq0, zk_lt0, zk_0lt, zk_long, lz_lt, lz_gt, zmax, zmin, ↓reduceIte, Int.reduceEq, Int.reduceLT, Int.reduceNeg, Int.reduceAdd, Int.reduceSub, Int.reduceMul, Int.ofNat_eq_natCast, Int.cast_ofNat_Int]
        refine Ev.ite (fun q => absurd q (by omega)) (fun _ => ?_)
        refine Ev.ite (fun q => absurd q (by omega)) (fun _ => ?_)
        refine Ev.kR ma ?_
        try simp (maxSteps := 2000000) (disch := omega) only [d_1 hA, d_2 hA, g_11_0 hA, Option.bind_some, up_s, up_k, up_j, up_i, xk_add, xk_sub, xk_mul, xk_neg, lk_add, lN_z, rf_none, rb1, rb0, rbp, xk_nI, zk_eq, zk_lt, zk_eq0, zk_lt0, zk_0lt, zk_long, lz_lt, lz_gt, zmax, zmin, ↓reduceIte, Int.reduceEq, Int.reduceLT, Int.reduceNeg, Int.reduceAdd, Int.reduceSub, Int.reduceMul, Int.ofNat_eq_natCast, Int.cast_ofNat_Int]
        exact Ev.ret rfl
      · refine Ev.step (fun F => E12_told F _ _ _ _) ?_
        rw [ll_8, lN_z, zk_long w0 w1]
        refine Ev.kB (in_ev ⟨by omega, by omega⟩ ⟨by decide, by decide⟩ ⟨by decide, by decide⟩) (fun _ => ?_) (fun q => absurd h q)
        refine Ev.ite (fun q => absurd q k10) (fun _ => ?_)
        refine Ev.bs (p_12_0 hA hR) ?_
        refine Ev.bs (g_12_0 hA hR) ?_
        refine Ev.ite (fun q => absurd q (by rw [up_s]; exact n0k)) (fun _ => ?_)
        rw [show up I 12 0 0 0 = J from hJ, hJ]
        refine Ev.xg (d_12 hA hR) ?_
        refine Ev.kB ig (fun q => absurd q ht) (fun _ => ?_)
        exact Ev.ite (fun _ => Ev.ret rfl) (fun q => absurd k00 q)
  · right
    refine ⟨⟨z.1, ?_⟩, 0, ?_⟩
    · refine Ev.step (fun F => E11_told F _ _ _ _) ?_
      simp (disch := omega) only [d_1 hA, d_2 hA, g_11_0 hA, Option.bind_some, up_s, up_k, up_j, up_i, xk_add, xk_sub, xk_mul, xk_neg, lk_add, lN_z, rf_none, rb1, rb0, rbp, xk_nI, zk_eq, zk_lt, zk_eq0, zk_lt0, zk_0lt, zk_long, lz_lt, lz_gt, zmax, zmin, ↓reduceIte, Int.reduceEq, Int.reduceLT, Int.reduceNeg, Int.reduceAdd, Int.reduceSub, Int.reduceMul, Int.ofNat_eq_natCast, Int.cast_ofNat_Int, thr_HS]
      refine Ev.ite (fun _ => Ev.ret rfl) (fun q => ?_)
      exact Ev.ite (fun _ => Ev.ret rfl) (fun q' => absurd h (by omega))
    · have hA' := hA.thr
      generalize (z.1 + 1, z.2.1 + 6, z.2.2) = z' at hA' ⊢
      have hA := hA'
      refine Ev.step (fun F => E12_told F _ _ _ _) ?_
      rw [ll_8, lN_z, zk_long w0 w1]
      refine Ev.kB (in_ev ⟨by omega, by omega⟩ ⟨by decide, by decide⟩ ⟨by decide, by decide⟩) (fun q => absurd q h) (fun _ => ?_)
      refine Ev.ite (fun _ => ?_) (fun q => absurd k00 q)
      refine Ev.bs (p_12_0 hA hR) ?_
      refine Ev.bs (g_12_0 hA hR) ?_
      exact Ev.ite (fun _ => Ev.ret rfl) (fun q => absurd (by rw [up_s]; exact p0k) q)
theorem inState_ev (hA : WA e z) (hC : Cpl e C J) (hT : TI J) {w : Int} (w0 : 0 ≤ w) (w1 : w ≤ 2) : Ev (fun F => J9_inState F (rf e 9 0) (xk w) (HS e C I z)) (rI (sm (ctT J w) (J 12 0 1)) (HS e C I z)) := by
  have n8 := hC.1.1
  have n7 := hC.2.1.1
  have n1 := hC.2.2.1.1
  have n10 := hC.2.2.2.2.1.1
  have hB := hT.1
  have := RB.tasks hB
  have := RB.spaces hB
  have := RB.groups hB
  have := RB.views hB
  have n4 := hA.2.2.2.1
  refine Ev.step (fun F => E9_inState F _ _ _) ?_
  refine lpN (P := fun t => ∀ acc, 0 ≤ t → t ≤ (J 12 0 1) → acc = sm (ctT J w) t → Ev (fun F => J9_inState_4 F (rf e 9 0) (xk w) (xk acc) (xk t) (HS e C I z)) (rI (sm (ctT J w) (J 12 0 1)) (HS e C I z))) (J 12 0 1) (fun t ih acc a0 a1 ha => ?_) 0 0 (by omega) (by omega) rfl
  refine Ev.step (fun F => E9_inState_4 F _ _ _ _ _) ?_
  simp (disch := omega) only [b_13 hA, g_8_5 hA, g_9_0 hA, g_9_2 hA, Option.bind_some, up_s, up_k, up_j, up_i, xk_add, xk_sub, xk_mul, xk_neg, lk_add, lN_z, rf_none, rb1, rb0, rbp, xk_nI, zk_eq, zk_lt, zk_eq0, zk_lt0, zk_0lt, zk_long, lz_lt, lz_gt, zmax, zmin, ↓reduceIte, Int.reduceEq, Int.reduceLT, Int.reduceNeg, Int.reduceAdd, Int.reduceSub, Int.reduceMul, Int.ofNat_eq_natCast, Int.cast_ofNat_Int]
  refine Ev.ite (fun h => ?_) (fun h => ?_)
  · have h : t < (J 12 0 1) := by omega
    have b := hT.b a0 h
    have c5 := hC.1.state a0 h
    have ih := fun a => ih h a (by omega) (by omega)
    rw [sm_s a0, ← ha] at ih
    try simp (maxSteps := 2000000) (disch := omega) only [b_13 hA, g_8_5 hA, g_9_0 hA, g_9_2 hA, Option.bind_some, up_s, up_k, up_j, up_i, xk_add, xk_sub, xk_mul, xk_neg, lk_add, lN_z, rf_none, rb1, rb0, rbp, xk_nI, zk_eq, zk_lt, zk_eq0, zk_lt0, zk_0lt, zk_long, lz_lt, lz_gt, zmax, zmin, ↓reduceIte, Int.reduceEq, Int.reduceLT, Int.reduceNeg, Int.reduceAdd, Int.reduceSub, Int.reduceMul, Int.ofNat_eq_natCast, Int.cast_ofNat_Int, c5]
    refine Ev.ite (fun hs => ?_) (fun hs => ?_)
    · exact ih _ (by rw [ctT, if_pos hs])
    · exact ih _ (by rw [ctT, if_neg hs, Int.add_zero])
  · have : t = (J 12 0 1) := by omega
    subst this
    exact Ev.ret (by rw [ha]; rfl)
theorem count_pr (hO : OK n e C I z) {w : Int} (w0 : -2147483648 ≤ w) (w1 : w < 2147483648) : PR n e C I z (fun F σ => J11_count F (rf e 11 0) (xk w) σ) (fun F σ => J12_count F (rf e 12 0) (xk w) σ) ∨ PT n e C I z 50 1 (fun F σ => J11_count F (rf e 11 0) (xk w) σ) (fun F σ => J12_count F (rf e 12 0) (xk w) σ) := by
  obtain ⟨hA, hR, hC0, hI0⟩ := hO
  have hO : OK n e C I z := ⟨hA, hR, hC0, hI0⟩
  have hC := hC0.th (v := 0)
  have hI := hI0.th (m := n) (v := 0) (by omega)
  have hT := hI.ti
  generalize hJ : th I 0 = J at *
  have n8 := hC.1.1
  have n7 := hC.2.1.1
  have n1 := hC.2.2.1.1
  have n10 := hC.2.2.2.2.1.1
  have hB := hT.1
  have := RB.tasks hB
  have := RB.spaces hB
  have := RB.groups hB
  have := RB.views hB
  have n4 := hA.2.2.2.1
  have hx : ∀ {r}, (0 ≤ w ∧ w ≤ 8) → Ev (fun F => if w = 0 then some (.inl (some (.inl (xk (J 12 0 1)))), HS e C J z) else if w = 1 then J12_count_83 F (rf e 12 0) (xk w) (xk 0) (xk 0) (HS e C J z) else if w = 2 then J12_count_83 F (rf e 12 0) (xk w) (xk 0) (xk 0) (HS e C J z) else if w = 3 then some (.inl (some (.inl (xk (J 12 0 13)))), HS e C J z) else if w = 4 then some (.inl (some (.inl (xk (J 12 0 17)))), HS e C J z) else if w = 5 then some (.inl (some (.inl (xk (J 12 0 28)))), HS e C J z) else if w = 6 then (xci (J12_freeMounts F (rf e 12 0) (HS e C J z)) fun v18 s17 => some (.inl (some (.inl ((xk 80) - v18))), s17)) else if w = 7 then some (.inl (some (.inl (xk (J 12 0 26)))), HS e C J z) else some (.inl (some (.inl (xk (J 12 0 27)))), HS e C J z)) r → Ev (fun F => J12_count F (rf e 12 0) (xk w) (HS e C I z)) r := by
    intro r h hr
    refine Ev.step (fun F => E12_count F _ _ _) ?_
    rw [ll_8, lN_z, zk_long w0 w1]
    refine Ev.kB (in_ev ⟨by omega, by omega⟩ ⟨by decide, by decide⟩ ⟨by decide, by decide⟩) (fun _ => ?_) (fun q => absurd h q)
    refine Ev.ite (fun q => absurd q k10) (fun _ => ?_)
    refine Ev.bs (p_12_0 hA hR) ?_
    rw [show up I 12 0 0 0 = J from hJ]
    refine Ev.sw w0 w1 (by decide) (fun h => ?_) (fun h0 => ?_)
    · have hw := h
      simp only [Int.cast_ofNat_Int, Int.natCast_zero, Int.natCast_one] at hw
      subst hw
      simp only [Int.reduceEq, if_false, if_true] at hr
      exact Ev.bs (g_12_1 hA hR) hr
    refine Ev.sw w0 w1 (by decide) (fun h => ?_) (fun h1 => ?_)
    · have hw := h
      simp only [Int.cast_ofNat_Int, Int.natCast_zero, Int.natCast_one] at hw
      subst hw
      simp only [Int.reduceEq, if_false, if_true] at hr
      exact hr
    refine Ev.sw w0 w1 (by decide) (fun h => ?_) (fun h2 => ?_)
    · have hw := h
      simp only [Int.cast_ofNat_Int, Int.natCast_zero, Int.natCast_one] at hw
      subst hw
      simp only [Int.reduceEq, if_false, if_true] at hr
      exact hr
    refine Ev.sw w0 w1 (by decide) (fun h => ?_) (fun h3 => ?_)
    · have hw := h
      simp only [Int.cast_ofNat_Int, Int.natCast_zero, Int.natCast_one] at hw
      subst hw
      simp only [Int.reduceEq, if_false, if_true] at hr
      exact Ev.bs (g_12_13 hA hR) hr
    refine Ev.sw w0 w1 (by decide) (fun h => ?_) (fun h4 => ?_)
    · have hw := h
      simp only [Int.cast_ofNat_Int, Int.natCast_zero, Int.natCast_one] at hw
      subst hw
      simp only [Int.reduceEq, if_false, if_true] at hr
      exact Ev.bs (g_12_17 hA hR) hr
    refine Ev.sw w0 w1 (by decide) (fun h => ?_) (fun h5 => ?_)
    · have hw := h
      simp only [Int.cast_ofNat_Int, Int.natCast_zero, Int.natCast_one] at hw
      subst hw
      simp only [Int.reduceEq, if_false, if_true] at hr
      exact Ev.bs (g_12_28 hA hR) hr
    refine Ev.sw w0 w1 (by decide) (fun h => ?_) (fun h6 => ?_)
    · have hw := h
      simp only [Int.cast_ofNat_Int, Int.natCast_zero, Int.natCast_one] at hw
      subst hw
      simp only [Int.reduceEq, if_false, if_true] at hr
      exact Ev.xg (d_12 hA hR) hr
    refine Ev.sw w0 w1 (by decide) (fun h => ?_) (fun h7 => ?_)
    · have hw := h
      simp only [Int.cast_ofNat_Int, Int.natCast_zero, Int.natCast_one] at hw
      subst hw
      simp only [Int.reduceEq, if_false, if_true] at hr
      exact Ev.bs (g_12_26 hA hR) hr
    refine Ev.sw w0 w1 (by decide) (fun h => ?_) (fun h8 => ?_)
    · have hw := h
      simp only [Int.cast_ofNat_Int, Int.natCast_zero, Int.natCast_one] at hw
      subst hw
      simp only [Int.reduceEq, if_false, if_true] at hr
      exact Ev.bs (g_12_27 hA hR) hr
    exact absurd h (by omega)
  by_cases h : 0 ≤ w ∧ w ≤ 8
  · left
    have hx := fun {r} => hx (r := r) h
    have cn := hC.2.2.2.2.2.1
    have cv := hC.2.2.2.2.2.2.1
    have ct := hC.2.2.2.2.1.2.2.2.1
    have s0 := inState_ev (I := I) hA hC hT (w := 0) (by omega) (by omega)
    have s1 := inState_ev (I := I) hA hC hT (w := 1) (by omega) (by omega)
    have c83 := fun w a b => count83_ev (C := C) (I := J) hA hR hB (w := w) a b
    have hc : w = 0 ∨ w = 1 ∨ w = 2 ∨ w = 3 ∨ w = 4 ∨ w = 5 ∨ w = 6 ∨ w = 7 ∨ w = 8 := by omega
    rcases hc with rfl | rfl | rfl | rfl | rfl | rfl | rfl | rfl | rfl
    · refine PR.look' hO (A := (J 12 0 1)) ?_ (by rw [hJ]; refine hx ?_; simp only [Int.reduceEq, if_false, if_true]; exact Ev.ret rfl)
      refine Ev.step (fun F => E11_count F _ _ _) ?_
      simp (disch := omega) only [d_9 hA, g_0_2 hA, g_11_0 hA, g_11_1 hA, g_11_2 hA, g_11_3 hA, g_11_4 hA, g_2_1 hA, g_3_2 hA, g_5_3 hA, g_5_4 hA, g_9_2 hA, g_9_3 hA, Option.bind_some, up_s, up_k, up_j, up_i, xk_add, xk_sub, xk_mul, xk_neg, lk_add, lN_z, rf_none, rb1, rb0, rbp, xk_nI, zk_eq, zk_lt, zk_eq0, zk_lt0, zk_0lt, zk_long, lz_lt, lz_gt, zmax, zmin, ↓reduceIte, Int.reduceEq, Int.reduceLT, Int.reduceNeg, Int.reduceAdd, Int.reduceSub, Int.reduceMul, Int.ofNat_eq_natCast, Int.cast_ofNat_Int]
      exact Ev.ret (by rw [n8]; rfl)
    · refine PR.look' hO (A := sm (ctT J 0) (J 12 0 1)) ?_ (by rw [hJ]; refine hx ?_; simp only [Int.reduceEq, if_false, if_true]; exact c83 1 (by omega) (by omega))
      refine Ev.step (fun F => E11_count F _ _ _) ?_
      simp (disch := omega) only [d_9 hA, g_0_2 hA, g_11_0 hA, g_11_1 hA, g_11_2 hA, g_11_3 hA, g_11_4 hA, g_2_1 hA, g_3_2 hA, g_5_3 hA, g_5_4 hA, g_9_2 hA, g_9_3 hA, Option.bind_some, up_s, up_k, up_j, up_i, xk_add, xk_sub, xk_mul, xk_neg, lk_add, lN_z, rf_none, rb1, rb0, rbp, xk_nI, zk_eq, zk_lt, zk_eq0, zk_lt0, zk_0lt, zk_long, lz_lt, lz_gt, zmax, zmin, ↓reduceIte, Int.reduceEq, Int.reduceLT, Int.reduceNeg, Int.reduceAdd, Int.reduceSub, Int.reduceMul, Int.ofNat_eq_natCast, Int.cast_ofNat_Int]
      exact Ev.kI s0 (Ev.ret rfl)
    · refine PR.look' hO (A := sm (ctT J 1) (J 12 0 1)) ?_ (by rw [hJ]; refine hx ?_; simp only [Int.reduceEq, if_false, if_true]; exact c83 2 (by omega) (by omega))
      refine Ev.step (fun F => E11_count F _ _ _) ?_
      simp (disch := omega) only [d_9 hA, g_0_2 hA, g_11_0 hA, g_11_1 hA, g_11_2 hA, g_11_3 hA, g_11_4 hA, g_2_1 hA, g_3_2 hA, g_5_3 hA, g_5_4 hA, g_9_2 hA, g_9_3 hA, Option.bind_some, up_s, up_k, up_j, up_i, xk_add, xk_sub, xk_mul, xk_neg, lk_add, lN_z, rf_none, rb1, rb0, rbp, xk_nI, zk_eq, zk_lt, zk_eq0, zk_lt0, zk_0lt, zk_long, lz_lt, lz_gt, zmax, zmin, ↓reduceIte, Int.reduceEq, Int.reduceLT, Int.reduceNeg, Int.reduceAdd, Int.reduceSub, Int.reduceMul, Int.ofNat_eq_natCast, Int.cast_ofNat_Int]
      exact Ev.kI s1 (Ev.ret rfl)
    · refine PR.look' hO (A := (J 12 0 13)) ?_ (by rw [hJ]; refine hx ?_; simp only [Int.reduceEq, if_false, if_true]; exact Ev.ret rfl)
      refine Ev.step (fun F => E11_count F _ _ _) ?_
      simp (disch := omega) only [d_9 hA, g_0_2 hA, g_11_0 hA, g_11_1 hA, g_11_2 hA, g_11_3 hA, g_11_4 hA, g_2_1 hA, g_3_2 hA, g_5_3 hA, g_5_4 hA, g_9_2 hA, g_9_3 hA, Option.bind_some, up_s, up_k, up_j, up_i, xk_add, xk_sub, xk_mul, xk_neg, lk_add, lN_z, rf_none, rb1, rb0, rbp, xk_nI, zk_eq, zk_lt, zk_eq0, zk_lt0, zk_0lt, zk_long, lz_lt, lz_gt, zmax, zmin, ↓reduceIte, Int.reduceEq, Int.reduceLT, Int.reduceNeg, Int.reduceAdd, Int.reduceSub, Int.reduceMul, Int.ofNat_eq_natCast, Int.cast_ofNat_Int]
      exact Ev.ret (by rw [n7]; rfl)
    · refine PR.look' hO (A := (J 12 0 17)) ?_ (by rw [hJ]; refine hx ?_; simp only [Int.reduceEq, if_false, if_true]; exact Ev.ret rfl)
      refine Ev.step (fun F => E11_count F _ _ _) ?_
      simp (disch := omega) only [d_9 hA, g_0_2 hA, g_11_0 hA, g_11_1 hA, g_11_2 hA, g_11_3 hA, g_11_4 hA, g_2_1 hA, g_3_2 hA, g_5_3 hA, g_5_4 hA, g_9_2 hA, g_9_3 hA, Option.bind_some, up_s, up_k, up_j, up_i, xk_add, xk_sub, xk_mul, xk_neg, lk_add, lN_z, rf_none, rb1, rb0, rbp, xk_nI, zk_eq, zk_lt, zk_eq0, zk_lt0, zk_0lt, zk_long, lz_lt, lz_gt, zmax, zmin, ↓reduceIte, Int.reduceEq, Int.reduceLT, Int.reduceNeg, Int.reduceAdd, Int.reduceSub, Int.reduceMul, Int.ofNat_eq_natCast, Int.cast_ofNat_Int]
      exact Ev.ret (by rw [n1]; rfl)
    · refine PR.look' hO (A := (J 12 0 28)) ?_ (by rw [hJ]; refine hx ?_; simp only [Int.reduceEq, if_false, if_true]; exact Ev.ret rfl)
      refine Ev.step (fun F => E11_count F _ _ _) ?_
      simp (disch := omega) only [d_9 hA, g_0_2 hA, g_11_0 hA, g_11_1 hA, g_11_2 hA, g_11_3 hA, g_11_4 hA, g_2_1 hA, g_3_2 hA, g_5_3 hA, g_5_4 hA, g_9_2 hA, g_9_3 hA, Option.bind_some, up_s, up_k, up_j, up_i, xk_add, xk_sub, xk_mul, xk_neg, lk_add, lN_z, rf_none, rb1, rb0, rbp, xk_nI, zk_eq, zk_lt, zk_eq0, zk_lt0, zk_0lt, zk_long, lz_lt, lz_gt, zmax, zmin, ↓reduceIte, Int.reduceEq, Int.reduceLT, Int.reduceNeg, Int.reduceAdd, Int.reduceSub, Int.reduceMul, Int.ofNat_eq_natCast, Int.cast_ofNat_Int]
      exact Ev.ret (by rw [n10]; rfl)
    · refine PR.look' hO (A := sm (fun k => (J 50 0 k)) 80) ?_ (by rw [hJ]; refine hx ?_; simp only [Int.reduceEq, if_false, if_true]; exact Ev.kI (freeMounts_ev hA hR hB) (by simp only [xk_sub]; exact Ev.ret (by rw [show 80 - (80 - sm (fun k => (J 50 0 k)) 80) = sm (fun k => (J 50 0 k)) 80 by omega]; rfl)))
      refine Ev.step (fun F => E11_count F _ _ _) ?_
      simp (disch := omega) only [d_9 hA, g_0_2 hA, g_11_0 hA, g_11_1 hA, g_11_2 hA, g_11_3 hA, g_11_4 hA, g_2_1 hA, g_3_2 hA, g_5_3 hA, g_5_4 hA, g_9_2 hA, g_9_3 hA, Option.bind_some, up_s, up_k, up_j, up_i, xk_add, xk_sub, xk_mul, xk_neg, lk_add, lN_z, rf_none, rb1, rb0, rbp, xk_nI, zk_eq, zk_lt, zk_eq0, zk_lt0, zk_0lt, zk_long, lz_lt, lz_gt, zmax, zmin, ↓reduceIte, Int.reduceEq, Int.reduceLT, Int.reduceNeg, Int.reduceAdd, Int.reduceSub, Int.reduceMul, Int.ofNat_eq_natCast, Int.cast_ofNat_Int]
      exact Ev.ret (by rw [ct]; rfl)
    · refine PR.look' hO (A := (J 12 0 26)) ?_ (by rw [hJ]; refine hx ?_; simp only [Int.reduceEq, if_false, if_true]; exact Ev.ret rfl)
      refine Ev.step (fun F => E11_count F _ _ _) ?_
      simp (disch := omega) only [d_9 hA, g_0_2 hA, g_11_0 hA, g_11_1 hA, g_11_2 hA, g_11_3 hA, g_11_4 hA, g_2_1 hA, g_3_2 hA, g_5_3 hA, g_5_4 hA, g_9_2 hA, g_9_3 hA, Option.bind_some, up_s, up_k, up_j, up_i, xk_add, xk_sub, xk_mul, xk_neg, lk_add, lN_z, rf_none, rb1, rb0, rbp, xk_nI, zk_eq, zk_lt, zk_eq0, zk_lt0, zk_0lt, zk_long, lz_lt, lz_gt, zmax, zmin, ↓reduceIte, Int.reduceEq, Int.reduceLT, Int.reduceNeg, Int.reduceAdd, Int.reduceSub, Int.reduceMul, Int.ofNat_eq_natCast, Int.cast_ofNat_Int]
      exact Ev.ret (by rw [cn]; rfl)
    · refine PR.look' hO (A := (J 12 0 27)) ?_ (by rw [hJ]; refine hx ?_; simp only [Int.reduceEq, if_false, if_true]; exact Ev.ret rfl)
      refine Ev.step (fun F => E11_count F _ _ _) ?_
      simp (disch := omega) only [d_9 hA, g_0_2 hA, g_11_0 hA, g_11_1 hA, g_11_2 hA, g_11_3 hA, g_11_4 hA, g_2_1 hA, g_3_2 hA, g_5_3 hA, g_5_4 hA, g_9_2 hA, g_9_3 hA, Option.bind_some, up_s, up_k, up_j, up_i, xk_add, xk_sub, xk_mul, xk_neg, lk_add, lN_z, rf_none, rb1, rb0, rbp, xk_nI, zk_eq, zk_lt, zk_eq0, zk_lt0, zk_0lt, zk_long, lz_lt, lz_gt, zmax, zmin, ↓reduceIte, Int.reduceEq, Int.reduceLT, Int.reduceNeg, Int.reduceAdd, Int.reduceSub, Int.reduceMul, Int.ofNat_eq_natCast, Int.cast_ofNat_Int]
      exact Ev.ret (by rw [cv]; rfl)
  · right
    refine ⟨⟨z.1, ?_⟩, 0, ?_⟩
    · refine Ev.step (fun F => E11_count F _ _ _) ?_
      simp (disch := omega) only [d_9 hA, g_0_2 hA, g_11_0 hA, g_11_1 hA, g_11_2 hA, g_11_3 hA, g_11_4 hA, g_2_1 hA, g_3_2 hA, g_5_3 hA, g_5_4 hA, g_9_2 hA, g_9_3 hA, Option.bind_some, up_s, up_k, up_j, up_i, xk_add, xk_sub, xk_mul, xk_neg, lk_add, lN_z, rf_none, rb1, rb0, rbp, xk_nI, zk_eq, zk_lt, zk_eq0, zk_lt0, zk_0lt, zk_long, lz_lt, lz_gt, zmax, zmin, ↓reduceIte, Int.reduceEq, Int.reduceLT, Int.reduceNeg, Int.reduceAdd, Int.reduceSub, Int.reduceMul, Int.ofNat_eq_natCast, Int.cast_ofNat_Int, thr_HS]
      refine Ev.ite (fun q => absurd q (by omega)) (fun _ => ?_)
      refine Ev.ite (fun q => absurd q (by omega)) (fun _ => ?_)
      refine Ev.ite (fun q => absurd q (by omega)) (fun _ => ?_)
      refine Ev.ite (fun q => absurd q (by omega)) (fun _ => ?_)
      refine Ev.ite (fun q => absurd q (by omega)) (fun _ => ?_)
      refine Ev.ite (fun q => absurd q (by omega)) (fun _ => ?_)
      refine Ev.ite (fun q => absurd q (by omega)) (fun _ => ?_)
      refine Ev.ite (fun q => absurd q (by omega)) (fun _ => ?_)
      exact Ev.ite (fun q => absurd q (by omega)) (fun _ => Ev.ret rfl)
    · have hA' := hA.thr
      generalize (z.1 + 1, z.2.1 + 6, z.2.2) = z' at hA' ⊢
      have hA := hA'
      refine Ev.step (fun F => E12_count F _ _ _) ?_
      rw [ll_8, lN_z, zk_long w0 w1]
      refine Ev.kB (in_ev ⟨by omega, by omega⟩ ⟨by decide, by decide⟩ ⟨by decide, by decide⟩) (fun q => absurd q h) (fun _ => ?_)
      refine Ev.ite (fun _ => ?_) (fun q => absurd k00 q)
      refine Ev.bs (p_12_0 hA hR) ?_
      refine Ev.sw w0 w1 (by decide) (fun q => absurd h (by omega)) (fun _ => ?_)
      refine Ev.sw w0 w1 (by decide) (fun q => absurd h (by omega)) (fun _ => ?_)
      refine Ev.sw w0 w1 (by decide) (fun q => absurd h (by omega)) (fun _ => ?_)
      refine Ev.sw w0 w1 (by decide) (fun q => absurd h (by omega)) (fun _ => ?_)
      refine Ev.sw w0 w1 (by decide) (fun q => absurd h (by omega)) (fun _ => ?_)
      refine Ev.sw w0 w1 (by decide) (fun q => absurd h (by omega)) (fun _ => ?_)
      refine Ev.sw w0 w1 (by decide) (fun q => absurd h (by omega)) (fun _ => ?_)
      refine Ev.sw w0 w1 (by decide) (fun q => absurd h (by omega)) (fun _ => ?_)
      refine Ev.sw w0 w1 (by decide) (fun q => absurd h (by omega)) (fun _ => ?_)
      exact Ev.ret rfl
end OPs
