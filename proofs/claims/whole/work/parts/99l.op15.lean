/-! pairs: share, mounted -/
section OPs
variable {e : EN} {C I J : ST} {z : Nat × Nat × Nat × Nat} {n : Int}
theorem Cpl.prU (hC : Cpl e C J) {m v : Int} : Cpl e (up C 4 m 7 v) (up J 55 0 m v) := by
  obtain ⟨h1, h2, h3, h4, h5, h6⟩ := hC
  have f0 : ∀ k i j, k ≠ 4 → up C 4 m 7 v k i j = C k i j := fun k i j a => up_k a
  have f4 : ∀ i j, j ≠ 7 → up C 4 m 7 v 4 i j = C 4 i j := fun i j a => up_j a
  have ej : ∀ k i j, k ≠ 55 → up J 55 0 m v k i j = J k i j := fun k i j a => up_k a
  refine ⟨h1.fr (fun i j => f0 _ _ _ (by decide)) (ej _ _ _ (by decide)) (fun k j a b => ej _ _ _ (by omega)), h2.fr (fun i j => f0 _ _ _ (by decide)) (fun i j => f0 _ _ _ (by decide)) (ej _ _ _ (by decide)) (fun j => ej _ _ _ (by decide)) (fun j => ej _ _ _ (by decide)) (fun j => ej _ _ _ (by decide)) (HoR_c (ej _ _ _ (by decide)) (fun j => by rw [ej _ _ _ (by decide)]) (fun j => ej _ _ _ (by decide))), h3.fr (fun i j _ => f0 _ _ _ (by decide)) (ej _ _ _ (by decide)) (fun k j a b => ej _ _ _ (by omega)) (usF_c (ej _ _ _ (by decide)) (ej _ _ _ (by decide)) (fun j => by rw [ej _ _ _ (by decide)]) (fun j => ej _ _ _ (by decide)) (fun j => ej _ _ _ (by decide)) (fun j => ej _ _ _ (by decide)) (fun j => ej _ _ _ (by decide))) (lvF_c (ej _ _ _ (by decide)) (fun j => by rw [ej _ _ _ (by decide)]) (fun j => ej _ _ _ (by decide)) (fun j => ej _ _ _ (by decide))), h4.fr (fun g => f0 _ _ _ (by decide)) (fun g => f0 _ _ _ (by decide)) (ej _ _ _ (by decide)) (ej _ _ _ (by decide)), ?_, h6.fr (f0 _ _ _ (by decide)) (f0 _ _ _ (by decide)) (fun j => f0 _ _ _ (by decide)) (fun j => f4 _ _ (by decide)) (ej _ _ _ (by decide)) (ej _ _ _ (by decide))⟩
  have eT : ToR (up J 55 0 m v) = ToR J := ToR_c (fun k => ej _ _ _ (by decide)) (fun k => ej _ _ _ (by decide)) (fun k => ej _ _ _ (by decide))
  have eb : bzT (up J 55 0 m v) = bzT J := by
    funext m k
    unfold bzT
    rw [ej _ _ _ (by decide), ej _ _ _ (by decide)]
  obtain ⟨a, b, c, d, f⟩ := h5
  refine ⟨(ej 12 0 28 (by decide)).symm ▸ a, fun v v0 v1 => ?_, fun k m0 m1 => ?_, ?_, ?_⟩
  · rw [ej _ _ _ (by decide)] at v1
    rw [f0 _ _ _ (by decide), ej _ _ _ (by decide)]
    exact b v v0 v1
  · have y := c k m0 m1
    have f17 : ∀ j, up C 4 m 7 v 17 k j = C 17 k j := fun j => f0 _ _ _ (by decide)
    rw [eb, eT, f4 _ 6 (by decide), f4 _ 2 (by decide), f4 _ 3 (by decide), f4 _ 4 (by decide), f4 _ 5 (by decide), ej 54 _ _ (by decide), ej 50 _ _ (by decide), ej 51 _ _ (by decide), ej 52 _ _ (by decide), ej 53 _ _ (by decide)]
    refine ⟨y.1, ?_, y.2.2.1, y.2.2.2.1, y.2.2.2.2.1, y.2.2.2.2.2.1, fun j a b => by rw [f17]; exact y.2.2.2.2.2.2 j a b⟩
    by_cases hk : k = m
    · rw [hk, up_s, up_s]
    · rw [up_i hk, up_j hk]; exact y.2.1
  · rw [f0 _ _ _ (by decide), d]
    congr 1
  · rw [f0 _ _ _ (by decide), ej _ _ _ (by decide)]; exact f
theorem Inv.prU (h : Inv n J) {m v : Int} (v0 : 0 ≤ v) (v1 : v ≤ (J 12 0 36)) : Inv n (up J 55 0 m v) := by
  refine h.mnt (by omega) (fun k i j y => up_k (by omega)) (RB.u_peers h.rb) (h.mi.c (up_k (by decide)) (fun k j a b => up_k (by omega))) ⟨fun k a b => ?_, ?_⟩
  · rw [up_k (k' := 12) (by decide)]
    by_cases hk : k = m
    · rw [hk, up_s]; exact ⟨v0, v1⟩
    · rw [up_j hk]; exact h.pi.1 k a b
  · rw [up_k (by decide)]; exact h.pi.2
theorem viewAt_ev (hA : WA e z) (hC : Cpl e C J) (hT : TI J) {v : Int} (t0 : -2147483648 ≤ v) (t1 : v < 2147483648) : Ev (fun F => J5_viewAt F (rf e 5 0) (xk v) (HS e C I z)) (rR (rf e 10 (if 0 ≤ v ∧ v < (J 12 0 28) then v else -1)) (HS e C I z)) := by
  have n8 := hC.1.1
  have n7 := hC.2.1.1
  have n1 := hC.2.2.1.1
  have n10 := hC.2.2.2.2.1.1
  have hB := hT.1
  have := RB.tasks hB
  have := RB.spaces hB
  have := RB.groups hB
  have := RB.views hB
  have n4 := hA.2.2.2.1
  refine Ev.step (fun F => E5_viewAt F _ _ _) ?_
  simp (disch := omega) only [b_19 hA, g_5_1 hA, g_5_4 hA, Option.bind_some, up_s, up_k, up_j, up_i, xk_add, xk_sub, xk_mul, xk_neg, lk_add, lN_z, rf_none, rb1, rb0, rbp, xk_nI, zk_eq, zk_lt, zk_eq0, zk_lt0, zk_0lt, zk_long, lz_lt, lz_gt, zmax, zmin, ↓reduceIte, Int.reduceEq, Int.reduceLT, Int.reduceNeg, Int.reduceAdd, Int.reduceSub, Int.reduceMul, Int.ofNat_eq_natCast, Int.cast_ofNat_Int, CT.space hC.1, CT.view hC.1, CT.parent hC.1, CT.group hC.1, CT.state hC.1, CT.pages hC.1, CT.points hC.1, CT.ticks hC.1, CT.asleep hC.1, CT.time hC.1, CP.outer hC.2.1, CP.depth hC.2.1, CP.init hC.2.1, CP.given hC.2.1, CG.outer hC.2.2.1, CG.depth hC.2.2.1, CG.max hC.2.2.1, CG.most hC.2.2.1, CG.weight hC.2.2.1, CG.quota hC.2.2.1, CG.cached hC.2.2.1, CG.ran hC.2.2.1, CG.time hC.2.2.1, CG.uses hC.2.2.1, CG.live hC.2.2.1, rf_eq hA]
  refine Ev.ite (fun h => Ev.ret (by rw [if_neg (by omega), rf_n (by omega)]; rfl)) (fun h => ?_)
  refine Ev.ite (fun h' => ?_) (fun h' => Ev.ret (by rw [if_neg (by omega), rf_n (by omega)]; rfl))
  refine Ev.ite (fun h'' => ?_) (fun h'' => absurd h'' (by omega))
  try simp (maxSteps := 2000000) (disch := omega) only [b_19 hA, g_5_1 hA, g_5_4 hA, Option.bind_some, up_s, up_k, up_j, up_i, xk_add, xk_sub, xk_mul, xk_neg, lk_add, lN_z, rf_none, rb1, rb0, rbp, xk_nI, zk_eq, zk_lt, zk_eq0, zk_lt0, zk_0lt, zk_long, lz_lt, lz_gt, zmax, zmin, ↓reduceIte, Int.reduceEq, Int.reduceLT, Int.reduceNeg, Int.reduceAdd, Int.reduceSub, Int.reduceMul, Int.ofNat_eq_natCast, Int.cast_ofNat_Int, CT.space hC.1, CT.view hC.1, CT.parent hC.1, CT.group hC.1, CT.state hC.1, CT.pages hC.1, CT.points hC.1, CT.ticks hC.1, CT.asleep hC.1, CT.time hC.1, CP.outer hC.2.1, CP.depth hC.2.1, CP.init hC.2.1, CP.given hC.2.1, CG.outer hC.2.2.1, CG.depth hC.2.2.1, CG.max hC.2.2.1, CG.most hC.2.2.1, CG.weight hC.2.2.1, CG.quota hC.2.2.1, CG.cached hC.2.2.1, CG.ran hC.2.2.1, CG.time hC.2.2.1, CG.uses hC.2.2.1, CG.live hC.2.2.1, rf_eq hA]
  exact Ev.ret (by rw [if_pos (by omega)]; rfl)
theorem share_pr (hO : OK n e C I z) (hn : n ≤ 600) {v sh : Int} (t0 : -2147483648 ≤ v) (t1 : v < 2147483648) (s0 : 0 ≤ sh) (s1 : sh ≤ 1) : PR n e C I z (fun F σ => J11_share F (rf e 11 0) (xk v) (xk sh) σ) (fun F σ => J12_share F (rf e 12 0) (xk v) (xk sh) σ) ∨ PT n e C I z 50 1 (fun F σ => J11_share F (rf e 11 0) (xk v) (xk sh) σ) (fun F σ => J12_share F (rf e 12 0) (xk v) (xk sh) σ) := by
  obtain ⟨hA, hR, hC0, hI0⟩ := hO
  have hO : OK n e C I z := ⟨hA, hR, hC0, hI0⟩
  have hC := hC0.th (v := 0)
  have hI := hI0.th (m := n) (v := 0) (by omega)
  have hT := hI.ti
  generalize hJ : th I 0 = J at *
  have n8 := hC.1.1
  have n7 := hC.2.1.1
  have n1 := hC.2.2.1.1
  have n10 := hC.2.2.2.2.1.1
  have hB := hT.1
  have := RB.tasks hB
  have := RB.spaces hB
  have := RB.groups hB
  have := RB.views hB
  have n4 := hA.2.2.2.1
  have va := viewAt_ev (I := I) hA hC hT t0 t1
  have q28 : (I 12 0 28) = (J 12 0 28) := by rw [← hJ, th_f (Or.inr (by decide))]
  by_cases h : 0 ≤ v ∧ v < (J 12 0 28)
  · left
    rw [if_pos h] at va
    have := RB.root hB (j := v) (by omega) (by omega)
    have rv := hC.2.2.2.2.1.2.1 v h.1 h.2
    have cm := hC.2.2.2.2.1.2.2.1 (J 49 0 v) (by omega) (by omega)
    have cpe := hC.2.2.2.2.1.2.2.2.2
    have hP := hI.pi.pb (by omega)
    have pr := hP.1 (J 49 0 v) (by omega) (by omega)
    have pl := hP.2
    have rp : ∀ {C2 : ST} {r}, Ev (fun F => if sh = 0 then J12_share_60 F (rf e 12 0) (xk v) (xk sh) (xk (J 55 0 ((J 49 0 v)))) (HS e C2 J z) else J12_share_60 F (rf e 12 0) (xk v) (xk sh) (xk (J 55 0 ((J 49 0 v)))) (HS e C2 (up J 12 0 36 ((J 12 0 36) + 1)) z)) r → Ev (fun F => J12_share F (rf e 12 0) (xk v) (xk sh) (HS e C2 I z)) r := by
      intro C2 r hr
      refine Ev.step (fun F => E12_share F _ _ _ _) ?_
      refine Ev.bs (g_12_28 hA hR) ?_
      rw [q28, xk_sub, lN_z, zk_long t0 t1, zk_long (by omega) (by omega)]
      refine Ev.kB (in_ev ⟨by omega, by omega⟩ ⟨by decide, by decide⟩ ⟨by omega, by omega⟩) (fun _ => ?_) (fun q => absurd q (by simp; omega))
      refine Ev.ite (fun q => absurd q k10) (fun _ => ?_)
      refine Ev.bs (p_12_0 hA hR) ?_
      refine Ev.bs (g_12_0 hA hR) ?_
      refine Ev.ite (fun q => absurd q (by rw [up_s]; exact n0k)) (fun _ => ?_)
      rw [show up I 12 0 0 0 = J from hJ]
      refine Ev.bs (g_12_35 hA hR) (Ev.bs (g_12_29 hA hR) (Ev.bs (a_49 hA hR h.1 (by omega)) (Ev.bs (a_55 hA hR (by omega) (by omega)) ?_)))
      simp (disch := omega) only [zk_eq0, g_12_36 hA hR, p_12_36 hA hR, Option.bind_some, xk_add]
      exact hr
    by_cases hs : sh = 0
    · have hC1 := hC.prU (m := (J 49 0 v)) (v := 0)
      have hI1 := hI.prU (m := (J 49 0 v)) (v := 0) (by omega) (by omega)
      refine ⟨e, _, _, z, (J 55 0 ((J 49 0 v))), ?_, rp (Ev.ite (fun _ => ?_) (fun q => absurd hs q)), ⟨hA, hR, hC1, hI1.sc (by omega) hI1.rb (fun _ _ _ _ _ _ => rfl)⟩, NX.r (fun j => ?_), ⟨by omega, by omega⟩, ?_⟩
      · refine Ev.step (fun F => E11_share F _ _ _ _) ?_
        simp (disch := omega) only [d_5 hA, g_10_1 hA, g_11_4 hA, Option.bind_some, up_s, up_k, up_j, up_i, xk_add, xk_sub, xk_mul, xk_neg, lk_add, lN_z, rf_none, rb1, rb0, rbp, xk_nI, zk_eq, zk_lt, zk_eq0, zk_lt0, zk_0lt, zk_long, lz_lt, lz_gt, zmax, zmin, ↓reduceIte, Int.reduceEq, Int.reduceLT, Int.reduceNeg, Int.reduceAdd, Int.reduceSub, Int.reduceMul, Int.ofNat_eq_natCast, Int.cast_ofNat_Int]
        refine Ev.kR va ?_
        try simp (maxSteps := 2000000) (disch := omega) only [d_5 hA, g_10_1 hA, g_11_4 hA, Option.bind_some, up_s, up_k, up_j, up_i, xk_add, xk_sub, xk_mul, xk_neg, lk_add, lN_z, rf_none, rb1, rb0, rbp, xk_nI, zk_eq, zk_lt, zk_eq0, zk_lt0, zk_0lt, zk_long, lz_lt, lz_gt, zmax, zmin, ↓reduceIte, Int.reduceEq, Int.reduceLT, Int.reduceNeg, Int.reduceAdd, Int.reduceSub, Int.reduceMul, Int.ofNat_eq_natCast, Int.cast_ofNat_Int, rv]
        refine Ev.ite (fun q => absurd q (by omega)) (fun _ => ?_)
        refine Ev.kI (σ := HS e (up C 4 (J 49 0 v) 7 0) I z) (x := (J 55 0 ((J 49 0 v)))) ?_ (Ev.ret rfl)
        refine Ev.step (fun F => E5_changePeer F _ _ _ _) ?_
        simp (disch := omega) only [d_5 hA, g_4_7 hA, p_4_7 hA, Option.bind_some, up_s, up_k, up_j, up_i, xk_add, xk_sub, xk_mul, xk_neg, lk_add, lN_z, rf_none, rb1, rb0, rbp, xk_nI, zk_eq, zk_lt, zk_eq0, zk_lt0, zk_0lt, zk_long, lz_lt, lz_gt, zmax, zmin, ↓reduceIte, Int.reduceEq, Int.reduceLT, Int.reduceNeg, Int.reduceAdd, Int.reduceSub, Int.reduceMul, Int.ofNat_eq_natCast, Int.cast_ofNat_Int, cm.2.1]
        refine Ev.kI (σ := HS e C I z) (x := 0) ?_ ?_
        · refine Ev.step (fun F => E5_newPeer F _ _ _) ?_
          simp (disch := omega) only [g_5_5 hA, p_5_5 hA, Option.bind_some, up_s, up_k, up_j, up_i, xk_add, xk_sub, xk_mul, xk_neg, lk_add, lN_z, rf_none, rb1, rb0, rbp, xk_nI, zk_eq, zk_lt, zk_eq0, zk_lt0, zk_0lt, zk_long, lz_lt, lz_gt, zmax, zmin, ↓reduceIte, Int.reduceEq, Int.reduceLT, Int.reduceNeg, Int.reduceAdd, Int.reduceSub, Int.reduceMul, Int.ofNat_eq_natCast, Int.cast_ofNat_Int]
          exact Ev.ite (fun _ => Ev.ret rfl) (fun q => absurd hs q)
        · try simp (maxSteps := 2000000) (disch := omega) only [d_5 hA, g_4_7 hA, p_4_7 hA, Option.bind_some, up_s, up_k, up_j, up_i, xk_add, xk_sub, xk_mul, xk_neg, lk_add, lN_z, rf_none, rb1, rb0, rbp, xk_nI, zk_eq, zk_lt, zk_eq0, zk_lt0, zk_0lt, zk_long, lz_lt, lz_gt, zmax, zmin, ↓reduceIte, Int.reduceEq, Int.reduceLT, Int.reduceNeg, Int.reduceAdd, Int.reduceSub, Int.reduceMul, Int.ofNat_eq_natCast, Int.cast_ofNat_Int]
          exact Ev.ret rfl
      · refine Ev.step (fun F => E12_share_60 F _ _ _ _ _) ?_
        simp (disch := omega) only [a_49 hA hR, a_55 hA hR, g_12_29 hA hR, g_12_35 hA hR, g_12_36 hA hR, s_49 hA hR, s_55 hA hR, Option.bind_some, up_s, up_k, up_j, up_i, xk_add, xk_sub, xk_mul, xk_neg, lk_add, lN_z, rf_none, rb1, rb0, rbp, xk_nI, zk_eq, zk_lt, zk_eq0, zk_lt0, zk_0lt, zk_long, lz_lt, lz_gt, zmax, zmin, ↓reduceIte, Int.reduceEq, Int.reduceLT, Int.reduceNeg, Int.reduceAdd, Int.reduceSub, Int.reduceMul, Int.ofNat_eq_natCast, Int.cast_ofNat_Int]
        exact Ev.ite (fun _ => Ev.ret rfl) (fun q => absurd hs q)
      · rw [up_k (by decide), ← hJ]
        exact th_f (Or.inl (by decide))
      · rw [up_k (by decide), ← hJ]
        exact up_s
    · have hC1 := (hC.pe (v := (J 12 0 36) + 1)).prU (m := (J 49 0 v)) (v := (J 12 0 36) + 1)
      have hI1 := hI.pe.prU (m := (J 49 0 v)) (v := (J 12 0 36) + 1) (by omega) (by rw [up_s]; omega)
      refine ⟨e, _, _, z, (J 55 0 ((J 49 0 v))), ?_, rp (Ev.ite (fun q => absurd q hs) (fun _ => ?_)), ⟨hA, hR, hC1, hI1⟩, NX.r (fun j => ?_), ⟨by omega, by omega⟩, ?_⟩
      · refine Ev.step (fun F => E11_share F _ _ _ _) ?_
        simp (disch := omega) only [d_5 hA, g_10_1 hA, g_11_4 hA, Option.bind_some, up_s, up_k, up_j, up_i, xk_add, xk_sub, xk_mul, xk_neg, lk_add, lN_z, rf_none, rb1, rb0, rbp, xk_nI, zk_eq, zk_lt, zk_eq0, zk_lt0, zk_0lt, zk_long, lz_lt, lz_gt, zmax, zmin, ↓reduceIte, Int.reduceEq, Int.reduceLT, Int.reduceNeg, Int.reduceAdd, Int.reduceSub, Int.reduceMul, Int.ofNat_eq_natCast, Int.cast_ofNat_Int]
        refine Ev.kR va ?_
        try simp (maxSteps := 2000000) (disch := omega) only [d_5 hA, g_10_1 hA, g_11_4 hA, Option.bind_some, up_s, up_k, up_j, up_i, xk_add, xk_sub, xk_mul, xk_neg, lk_add, lN_z, rf_none, rb1, rb0, rbp, xk_nI, zk_eq, zk_lt, zk_eq0, zk_lt0, zk_0lt, zk_long, lz_lt, lz_gt, zmax, zmin, ↓reduceIte, Int.reduceEq, Int.reduceLT, Int.reduceNeg, Int.reduceAdd, Int.reduceSub, Int.reduceMul, Int.ofNat_eq_natCast, Int.cast_ofNat_Int, rv]
        refine Ev.ite (fun q => absurd q (by omega)) (fun _ => ?_)
        refine Ev.kI (σ := HS e (up (up C 5 0 5 ((J 12 0 36) + 1)) 4 (J 49 0 v) 7 ((J 12 0 36) + 1)) I z) (x := (J 55 0 ((J 49 0 v)))) ?_ (Ev.ret rfl)
        refine Ev.step (fun F => E5_changePeer F _ _ _ _) ?_
        simp (disch := omega) only [d_5 hA, g_4_7 hA, p_4_7 hA, Option.bind_some, up_s, up_k, up_j, up_i, xk_add, xk_sub, xk_mul, xk_neg, lk_add, lN_z, rf_none, rb1, rb0, rbp, xk_nI, zk_eq, zk_lt, zk_eq0, zk_lt0, zk_0lt, zk_long, lz_lt, lz_gt, zmax, zmin, ↓reduceIte, Int.reduceEq, Int.reduceLT, Int.reduceNeg, Int.reduceAdd, Int.reduceSub, Int.reduceMul, Int.ofNat_eq_natCast, Int.cast_ofNat_Int, cm.2.1]
        refine Ev.kI (σ := HS e (up C 5 0 5 ((J 12 0 36) + 1)) I z) (x := (J 12 0 36) + 1) ?_ ?_
        · refine Ev.step (fun F => E5_newPeer F _ _ _) ?_
          simp (disch := omega) only [g_5_5 hA, p_5_5 hA, Option.bind_some, up_s, up_k, up_j, up_i, xk_add, xk_sub, xk_mul, xk_neg, lk_add, lN_z, rf_none, rb1, rb0, rbp, xk_nI, zk_eq, zk_lt, zk_eq0, zk_lt0, zk_0lt, zk_long, lz_lt, lz_gt, zmax, zmin, ↓reduceIte, Int.reduceEq, Int.reduceLT, Int.reduceNeg, Int.reduceAdd, Int.reduceSub, Int.reduceMul, Int.ofNat_eq_natCast, Int.cast_ofNat_Int, cpe]
          exact Ev.ite (fun q => absurd q hs) (fun _ => Ev.ret rfl)
        · try simp (maxSteps := 2000000) (disch := omega) only [d_5 hA, g_4_7 hA, p_4_7 hA, Option.bind_some, up_s, up_k, up_j, up_i, xk_add, xk_sub, xk_mul, xk_neg, lk_add, lN_z, rf_none, rb1, rb0, rbp, xk_nI, zk_eq, zk_lt, zk_eq0, zk_lt0, zk_0lt, zk_long, lz_lt, lz_gt, zmax, zmin, ↓reduceIte, Int.reduceEq, Int.reduceLT, Int.reduceNeg, Int.reduceAdd, Int.reduceSub, Int.reduceMul, Int.ofNat_eq_natCast, Int.cast_ofNat_Int]
          exact Ev.ret rfl
      · have e49 : ∀ j, up J 12 0 36 ((J 12 0 36) + 1) 49 0 j = J 49 0 j := fun j => up_k (by decide)
        refine Ev.step (fun F => E12_share_60 F _ _ _ _ _) ?_
        simp (disch := omega) only [a_49 hA hR, a_55 hA hR, g_12_29 hA hR, g_12_35 hA hR, g_12_36 hA hR, s_49 hA hR, s_55 hA hR, Option.bind_some, up_s, up_k, up_j, up_i, xk_add, xk_sub, xk_mul, xk_neg, lk_add, lN_z, rf_none, rb1, rb0, rbp, xk_nI, zk_eq, zk_lt, zk_eq0, zk_lt0, zk_0lt, zk_long, lz_lt, lz_gt, zmax, zmin, ↓reduceIte, Int.reduceEq, Int.reduceLT, Int.reduceNeg, Int.reduceAdd, Int.reduceSub, Int.reduceMul, Int.ofNat_eq_natCast, Int.cast_ofNat_Int, e49]
        refine Ev.ite (fun q => absurd q hs) (fun _ => ?_)
        try simp (maxSteps := 2000000) (disch := omega) only [a_49 hA hR, a_55 hA hR, g_12_29 hA hR, g_12_35 hA hR, g_12_36 hA hR, s_49 hA hR, s_55 hA hR, Option.bind_some, up_s, up_k, up_j, up_i, xk_add, xk_sub, xk_mul, xk_neg, lk_add, lN_z, rf_none, rb1, rb0, rbp, xk_nI, zk_eq, zk_lt, zk_eq0, zk_lt0, zk_0lt, zk_long, lz_lt, lz_gt, zmax, zmin, ↓reduceIte, Int.reduceEq, Int.reduceLT, Int.reduceNeg, Int.reduceAdd, Int.reduceSub, Int.reduceMul, Int.ofNat_eq_natCast, Int.cast_ofNat_Int, e49]
        exact Ev.ret rfl
      · rw [up_k (by decide), up_k (by decide), ← hJ]
        exact th_f (Or.inl (by decide))
      · rw [up_k (by decide), up_j (by decide), ← hJ]
        exact up_s
  · right
    rw [if_neg h] at va
    refine ⟨⟨z.1, ?_⟩, 0, ?_⟩
    · refine Ev.step (fun F => E11_share F _ _ _ _) ?_
      simp (disch := omega) only [d_5 hA, g_10_1 hA, g_11_4 hA, Option.bind_some, up_s, up_k, up_j, up_i, xk_add, xk_sub, xk_mul, xk_neg, lk_add, lN_z, rf_none, rb1, rb0, rbp, xk_nI, zk_eq, zk_lt, zk_eq0, zk_lt0, zk_0lt, zk_long, lz_lt, lz_gt, zmax, zmin, ↓reduceIte, Int.reduceEq, Int.reduceLT, Int.reduceNeg, Int.reduceAdd, Int.reduceSub, Int.reduceMul, Int.ofNat_eq_natCast, Int.cast_ofNat_Int, thr_HS]
      refine Ev.kR va ?_
      try simp (maxSteps := 2000000) (disch := omega) only [d_5 hA, g_10_1 hA, g_11_4 hA, Option.bind_some, up_s, up_k, up_j, up_i, xk_add, xk_sub, xk_mul, xk_neg, lk_add, lN_z, rf_none, rb1, rb0, rbp, xk_nI, zk_eq, zk_lt, zk_eq0, zk_lt0, zk_0lt, zk_long, lz_lt, lz_gt, zmax, zmin, ↓reduceIte, Int.reduceEq, Int.reduceLT, Int.reduceNeg, Int.reduceAdd, Int.reduceSub, Int.reduceMul, Int.ofNat_eq_natCast, Int.cast_ofNat_Int, thr_HS]
      exact Ev.ret rfl
    · have hA' := hA.thr
      generalize (z.1 + 1, z.2.1 + 6, z.2.2) = z' at hA' ⊢
      have hA := hA'
      refine Ev.step (fun F => E12_share F _ _ _ _) ?_
      refine Ev.bs (g_12_28 hA hR) ?_
      rw [q28, xk_sub, lN_z, zk_long t0 t1, zk_long (by omega) (by omega)]
      refine Ev.kB (in_ev ⟨by omega, by omega⟩ ⟨by decide, by decide⟩ ⟨by omega, by omega⟩) (fun q => absurd q (by simp; omega)) (fun _ => ?_)
      refine Ev.ite (fun _ => ?_) (fun q => absurd k00 q)
      refine Ev.bs (p_12_0 hA hR) ?_
      refine Ev.bs (g_12_0 hA hR) ?_
      exact Ev.ite (fun _ => Ev.ret rfl) (fun q => absurd (by rw [up_s]; exact p0k) q)
def mtT (J : ST) (m w : Int) : Int := if w = 0 then (J 51 0 m) else if w = 1 then (J 52 0 m) else if w = 2 then (J 53 0 m) else if w = 3 then (J 54 0 m) else (J 55 0 m)
theorem mountAtC_ev (hA : WA e z) (hC : Cpl e C J) (hT : TI J) {m : Int} (t0 : -2147483648 ≤ m) (t1 : m < 2147483648) : Ev (fun F => J5_mountAt F (rf e 5 0) (xk m) (HS e C I z)) (rR (rf e 4 (if 0 ≤ m ∧ m < 80 ∧ (J 50 0 m) = 1 then m else -1)) (HS e C I z)) := by
  have n8 := hC.1.1
  have n7 := hC.2.1.1
  have n1 := hC.2.2.1.1
  have n10 := hC.2.2.2.2.1.1
  have hB := hT.1
  have := RB.tasks hB
  have := RB.spaces hB
  have := RB.groups hB
  have := RB.views hB
  have n4 := hA.2.2.2.1
  refine Ev.step (fun F => E5_mountAt F _ _ _) ?_
  simp (disch := omega) only [b_18 hA, g_4_2 hA, g_5_0 hA, Option.bind_some, up_s, up_k, up_j, up_i, xk_add, xk_sub, xk_mul, xk_neg, lk_add, lN_z, rf_none, rb1, rb0, rbp, xk_nI, zk_eq, zk_lt, zk_eq0, zk_lt0, zk_0lt, zk_long, lz_lt, lz_gt, zmax, zmin, ↓reduceIte, Int.reduceEq, Int.reduceLT, Int.reduceNeg, Int.reduceAdd, Int.reduceSub, Int.reduceMul, Int.ofNat_eq_natCast, Int.cast_ofNat_Int, CT.space hC.1, CT.view hC.1, CT.parent hC.1, CT.group hC.1, CT.state hC.1, CT.pages hC.1, CT.points hC.1, CT.ticks hC.1, CT.asleep hC.1, CT.time hC.1, CP.outer hC.2.1, CP.depth hC.2.1, CP.init hC.2.1, CP.given hC.2.1, CG.outer hC.2.2.1, CG.depth hC.2.2.1, CG.max hC.2.2.1, CG.most hC.2.2.1, CG.weight hC.2.2.1, CG.quota hC.2.2.1, CG.cached hC.2.2.1, CG.ran hC.2.2.1, CG.time hC.2.2.1, CG.uses hC.2.2.1, CG.live hC.2.2.1, rf_eq hA]
  refine Ev.ite (fun h => Ev.ret (by rw [if_neg (by omega), rf_n (by omega)]; rfl)) (fun h => ?_)
  refine Ev.ite (fun h' => ?_) (fun h' => Ev.ret (by rw [if_neg (by omega), rf_n (by omega)]; rfl))
  have c2 := (hC.2.2.2.2.1.2.2.1 m (by omega) h').2.2.1
  have := RB.viewOf hB (j := m) (by omega) (by omega)
  have hv : C 4 m 2 < 0 ↔ (J 50 0 m) ≠ 1 := by rw [c2]; split <;> omega
  try simp (maxSteps := 2000000) (disch := omega) only [b_18 hA, g_4_2 hA, g_5_0 hA, Option.bind_some, up_s, up_k, up_j, up_i, xk_add, xk_sub, xk_mul, xk_neg, lk_add, lN_z, rf_none, rb1, rb0, rbp, xk_nI, zk_eq, zk_lt, zk_eq0, zk_lt0, zk_0lt, zk_long, lz_lt, lz_gt, zmax, zmin, ↓reduceIte, Int.reduceEq, Int.reduceLT, Int.reduceNeg, Int.reduceAdd, Int.reduceSub, Int.reduceMul, Int.ofNat_eq_natCast, Int.cast_ofNat_Int, CT.space hC.1, CT.view hC.1, CT.parent hC.1, CT.group hC.1, CT.state hC.1, CT.pages hC.1, CT.points hC.1, CT.ticks hC.1, CT.asleep hC.1, CT.time hC.1, CP.outer hC.2.1, CP.depth hC.2.1, CP.init hC.2.1, CP.given hC.2.1, CG.outer hC.2.2.1, CG.depth hC.2.2.1, CG.max hC.2.2.1, CG.most hC.2.2.1, CG.weight hC.2.2.1, CG.quota hC.2.2.1, CG.cached hC.2.2.1, CG.ran hC.2.2.1, CG.time hC.2.2.1, CG.uses hC.2.2.1, CG.live hC.2.2.1, rf_eq hA]
  refine Ev.ite (fun q => Ev.ret (by rw [if_neg (fun y => (hv.mp q) y.2.2), rf_n (by omega)]; rfl)) (fun q => ?_)
  exact Ev.ret (by rw [if_pos ⟨by omega, h', by have := mt hv.mpr q; omega⟩]; rfl)
theorem mounted_pr (hO : OK n e C I z) {m w : Int} (t0 : -2147483648 ≤ m) (t1 : m < 2147483648) (w0 : -2147483648 ≤ w) (w1 : w < 2147483648) : PR n e C I z (fun F σ => J11_mounted F (rf e 11 0) (xk m) (xk w) σ) (fun F σ => J12_mounted F (rf e 12 0) (xk m) (xk w) σ) ∨ PT n e C I z 50 1 (fun F σ => J11_mounted F (rf e 11 0) (xk m) (xk w) σ) (fun F σ => J12_mounted F (rf e 12 0) (xk m) (xk w) σ) := by
  obtain ⟨hA, hR, hC0, hI0⟩ := hO
  have hO : OK n e C I z := ⟨hA, hR, hC0, hI0⟩
  have hC := hC0.th (v := 0)
  have hI := hI0.th (m := n) (v := 0) (by omega)
  have hT := hI.ti
  generalize hJ : th I 0 = J at *
  have n8 := hC.1.1
  have n7 := hC.2.1.1
  have n1 := hC.2.2.1.1
  have n10 := hC.2.2.2.2.1.1
  have hB := hT.1
  have := RB.tasks hB
  have := RB.spaces hB
  have := RB.groups hB
  have := RB.views hB
  have n4 := hA.2.2.2.1
  have ma := mountAtC_ev (I := I) hA hC hT t0 t1
  have hd : ∀ {r}, (0 ≤ w ∧ w ≤ 4) → (0 ≤ m ∧ m ≤ 79 → Ev (fun F => if xk (J 50 0 m) = 0 then (some (.inl (some (.inl (xk (-1)))), HS e C J z)) else (if xk w = nI 0 then ((xgr (HS e C J z) (rf e 12 0) 12 31).bind fun v25 => (xai (HS e C J z) v25 (xk m)).bind fun v26 => some (.inl (some (.inl v26)), HS e C J z)) else if xk w = nI 1 then ((xgr (HS e C J z) (rf e 12 0) 12 32).bind fun v27 => (xai (HS e C J z) v27 (xk m)).bind fun v28 => some (.inl (some (.inl v28)), HS e C J z)) else if xk w = nI 2 then ((xgr (HS e C J z) (rf e 12 0) 12 33).bind fun v29 => (xai (HS e C J z) v29 (xk m)).bind fun v30 => some (.inl (some (.inl v30)), HS e C J z)) else if xk w = nI 3 then ((xgr (HS e C J z) (rf e 12 0) 12 34).bind fun v31 => (xai (HS e C J z) v31 (xk m)).bind fun v32 => some (.inl (some (.inl v32)), HS e C J z)) else ((xgr (HS e C J z) (rf e 12 0) 12 35).bind fun v33 => (xai (HS e C J z) v33 (xk m)).bind fun v34 => some (.inl (some (.inl v34)), HS e C J z)))) r) → (¬ (0 ≤ m ∧ m ≤ 79) → r = rI (-1) (HS e C J z)) → Ev (fun F => J12_mounted F (rf e 12 0) (xk m) (xk w) (HS e C I z)) r := by
    intro r hw h1 h2
    refine Ev.step (fun F => E12_mounted F _ _ _ _) ?_
    rw [ll_4, lN_z, zk_long w0 w1]
    refine Ev.kB (in_ev ⟨by omega, by omega⟩ ⟨by decide, by decide⟩ ⟨by decide, by decide⟩) (fun _ => ?_) (fun q => absurd hw q)
    refine Ev.ite (fun q => absurd q k10) (fun _ => ?_)
    refine Ev.bs (p_12_0 hA hR) ?_
    refine Ev.bs (g_12_0 hA hR) ?_
    refine Ev.ite (fun q => absurd q (by rw [up_s]; exact n0k)) (fun _ => ?_)
    rw [show up I 12 0 0 0 = J from hJ, ll_79, zk_long t0 t1]
    refine Ev.kB (in_ev ⟨by omega, by omega⟩ ⟨by decide, by decide⟩ ⟨by decide, by decide⟩) (fun q => ?_) (fun q => ?_)
    · refine Ev.ite (fun y => absurd y k10) (fun _ => ?_)
      have q : 0 ≤ m ∧ m ≤ 79 := by simpa using q
      exact Ev.bs (g_12_30 hA hR) (Ev.bs (a_50 hA hR q.1 (by omega)) (h1 q))
    · refine Ev.ite (fun _ => ?_) (fun y => absurd k00 y)
      have q : ¬ (0 ≤ m ∧ m ≤ 79) := by simpa using q
      exact Ev.ret (h2 q).symm
  by_cases h : 0 ≤ w ∧ w ≤ 4
  · left
    by_cases ht : 0 ≤ m ∧ m < 80 ∧ (J 50 0 m) = 1
    · rw [if_pos ht] at ma
      have cm := hC.2.2.2.2.1.2.2.1 m ht.1 ht.2.1
      have c2 := cm.2.2.1
      have c3 := cm.2.2.2.1
      have c4 := cm.2.2.2.2.1
      rw [if_pos ht.2.2] at c2 c3 c4
      have vb := (hI.mi.1 m ht.1 ht.2.1 ht.2.2).1
      have := RB.viewOf hB (j := m) (by omega) (by omega)
      have := RB.inMount hB (j := m) (by omega) (by omega)
      refine PR.look' hO (A := mtT J m w) ?_ ?_
      · refine Ev.step (fun F => E11_mounted F _ _ _ _) ?_
        simp (disch := omega) only [d_4 hA, d_5 hA, g_11_4 hA, Option.bind_some, up_s, up_k, up_j, up_i, xk_add, xk_sub, xk_mul, xk_neg, lk_add, lN_z, rf_none, rb1, rb0, rbp, xk_nI, zk_eq, zk_lt, zk_eq0, zk_lt0, zk_0lt, zk_long, lz_lt, lz_gt, zmax, zmin, ↓reduceIte, Int.reduceEq, Int.reduceLT, Int.reduceNeg, Int.reduceAdd, Int.reduceSub, Int.reduceMul, Int.ofNat_eq_natCast, Int.cast_ofNat_Int]
        refine Ev.ite (fun q => absurd q (by omega)) (fun _ => ?_)
        refine Ev.ite (fun q => absurd q (by omega)) (fun _ => ?_)
        refine Ev.kR ma ?_
        try simp (maxSteps := 2000000) (disch := omega) only [d_4 hA, d_5 hA, g_11_4 hA, Option.bind_some, up_s, up_k, up_j, up_i, xk_add, xk_sub, xk_mul, xk_neg, lk_add, lN_z, rf_none, rb1, rb0, rbp, xk_nI, zk_eq, zk_lt, zk_eq0, zk_lt0, zk_0lt, zk_long, lz_lt, lz_gt, zmax, zmin, ↓reduceIte, Int.reduceEq, Int.reduceLT, Int.reduceNeg, Int.reduceAdd, Int.reduceSub, Int.reduceMul, Int.ofNat_eq_natCast, Int.cast_ofNat_Int]
        refine Ev.ite (fun q => absurd q (by omega)) (fun _ => ?_)
        refine Ev.kI (σ := HS e C I z) (x := mtT J m w) ?_ (Ev.ret rfl)
        refine Ev.step (fun F => E4_tell F _ _ _) ?_
        simp (disch := omega) only [g_10_0 hA, g_4_0 hA, g_4_2 hA, g_4_3 hA, g_4_4 hA, g_4_6 hA, g_4_7 hA, Option.bind_some, up_s, up_k, up_j, up_i, xk_add, xk_sub, xk_mul, xk_neg, lk_add, lN_z, rf_none, rb1, rb0, rbp, xk_nI, zk_eq, zk_lt, zk_eq0, zk_lt0, zk_0lt, zk_long, lz_lt, lz_gt, zmax, zmin, ↓reduceIte, Int.reduceEq, Int.reduceLT, Int.reduceNeg, Int.reduceAdd, Int.reduceSub, Int.reduceMul, Int.ofNat_eq_natCast, Int.cast_ofNat_Int, c2, c3, c4, cm.1, cm.2.1]
        unfold mtT
        refine Ev.ite (fun q => ?_) (fun q => ?_)
        · rw [if_pos (c := w = 0) (by omega)]
          exact Ev.ite (fun y => absurd y (by omega)) (fun _ => Ev.ret rfl)
        rw [if_neg (c := w = 0) (by omega)]
        refine Ev.ite (fun q => ?_) (fun q => ?_)
        · rw [if_pos (c := w = 1) (by omega)]
          refine Ev.ite (fun y => Ev.ret (by rw [show (J 52 0 m) = -1 by omega]; rfl)) (fun y => ?_)
          try simp (maxSteps := 2000000) (disch := omega) only [g_10_0 hA, g_4_0 hA, g_4_2 hA, g_4_3 hA, g_4_4 hA, g_4_6 hA, g_4_7 hA, Option.bind_some, up_s, up_k, up_j, up_i, xk_add, xk_sub, xk_mul, xk_neg, lk_add, lN_z, rf_none, rb1, rb0, rbp, xk_nI, zk_eq, zk_lt, zk_eq0, zk_lt0, zk_0lt, zk_long, lz_lt, lz_gt, zmax, zmin, ↓reduceIte, Int.reduceEq, Int.reduceLT, Int.reduceNeg, Int.reduceAdd, Int.reduceSub, Int.reduceMul, Int.ofNat_eq_natCast, Int.cast_ofNat_Int, c2, c3, c4, cm.1, cm.2.1]
          exact Ev.ret rfl
        rw [if_neg (c := w = 1) (by omega)]
        refine Ev.ite (fun q => Ev.ret (by rw [if_pos (c := w = 2) (by omega)]; rfl)) (fun q => ?_)
        rw [if_neg (c := w = 2) (by omega)]
        exact Ev.ite (fun q => Ev.ret (by rw [if_pos (c := w = 3) (by omega)]; rfl)) (fun q => Ev.ret (by rw [if_neg (c := w = 3) (by omega)]; rfl))
      · rw [hJ]
        refine hd h (fun q => Ev.ite (fun y => absurd y (by rw [ht.2.2]; exact k10)) (fun _ => ?_)) (fun q => absurd ⟨ht.1, by omega⟩ q)
        unfold mtT
        refine Ev.sw w0 w1 (by decide) (fun h => Ev.bs (g_12_31 hA hR) (Ev.bs (a_51 hA hR ht.1 ht.2.1) (Ev.ret (by rw [if_pos (c := w = 0) (by omega)]; rfl)))) (fun h => ?_)
        rw [if_neg (c := w = 0) (by omega)]
        refine Ev.sw w0 w1 (by decide) (fun h => Ev.bs (g_12_32 hA hR) (Ev.bs (a_52 hA hR ht.1 ht.2.1) (Ev.ret (by rw [if_pos (c := w = 1) (by omega)]; rfl)))) (fun h => ?_)
        rw [if_neg (c := w = 1) (by omega)]
        refine Ev.sw w0 w1 (by decide) (fun h => Ev.bs (g_12_33 hA hR) (Ev.bs (a_53 hA hR ht.1 ht.2.1) (Ev.ret (by rw [if_pos (c := w = 2) (by omega)]; rfl)))) (fun h => ?_)
        rw [if_neg (c := w = 2) (by omega)]
        refine Ev.sw w0 w1 (by decide) (fun h => Ev.bs (g_12_34 hA hR) (Ev.bs (a_54 hA hR ht.1 ht.2.1) (Ev.ret (by rw [if_pos (c := w = 3) (by omega)]; rfl)))) (fun h => ?_)
        rw [if_neg (c := w = 3) (by omega)]
        exact Ev.bs (g_12_35 hA hR) (Ev.bs (a_55 hA hR ht.1 ht.2.1) (Ev.ret rfl))
    · rw [if_neg ht] at ma
      refine PR.look' hO (A := -1) ?_ ?_
      · refine Ev.step (fun F => E11_mounted F _ _ _ _) ?_
        simp (disch := omega) only [d_4 hA, d_5 hA, g_11_4 hA, Option.bind_some, up_s, up_k, up_j, up_i, xk_add, xk_sub, xk_mul, xk_neg, lk_add, lN_z, rf_none, rb1, rb0, rbp, xk_nI, zk_eq, zk_lt, zk_eq0, zk_lt0, zk_0lt, zk_long, lz_lt, lz_gt, zmax, zmin, ↓reduceIte, Int.reduceEq, Int.reduceLT, Int.reduceNeg, Int.reduceAdd, Int.reduceSub, Int.reduceMul, Int.ofNat_eq_natCast, Int.cast_ofNat_Int]
        refine Ev.ite (fun q => absurd q (by omega)) (fun _ => ?_)
        refine Ev.ite (fun q => absurd q (by omega)) (fun _ => ?_)
        refine Ev.kR ma ?_
        try simp (maxSteps := 2000000) (disch := omega) only [d_4 hA, d_5 hA, g_11_4 hA, Option.bind_some, up_s, up_k, up_j, up_i, xk_add, xk_sub, xk_mul, xk_neg, lk_add, lN_z, rf_none, rb1, rb0, rbp, xk_nI, zk_eq, zk_lt, zk_eq0, zk_lt0, zk_0lt, zk_long, lz_lt, lz_gt, zmax, zmin, ↓reduceIte, Int.reduceEq, Int.reduceLT, Int.reduceNeg, Int.reduceAdd, Int.reduceSub, Int.reduceMul, Int.ofNat_eq_natCast, Int.cast_ofNat_Int]
        exact Ev.ret rfl
      · rw [hJ]
        refine hd h (fun q => Ev.ite (fun y => Ev.ret rfl) (fun y => ?_)) (fun q => rfl)
        have tb := RB.there hB (j := m) q.1 (by omega)
        exfalso
        have : (J 50 0 m) = 0 := by
          by_cases u : (J 50 0 m) = 1
          · exact absurd ⟨q.1, by omega, u⟩ ht
          · omega
        rw [this] at y
        exact y k00
  · right
    refine ⟨⟨z.1, ?_⟩, 0, ?_⟩
    · refine Ev.step (fun F => E11_mounted F _ _ _ _) ?_
      simp (disch := omega) only [d_4 hA, d_5 hA, g_11_4 hA, Option.bind_some, up_s, up_k, up_j, up_i, xk_add, xk_sub, xk_mul, xk_neg, lk_add, lN_z, rf_none, rb1, rb0, rbp, xk_nI, zk_eq, zk_lt, zk_eq0, zk_lt0, zk_0lt, zk_long, lz_lt, lz_gt, zmax, zmin, ↓reduceIte, Int.reduceEq, Int.reduceLT, Int.reduceNeg, Int.reduceAdd, Int.reduceSub, Int.reduceMul, Int.ofNat_eq_natCast, Int.cast_ofNat_Int, thr_HS]
      refine Ev.ite (fun _ => Ev.ret rfl) (fun q => ?_)
      exact Ev.ite (fun _ => Ev.ret rfl) (fun q' => absurd h (by omega))
    · have hA' := hA.thr
      generalize (z.1 + 1, z.2.1 + 6, z.2.2) = z' at hA' ⊢
      have hA := hA'
      refine Ev.step (fun F => E12_mounted F _ _ _ _) ?_
      rw [ll_4, lN_z, zk_long w0 w1]
      refine Ev.kB (in_ev ⟨by omega, by omega⟩ ⟨by decide, by decide⟩ ⟨by decide, by decide⟩) (fun q => absurd q h) (fun _ => ?_)
      refine Ev.ite (fun _ => ?_) (fun q => absurd k00 q)
      refine Ev.bs (p_12_0 hA hR) ?_
      refine Ev.bs (g_12_0 hA hR) ?_
      exact Ev.ite (fun _ => Ev.ret rfl) (fun q => absurd (by rw [up_s]; exact p0k) q)
end OPs
