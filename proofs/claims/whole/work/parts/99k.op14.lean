/-! pairs: mount (the call), mounted, time -/
section OPs
variable {e : EN} {C I J : ST} {z : Nat × Nat × Nat × Nat} {n : Int}
theorem mount_pr (hO : OK n e C I z) (hn : n ≤ 600) {t p w sh : Int} (t0 : -2147483648 ≤ t) (t1 : t < 2147483648) (p0 : -2147483648 ≤ p) (p1 : p < 2147483648) (w0 : -2147483648 ≤ w) (w1 : w < 2147483648) (s0 : 0 ≤ sh) (s1 : sh ≤ 1) : PR n e C I z (fun F σ => J11_mount F (rf e 11 0) (xk t) (xk p) (xk w) (xk sh) σ) (fun F σ => J12_mount F (rf e 12 0) (xk t) (xk p) (xk w) (xk sh) σ) ∨ PT n e C I z 51 1 (fun F σ => J11_mount F (rf e 11 0) (xk t) (xk p) (xk w) (xk sh) σ) (fun F σ => J12_mount F (rf e 12 0) (xk t) (xk p) (xk w) (xk sh) σ) := by
  obtain ⟨hA, hR, hC0, hI0⟩ := hO
  have hO : OK n e C I z := ⟨hA, hR, hC0, hI0⟩
  have hC := hC0.th (v := 0)
  have hI := hI0.th (m := n) (v := 0) (by omega)
  have hT := hI.ti
  generalize hJ : th I 0 = J at *
  have n8 := hC.1.1
  have n7 := hC.2.1.1
  have n1 := hC.2.2.1.1
  have n10 := hC.2.2.2.2.1.1
  have hB := hT.1
  have := RB.tasks hB
  have := RB.spaces hB
  have := RB.groups hB
  have := RB.views hB
  have n4 := hA.2.2.2.1
  have lv := living_ev (I := I) hA hC hT t0 t1
  by_cases hw : 0 ≤ w ∧ w ≤ 9
  · left
    obtain ⟨C', J', b, hE, hr, hC', hI', ej, hb, hok, hno⟩ := walk_pr (I := I) hA hR hC hI t0 t1 p0 p1
    have e62 : ∀ j, J' 62 0 j = I 62 0 j := fun j => by rw [ej _ _ _ (Or.inl (by decide)), ← hJ]; exact th_f (Or.inl (by decide))
    have e0 : J' 12 0 0 = 0 := by rw [ej _ _ _ (Or.inr (by decide)), ← hJ]; exact up_s
    have hOK' : OK (n + 1) e C' J' z := ⟨hA, hR, hC', hI'.sc (by omega) hI'.rb (fun _ _ _ _ _ _ => rfl)⟩
    have rp : ∀ {C2 : ST} {r}, (b = 1 → Ev (fun F => J12_mount_68 F (rf e 12 0) (xk w) (xk sh) (xk (J' 12 0 37)) (xk (J' 12 0 38)) (xk (J' 55 0 ((J' 12 0 37)))) (xk 1) (xk 0) (HS e C2 J' z)) r) → (b = 0 → r = rI (-1) (HS e C2 J' z)) → Ev (fun F => J12_mount F (rf e 12 0) (xk t) (xk p) (xk w) (xk sh) (HS e C2 I z)) r := by
      intro C2 r h1 h2
      refine Ev.step (fun F => E12_mount F _ _ _ _ _ _) ?_
      rw [ll_9, lN_z, zk_long w0 w1]
      refine Ev.kB (in_ev ⟨by omega, by omega⟩ ⟨by decide, by decide⟩ ⟨by decide, by decide⟩) (fun _ => ?_) (fun q => absurd hw q)
      refine Ev.ite (fun q => absurd q k10) (fun _ => ?_)
      refine Ev.bs (p_12_0 hA hR) ?_
      refine Ev.bs (g_12_0 hA hR) ?_
      refine Ev.ite (fun q => absurd q (by rw [up_s]; exact n0k)) (fun _ => ?_)
      rw [show up I 12 0 0 0 = J from hJ]
      refine Ev.xg (d_12 hA hR) ?_
      refine Ev.kI (hr C2) ?_
      rcases hb with q | q
      · rw [q]
        exact Ev.ite (fun _ => Ev.ret (h2 q).symm) (fun y => absurd k00 y)
      · have ok := hok q
        rw [q]
        refine Ev.ite (fun y => absurd y k10) (fun _ => ?_)
        exact Ev.bs (g_12_37 hA hR) (Ev.bs (g_12_38 hA hR) (Ev.bs (g_12_35 hA hR) (Ev.bs (a_55 hA hR ok.2.1.1 ok.2.1.2) (h1 q))))
    by_cases h : (0 ≤ t ∧ t < (J 12 0 1) ∧ (J 22 0 t) = 0)
    · have bt := hT.b h.1 h.2.1
      have hE := hE h
      have c2 := hC.1.view h.1 h.2.1
      have cl : ∀ {r}, (b = 1 → Ev (fun F => xci (J5_add F (rf e 5 0) (rf e 4 (J' 12 0 37)) (xk (J' 12 0 38)) (xk w) (xk sh) (HS e C' I z)) (fun v13 s12 => some (.inl (some (.inl v13)), s12))) r) → (b = 0 → r = rI (-1) (HS e C' I z)) → Ev (fun F => J11_mount F (rf e 11 0) (xk t) (xk p) (xk w) (xk sh) (HS e C I z)) r := by
        intro r h1 h2
        refine Ev.step (fun F => E11_mount F _ _ _ _ _ _) ?_
        simp (disch := omega) only [d_5 hA, d_6 hA, d_9 hA, g_11_1 hA, g_11_4 hA, g_5_2 hA, g_6_0 hA, g_6_1 hA, g_8_2 hA, Option.bind_some, up_s, up_k, up_j, up_i, xk_add, xk_sub, xk_mul, xk_neg, lk_add, lN_z, rf_none, rb1, rb0, rbp, xk_nI, zk_eq, zk_lt, zk_eq0, zk_lt0, zk_0lt, zk_long, lz_lt, lz_gt, zmax, zmin, ↓reduceIte, Int.reduceEq, Int.reduceLT, Int.reduceNeg, Int.reduceAdd, Int.reduceSub, Int.reduceMul, Int.ofNat_eq_natCast, Int.cast_ofNat_Int]
        refine Ev.ite (fun q => absurd q (by omega)) (fun _ => ?_)
        refine Ev.ite (fun _ => ?_) (fun q => absurd q (by omega))
        refine Ev.kR lv ?_
        rw [lvg_y h]
        try simp (maxSteps := 2000000) (disch := omega) only [d_5 hA, d_6 hA, d_9 hA, g_11_1 hA, g_11_4 hA, g_5_2 hA, g_6_0 hA, g_6_1 hA, g_8_2 hA, Option.bind_some, up_s, up_k, up_j, up_i, xk_add, xk_sub, xk_mul, xk_neg, lk_add, lN_z, rf_none, rb1, rb0, rbp, xk_nI, zk_eq, zk_lt, zk_eq0, zk_lt0, zk_0lt, zk_long, lz_lt, lz_gt, zmax, zmin, ↓reduceIte, Int.reduceEq, Int.reduceLT, Int.reduceNeg, Int.reduceAdd, Int.reduceSub, Int.reduceMul, Int.ofNat_eq_natCast, Int.cast_ofNat_Int, c2]
        refine Ev.ite (fun q => absurd q (by omega)) (fun _ => ?_)
        refine Ev.kI hE ?_
        rcases hb with q | q
        · rw [q]
          try simp (maxSteps := 2000000) (disch := omega) only [d_5 hA, d_6 hA, d_9 hA, g_11_1 hA, g_11_4 hA, g_5_2 hA, g_6_0 hA, g_6_1 hA, g_8_2 hA, Option.bind_some, up_s, up_k, up_j, up_i, xk_add, xk_sub, xk_mul, xk_neg, lk_add, lN_z, rf_none, rb1, rb0, rbp, xk_nI, zk_eq, zk_lt, zk_eq0, zk_lt0, zk_0lt, zk_long, lz_lt, lz_gt, zmax, zmin, ↓reduceIte, Int.reduceEq, Int.reduceLT, Int.reduceNeg, Int.reduceAdd, Int.reduceSub, Int.reduceMul, Int.ofNat_eq_natCast, Int.cast_ofNat_Int]
          exact Ev.ret (h2 q).symm
        · have ok := hok q
          have h1 := h1 q
          rw [q]
          try simp (maxSteps := 2000000) (disch := omega) only [d_5 hA, d_6 hA, d_9 hA, g_11_1 hA, g_11_4 hA, g_5_2 hA, g_6_0 hA, g_6_1 hA, g_8_2 hA, Option.bind_some, up_s, up_k, up_j, up_i, xk_add, xk_sub, xk_mul, xk_neg, lk_add, lN_z, rf_none, rb1, rb0, rbp, xk_nI, zk_eq, zk_lt, zk_eq0, zk_lt0, zk_0lt, zk_long, lz_lt, lz_gt, zmax, zmin, ↓reduceIte, Int.reduceEq, Int.reduceLT, Int.reduceNeg, Int.reduceAdd, Int.reduceSub, Int.reduceMul, Int.ofNat_eq_natCast, Int.cast_ofNat_Int, ok.1.1, ok.1.2]
          exact h1
      rcases hb with q | q
      · exact ⟨e, C', J', z, -1, cl (fun y => absurd y (by omega)) (fun _ => rfl), rp (fun y => absurd y (by omega)) (fun _ => rfl), hOK', NX.r e62, ⟨by decide, by decide⟩, e0⟩
      · have ok := hok q
        obtain ⟨C2, J2, A, hE2, hr2, hC2, hI2, Ab, f62, f0⟩ := add_pr (I := I) hA hR hC' hI' hn ok.2.1.1 ok.2.1.2 ok.2.2.1.1 ok.2.2.1.2 hw.1 hw.2 s0 s1 ok.2.2.2.1 ok.2.2.2.2
        exact ⟨e, C2, J2, z, A, cl (fun _ => Ev.kI hE2 (Ev.ret rfl)) (fun y => absurd y (by omega)), rp (fun _ => hr2 C2) (fun y => absurd y (by omega)), ⟨hA, hR, hC2, hI2⟩, NX.r (fun j => (f62 j).trans (e62 j)), ⟨by omega, by omega⟩, f0.trans e0⟩
    · have hno := hno h
      refine ⟨e, C', J', z, -1, ?_, rp (fun y => absurd y (by omega)) (fun _ => rfl), hOK', NX.r e62, ⟨by decide, by decide⟩, e0⟩
      rw [hno.2.2]
      refine Ev.step (fun F => E11_mount F _ _ _ _ _ _) ?_
      simp (disch := omega) only [d_5 hA, d_6 hA, d_9 hA, g_11_1 hA, g_11_4 hA, g_5_2 hA, g_6_0 hA, g_6_1 hA, g_8_2 hA, Option.bind_some, up_s, up_k, up_j, up_i, xk_add, xk_sub, xk_mul, xk_neg, lk_add, lN_z, rf_none, rb1, rb0, rbp, xk_nI, zk_eq, zk_lt, zk_eq0, zk_lt0, zk_0lt, zk_long, lz_lt, lz_gt, zmax, zmin, ↓reduceIte, Int.reduceEq, Int.reduceLT, Int.reduceNeg, Int.reduceAdd, Int.reduceSub, Int.reduceMul, Int.ofNat_eq_natCast, Int.cast_ofNat_Int]
      refine Ev.ite (fun q => absurd q (by omega)) (fun _ => ?_)
      refine Ev.ite (fun _ => ?_) (fun q => absurd q (by omega))
      refine Ev.kR lv ?_
      rw [lvg_n h]
      try simp (maxSteps := 2000000) (disch := omega) only [d_5 hA, d_6 hA, d_9 hA, g_11_1 hA, g_11_4 hA, g_5_2 hA, g_6_0 hA, g_6_1 hA, g_8_2 hA, Option.bind_some, up_s, up_k, up_j, up_i, xk_add, xk_sub, xk_mul, xk_neg, lk_add, lN_z, rf_none, rb1, rb0, rbp, xk_nI, zk_eq, zk_lt, zk_eq0, zk_lt0, zk_0lt, zk_long, lz_lt, lz_gt, zmax, zmin, ↓reduceIte, Int.reduceEq, Int.reduceLT, Int.reduceNeg, Int.reduceAdd, Int.reduceSub, Int.reduceMul, Int.ofNat_eq_natCast, Int.cast_ofNat_Int]
      exact Ev.ret rfl
  · right
    refine ⟨⟨z.1, ?_⟩, 0, ?_⟩
    · refine Ev.step (fun F => E11_mount F _ _ _ _ _ _) ?_
      simp (disch := omega) only [d_5 hA, d_6 hA, d_9 hA, g_11_1 hA, g_11_4 hA, g_5_2 hA, g_6_0 hA, g_6_1 hA, g_8_2 hA, Option.bind_some, up_s, up_k, up_j, up_i, xk_add, xk_sub, xk_mul, xk_neg, lk_add, lN_z, rf_none, rb1, rb0, rbp, xk_nI, zk_eq, zk_lt, zk_eq0, zk_lt0, zk_0lt, zk_long, lz_lt, lz_gt, zmax, zmin, ↓reduceIte, Int.reduceEq, Int.reduceLT, Int.reduceNeg, Int.reduceAdd, Int.reduceSub, Int.reduceMul, Int.ofNat_eq_natCast, Int.cast_ofNat_Int, thr_HS]
      refine Ev.ite (fun _ => Ev.ret rfl) (fun q => ?_)
      exact Ev.ite (fun y => absurd hw (by omega)) (fun _ => Ev.ret rfl)
    · have hA' := hA.thr
      generalize (z.1 + 1, z.2.1 + 6, z.2.2) = z' at hA' ⊢
      have hA := hA'
      refine Ev.step (fun F => E12_mount F _ _ _ _ _ _) ?_
      rw [ll_9, lN_z, zk_long w0 w1]
      refine Ev.kB (in_ev ⟨by omega, by omega⟩ ⟨by decide, by decide⟩ ⟨by decide, by decide⟩) (fun q => absurd q hw) (fun _ => ?_)
      refine Ev.ite (fun _ => ?_) (fun q => absurd k00 q)
      refine Ev.bs (p_12_0 hA hR) ?_
      refine Ev.bs (g_12_0 hA hR) ?_
      exact Ev.ite (fun _ => Ev.ret rfl) (fun q => absurd (by rw [up_s]; exact p0k) q)
/-- time's answer is a long -/
theorem time_pr (hO : OK n e C I z) {f t : Int} (f0 : 0 ≤ f) (f1 : f ≤ 1) (t0 : -2147483648 ≤ t) (t1 : t < 2147483648) : ∃ A, Ev (fun F => J11_time F (rf e 11 0) (xk f) (xk t) (HS e C I z)) (rL A (HS e C I z)) ∧ Ev (fun F => J12_time F (rf e 12 0) (xk f) (xk t) (HS e C I z)) (rL A (HS e C (th I 0) z)) := by
  obtain ⟨hA, hR, hC0, hI0⟩ := hO
  have hO : OK n e C I z := ⟨hA, hR, hC0, hI0⟩
  have hC := hC0.th (v := 0)
  have hI := hI0.th (m := n) (v := 0) (by omega)
  have hT := hI.ti
  generalize hJ : th I 0 = J at *
  have n8 := hC.1.1
  have n7 := hC.2.1.1
  have n1 := hC.2.2.1.1
  have n10 := hC.2.2.2.2.1.1
  have hB := hT.1
  have := RB.tasks hB
  have := RB.spaces hB
  have := RB.groups hB
  have := RB.views hB
  have n4 := hA.2.2.2.1
  have ev := everMade_ev (I := I) hA hC hT t0 t1
  have it := isTask_ev (C := C) (I := J) hA hR t0 t1 (by omega) (by omega)
  have ma := madeAt_ev (I := I) hA hC hT t0 t1
  have ig := isGroup_ev (C := C) (I := J) hA hR hB t0 t1
  by_cases hf : f = 0
  · subst hf
    by_cases h : 0 ≤ t ∧ t < (J 12 0 1)
    · rw [if_pos h] at ev
      refine ⟨(J 30 0 t), ?_, ?_⟩
      · have c := hC.1.time h.1 h.2
        refine Ev.step (fun F => E11_time F _ _ _ _) ?_
        simp (disch := omega) only [d_2 hA, d_9 hA, g_11_0 hA, g_11_1 hA, g_1_11 hA, g_8_10 hA, Option.bind_some, up_s, up_k, up_j, up_i, xk_add, xk_sub, xk_mul, xk_neg, lk_add, lN_z, rf_none, rb1, rb0, rbp, xk_nI, zk_eq, zk_lt, zk_eq0, zk_lt0, zk_0lt, zk_long, lz_lt, lz_gt, zmax, zmin, ↓reduceIte, Int.reduceEq, Int.reduceLT, Int.reduceNeg, Int.reduceAdd, Int.reduceSub, Int.reduceMul, Int.ofNat_eq_natCast, Int.cast_ofNat_Int, CT.space hC.1, CT.view hC.1, CT.parent hC.1, CT.group hC.1, CT.state hC.1, CT.pages hC.1, CT.points hC.1, CT.ticks hC.1, CT.asleep hC.1, CT.time hC.1, CP.outer hC.2.1, CP.depth hC.2.1, CP.init hC.2.1, CP.given hC.2.1, CG.outer hC.2.2.1, CG.depth hC.2.2.1, CG.max hC.2.2.1, CG.most hC.2.2.1, CG.weight hC.2.2.1, CG.quota hC.2.2.1, CG.cached hC.2.2.1, CG.ran hC.2.2.1, CG.time hC.2.2.1, CG.uses hC.2.2.1, CG.live hC.2.2.1, rf_eq hA]
        refine Ev.kR ev ?_
        try simp (maxSteps := 2000000) (disch := omega) only [d_2 hA, d_9 hA, g_11_0 hA, g_11_1 hA, g_1_11 hA, g_8_10 hA, Option.bind_some, up_s, up_k, up_j, up_i, xk_add, xk_sub, xk_mul, xk_neg, lk_add, lN_z, rf_none, rb1, rb0, rbp, xk_nI, zk_eq, zk_lt, zk_eq0, zk_lt0, zk_0lt, zk_long, lz_lt, lz_gt, zmax, zmin, ↓reduceIte, Int.reduceEq, Int.reduceLT, Int.reduceNeg, Int.reduceAdd, Int.reduceSub, Int.reduceMul, Int.ofNat_eq_natCast, Int.cast_ofNat_Int, CT.space hC.1, CT.view hC.1, CT.parent hC.1, CT.group hC.1, CT.state hC.1, CT.pages hC.1, CT.points hC.1, CT.ticks hC.1, CT.asleep hC.1, CT.time hC.1, CP.outer hC.2.1, CP.depth hC.2.1, CP.init hC.2.1, CP.given hC.2.1, CG.outer hC.2.2.1, CG.depth hC.2.2.1, CG.max hC.2.2.1, CG.most hC.2.2.1, CG.weight hC.2.2.1, CG.quota hC.2.2.1, CG.cached hC.2.2.1, CG.ran hC.2.2.1, CG.time hC.2.2.1, CG.uses hC.2.2.1, CG.live hC.2.2.1, rf_eq hA]
        exact Ev.ite (fun q => absurd q (by omega)) (fun _ => Ev.ret rfl)
      · refine Ev.step (fun F => E12_time F _ _ _ _) ?_
        simp (disch := omega) only [a_30 hA hR, a_45 hA hR, d_12 hA hR, g_12_10 hA hR, g_12_25 hA hR, p_12_0 hA hR, Option.bind_some, up_s, up_k, up_j, up_i, xk_add, xk_sub, xk_mul, xk_neg, lk_add, lN_z, rf_none, rb1, rb0, rbp, xk_nI, zk_eq, zk_lt, zk_eq0, zk_lt0, zk_0lt, zk_long, lz_lt, lz_gt, zmax, zmin, ↓reduceIte, Int.reduceEq, Int.reduceLT, Int.reduceNeg, Int.reduceAdd, Int.reduceSub, Int.reduceMul, Int.ofNat_eq_natCast, Int.cast_ofNat_Int]
        rw [show up I 12 0 0 0 = J from hJ]
        refine Ev.kB it (fun _ => ?_) (fun q => absurd h q)
        try simp (maxSteps := 2000000) (disch := omega) only [a_30 hA hR, a_45 hA hR, d_12 hA hR, g_12_10 hA hR, g_12_25 hA hR, p_12_0 hA hR, Option.bind_some, up_s, up_k, up_j, up_i, xk_add, xk_sub, xk_mul, xk_neg, lk_add, lN_z, rf_none, rb1, rb0, rbp, xk_nI, zk_eq, zk_lt, zk_eq0, zk_lt0, zk_0lt, zk_long, lz_lt, lz_gt, zmax, zmin, ↓reduceIte, Int.reduceEq, Int.reduceLT, Int.reduceNeg, Int.reduceAdd, Int.reduceSub, Int.reduceMul, Int.ofNat_eq_natCast, Int.cast_ofNat_Int]
        exact Ev.ret rfl
    · rw [if_neg h] at ev
      refine ⟨-1, ?_, ?_⟩
      · refine Ev.step (fun F => E11_time F _ _ _ _) ?_
        simp (disch := omega) only [d_2 hA, d_9 hA, g_11_0 hA, g_11_1 hA, g_1_11 hA, g_8_10 hA, Option.bind_some, up_s, up_k, up_j, up_i, xk_add, xk_sub, xk_mul, xk_neg, lk_add, lN_z, rf_none, rb1, rb0, rbp, xk_nI, zk_eq, zk_lt, zk_eq0, zk_lt0, zk_0lt, zk_long, lz_lt, lz_gt, zmax, zmin, ↓reduceIte, Int.reduceEq, Int.reduceLT, Int.reduceNeg, Int.reduceAdd, Int.reduceSub, Int.reduceMul, Int.ofNat_eq_natCast, Int.cast_ofNat_Int, CT.space hC.1, CT.view hC.1, CT.parent hC.1, CT.group hC.1, CT.state hC.1, CT.pages hC.1, CT.points hC.1, CT.ticks hC.1, CT.asleep hC.1, CT.time hC.1, CP.outer hC.2.1, CP.depth hC.2.1, CP.init hC.2.1, CP.given hC.2.1, CG.outer hC.2.2.1, CG.depth hC.2.2.1, CG.max hC.2.2.1, CG.most hC.2.2.1, CG.weight hC.2.2.1, CG.quota hC.2.2.1, CG.cached hC.2.2.1, CG.ran hC.2.2.1, CG.time hC.2.2.1, CG.uses hC.2.2.1, CG.live hC.2.2.1, rf_eq hA]
        refine Ev.kR ev ?_
        try simp (maxSteps := 2000000) (disch := omega) only [d_2 hA, d_9 hA, g_11_0 hA, g_11_1 hA, g_1_11 hA, g_8_10 hA, Option.bind_some, up_s, up_k, up_j, up_i, xk_add, xk_sub, xk_mul, xk_neg, lk_add, lN_z, rf_none, rb1, rb0, rbp, xk_nI, zk_eq, zk_lt, zk_eq0, zk_lt0, zk_0lt, zk_long, lz_lt, lz_gt, zmax, zmin, ↓reduceIte, Int.reduceEq, Int.reduceLT, Int.reduceNeg, Int.reduceAdd, Int.reduceSub, Int.reduceMul, Int.ofNat_eq_natCast, Int.cast_ofNat_Int, CT.space hC.1, CT.view hC.1, CT.parent hC.1, CT.group hC.1, CT.state hC.1, CT.pages hC.1, CT.points hC.1, CT.ticks hC.1, CT.asleep hC.1, CT.time hC.1, CP.outer hC.2.1, CP.depth hC.2.1, CP.init hC.2.1, CP.given hC.2.1, CG.outer hC.2.2.1, CG.depth hC.2.2.1, CG.max hC.2.2.1, CG.most hC.2.2.1, CG.weight hC.2.2.1, CG.quota hC.2.2.1, CG.cached hC.2.2.1, CG.ran hC.2.2.1, CG.time hC.2.2.1, CG.uses hC.2.2.1, CG.live hC.2.2.1, rf_eq hA, ll_n1]
        exact Ev.ret rfl
      · refine Ev.step (fun F => E12_time F _ _ _ _) ?_
        simp (disch := omega) only [a_30 hA hR, a_45 hA hR, d_12 hA hR, g_12_10 hA hR, g_12_25 hA hR, p_12_0 hA hR, Option.bind_some, up_s, up_k, up_j, up_i, xk_add, xk_sub, xk_mul, xk_neg, lk_add, lN_z, rf_none, rb1, rb0, rbp, xk_nI, zk_eq, zk_lt, zk_eq0, zk_lt0, zk_0lt, zk_long, lz_lt, lz_gt, zmax, zmin, ↓reduceIte, Int.reduceEq, Int.reduceLT, Int.reduceNeg, Int.reduceAdd, Int.reduceSub, Int.reduceMul, Int.ofNat_eq_natCast, Int.cast_ofNat_Int]
        rw [show up I 12 0 0 0 = J from hJ]
        refine Ev.kB it (fun q => absurd q h) (fun _ => ?_)
        try simp (maxSteps := 2000000) (disch := omega) only [a_30 hA hR, a_45 hA hR, d_12 hA hR, g_12_10 hA hR, g_12_25 hA hR, p_12_0 hA hR, Option.bind_some, up_s, up_k, up_j, up_i, xk_add, xk_sub, xk_mul, xk_neg, lk_add, lN_z, rf_none, rb1, rb0, rbp, xk_nI, zk_eq, zk_lt, zk_eq0, zk_lt0, zk_0lt, zk_long, lz_lt, lz_gt, zmax, zmin, ↓reduceIte, Int.reduceEq, Int.reduceLT, Int.reduceNeg, Int.reduceAdd, Int.reduceSub, Int.reduceMul, Int.ofNat_eq_natCast, Int.cast_ofNat_Int, ll_n1]
        exact Ev.ret rfl
  · have hf : f = 1 := by omega
    subst hf
    by_cases h : 0 ≤ t ∧ t < (J 12 0 17)
    · rw [if_pos h] at ma
      refine ⟨(J 45 0 t), ?_, ?_⟩
      · have c := hC.2.2.1.time h.1 h.2
        refine Ev.step (fun F => E11_time F _ _ _ _) ?_
        simp (disch := omega) only [d_2 hA, d_9 hA, g_11_0 hA, g_11_1 hA, g_1_11 hA, g_8_10 hA, Option.bind_some, up_s, up_k, up_j, up_i, xk_add, xk_sub, xk_mul, xk_neg, lk_add, lN_z, rf_none, rb1, rb0, rbp, xk_nI, zk_eq, zk_lt, zk_eq0, zk_lt0, zk_0lt, zk_long, lz_lt, lz_gt, zmax, zmin, ↓reduceIte, Int.reduceEq, Int.reduceLT, Int.reduceNeg, Int.reduceAdd, Int.reduceSub, Int.reduceMul, Int.ofNat_eq_natCast, Int.cast_ofNat_Int, CT.space hC.1, CT.view hC.1, CT.parent hC.1, CT.group hC.1, CT.state hC.1, CT.pages hC.1, CT.points hC.1, CT.ticks hC.1, CT.asleep hC.1, CT.time hC.1, CP.outer hC.2.1, CP.depth hC.2.1, CP.init hC.2.1, CP.given hC.2.1, CG.outer hC.2.2.1, CG.depth hC.2.2.1, CG.max hC.2.2.1, CG.most hC.2.2.1, CG.weight hC.2.2.1, CG.quota hC.2.2.1, CG.cached hC.2.2.1, CG.ran hC.2.2.1, CG.time hC.2.2.1, CG.uses hC.2.2.1, CG.live hC.2.2.1, rf_eq hA]
        refine Ev.kR ma ?_
        try simp (maxSteps := 2000000) (disch := omega) only [d_2 hA, d_9 hA, g_11_0 hA, g_11_1 hA, g_1_11 hA, g_8_10 hA, Option.bind_some, up_s, up_k, up_j, up_i, xk_add, xk_sub, xk_mul, xk_neg, lk_add, lN_z, rf_none, rb1, rb0, rbp, xk_nI, zk_eq, zk_lt, zk_eq0, zk_lt0, zk_0lt, zk_long, lz_lt, lz_gt, zmax, zmin, ↓reduceIte, Int.reduceEq, Int.reduceLT, Int.reduceNeg, Int.reduceAdd, Int.reduceSub, Int.reduceMul, Int.ofNat_eq_natCast, Int.cast_ofNat_Int, CT.space hC.1, CT.view hC.1, CT.parent hC.1, CT.group hC.1, CT.state hC.1, CT.pages hC.1, CT.points hC.1, CT.ticks hC.1, CT.asleep hC.1, CT.time hC.1, CP.outer hC.2.1, CP.depth hC.2.1, CP.init hC.2.1, CP.given hC.2.1, CG.outer hC.2.2.1, CG.depth hC.2.2.1, CG.max hC.2.2.1, CG.most hC.2.2.1, CG.weight hC.2.2.1, CG.quota hC.2.2.1, CG.cached hC.2.2.1, CG.ran hC.2.2.1, CG.time hC.2.2.1, CG.uses hC.2.2.1, CG.live hC.2.2.1, rf_eq hA]
        exact Ev.ite (fun q => absurd q (by omega)) (fun _ => Ev.ret rfl)
      · refine Ev.step (fun F => E12_time F _ _ _ _) ?_
        simp (disch := omega) only [a_30 hA hR, a_45 hA hR, d_12 hA hR, g_12_10 hA hR, g_12_25 hA hR, p_12_0 hA hR, Option.bind_some, up_s, up_k, up_j, up_i, xk_add, xk_sub, xk_mul, xk_neg, lk_add, lN_z, rf_none, rb1, rb0, rbp, xk_nI, zk_eq, zk_lt, zk_eq0, zk_lt0, zk_0lt, zk_long, lz_lt, lz_gt, zmax, zmin, ↓reduceIte, Int.reduceEq, Int.reduceLT, Int.reduceNeg, Int.reduceAdd, Int.reduceSub, Int.reduceMul, Int.ofNat_eq_natCast, Int.cast_ofNat_Int]
        rw [show up I 12 0 0 0 = J from hJ]
        refine Ev.kB ig (fun _ => ?_) (fun q => absurd h q)
        try simp (maxSteps := 2000000) (disch := omega) only [a_30 hA hR, a_45 hA hR, d_12 hA hR, g_12_10 hA hR, g_12_25 hA hR, p_12_0 hA hR, Option.bind_some, up_s, up_k, up_j, up_i, xk_add, xk_sub, xk_mul, xk_neg, lk_add, lN_z, rf_none, rb1, rb0, rbp, xk_nI, zk_eq, zk_lt, zk_eq0, zk_lt0, zk_0lt, zk_long, lz_lt, lz_gt, zmax, zmin, ↓reduceIte, Int.reduceEq, Int.reduceLT, Int.reduceNeg, Int.reduceAdd, Int.reduceSub, Int.reduceMul, Int.ofNat_eq_natCast, Int.cast_ofNat_Int]
        exact Ev.ret rfl
    · rw [if_neg h] at ma
      refine ⟨-1, ?_, ?_⟩
      · refine Ev.step (fun F => E11_time F _ _ _ _) ?_
        simp (disch := omega) only [d_2 hA, d_9 hA, g_11_0 hA, g_11_1 hA, g_1_11 hA, g_8_10 hA, Option.bind_some, up_s, up_k, up_j, up_i, xk_add, xk_sub, xk_mul, xk_neg, lk_add, lN_z, rf_none, rb1, rb0, rbp, xk_nI, zk_eq, zk_lt, zk_eq0, zk_lt0, zk_0lt, zk_long, lz_lt, lz_gt, zmax, zmin, ↓reduceIte, Int.reduceEq, Int.reduceLT, Int.reduceNeg, Int.reduceAdd, Int.reduceSub, Int.reduceMul, Int.ofNat_eq_natCast, Int.cast_ofNat_Int, CT.space hC.1, CT.view hC.1, CT.parent hC.1, CT.group hC.1, CT.state hC.1, CT.pages hC.1, CT.points hC.1, CT.ticks hC.1, CT.asleep hC.1, CT.time hC.1, CP.outer hC.2.1, CP.depth hC.2.1, CP.init hC.2.1, CP.given hC.2.1, CG.outer hC.2.2.1, CG.depth hC.2.2.1, CG.max hC.2.2.1, CG.most hC.2.2.1, CG.weight hC.2.2.1, CG.quota hC.2.2.1, CG.cached hC.2.2.1, CG.ran hC.2.2.1, CG.time hC.2.2.1, CG.uses hC.2.2.1, CG.live hC.2.2.1, rf_eq hA]
        refine Ev.kR ma ?_
        try simp (maxSteps := 2000000) (disch := omega) only [d_2 hA, d_9 hA, g_11_0 hA, g_11_1 hA, g_1_11 hA, g_8_10 hA, Option.bind_some, up_s, up_k, up_j, up_i, xk_add, xk_sub, xk_mul, xk_neg, lk_add, lN_z, rf_none, rb1, rb0, rbp, xk_nI, zk_eq, zk_lt, zk_eq0, zk_lt0, zk_0lt, zk_long, lz_lt, lz_gt, zmax, zmin, ↓reduceIte, Int.reduceEq, Int.reduceLT, Int.reduceNeg, Int.reduceAdd, Int.reduceSub, Int.reduceMul, Int.ofNat_eq_natCast, Int.cast_ofNat_Int, CT.space hC.1, CT.view hC.1, CT.parent hC.1, CT.group hC.1, CT.state hC.1, CT.pages hC.1, CT.points hC.1, CT.ticks hC.1, CT.asleep hC.1, CT.time hC.1, CP.outer hC.2.1, CP.depth hC.2.1, CP.init hC.2.1, CP.given hC.2.1, CG.outer hC.2.2.1, CG.depth hC.2.2.1, CG.max hC.2.2.1, CG.most hC.2.2.1, CG.weight hC.2.2.1, CG.quota hC.2.2.1, CG.cached hC.2.2.1, CG.ran hC.2.2.1, CG.time hC.2.2.1, CG.uses hC.2.2.1, CG.live hC.2.2.1, rf_eq hA, ll_n1]
        exact Ev.ret rfl
      · refine Ev.step (fun F => E12_time F _ _ _ _) ?_
        simp (disch := omega) only [a_30 hA hR, a_45 hA hR, d_12 hA hR, g_12_10 hA hR, g_12_25 hA hR, p_12_0 hA hR, Option.bind_some, up_s, up_k, up_j, up_i, xk_add, xk_sub, xk_mul, xk_neg, lk_add, lN_z, rf_none, rb1, rb0, rbp, xk_nI, zk_eq, zk_lt, zk_eq0, zk_lt0, zk_0lt, zk_long, lz_lt, lz_gt, zmax, zmin, ↓reduceIte, Int.reduceEq, Int.reduceLT, Int.reduceNeg, Int.reduceAdd, Int.reduceSub, Int.reduceMul, Int.ofNat_eq_natCast, Int.cast_ofNat_Int]
        rw [show up I 12 0 0 0 = J from hJ]
        refine Ev.kB ig (fun q => absurd q h) (fun _ => ?_)
        try simp (maxSteps := 2000000) (disch := omega) only [a_30 hA hR, a_45 hA hR, d_12 hA hR, g_12_10 hA hR, g_12_25 hA hR, p_12_0 hA hR, Option.bind_some, up_s, up_k, up_j, up_i, xk_add, xk_sub, xk_mul, xk_neg, lk_add, lN_z, rf_none, rb1, rb0, rbp, xk_nI, zk_eq, zk_lt, zk_eq0, zk_lt0, zk_0lt, zk_long, lz_lt, lz_gt, zmax, zmin, ↓reduceIte, Int.reduceEq, Int.reduceLT, Int.reduceNeg, Int.reduceAdd, Int.reduceSub, Int.reduceMul, Int.ofNat_eq_natCast, Int.cast_ofNat_Int, ll_n1]
        exact Ev.ret rfl
end OPs
