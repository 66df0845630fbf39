/-! pairs: unmount, mount, share, mounted -/
section OPs
variable {e : EN} {C I J : ST} {z : Nat × Nat × Nat × Nat} {n : Int}
theorem Inv.mnt {J' : ST} (h : Inv n J) {m : Int} (hm : n ≤ m) (hf : FRm J J') (hB : RB J') (hM : MI J') (hP : PI m J') : Inv m J' := by
  obtain ⟨h1, h2, h3, h4, h5, h6, h7, h8, h9⟩ := h
  have ej : ∀ k i j, k < 49 ∨ 55 < k → J' k i j = J k i j := hf
  have hT : TI J' := by
    refine ⟨hB, ?_⟩
    have el : lin J' = lin J := lin_c (fun j => ej _ _ _ (by omega))
    simp (disch := omega) only [ej, el]
    exact h1.2
  exact ⟨hT, h2.c (ej _ _ _ (by omega)) (fun j => ej _ _ _ (by omega)) (fun j => ej _ _ _ (by omega)), h3.c (ej _ _ _ (by omega)) (fun j => ej _ _ _ (by omega)) (usF_c (ej _ _ _ (by omega)) (ej _ _ _ (by omega)) (fun j => by rw [ej _ _ _ (by omega)]) (fun j => ej _ _ _ (by omega)) (fun j => ej _ _ _ (by omega)) (fun j => ej _ _ _ (by omega)) (fun j => ej _ _ _ (by omega))), h4.c (ej _ _ _ (by omega)) (fun j => ej _ _ _ (by omega)) (fun j => ej _ _ _ (by omega)), h5.c (ej _ _ _ (by omega)) (fun j => ej _ _ _ (by omega)) (fun j => ej _ _ _ (by omega)) (fun j => ej _ _ _ (by omega)), h6.c (ej _ _ _ (by omega)) (ej _ _ _ (by omega)) (fun j => ej _ _ _ (by omega)) (fun j => ej _ _ _ (by omega)) (fun j => ej _ _ _ (by omega)) (fun j => ej _ _ _ (by omega)) (fun j => ej _ _ _ (by omega)), h7.c hm (ej _ _ _ (by omega)) (fun j => ej _ _ _ (by omega)) (fun j => ej _ _ _ (by omega)) (fun j => ej _ _ _ (by omega)), hM, hP⟩
theorem UmR.b {m o q : Int} : ∀ (k : Nat) (a : Int) (J J' : ST) (c : Int), UmR m o q k a J J' c → 0 ≤ c ∧ c ≤ k := by
  intro k
  induction k with
  | zero => intro a J J' c h; have := h.2; omega
  | succ k ih =>
    intro a J J' c h
    rw [UmR] at h
    split at h
    · obtain ⟨x, -, h⟩ := h
      split at h
      · have := ih _ _ _ _ h; omega
      · have := ih _ _ _ _ h; omega
    · have := ih _ _ _ _ h; omega
theorem PI.of {m : Int} (h : PB J) (hm : (J 12 0 36) ≤ m) : PI m J := ⟨h.1, hm⟩
theorem unmount_pr (hO : OK n e C I z) (hn : n ≤ 600) {t p : Int} (t0 : -2147483648 ≤ t) (t1 : t < 2147483648) (p0 : -2147483648 ≤ p) (p1 : p < 2147483648) : PR n e C I z (fun F s => J11_unmount F (rf e 11 0) (xk t) (xk p) s) (fun F s => J12_unmount F (rf e 12 0) (xk t) (xk p) s) := by
  obtain ⟨hA, hR, hC0, hI0⟩ := hO
  have hO : OK n e C I z := ⟨hA, hR, hC0, hI0⟩
  have hC := hC0.th (v := 0)
  have hI := hI0.th (m := n) (v := 0) (by omega)
  have hT := hI.ti
  generalize hJ : th I 0 = J at *
  have n8 := hC.1.1
  have n7 := hC.2.1.1
  have n1 := hC.2.2.1.1
  have n10 := hC.2.2.2.2.1.1
  have hB := hT.1
  have := RB.tasks hB
  have := RB.spaces hB
  have := RB.groups hB
  have := RB.views hB
  have n4 := hA.2.2.2.1
  have lv := living_ev (I := I) hA hC hT t0 t1
  obtain ⟨C', J', b, hE, hr, hC', hI', ej, hb, hok, hno⟩ := walk_pr (I := I) hA hR hC hI t0 t1 p0 p1
  have e62 : ∀ j, J' 62 0 j = I 62 0 j := fun j => by rw [ej _ _ _ (Or.inl (by decide)), ← hJ]; exact th_f (Or.inl (by decide))
  have e0 : J' 12 0 0 = 0 := by rw [ej _ _ _ (Or.inr (by decide)), ← hJ]; exact up_s
  have hT' := hI'.ti
  have hB' := hT'.1
  have hOK' : OK (n + 1) e C' J' z := ⟨hA, hR, hC', hI'.sc (by omega) hI'.rb (fun _ _ _ _ _ _ => rfl)⟩
  generalize hm : (J' 12 0 37) = m at *
  generalize hd : (J' 12 0 38) = d at *
  have rp : ∀ {C2 : ST} {r}, (b = 1 → Ev (fun F => if d = 0 then (if (J' 52 0 m) = -1 then some (.inl (some (.inl (xk (-1)))), HS e C2 J' z) else (xci (J12_isBusy F (rf e 12 0) (xk m) (HS e C2 J' z)) fun v10 s9 => if v10 = 0 then ((xgr s9 (rf e 12 0) 12 32).bind fun v11 => (xai s9 v11 (xk m)).bind fun v12 => (xgr s9 (rf e 12 0) 12 30).bind fun v13 => (xsz s9 v13 (xk m) (xk 0)).bind fun s14 => (xgr s14 (rf e 12 0) 12 35).bind fun v15 => (xai s14 v15 v12).bind fun v16 => J12_unmount_82 F (rf e 12 0) (xk m) v12 (xk 1) v16 (xk 0) s14) else (some (.inl (some (.inl (xk (-4)))), s9)))) else some (.inl (some (.inl (xk (-1)))), HS e C2 J' z)) r) → (b = 0 → r = rI (-1) (HS e C2 J' z)) → Ev (fun F => J12_unmount F (rf e 12 0) (xk t) (xk p) (HS e C2 I z)) r := by
    intro C2 r h1 h2
    refine Ev.step (fun F => E12_unmount F _ _ _ _) ?_
    simp (disch := omega) only [a_50 hA hR, a_52 hA hR, a_55 hA hR, d_12 hA hR, g_12_30 hA hR, g_12_32 hA hR, g_12_35 hA hR, g_12_37 hA hR, g_12_38 hA hR, p_12_0 hA hR, s_50 hA hR, s_52 hA hR, s_55 hA hR, Option.bind_some, up_s, up_k, up_j, up_i, xk_add, xk_sub, xk_mul, xk_neg, lk_add, lN_z, rf_none, rb1, rb0, rbp, xk_nI, zk_eq, zk_lt, zk_eq0, zk_lt0, zk_0lt, zk_long, lz_lt, lz_gt, zmax, zmin, ↓reduceIte, Int.reduceEq, Int.reduceLT, Int.reduceNeg, Int.reduceAdd, Int.reduceSub, Int.reduceMul, Int.ofNat_eq_natCast, Int.cast_ofNat_Int]
    rw [show up I 12 0 0 0 = J from hJ]
    refine Ev.kI (hr C2) ?_
    rcases hb with q | q
    · rw [q]
      try simp (maxSteps := 2000000) (disch := omega) only [a_50 hA hR, a_52 hA hR, a_55 hA hR, d_12 hA hR, g_12_30 hA hR, g_12_32 hA hR, g_12_35 hA hR, g_12_37 hA hR, g_12_38 hA hR, p_12_0 hA hR, s_50 hA hR, s_52 hA hR, s_55 hA hR, Option.bind_some, up_s, up_k, up_j, up_i, xk_add, xk_sub, xk_mul, xk_neg, lk_add, lN_z, rf_none, rb1, rb0, rbp, xk_nI, zk_eq, zk_lt, zk_eq0, zk_lt0, zk_0lt, zk_long, lz_lt, lz_gt, zmax, zmin, ↓reduceIte, Int.reduceEq, Int.reduceLT, Int.reduceNeg, Int.reduceAdd, Int.reduceSub, Int.reduceMul, Int.ofNat_eq_natCast, Int.cast_ofNat_Int]
      exact Ev.ret (h2 q).symm
    · have ok := hok q
      have im := RB.inMount hB' (j := m) ok.2.1.1 ok.2.1.2
      have h1 := h1 q
      rw [q]
      try simp (maxSteps := 2000000) (disch := omega) only [a_50 hA hR, a_52 hA hR, a_55 hA hR, d_12 hA hR, g_12_30 hA hR, g_12_32 hA hR, g_12_35 hA hR, g_12_37 hA hR, g_12_38 hA hR, p_12_0 hA hR, s_50 hA hR, s_52 hA hR, s_55 hA hR, Option.bind_some, up_s, up_k, up_j, up_i, xk_add, xk_sub, xk_mul, xk_neg, lk_add, lN_z, rf_none, rb1, rb0, rbp, xk_nI, zk_eq, zk_lt, zk_eq0, zk_lt0, zk_0lt, zk_long, lz_lt, lz_gt, zmax, zmin, ↓reduceIte, Int.reduceEq, Int.reduceLT, Int.reduceNeg, Int.reduceAdd, Int.reduceSub, Int.reduceMul, Int.ofNat_eq_natCast, Int.cast_ofNat_Int, hm, hd]
      exact h1
  by_cases h : (0 ≤ t ∧ t < (J 12 0 1) ∧ (J 22 0 t) = 0)
  · have bt := hT.b h.1 h.2.1
    have hE := hE h
    have c2 := hC.1.view h.1 h.2.1
    have cl : ∀ {r}, (b = 1 → Ev (fun F => if d = 0 then xci (J5_remove F (rf e 5 0) (rf e 4 m) (HS e C' I z)) (fun v13 s12 => some (.inl (some (.inl v13)), s12)) else some (.inl (some (.inl (xk (-1)))), HS e C' I z)) r) → (b = 0 → r = rI (-1) (HS e C' I z)) → Ev (fun F => J11_unmount F (rf e 11 0) (xk t) (xk p) (HS e C I z)) r := by
      intro r h1 h2
      refine Ev.step (fun F => E11_unmount F _ _ _ _) ?_
      simp (disch := omega) only [d_5 hA, d_6 hA, d_9 hA, g_11_1 hA, g_11_4 hA, g_5_2 hA, g_6_0 hA, g_6_1 hA, g_8_2 hA, Option.bind_some, up_s, up_k, up_j, up_i, xk_add, xk_sub, xk_mul, xk_neg, lk_add, lN_z, rf_none, rb1, rb0, rbp, xk_nI, zk_eq, zk_lt, zk_eq0, zk_lt0, zk_0lt, zk_long, lz_lt, lz_gt, zmax, zmin, ↓reduceIte, Int.reduceEq, Int.reduceLT, Int.reduceNeg, Int.reduceAdd, Int.reduceSub, Int.reduceMul, Int.ofNat_eq_natCast, Int.cast_ofNat_Int]
      refine Ev.kR lv ?_
      rw [lvg_y h]
      try simp (maxSteps := 2000000) (disch := omega) only [d_5 hA, d_6 hA, d_9 hA, g_11_1 hA, g_11_4 hA, g_5_2 hA, g_6_0 hA, g_6_1 hA, g_8_2 hA, Option.bind_some, up_s, up_k, up_j, up_i, xk_add, xk_sub, xk_mul, xk_neg, lk_add, lN_z, rf_none, rb1, rb0, rbp, xk_nI, zk_eq, zk_lt, zk_eq0, zk_lt0, zk_0lt, zk_long, lz_lt, lz_gt, zmax, zmin, ↓reduceIte, Int.reduceEq, Int.reduceLT, Int.reduceNeg, Int.reduceAdd, Int.reduceSub, Int.reduceMul, Int.ofNat_eq_natCast, Int.cast_ofNat_Int, c2]
      refine Ev.ite (fun q => absurd q (by omega)) (fun _ => ?_)
      refine Ev.kI hE ?_
      rcases hb with q | q
      · rw [q]
        try simp (maxSteps := 2000000) (disch := omega) only [d_5 hA, d_6 hA, d_9 hA, g_11_1 hA, g_11_4 hA, g_5_2 hA, g_6_0 hA, g_6_1 hA, g_8_2 hA, Option.bind_some, up_s, up_k, up_j, up_i, xk_add, xk_sub, xk_mul, xk_neg, lk_add, lN_z, rf_none, rb1, rb0, rbp, xk_nI, zk_eq, zk_lt, zk_eq0, zk_lt0, zk_0lt, zk_long, lz_lt, lz_gt, zmax, zmin, ↓reduceIte, Int.reduceEq, Int.reduceLT, Int.reduceNeg, Int.reduceAdd, Int.reduceSub, Int.reduceMul, Int.ofNat_eq_natCast, Int.cast_ofNat_Int]
        exact Ev.ret (h2 q).symm
      · have ok := hok q
        have h1 := h1 q
        rw [q]
        try simp (maxSteps := 2000000) (disch := omega) only [d_5 hA, d_6 hA, d_9 hA, g_11_1 hA, g_11_4 hA, g_5_2 hA, g_6_0 hA, g_6_1 hA, g_8_2 hA, Option.bind_some, up_s, up_k, up_j, up_i, xk_add, xk_sub, xk_mul, xk_neg, lk_add, lN_z, rf_none, rb1, rb0, rbp, xk_nI, zk_eq, zk_lt, zk_eq0, zk_lt0, zk_0lt, zk_long, lz_lt, lz_gt, zmax, zmin, ↓reduceIte, Int.reduceEq, Int.reduceLT, Int.reduceNeg, Int.reduceAdd, Int.reduceSub, Int.reduceMul, Int.ofNat_eq_natCast, Int.cast_ofNat_Int, ok.1.1, ok.1.2]
        exact h1
    rcases hb with q | q
    · exact ⟨e, C', J', z, -1, cl (fun y => absurd y (by omega)) (fun _ => rfl), rp (fun y => absurd y (by omega)) (fun _ => rfl), hOK', NX.r e62, ⟨by decide, by decide⟩, e0⟩
    · have ok := hok q
      have im := RB.inMount hB' (j := m) ok.2.1.1 ok.2.1.2
      have ip := RB.inPlace hB' (j := m) ok.2.1.1 ok.2.1.2
      have cm := hC'.2.2.2.2.1.2.2.1 m ok.2.1.1 ok.2.1.2
      have c3 := cm.2.2.2.1
      have c4 := cm.2.2.2.2.1
      have c5 := cm.2.2.2.2.2.1
      rw [if_pos ok.2.2.2.1] at c3 c4
      have n4' := hA.2.2.2.1
      by_cases hd0 : d = 0
      · by_cases hi : (J' 52 0 m) = -1
        · refine ⟨e, C', J', z, -1, cl (fun _ => Ev.ite (fun _ => ?_) (fun y => absurd hd0 y)) (fun y => absurd y (by omega)), rp (fun _ => Ev.ite (fun _ => Ev.ite (fun _ => Ev.ret rfl) (fun y => absurd hi y)) (fun y => absurd hd0 y)) (fun y => absurd y (by omega)), hOK', NX.r e62, ⟨by decide, by decide⟩, e0⟩
          refine Ev.kI (σ := HS e C' I z) (x := -1) ?_ (Ev.ret rfl)
          rw [hi] at c3
          refine Ev.step (fun F => E5_remove F _ _ _) ?_
          simp (disch := omega) only [d_5 hA, g_4_3 hA, g_4_4 hA, g_4_5 hA, Option.bind_some, up_s, up_k, up_j, up_i, xk_add, xk_sub, xk_mul, xk_neg, lk_add, lN_z, rf_none, rb1, rb0, rbp, xk_nI, zk_eq, zk_lt, zk_eq0, zk_lt0, zk_0lt, zk_long, lz_lt, lz_gt, zmax, zmin, ↓reduceIte, Int.reduceEq, Int.reduceLT, Int.reduceNeg, Int.reduceAdd, Int.reduceSub, Int.reduceMul, Int.ofNat_eq_natCast, Int.cast_ofNat_Int, c3]
          exact Ev.ret rfl
        · have bb := sm_b1 (f := bzT J' m) (n := 80) (fun k => by unfold bzT; split <;> omega) (by omega)
          by_cases hz : 0 < sm (bzT J' m) 80
          · refine ⟨e, C', J', z, -4, cl (fun _ => Ev.ite (fun _ => ?_) (fun y => absurd hd0 y)) (fun y => absurd y (by omega)), rp (fun _ => Ev.ite (fun _ => Ev.ite (fun y => absurd y hi) (fun _ => ?_)) (fun y => absurd hd0 y)) (fun y => absurd y (by omega)), hOK', NX.r e62, ⟨by decide, by decide⟩, e0⟩
            · refine Ev.kI (σ := HS e C' I z) (x := -4) ?_ (Ev.ret rfl)
              refine Ev.step (fun F => E5_remove F _ _ _) ?_
              simp (disch := omega) only [d_5 hA, g_4_3 hA, g_4_4 hA, g_4_5 hA, Option.bind_some, up_s, up_k, up_j, up_i, xk_add, xk_sub, xk_mul, xk_neg, lk_add, lN_z, rf_none, rb1, rb0, rbp, xk_nI, zk_eq, zk_lt, zk_eq0, zk_lt0, zk_0lt, zk_long, lz_lt, lz_gt, zmax, zmin, ↓reduceIte, Int.reduceEq, Int.reduceLT, Int.reduceNeg, Int.reduceAdd, Int.reduceSub, Int.reduceMul, Int.ofNat_eq_natCast, Int.cast_ofNat_Int, c3, c5]
              refine Ev.ite (fun y => absurd y (by omega)) (fun _ => ?_)
              exact Ev.ite (fun _ => Ev.ret rfl) (fun y => absurd hz y)
            · refine Ev.kB (isBusy_ev hA hR hB' (by omega) (by omega)) (fun _ => ?_) (fun y => absurd hz y)
              exact Ev.ite (fun y => absurd y k10) (fun _ => Ev.ret rfl)
          · have ne := hI'.mi.ne ok.2.1.1 ok.2.1.2 ok.2.2.2.1
            have hPB := hI'.pi.pb (by omega)
            have hC1 := hC'.um hB' ok.2.1.1 ok.2.1.2 ok.2.2.2.1 rfl rfl (by omega) ne
            have hM1 := hI'.mi.um ok.2.1.1 ok.2.1.2 (by omega) (by omega)
            have eu : ∀ k i j, k ≠ 50 → up J' 50 0 m 0 k i j = J' k i j := fun k i j a => up_k a
            have hB1 : RB (up J' 50 0 m 0) := RB.u_there hB' (by omega) (by omega)
            have hT1 : TI (up J' 50 0 m 0) := by
              refine ⟨hB1, ?_⟩
              have el : lin (up J' 50 0 m 0) = lin J' := lin_c (fun j => eu _ _ _ (by decide))
              simp (disch := decide) only [eu, el]
              exact hT'.2
            have hP1 : PB (up J' 50 0 m 0) := ⟨fun k => by rw [eu _ _ _ (by decide), eu _ _ _ (by decide)]; exact hPB.1 k, by rw [eu _ _ _ (by decide)]; exact hPB.2⟩
            have ro := removeOne_ev (I := I) hA hC' hB' ok.2.1.1 ok.2.1.2 ok.2.2.2.1 rfl rfl (by omega) ne
            obtain ⟨C2, J2, c, hE2, hU, hC2, hM2, hP2, hB2, hF2⟩ := remove37_ev (I := I) hA (m := m) (o := (J' 52 0 m)) (d := (J' 53 0 m)) (q := (J' 55 0 ((J' 52 0 m)))) ok.2.1.1 ok.2.1.2 (by omega) (by omega) 80 0 1 _ _ (by omega) (by omega) hC1 hT1 hM1 hP1 (by rw [eu _ _ _ (by decide)]) (by rw [eu _ _ _ (by decide)])
            have cb := UmR.b _ _ _ _ _ hU
            have pp := hPB.1 (J' 52 0 m) (by omega) (by omega)
            have pl := hPB.2
            have fr : FRm J' J2 := fun k i j y => (hF2 k i j y).trans (eu _ _ _ (by omega))
            have e36 : J2 12 0 36 = J' 12 0 36 := fr 12 0 36 (by omega)
            have hI2 : Inv (n + 1) J2 := hI'.mnt (by omega) fr hB2 hM2 (PI.of hP2 (by rw [e36]; have := hI'.pi.2; omega))
            refine ⟨e, C2, J2, z, 1 + c, cl (fun _ => Ev.ite (fun _ => ?_) (fun y => absurd hd0 y)) (fun y => absurd y (by omega)), rp (fun _ => Ev.ite (fun _ => Ev.ite (fun y => absurd y hi) (fun _ => ?_)) (fun y => absurd hd0 y)) (fun y => absurd y (by omega)), ⟨hA, hR, hC2, hI2⟩, NX.r (fun j => by rw [fr 62 0 j (by omega)]; exact e62 j), ⟨by omega, by omega⟩, by rw [fr 12 0 0 (by omega)]; exact e0⟩
            · refine Ev.kI (σ := HS e C2 I z) (x := 1 + c) ?_ (Ev.ret rfl)
              refine Ev.step (fun F => E5_remove F _ _ _) ?_
              simp (disch := omega) only [d_5 hA, g_4_3 hA, g_4_4 hA, g_4_5 hA, Option.bind_some, up_s, up_k, up_j, up_i, xk_add, xk_sub, xk_mul, xk_neg, lk_add, lN_z, rf_none, rb1, rb0, rbp, xk_nI, zk_eq, zk_lt, zk_eq0, zk_lt0, zk_0lt, zk_long, lz_lt, lz_gt, zmax, zmin, ↓reduceIte, Int.reduceEq, Int.reduceLT, Int.reduceNeg, Int.reduceAdd, Int.reduceSub, Int.reduceMul, Int.ofNat_eq_natCast, Int.cast_ofNat_Int, c3, c4, c5]
              refine Ev.ite (fun y => absurd y (by omega)) (fun _ => ?_)
              refine Ev.ite (fun y => absurd y hz) (fun _ => ?_)
              exact Ev.kV ro hE2
            · refine Ev.kB (isBusy_ev hA hR hB' (by omega) (by omega)) (fun y => absurd y hz) (fun _ => ?_)
              refine Ev.ite (fun _ => ?_) (fun y => absurd k00 y)
              refine Ev.bs (g_12_32 hA hR) ?_
              refine Ev.bs (a_52 hA hR ok.2.1.1 ok.2.1.2) ?_
              refine Ev.bs (g_12_30 hA hR) ?_
              refine Ev.bs (s_50 hA hR ok.2.1.1 ok.2.1.2 (Or.inl rfl)) ?_
              refine Ev.bs (g_12_35 hA hR) ?_
              refine Ev.bs (a_55 hA hR (by omega) (by omega)) ?_
              rw [eu _ _ _ (by decide)]
              exact unmount82_ev hA hR ok.2.1.1 ok.2.1.2 (by omega) (by omega) (by omega) (by omega) 80 0 _ J2 c 1 hB1 hP1 (by omega) (by omega) hU
      · exact ⟨e, C', J', z, -1, cl (fun _ => Ev.ite (fun y => absurd y hd0) (fun _ => Ev.ret rfl)) (fun y => absurd y (by omega)), rp (fun _ => Ev.ite (fun y => absurd y hd0) (fun _ => Ev.ret rfl)) (fun y => absurd y (by omega)), hOK', NX.r e62, ⟨by decide, by decide⟩, e0⟩
  · have hno := hno h
    refine ⟨e, C', J', z, -1, ?_, rp (fun y => absurd y (by omega)) (fun _ => rfl), hOK', NX.r e62, ⟨by decide, by decide⟩, e0⟩
    rw [hno.2.2]
    refine Ev.step (fun F => E11_unmount F _ _ _ _) ?_
    simp (disch := omega) only [d_5 hA, d_6 hA, d_9 hA, g_11_1 hA, g_11_4 hA, g_5_2 hA, g_6_0 hA, g_6_1 hA, g_8_2 hA, Option.bind_some, up_s, up_k, up_j, up_i, xk_add, xk_sub, xk_mul, xk_neg, lk_add, lN_z, rf_none, rb1, rb0, rbp, xk_nI, zk_eq, zk_lt, zk_eq0, zk_lt0, zk_0lt, zk_long, lz_lt, lz_gt, zmax, zmin, ↓reduceIte, Int.reduceEq, Int.reduceLT, Int.reduceNeg, Int.reduceAdd, Int.reduceSub, Int.reduceMul, Int.ofNat_eq_natCast, Int.cast_ofNat_Int]
    refine Ev.kR lv ?_
    rw [lvg_n h]
    try simp (maxSteps := 2000000) (disch := omega) only [d_5 hA, d_6 hA, d_9 hA, g_11_1 hA, g_11_4 hA, g_5_2 hA, g_6_0 hA, g_6_1 hA, g_8_2 hA, Option.bind_some, up_s, up_k, up_j, up_i, xk_add, xk_sub, xk_mul, xk_neg, lk_add, lN_z, rf_none, rb1, rb0, rbp, xk_nI, zk_eq, zk_lt, zk_eq0, zk_lt0, zk_0lt, zk_long, lz_lt, lz_gt, zmax, zmin, ↓reduceIte, Int.reduceEq, Int.reduceLT, Int.reduceNeg, Int.reduceAdd, Int.reduceSub, Int.reduceMul, Int.ofNat_eq_natCast, Int.cast_ofNat_Int]
    exact Ev.ret rfl
end OPs
