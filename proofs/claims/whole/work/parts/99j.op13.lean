/-! pairs: mount -/
section OPs
variable {e : EN} {C I J : ST} {z : Nat × Nat × Nat × Nat} {n : Int}
theorem Cpl.pe (hC : Cpl e C J) {v : Int} : Cpl e (up C 5 0 5 v) (up J 12 0 36 v) := by
  obtain ⟨h1, h2, h3, h4, h5, h6⟩ := hC
  have f0 : ∀ k i j, k ≠ 5 → up C 5 0 5 v k i j = C k i j := fun k i j a => up_k a
  have ej : ∀ k i j, k ≠ 12 → up J 12 0 36 v k i j = J k i j := fun k i j a => up_k a
  have e12 : ∀ j, j ≠ 36 → up J 12 0 36 v 12 0 j = J 12 0 j := fun j a => up_j a
  refine ⟨h1.fr (fun i j => f0 _ _ _ (by decide)) (e12 _ (by decide)) (fun k j a b => ej _ _ _ (by omega)), h2.fr (fun i j => f0 _ _ _ (by decide)) (fun i j => f0 _ _ _ (by decide)) (e12 _ (by decide)) (fun j => ej _ _ _ (by decide)) (fun j => ej _ _ _ (by decide)) (fun j => ej _ _ _ (by decide)) (HoR_c (e12 _ (by decide)) (fun j => by rw [ej _ _ _ (by decide)]) (fun j => ej _ _ _ (by decide))), h3.fr (fun i j _ => f0 _ _ _ (by decide)) (e12 _ (by decide)) (fun k j a b => ej _ _ _ (by omega)) (usF_c (e12 _ (by decide)) (e12 _ (by decide)) (fun j => by rw [ej _ _ _ (by decide)]) (fun j => ej _ _ _ (by decide)) (fun j => ej _ _ _ (by decide)) (fun j => ej _ _ _ (by decide)) (fun j => ej _ _ _ (by decide))) (lvF_c (e12 _ (by decide)) (fun j => by rw [ej _ _ _ (by decide)]) (fun j => ej _ _ _ (by decide)) (fun j => ej _ _ _ (by decide))), h4.fr (fun g => f0 _ _ _ (by decide)) (fun g => f0 _ _ _ (by decide)) (e12 _ (by decide)) (e12 _ (by decide)), ?_, h6.fr (f0 _ _ _ (by decide)) (f0 _ _ _ (by decide)) (fun j => f0 _ _ _ (by decide)) (fun j => f0 _ _ _ (by decide)) (e12 _ (by decide)) (e12 _ (by decide))⟩
  have hh : CM e C J → CM e (up C 5 0 5 v) (up J 12 0 36 v) := by
    intro h5
    have eT : ToR (up J 12 0 36 v) = ToR J := ToR_c (fun k => ej _ _ _ (by decide)) (fun k => ej _ _ _ (by decide)) (fun k => ej _ _ _ (by decide))
    have eb : bzT (up J 12 0 36 v) = bzT J := by
      funext m k
      unfold bzT
      rw [ej _ _ _ (by decide), ej _ _ _ (by decide)]
    obtain ⟨a, b, c, d, f⟩ := h5
    refine ⟨(e12 28 (by decide)).symm ▸ a, fun v v0 v1 => ?_, fun m m0 m1 => ?_, ?_, ?_⟩
    · rw [e12 _ (by decide)] at v1
      rw [f0 _ _ _ (by decide), ej _ _ _ (by decide)]
      exact b v v0 v1
    · simp (disch := decide) only [f0, ej]
      rw [eb, eT]
      exact c m m0 m1
    · rw [up_j (by decide), d]
      congr 1
    · rw [up_s, up_s]
  exact hh h5
theorem Inv.pe (h : Inv n J) : Inv (n + 1) (up J 12 0 36 ((J 12 0 36) + 1)) := by
  obtain ⟨h1, h2, h3, h4, h5, h6, h7, h8, h9⟩ := h
  have ej : ∀ k i j, k ≠ 12 → up J 12 0 36 ((J 12 0 36) + 1) k i j = J k i j := fun k i j a => up_k a
  have e12 : ∀ j, j ≠ 36 → up J 12 0 36 ((J 12 0 36) + 1) 12 0 j = J 12 0 j := fun j a => up_j a
  have hT : TI (up J 12 0 36 ((J 12 0 36) + 1)) := by
    refine ⟨h1.1.uS (by omega) (by omega) (by omega) (by omega), ?_⟩
    have el : lin (up J 12 0 36 ((J 12 0 36) + 1)) = lin J := lin_c (fun j => ej _ _ _ (by decide))
    simp (disch := decide) only [ej, e12, el]
    exact h1.2
  refine ⟨hT, h2.c (e12 _ (by decide)) (fun j => ej _ _ _ (by decide)) (fun j => ej _ _ _ (by decide)), h3.c (e12 _ (by decide)) (fun j => ej _ _ _ (by decide)) (usF_c (e12 _ (by decide)) (e12 _ (by decide)) (fun j => by rw [ej _ _ _ (by decide)]) (fun j => ej _ _ _ (by decide)) (fun j => ej _ _ _ (by decide)) (fun j => ej _ _ _ (by decide)) (fun j => ej _ _ _ (by decide))), h4.c (e12 _ (by decide)) (fun j => ej _ _ _ (by decide)) (fun j => ej _ _ _ (by decide)), h5.c (e12 _ (by decide)) (fun j => ej _ _ _ (by decide)) (fun j => ej _ _ _ (by decide)) (fun j => ej _ _ _ (by decide)), h6.c (e12 _ (by decide)) (e12 _ (by decide)) (fun j => ej _ _ _ (by decide)) (fun j => ej _ _ _ (by decide)) (fun j => ej _ _ _ (by decide)) (fun j => ej _ _ _ (by decide)) (fun j => ej _ _ _ (by decide)), h7.c (by omega) (e12 _ (by decide)) (fun j => ej _ _ _ (by decide)) (fun j => ej _ _ _ (by decide)) (fun j => ej _ _ _ (by decide)), h8.c (e12 _ (by decide)) (fun k j a b => ej _ _ _ (by omega)), fun k a b => ?_, ?_⟩
  · rw [ej _ _ _ (by decide), up_s]
    have := h9.1 k a b
    omega
  · rw [up_s]
    have := h9.2
    omega
/-- mounts are made on both sides -/
theorem add_pr (hA : WA e z) (hR : WR e) (hC : Cpl e C J) (hI : Inv n J) (hn : n ≤ 600) {m d w sh : Int} (m0 : 0 ≤ m) (m1 : m < 80) (d0 : 0 ≤ d) (d1 : d < 15) (w0 : 0 ≤ w) (w1 : w ≤ 9) (s0 : 0 ≤ sh) (s1 : sh ≤ 1) (ht : (J 50 0 m) = 1) (htp : tpC C m d < 0) : ∃ C' J' A, Ev (fun F => J5_add F (rf e 5 0) (rf e 4 m) (xk d) (xk w) (xk sh) (HS e C I z)) (rI A (HS e C' I z)) ∧ (∀ C2, Ev (fun F => J12_mount_68 F (rf e 12 0) (xk w) (xk sh) (xk m) (xk d) (xk (J 55 0 m)) (xk 1) (xk 0) (HS e C2 J z)) (rI A (HS e C2 J' z))) ∧ Cpl e C' J' ∧ Inv (n + 1) J' ∧ (-2 ≤ A ∧ A < 80) ∧ (∀ j, J' 62 0 j = J 62 0 j) ∧ J' 12 0 0 = J 12 0 0 := by
  have hT := hI.ti
  have hB := hT.1
  have hP := hI.pi.pb (by omega)
  have hTA := hC.toa
  have n4 := hA.2.2.2.1
  have pm := hP.1 m m0 m1
  have pl := hP.2
  have pf := placesFor_ev (I := I) hA hC hB hP m0 m1 d0 d1
  have ct := hC.2.2.2.2.1.2.2.2.1
  have cpe := hC.2.2.2.2.1.2.2.2.2
  have tb := th_b hB
  have sb := sm_b1 (f := pkT J (tpC C) m (J 55 0 m) d) (n := 80) (fun k => pk_b) (by omega)
  by_cases hfull : 80 < sm (fun k => (J 50 0 k)) 80 + (1 + sm (pkT J (tpC C) m (J 55 0 m) d) 80)
  · refine ⟨C, J, -2, ?_, fun C2 => mount68_ev hA hR hB hP hTA m0 m1 d0 d1 w0 w1 pm.1 (by omega) s0 s1 (fun _ => rfl) (fun y => absurd hfull (by omega)), hC, hI.sc (by omega) hB (fun _ _ _ _ _ _ => rfl), ⟨by decide, by decide⟩, fun _ => rfl, rfl⟩
    refine Ev.step (fun F => E5_add F _ _ _ _ _ _) ?_
    simp (disch := omega) only [d_5 hA, g_5_3 hA, Option.bind_some, up_s, up_k, up_j, up_i, xk_add, xk_sub, xk_mul, xk_neg, lk_add, lN_z, rf_none, rb1, rb0, rbp, xk_nI, zk_eq, zk_lt, zk_eq0, zk_lt0, zk_0lt, zk_long, lz_lt, lz_gt, zmax, zmin, ↓reduceIte, Int.reduceEq, Int.reduceLT, Int.reduceNeg, Int.reduceAdd, Int.reduceSub, Int.reduceMul, Int.ofNat_eq_natCast, Int.cast_ofNat_Int, ct]
    refine Ev.kI pf ?_
    try simp (maxSteps := 2000000) (disch := omega) only [d_5 hA, g_5_3 hA, Option.bind_some, up_s, up_k, up_j, up_i, xk_add, xk_sub, xk_mul, xk_neg, lk_add, lN_z, rf_none, rb1, rb0, rbp, xk_nI, zk_eq, zk_lt, zk_eq0, zk_lt0, zk_0lt, zk_long, lz_lt, lz_gt, zmax, zmin, ↓reduceIte, Int.reduceEq, Int.reduceLT, Int.reduceNeg, Int.reduceAdd, Int.reduceSub, Int.reduceMul, Int.ofNat_eq_natCast, Int.cast_ofNat_Int]
    exact Ev.ite (fun _ => Ev.ret rfl) (fun y => absurd hfull y)
  · -- the new peer
    have key : ∃ C1 J1 q, Ev (fun F => J5_newPeer F (rf e 5 0) (xk sh) (HS e C I z)) (rI q (HS e C1 I z)) ∧ J1 = (if sh = 0 then J else up J 12 0 36 ((J 12 0 36) + 1)) ∧ q = (if sh = 0 then 0 else (J 12 0 36) + 1) ∧ Cpl e C1 J1 ∧ Inv (n + 1) J1 ∧ q ≤ (J1 12 0 36) ∧ (∀ k i j, k ≠ 5 → C1 k i j = C k i j) ∧ (∀ k i j, k ≠ 12 ∨ j ≠ 36 → J1 k i j = J k i j) := by
      by_cases hs : sh = 0
      · refine ⟨C, J, 0, ?_, by rw [if_pos hs], by rw [if_pos hs], hC, hI.sc (by omega) hB (fun _ _ _ _ _ _ => rfl), by omega, fun _ _ _ _ => rfl, fun _ _ _ _ => rfl⟩
        refine Ev.step (fun F => E5_newPeer F _ _ _) ?_
        simp (disch := omega) only [g_5_5 hA, p_5_5 hA, Option.bind_some, up_s, up_k, up_j, up_i, xk_add, xk_sub, xk_mul, xk_neg, lk_add, lN_z, rf_none, rb1, rb0, rbp, xk_nI, zk_eq, zk_lt, zk_eq0, zk_lt0, zk_0lt, zk_long, lz_lt, lz_gt, zmax, zmin, ↓reduceIte, Int.reduceEq, Int.reduceLT, Int.reduceNeg, Int.reduceAdd, Int.reduceSub, Int.reduceMul, Int.ofNat_eq_natCast, Int.cast_ofNat_Int]
        exact Ev.ite (fun _ => Ev.ret rfl) (fun y => absurd hs y)
      · refine ⟨up C 5 0 5 ((J 12 0 36) + 1), up J 12 0 36 ((J 12 0 36) + 1), (J 12 0 36) + 1, ?_, by rw [if_neg hs], by rw [if_neg hs], hC.pe, hI.pe, by rw [up_s]; omega, fun k i j a => up_k a, fun k i j a => by unfold up; rw [if_neg (by omega)]⟩
        refine Ev.step (fun F => E5_newPeer F _ _ _) ?_
        simp (disch := omega) only [g_5_5 hA, p_5_5 hA, Option.bind_some, up_s, up_k, up_j, up_i, xk_add, xk_sub, xk_mul, xk_neg, lk_add, lN_z, rf_none, rb1, rb0, rbp, xk_nI, zk_eq, zk_lt, zk_eq0, zk_lt0, zk_0lt, zk_long, lz_lt, lz_gt, zmax, zmin, ↓reduceIte, Int.reduceEq, Int.reduceLT, Int.reduceNeg, Int.reduceAdd, Int.reduceSub, Int.reduceMul, Int.ofNat_eq_natCast, Int.cast_ofNat_Int, cpe]
        refine Ev.ite (fun y => absurd y hs) (fun _ => ?_)
        exact Ev.ret rfl
    obtain ⟨C1, J1, q, hnp, eJ1, eq, hC1, hI1, hql, fC1, fJ1⟩ := key
    have q0 : 0 ≤ q := by rw [eq]; split <;> omega
    have hq : ¬ (0 < (J 55 0 m) ∧ q = (J 55 0 m)) := by rw [eq]; split <;> omega
    have hB1 := hI1.rb
    have hP1 := hI1.pi.pb (by omega)
    have eTo : ToR J1 = ToR J := ToR_c (fun k => fJ1 _ _ _ (Or.inl (by decide))) (fun k => fJ1 _ _ _ (Or.inl (by decide))) (fun k => fJ1 _ _ _ (Or.inl (by decide)))
    have hTA1 : ToA J1 (tpC C) := fun a b c d f g => by rw [eTo]; exact hTA a b c d f g
    have epk : pkT J1 (tpC C) m (J 55 0 m) d = pkT J (tpC C) m (J 55 0 m) d := by
      funext k
      unfold pkT
      rw [fJ1 _ _ _ (Or.inl (by decide)), fJ1 _ _ _ (Or.inl (by decide))]
    have eth : ∀ k, J1 50 0 k = J 50 0 k := fun k => fJ1 _ _ _ (Or.inl (by decide))
    have hfr : sm (fun k => (J1 50 0 k)) 80 < 80 := by
      simp only [eth]
      omega
    obtain ⟨f, hf⟩ := FmR.ex hB1 hfr
    have fb := hf.1
    have cb : ∀ k, -1 ≤ pkT J1 (tpC C) m (J 55 0 m) d k ∧ pkT J1 (tpC C) m (J 55 0 m) d k ≤ 79 := fun k => by have := pk_b (I := J1) (tp := tpC C) (m := m) (q := (J 55 0 m)) (d := d) (k := k); omega
    -- marked
    have f2 : ∀ k i j, k ≠ 60 → cpI J1 (pkT J1 (tpC C) m (J 55 0 m) d) k i j = J1 k i j := fun k i j a => by simp [cpI, a]
    have hB2 : RB (cpI J1 (pkT J1 (tpC C) m (J 55 0 m) d)) := hB1.cp cb
    have hI2 : Inv (n + 1) (cpI J1 (pkT J1 (tpC C) m (J 55 0 m) d)) := hI1.sc (by omega) hB2 (fun k i j _ b _ => f2 k i j b)
    have hC2 : Cpl e C1 (cpI J1 (pkT J1 (tpC C) m (J 55 0 m) d)) := hC1.sc (fun k i j _ b _ => f2 k i j b)
    generalize hJ2 : cpI J1 (pkT J1 (tpC C) m (J 55 0 m) d) = J2 at *
    have cop : ∀ j, 0 ≤ j → j < 80 → J2 60 0 j = pkT J1 (tpC C) m (J 55 0 m) d j := fun j a b => by rw [← hJ2]; simp [cpI, a, b]
    have e51 : (J2 51 0 m) = (J1 51 0 m) := f2 _ _ _ (by decide)
    have ht2 : (J2 50 0 m) = 1 := by rw [f2 _ _ _ (by decide), eth]; exact ht
    have hf2 : FmR J2 f := ⟨hf.1, by rw [f2 _ _ _ (by decide)]; exact hf.2.1, fun k a b => by rw [f2 _ _ _ (by decide)]; exact hf.2.2 k a b⟩
    have tp1 : tpC C1 = tpC C := by funext a b; unfold tpC; exact fC1 _ _ _ (by decide)
    have hC3 := hC2.mk hB2 hI2.mi (w := w) (q := q) m0 m1 d0 d1 ht2 hf2 (by show tpC C1 m d < 0; rw [tp1]; exact htp)
    have ao := addOne_ev (I := I) hA hC2 hI2.ti hI2.mi (w := w) (q := q) m0 m1 d0 d1 ht2 hf2
    have mn : m ≠ -1 := by omega
    have mf : m ≠ f := fun y => by have := hf2.2.1; rw [y] at ht2; omega
    have vb := RB.viewOf hB2 (j := m) m0 m1
    have hB3 : RB (mkI J2 (J2 51 0 m) m d w q f) := hB2.mk (by omega) (by omega) (by omega) (by omega) (by omega) (by omega) w0 w1 (by omega) (by omega)
    have hM3 := hI2.mi.mk (p := d) (w := w) (q := q) hB2 hf2 m0 m1 ht2
    have hP2 := hI2.pi.pb (by omega)
    have hql2 : q ≤ (J2 12 0 36) := by rw [f2 _ _ _ (by decide)]; exact hql
    have hP3 := hP2.mk (v := (J2 51 0 m)) (o := m) (p := d) (w := w) (q := q) (m := f) mn q0 hql2
    have hT3 : TI (mkI J2 (J2 51 0 m) m d w q f) := by
      refine ⟨hB3, ?_⟩
      have el : lin (mkI J2 (J2 51 0 m) m d w q f) = lin J2 := lin_c (fun j => mkI_f (by omega))
      simp (disch := omega) only [mkI_f, el]
      exact hI2.ti.2
    obtain ⟨C4, J4, hE4, hM4, hC4, hMI4, hPB4, hRB4, hF4⟩ := add41_ev (I := I) hA (o := m) (d := d) (w := w) (q := q) (p := (J 55 0 m)) (f := f) (cp := pkT J1 (tpC C) m (J 55 0 m) d) m0 m1 d0 d1 w0 w1 q0 hq (fun k => pk_b) 80 0 _ _ (by omega) (by omega) hC3 hT3 hM3 hP3 (by rw [mkI_f (by omega)]; exact hql2) (by rw [mk50 mn, if_neg mf]; exact ht2) (by rw [mk55 mn, if_neg mf, f2 _ _ _ (by decide), fJ1 _ _ _ (Or.inl (by decide))]) (fun j a b => by rw [mkI_f (by omega)]; exact cop j a b) (fun j a b => by
      have c17 : j ≠ m → tpC (adC C1 (J2 51 0 m) m d w q f ((C1 5 0 3) + 1) ((C1 4 m 5) + 1)) j d = tpC C j d := fun y => by
        rw [← tp1]
        unfold tpC
        simp only [adC, up]
        grind
      rw [mk50 mn, mk55 mn, f2 50 _ _ (by decide), f2 55 _ _ (by decide)]
      unfold pkT
      by_cases hj : j = m
      · rw [if_neg (fun y => y.1.1 hj)]
        exact ⟨fun y => absurd rfl y, fun y => absurd hj y.1.1⟩
      · rw [c17 hj]
        by_cases hjf : j = f
        · rw [if_pos hjf, if_pos hjf]
          have z0 := hf.2.1
          rw [hjf, if_neg (fun y => by have := y.1.2.1; omega)]
          exact ⟨fun y => absurd rfl y, fun y => absurd ⟨y.1.2.2.1, y.1.2.2.2⟩ hq⟩
        · rw [if_neg hjf, if_neg hjf]
          by_cases y : (j ≠ m ∧ (J1 50 0 j) = 1 ∧ 0 < (J 55 0 m) ∧ (J1 55 0 j) = (J 55 0 m)) ∧ tpC C j d < 0
          · rw [if_pos y]
            exact ⟨fun _ => y, fun _ => by decide⟩
          · rw [if_neg y]
            exact ⟨fun u => absurd rfl u, fun u => absurd u y⟩) (by
      have y := sm_u (f := fun k => (J2 50 0 k)) (f' := fun j => mkI J2 (J2 51 0 m) m d w q f 50 0 j) (n := 80) (x := f) (by omega) (by omega) (fun j _ _ hj => by rw [mk50 mn, if_neg hj])
      rw [y, mk50 mn, if_pos rfl, hf2.2.1, sm_0, epk]
      have : sm (fun k => (J2 50 0 k)) 80 = sm (fun k => (J 50 0 k)) 80 := sm_c (fun k _ _ => by rw [f2 _ _ _ (by decide), eth])
      omega)
    have fr : FRm J2 J4 := fun k i j y => (hF4 k i j y).trans (mkI_f y)
    have hI4 : Inv (n + 1) J4 := hI2.mnt (by omega) fr hRB4 hMI4 (PI.of hPB4 (by rw [fr 12 0 36 (by omega)]; exact hI2.pi.2))
    refine ⟨C4, J4, f, ?_, fun C5 => mount68_ev hA hR hB hP hTA m0 m1 d0 d1 w0 w1 pm.1 (by omega) s0 s1 (fun y => absurd y hfull) (fun _ => ?_), hC4, hI4, ⟨by omega, by omega⟩, fun j => ?_, ?_⟩
    · refine Ev.step (fun F => E5_add F _ _ _ _ _ _) ?_
      simp (disch := omega) only [d_5 hA, g_5_3 hA, Option.bind_some, up_s, up_k, up_j, up_i, xk_add, xk_sub, xk_mul, xk_neg, lk_add, lN_z, rf_none, rb1, rb0, rbp, xk_nI, zk_eq, zk_lt, zk_eq0, zk_lt0, zk_0lt, zk_long, lz_lt, lz_gt, zmax, zmin, ↓reduceIte, Int.reduceEq, Int.reduceLT, Int.reduceNeg, Int.reduceAdd, Int.reduceSub, Int.reduceMul, Int.ofNat_eq_natCast, Int.cast_ofNat_Int, ct]
      refine Ev.kI pf ?_
      try simp (maxSteps := 2000000) (disch := omega) only [d_5 hA, g_5_3 hA, Option.bind_some, up_s, up_k, up_j, up_i, xk_add, xk_sub, xk_mul, xk_neg, lk_add, lN_z, rf_none, rb1, rb0, rbp, xk_nI, zk_eq, zk_lt, zk_eq0, zk_lt0, zk_0lt, zk_long, lz_lt, lz_gt, zmax, zmin, ↓reduceIte, Int.reduceEq, Int.reduceLT, Int.reduceNeg, Int.reduceAdd, Int.reduceSub, Int.reduceMul, Int.ofNat_eq_natCast, Int.cast_ofNat_Int]
      refine Ev.ite (fun y => absurd y hfull) (fun _ => ?_)
      refine Ev.kI hnp ?_
      try simp (maxSteps := 2000000) (disch := omega) only [d_5 hA, g_5_3 hA, Option.bind_some, up_s, up_k, up_j, up_i, xk_add, xk_sub, xk_mul, xk_neg, lk_add, lN_z, rf_none, rb1, rb0, rbp, xk_nI, zk_eq, zk_lt, zk_eq0, zk_lt0, zk_0lt, zk_long, lz_lt, lz_gt, zmax, zmin, ↓reduceIte, Int.reduceEq, Int.reduceLT, Int.reduceNeg, Int.reduceAdd, Int.reduceSub, Int.reduceMul, Int.ofNat_eq_natCast, Int.cast_ofNat_Int]
      refine Ev.kI ao ?_
      exact hE4
    · rw [← eJ1, ← eq]
      refine mount155_ev hA hR hB1 hP1 hTA1 m0 m1 d0 d1 w0 w1 pm.1 (by omega) hf ?_
      rw [hJ2, ← e51]
      exact hM4
    · rw [fr 62 0 j (by omega), f2 _ _ _ (by decide), fJ1 _ _ _ (Or.inl (by decide))]
    · rw [fr 12 0 0 (by omega), f2 _ _ _ (by decide), fJ1 _ _ _ (Or.inr (by decide))]
end OPs
