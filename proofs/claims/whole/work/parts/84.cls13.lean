/-! mounts: the class's loops -/
def FRm (J J' : ST) : Prop := ∀ k i j, (k < 49 ∨ 55 < k) → J' k i j = J k i j
theorem MI.ne {J : ST} (h : MI J) {k : Int} (k0 : 0 ≤ k) (k1 : k < 80) (ht : (J 50 0 k) = 1) : (J 52 0 k) ≠ k := by
  obtain ⟨-, -, r, B, h3⟩ := h
  intro y
  have := (h3 k k0 k1 ht).2 (by omega)
  rw [y] at this
  omega
theorem PB.mk {J : ST} (h : PB J) {v o p w q m : Int} (ho : o ≠ -1) (q0 : 0 ≤ q) (q1 : q ≤ (J 12 0 36)) : PB (mkI J v o p w q m) := by
  refine ⟨fun k k0 k1 => ?_, by rw [mkI_f (by omega)]; exact h.2⟩
  rw [mk55 ho, mkI_f (by omega)]
  have := h.1 k k0 k1
  split <;> omega
section CL
variable {e : EN} {C I J : ST} {z : Nat × Nat × Nat × Nat}
theorem add41_ev (hA : WA e z) {o d w q p f : Int} {cp : Int → Int} (o0 : 0 ≤ o) (o1 : o < 80) (d0 : 0 ≤ d) (d1 : d < 15) (w0 : 0 ≤ w) (w1 : w ≤ 9) (q0 : 0 ≤ q) (hq : ¬ (0 < p ∧ q = p)) (hcp : ∀ k, 0 ≤ cp k ∧ cp k ≤ 1) : ∀ (n : Nat) (k : Int) (C J : ST), 0 ≤ k → k + n = 80 → Cpl e C J → TI J → MI J → PB J → q ≤ (J 12 0 36) → (J 50 0 o) = 1 → (J 55 0 o) = p → (∀ j, 0 ≤ j → j < 80 → (J 60 0 j) = cp j) → (∀ j, k ≤ j → j < 80 → (cp j ≠ 0 ↔ (j ≠ o ∧ (J 50 0 j) = 1 ∧ 0 < p ∧ (J 55 0 j) = p) ∧ tpC C j d < 0)) → sm (fun k => (J 50 0 k)) 80 + sm cp 80 - sm cp k ≤ 80 → ∃ C' J', Ev (fun F => J5_add_41 F (rf e 5 0) (rf e 4 o) (xk d) (xk w) (xk q) (xk f) (xk k) (HS e C I z)) (rI f (HS e C' I z)) ∧ MtR d w q n k J J' ∧ Cpl e C' J' ∧ MI J' ∧ PB J' ∧ RB J' ∧ FRm J J' := by
  have n4 := hA.2.2.2.1
  intro n
  induction n with
  | zero =>
    intro k C J k0 k1 hC hT hM hP hql ho hp hc hm hs
    refine ⟨C, J, ?_, rfl, hC, hM, hP, hT.1, fun _ _ _ _ => rfl⟩
    refine Ev.step (fun F => E5_add_41 F _ _ _ _ _ _ _ _) ?_
    simp (disch := omega) only [b_18 hA, d_4 hA, d_5 hA, g_5_0 hA, Option.bind_some, up_s, up_k, up_j, up_i, xk_add, xk_sub, xk_mul, xk_neg, lk_add, lN_z, rf_none, rb1, rb0, rbp, xk_nI, zk_eq, zk_lt, zk_eq0, zk_lt0, zk_0lt, zk_long, lz_lt, lz_gt, zmax, zmin, ↓reduceIte, Int.reduceEq, Int.reduceLT, Int.reduceNeg, Int.reduceAdd, Int.reduceSub, Int.reduceMul, Int.ofNat_eq_natCast, Int.cast_ofNat_Int]
    exact Ev.ite (fun q => absurd q (by omega)) (fun _ => Ev.ret rfl)
  | succ n ih =>
    intro k C J k0 k1 hC hT hM hP hql ho hp hc hm hs
    have hB := hT.1
    have hpe := isPeer_cl (I := I) hA hC hB hP k0 (by omega : k < 80) o0 o1
    rw [hp] at hpe
    have hmk := hm k (by omega) (by omega)
    have hck := hcp k
    by_cases hz : cp k = 0
    · obtain ⟨C', J', hE, hR, rest⟩ := ih (k + 1) C J (by omega) (by omega) hC hT hM hP hql ho hp hc (fun j a b => hm j (by omega) b) (by rw [sm_s k0, hz]; omega)
      refine ⟨C', J', ?_, by rw [MtR, hc k k0 (by omega), if_pos hz]; exact hR, rest⟩
      refine Ev.step (fun F => E5_add_41 F _ _ _ _ _ _ _ _) ?_
      simp (disch := omega) only [b_18 hA, d_4 hA, d_5 hA, g_5_0 hA, Option.bind_some, up_s, up_k, up_j, up_i, xk_add, xk_sub, xk_mul, xk_neg, lk_add, lN_z, rf_none, rb1, rb0, rbp, xk_nI, zk_eq, zk_lt, zk_eq0, zk_lt0, zk_0lt, zk_long, lz_lt, lz_gt, zmax, zmin, ↓reduceIte, Int.reduceEq, Int.reduceLT, Int.reduceNeg, Int.reduceAdd, Int.reduceSub, Int.reduceMul, Int.ofNat_eq_natCast, Int.cast_ofNat_Int]
      refine Ev.ite (fun _ => ?_) (fun q => absurd q (by omega))
      try simp (disch := omega) only [b_18 hA, d_4 hA, d_5 hA, g_5_0 hA, Option.bind_some, up_s, up_k, up_j, up_i, xk_add, xk_sub, xk_mul, xk_neg, lk_add, lN_z, rf_none, rb1, rb0, rbp, xk_nI, zk_eq, zk_lt, zk_eq0, zk_lt0, zk_0lt, zk_long, lz_lt, lz_gt, zmax, zmin, ↓reduceIte, Int.reduceEq, Int.reduceLT, Int.reduceNeg, Int.reduceAdd, Int.reduceSub, Int.reduceMul, Int.ofNat_eq_natCast, Int.cast_ofNat_Int]
      refine Ev.kB hpe (fun hi => ?_) (fun hi => ?_)
      · try simp (disch := omega) only [b_18 hA, d_4 hA, d_5 hA, g_5_0 hA, Option.bind_some, up_s, up_k, up_j, up_i, xk_add, xk_sub, xk_mul, xk_neg, lk_add, lN_z, rf_none, rb1, rb0, rbp, xk_nI, zk_eq, zk_lt, zk_eq0, zk_lt0, zk_0lt, zk_long, lz_lt, lz_gt, zmax, zmin, ↓reduceIte, Int.reduceEq, Int.reduceLT, Int.reduceNeg, Int.reduceAdd, Int.reduceSub, Int.reduceMul, Int.ofNat_eq_natCast, Int.cast_ofNat_Int]
        refine Ev.kR (over_ev hA k0 (by omega) d0 d1) ?_
        try simp (disch := omega) only [b_18 hA, d_4 hA, d_5 hA, g_5_0 hA, Option.bind_some, up_s, up_k, up_j, up_i, xk_add, xk_sub, xk_mul, xk_neg, lk_add, lN_z, rf_none, rb1, rb0, rbp, xk_nI, zk_eq, zk_lt, zk_eq0, zk_lt0, zk_0lt, zk_long, lz_lt, lz_gt, zmax, zmin, ↓reduceIte, Int.reduceEq, Int.reduceLT, Int.reduceNeg, Int.reduceAdd, Int.reduceSub, Int.reduceMul, Int.ofNat_eq_natCast, Int.cast_ofNat_Int]
        refine Ev.ite (fun y => absurd hz (hmk.mpr ⟨hi, y⟩)) (fun _ => hE)
      · try simp (disch := omega) only [b_18 hA, d_4 hA, d_5 hA, g_5_0 hA, Option.bind_some, up_s, up_k, up_j, up_i, xk_add, xk_sub, xk_mul, xk_neg, lk_add, lN_z, rf_none, rb1, rb0, rbp, xk_nI, zk_eq, zk_lt, zk_eq0, zk_lt0, zk_0lt, zk_long, lz_lt, lz_gt, zmax, zmin, ↓reduceIte, Int.reduceEq, Int.reduceLT, Int.reduceNeg, Int.reduceAdd, Int.reduceSub, Int.reduceMul, Int.ofNat_eq_natCast, Int.cast_ofNat_Int]
        exact hE
    · have hy := hmk.mp hz
      have hfr : sm (fun k => (J 50 0 k)) 80 < 80 := by
        have a : cp k ≤ sm cp 80 - sm cp k := by
          have h1 : ∀ m : Nat, sm cp (k + 1) ≤ sm cp (k + 1 + m) := by
            intro m
            induction m with
            | zero => simp
            | succ m ih =>
              have := sm_s (f := cp) (t := k + 1 + m) (by omega)
              have := (hcp (k + 1 + m)).1
              rw [show k + 1 + ((m + 1 : Nat) : Int) = k + 1 + m + 1 by omega]
              omega
          have h2 := h1 n
          rw [show k + 1 + (n : Int) = 80 by omega, sm_s k0] at h2
          omega
        omega
      obtain ⟨m, hfm⟩ := FmR.ex hB hfr
      have mb := hfm.1
      have vb := (hM.1 k k0 (by omega) hy.1.2.1).1
      have kn : k ≠ -1 := by omega
      have := RB.viewOf hB (j := k) (by omega) (by omega)
      have hC' := hC.mk hB hM (w := w) (q := q) k0 (by omega) d0 d1 hy.1.2.1 hfm hy.2
      have hB' : RB (mkI J (J 51 0 k) k d w q m) := hB.mk (by omega) (by omega) (by omega) (by omega) (by omega) (by omega) w0 w1 (by omega) (by omega)
      have hT' : TI (mkI J (J 51 0 k) k d w q m) := by
        refine ⟨hB', ?_⟩
        have el : lin (mkI J (J 51 0 k) k d w q m) = lin J := lin_c (fun j => mkI_f (by omega))
        simp (disch := omega) only [mkI_f, el]
        exact hT.2
      have hM' := hM.mk (p := d) (w := w) (q := q) hB hfm k0 (by omega) hy.1.2.1
      have om : o ≠ m := fun y => by have := hfm.2.1; rw [y] at ho; omega
      have hae := addOne_ev (I := I) hA hC hT hM (w := w) (q := q) k0 (by omega) d0 d1 hy.1.2.1 hfm
      obtain ⟨C', J', hE, hR, r1, r2, r3, r4, r5⟩ := ih (k + 1) _ _ (by omega) (by omega) hC' hT' hM' (hP.mk kn q0 hql) (by rw [mkI_f (by omega)]; exact hql) (by rw [mk50 kn, if_neg om]; exact ho) (by rw [mk55 kn, if_neg om]; exact hp) (fun j a b => by rw [mkI_f (by omega)]; exact hc j a b) (fun j a b => by
        have h1 := hm j (by omega) b
        have c17 : tpC (adC C (J 51 0 k) k d w q m ((C 5 0 3) + 1) ((C 4 k 5) + 1)) j d = tpC C j d := by
          unfold tpC
          simp only [adC, up]
          grind
        rw [c17, mk50 kn, mk55 kn]
        by_cases hj : j = m
        · rw [if_pos hj, if_pos hj]
          have z0 := hfm.2.1
          rw [hj] at h1 ⊢
          constructor
          · intro y; have := h1.mp y; omega
          · intro y; exact absurd ⟨y.1.2.2.1, y.1.2.2.2⟩ hq
        · rw [if_neg hj, if_neg hj]
          exact h1) (by
        have y := sm_u (f := fun k => (J 50 0 k)) (f' := fun j => mkI J (J 51 0 k) k d w q m 50 0 j) (n := 80) (x := m) (by omega) (by omega) (fun j _ _ hj => by rw [mk50 kn, if_neg hj])
        rw [y, mk50 kn, if_pos rfl, sm_s k0, hfm.2.1]
        omega)
      refine ⟨C', J', ?_, by rw [MtR, hc k k0 (by omega), if_neg hz]; exact ⟨m, hfm, hR⟩, r1, r2, r3, r4, fun a b c y => (r5 a b c y).trans (mkI_f y)⟩
      refine Ev.step (fun F => E5_add_41 F _ _ _ _ _ _ _ _) ?_
      simp (disch := omega) only [b_18 hA, d_4 hA, d_5 hA, g_5_0 hA, Option.bind_some, up_s, up_k, up_j, up_i, xk_add, xk_sub, xk_mul, xk_neg, lk_add, lN_z, rf_none, rb1, rb0, rbp, xk_nI, zk_eq, zk_lt, zk_eq0, zk_lt0, zk_0lt, zk_long, lz_lt, lz_gt, zmax, zmin, ↓reduceIte, Int.reduceEq, Int.reduceLT, Int.reduceNeg, Int.reduceAdd, Int.reduceSub, Int.reduceMul, Int.ofNat_eq_natCast, Int.cast_ofNat_Int]
      refine Ev.ite (fun _ => ?_) (fun q => absurd q (by omega))
      try simp (disch := omega) only [b_18 hA, d_4 hA, d_5 hA, g_5_0 hA, Option.bind_some, up_s, up_k, up_j, up_i, xk_add, xk_sub, xk_mul, xk_neg, lk_add, lN_z, rf_none, rb1, rb0, rbp, xk_nI, zk_eq, zk_lt, zk_eq0, zk_lt0, zk_0lt, zk_long, lz_lt, lz_gt, zmax, zmin, ↓reduceIte, Int.reduceEq, Int.reduceLT, Int.reduceNeg, Int.reduceAdd, Int.reduceSub, Int.reduceMul, Int.ofNat_eq_natCast, Int.cast_ofNat_Int]
      refine Ev.kB hpe (fun hi => ?_) (fun hi => absurd hy.1 hi)
      try simp (disch := omega) only [b_18 hA, d_4 hA, d_5 hA, g_5_0 hA, Option.bind_some, up_s, up_k, up_j, up_i, xk_add, xk_sub, xk_mul, xk_neg, lk_add, lN_z, rf_none, rb1, rb0, rbp, xk_nI, zk_eq, zk_lt, zk_eq0, zk_lt0, zk_0lt, zk_long, lz_lt, lz_gt, zmax, zmin, ↓reduceIte, Int.reduceEq, Int.reduceLT, Int.reduceNeg, Int.reduceAdd, Int.reduceSub, Int.reduceMul, Int.ofNat_eq_natCast, Int.cast_ofNat_Int]
      refine Ev.kR (over_ev hA k0 (by omega) d0 d1) ?_
      try simp (disch := omega) only [b_18 hA, d_4 hA, d_5 hA, g_5_0 hA, Option.bind_some, up_s, up_k, up_j, up_i, xk_add, xk_sub, xk_mul, xk_neg, lk_add, lN_z, rf_none, rb1, rb0, rbp, xk_nI, zk_eq, zk_lt, zk_eq0, zk_lt0, zk_0lt, zk_long, lz_lt, lz_gt, zmax, zmin, ↓reduceIte, Int.reduceEq, Int.reduceLT, Int.reduceNeg, Int.reduceAdd, Int.reduceSub, Int.reduceMul, Int.ofNat_eq_natCast, Int.cast_ofNat_Int]
      refine Ev.ite (fun _ => ?_) (fun y => absurd hy.2 y)
      try simp (disch := omega) only [b_18 hA, d_4 hA, d_5 hA, g_5_0 hA, Option.bind_some, up_s, up_k, up_j, up_i, xk_add, xk_sub, xk_mul, xk_neg, lk_add, lN_z, rf_none, rb1, rb0, rbp, xk_nI, zk_eq, zk_lt, zk_eq0, zk_lt0, zk_0lt, zk_long, lz_lt, lz_gt, zmax, zmin, ↓reduceIte, Int.reduceEq, Int.reduceLT, Int.reduceNeg, Int.reduceAdd, Int.reduceSub, Int.reduceMul, Int.ofNat_eq_natCast, Int.cast_ofNat_Int]
      exact Ev.kI hae hE
theorem remove37_ev (hA : WA e z) {m o d q : Int} (m0 : 0 ≤ m) (m1 : m < 80) (o0 : 0 ≤ o) (o1 : o < 80) : ∀ (n : Nat) (k a : Int) (C J : ST), 0 ≤ k → k + n = 80 → Cpl e C J → TI J → MI J → PB J → (J 55 0 o) = q → (J 53 0 m) = d → ∃ C' J' c, Ev (fun F => J5_remove_37 F (rf e 5 0) (rf e 4 m) (rf e 4 o) (xk d) (xk a) (xk k) (HS e C I z)) (rI (a + c) (HS e C' I z)) ∧ UmR m o q n k J J' c ∧ Cpl e C' J' ∧ MI J' ∧ PB J' ∧ RB J' ∧ FRm J J' := by
  have n4 := hA.2.2.2.1
  intro n
  induction n with
  | zero =>
    intro k a C J k0 k1 hC hT hM hP hq hd
    refine ⟨C, J, 0, ?_, ⟨rfl, rfl⟩, hC, hM, hP, hT.1, fun _ _ _ _ => rfl⟩
    refine Ev.step (fun F => E5_remove_37 F _ _ _ _ _ _ _) ?_
    simp (disch := omega) only [b_18 hA, d_4 hA, d_5 hA, g_4_5 hA, g_4_6 hA, g_5_0 hA, Option.bind_some, up_s, up_k, up_j, up_i, xk_add, xk_sub, xk_mul, xk_neg, lk_add, lN_z, rf_none, rb1, rb0, rbp, xk_nI, zk_eq, zk_lt, zk_eq0, zk_lt0, zk_0lt, zk_long, lz_lt, lz_gt, zmax, zmin, ↓reduceIte, Int.reduceEq, Int.reduceLT, Int.reduceNeg, Int.reduceAdd, Int.reduceSub, Int.reduceMul, Int.ofNat_eq_natCast, Int.cast_ofNat_Int]
    exact Ev.ite (fun q => absurd q (by omega)) (fun _ => Ev.ret (by rw [Int.add_zero]; rfl))
  | succ n ih =>
    intro k a C J k0 k1 hC hT hM hP hq hd
    have hB := hT.1
    have hpe := isPeer_cl (I := I) hA hC hB hP k0 (by omega : k < 80) o0 o1
    rw [hq] at hpe
    have := RB.inPlace hB (j := m) (by omega) (by omega)
    by_cases hi : k ≠ o ∧ (J 50 0 k) = 1 ∧ 0 < q ∧ (J 55 0 k) = q
    · have hx := hC.toa k d k0 (by omega) (by omega) (by omega)
      have xb := hx.1
      have hov := over_ev (I := I) (C := C) (d := d) hA k0 (by omega : k < 80) (by omega) (by omega)
      have ym := hC.2.2.2.2.1.2.2.1 m m0 m1
      by_cases hc : 0 ≤ tpC C k d ∧ (J 54 0 (tpC C k d)) = (J 54 0 m) ∧ sm (bzT J (tpC C k d)) 80 ≤ 0
      · have xt := (hx.2 (tpC C k d) hc.1 xb.2).mpr rfl
        have ne := hM.ne hc.1 xb.2 xt.1
        rw [xt.2.1] at ne
        have yx := hC.2.2.2.2.1.2.2.1 _ hc.1 xb.2
        have hC' := hC.um hB hc.1 xb.2 xt.1 xt.2.1 xt.2.2 k0 ne
        have hM' := hM.um hc.1 xb.2 (by omega) hc.2.2
        have ej : ∀ k' i j, k' ≠ 50 → up J 50 0 (tpC C k d) 0 k' i j = J k' i j := fun k i j a => up_k a
        have hB' : RB (up J 50 0 (tpC C k d) 0) := RB.u_there hB (by omega) (by omega)
        have hT' : TI (up J 50 0 (tpC C k d) 0) := by
          refine ⟨hB', ?_⟩
          have el : lin (up J 50 0 (tpC C k d) 0) = lin J := lin_c (fun j => ej _ _ _ (by decide))
          simp (disch := decide) only [ej, el]
          exact hT.2
        have hP' : PB (up J 50 0 (tpC C k d) 0) := ⟨fun j => by rw [ej _ _ _ (by decide), ej _ _ _ (by decide)]; exact hP.1 j, by rw [ej _ _ _ (by decide)]; exact hP.2⟩
        have bz : sm (bzT J (tpC C k d)) 80 = 0 := by
          have := sm_nn (f := bzT J (tpC C k d)) (fun k => by unfold bzT; split <;> decide) 80
          omega
        have hro := removeOne_ev (I := I) hA hC hB hc.1 xb.2 xt.1 xt.2.1 xt.2.2 k0 ne
        obtain ⟨C', J', c, hE, hR, r1, r2, r3, r4, r5⟩ := ih (k + 1) (a + 1) _ _ (by omega) (by omega) hC' hT' hM' hP' (by rw [ej _ _ _ (by decide)]; exact hq) (by rw [ej _ _ _ (by decide)]; exact hd)
        refine ⟨C', J', c + 1, ?_, ?_, r1, r2, r3, r4, fun x y w v => (r5 x y w v).trans (ej _ _ _ (by omega))⟩
        · rw [show a + (c + 1) = a + 1 + c by omega]
          have := RB.volumes hB (j := (tpC C k d)) (by omega) (by omega)
          have := RB.volumes hB (j := m) (by omega) (by omega)
          refine Ev.step (fun F => E5_remove_37 F _ _ _ _ _ _ _) ?_
          simp (disch := omega) only [b_18 hA, d_4 hA, d_5 hA, g_4_5 hA, g_4_6 hA, g_5_0 hA, Option.bind_some, up_s, up_k, up_j, up_i, xk_add, xk_sub, xk_mul, xk_neg, lk_add, lN_z, rf_none, rb1, rb0, rbp, xk_nI, zk_eq, zk_lt, zk_eq0, zk_lt0, zk_0lt, zk_long, lz_lt, lz_gt, zmax, zmin, ↓reduceIte, Int.reduceEq, Int.reduceLT, Int.reduceNeg, Int.reduceAdd, Int.reduceSub, Int.reduceMul, Int.ofNat_eq_natCast, Int.cast_ofNat_Int]
          refine Ev.ite (fun _ => ?_) (fun q => absurd q (by omega))
          try simp (disch := omega) only [b_18 hA, d_4 hA, d_5 hA, g_4_5 hA, g_4_6 hA, g_5_0 hA, Option.bind_some, up_s, up_k, up_j, up_i, xk_add, xk_sub, xk_mul, xk_neg, lk_add, lN_z, rf_none, rb1, rb0, rbp, xk_nI, zk_eq, zk_lt, zk_eq0, zk_lt0, zk_0lt, zk_long, lz_lt, lz_gt, zmax, zmin, ↓reduceIte, Int.reduceEq, Int.reduceLT, Int.reduceNeg, Int.reduceAdd, Int.reduceSub, Int.reduceMul, Int.ofNat_eq_natCast, Int.cast_ofNat_Int]
          refine Ev.kB hpe (fun _ => ?_) (fun y => absurd hi y)
          try simp (disch := omega) only [b_18 hA, d_4 hA, d_5 hA, g_4_5 hA, g_4_6 hA, g_5_0 hA, Option.bind_some, up_s, up_k, up_j, up_i, xk_add, xk_sub, xk_mul, xk_neg, lk_add, lN_z, rf_none, rb1, rb0, rbp, xk_nI, zk_eq, zk_lt, zk_eq0, zk_lt0, zk_0lt, zk_long, lz_lt, lz_gt, zmax, zmin, ↓reduceIte, Int.reduceEq, Int.reduceLT, Int.reduceNeg, Int.reduceAdd, Int.reduceSub, Int.reduceMul, Int.ofNat_eq_natCast, Int.cast_ofNat_Int]
          refine Ev.kR hov ?_
          try simp (disch := omega) only [b_18 hA, d_4 hA, d_5 hA, g_4_5 hA, g_4_6 hA, g_5_0 hA, Option.bind_some, up_s, up_k, up_j, up_i, xk_add, xk_sub, xk_mul, xk_neg, lk_add, lN_z, rf_none, rb1, rb0, rbp, xk_nI, zk_eq, zk_lt, zk_eq0, zk_lt0, zk_0lt, zk_long, lz_lt, lz_gt, zmax, zmin, ↓reduceIte, Int.reduceEq, Int.reduceLT, Int.reduceNeg, Int.reduceAdd, Int.reduceSub, Int.reduceMul, Int.ofNat_eq_natCast, Int.cast_ofNat_Int, ym.1, yx.1, yx.2.2.2.2.2.1, bz]
          refine Ev.ite (fun y => absurd y (by omega)) (fun _ => ?_)
          refine Ev.ite (fun _ => ?_) (fun y => absurd hc.2.1 y)
          try simp (disch := omega) only [b_18 hA, d_4 hA, d_5 hA, g_4_5 hA, g_4_6 hA, g_5_0 hA, Option.bind_some, up_s, up_k, up_j, up_i, xk_add, xk_sub, xk_mul, xk_neg, lk_add, lN_z, rf_none, rb1, rb0, rbp, xk_nI, zk_eq, zk_lt, zk_eq0, zk_lt0, zk_0lt, zk_long, lz_lt, lz_gt, zmax, zmin, ↓reduceIte, Int.reduceEq, Int.reduceLT, Int.reduceNeg, Int.reduceAdd, Int.reduceSub, Int.reduceMul, Int.ofNat_eq_natCast, Int.cast_ofNat_Int, ym.1, yx.1, yx.2.2.2.2.2.1, bz]
          exact Ev.kV hro hE
        · rw [UmR, if_pos hi]
          refine ⟨tpC C k d, by rw [hd]; exact hx, ?_⟩
          rw [if_pos hc, show c + 1 - 1 = c by omega]
          exact hR
      · obtain ⟨C', J', c, hE, hR, r⟩ := ih (k + 1) a C J (by omega) (by omega) hC hT hM hP hq hd
        refine ⟨C', J', c, ?_, ?_, r⟩
        · have := RB.volumes hB (j := m) (by omega) (by omega)
          refine Ev.step (fun F => E5_remove_37 F _ _ _ _ _ _ _) ?_
          simp (disch := omega) only [b_18 hA, d_4 hA, d_5 hA, g_4_5 hA, g_4_6 hA, g_5_0 hA, Option.bind_some, up_s, up_k, up_j, up_i, xk_add, xk_sub, xk_mul, xk_neg, lk_add, lN_z, rf_none, rb1, rb0, rbp, xk_nI, zk_eq, zk_lt, zk_eq0, zk_lt0, zk_0lt, zk_long, lz_lt, lz_gt, zmax, zmin, ↓reduceIte, Int.reduceEq, Int.reduceLT, Int.reduceNeg, Int.reduceAdd, Int.reduceSub, Int.reduceMul, Int.ofNat_eq_natCast, Int.cast_ofNat_Int]
          refine Ev.ite (fun _ => ?_) (fun q => absurd q (by omega))
          try simp (disch := omega) only [b_18 hA, d_4 hA, d_5 hA, g_4_5 hA, g_4_6 hA, g_5_0 hA, Option.bind_some, up_s, up_k, up_j, up_i, xk_add, xk_sub, xk_mul, xk_neg, lk_add, lN_z, rf_none, rb1, rb0, rbp, xk_nI, zk_eq, zk_lt, zk_eq0, zk_lt0, zk_0lt, zk_long, lz_lt, lz_gt, zmax, zmin, ↓reduceIte, Int.reduceEq, Int.reduceLT, Int.reduceNeg, Int.reduceAdd, Int.reduceSub, Int.reduceMul, Int.ofNat_eq_natCast, Int.cast_ofNat_Int]
          refine Ev.kB hpe (fun _ => ?_) (fun y => absurd hi y)
          try simp (disch := omega) only [b_18 hA, d_4 hA, d_5 hA, g_4_5 hA, g_4_6 hA, g_5_0 hA, Option.bind_some, up_s, up_k, up_j, up_i, xk_add, xk_sub, xk_mul, xk_neg, lk_add, lN_z, rf_none, rb1, rb0, rbp, xk_nI, zk_eq, zk_lt, zk_eq0, zk_lt0, zk_0lt, zk_long, lz_lt, lz_gt, zmax, zmin, ↓reduceIte, Int.reduceEq, Int.reduceLT, Int.reduceNeg, Int.reduceAdd, Int.reduceSub, Int.reduceMul, Int.ofNat_eq_natCast, Int.cast_ofNat_Int]
          refine Ev.kR hov ?_
          try simp (disch := omega) only [b_18 hA, d_4 hA, d_5 hA, g_4_5 hA, g_4_6 hA, g_5_0 hA, Option.bind_some, up_s, up_k, up_j, up_i, xk_add, xk_sub, xk_mul, xk_neg, lk_add, lN_z, rf_none, rb1, rb0, rbp, xk_nI, zk_eq, zk_lt, zk_eq0, zk_lt0, zk_0lt, zk_long, lz_lt, lz_gt, zmax, zmin, ↓reduceIte, Int.reduceEq, Int.reduceLT, Int.reduceNeg, Int.reduceAdd, Int.reduceSub, Int.reduceMul, Int.ofNat_eq_natCast, Int.cast_ofNat_Int, ym.1]
          refine Ev.ite (fun y => hE) (fun y0 => ?_)
          have yx := hC.2.2.2.2.1.2.2.1 (tpC C k d) (by omega) xb.2
          have := RB.volumes hB (j := (tpC C k d)) (by omega) (by omega)
          have bzn := sm_b1 (f := bzT J (tpC C k d)) (n := 80) (fun k => by unfold bzT; split <;> decide) (by omega)
          try simp (disch := omega) only [b_18 hA, d_4 hA, d_5 hA, g_4_5 hA, g_4_6 hA, g_5_0 hA, Option.bind_some, up_s, up_k, up_j, up_i, xk_add, xk_sub, xk_mul, xk_neg, lk_add, lN_z, rf_none, rb1, rb0, rbp, xk_nI, zk_eq, zk_lt, zk_eq0, zk_lt0, zk_0lt, zk_long, lz_lt, lz_gt, zmax, zmin, ↓reduceIte, Int.reduceEq, Int.reduceLT, Int.reduceNeg, Int.reduceAdd, Int.reduceSub, Int.reduceMul, Int.ofNat_eq_natCast, Int.cast_ofNat_Int, ym.1, yx.1, yx.2.2.2.2.2.1]
          refine Ev.ite (fun y1 => ?_) (fun y => hE)
          refine Ev.ite (fun y2 => ?_) (fun y => hE)
          exact absurd ⟨by omega, y1, by omega⟩ hc
        · rw [UmR, if_pos hi]
          refine ⟨tpC C k d, by rw [hd]; exact hx, ?_⟩
          rw [if_neg hc]
          exact hR
    · obtain ⟨C', J', c, hE, hR, r⟩ := ih (k + 1) a C J (by omega) (by omega) hC hT hM hP hq hd
      refine ⟨C', J', c, ?_, by rw [UmR, if_neg hi]; exact hR, r⟩
      refine Ev.step (fun F => E5_remove_37 F _ _ _ _ _ _ _) ?_
      simp (disch := omega) only [b_18 hA, d_4 hA, d_5 hA, g_4_5 hA, g_4_6 hA, g_5_0 hA, Option.bind_some, up_s, up_k, up_j, up_i, xk_add, xk_sub, xk_mul, xk_neg, lk_add, lN_z, rf_none, rb1, rb0, rbp, xk_nI, zk_eq, zk_lt, zk_eq0, zk_lt0, zk_0lt, zk_long, lz_lt, lz_gt, zmax, zmin, ↓reduceIte, Int.reduceEq, Int.reduceLT, Int.reduceNeg, Int.reduceAdd, Int.reduceSub, Int.reduceMul, Int.ofNat_eq_natCast, Int.cast_ofNat_Int]
      refine Ev.ite (fun _ => ?_) (fun q => absurd q (by omega))
      try simp (disch := omega) only [b_18 hA, d_4 hA, d_5 hA, g_4_5 hA, g_4_6 hA, g_5_0 hA, Option.bind_some, up_s, up_k, up_j, up_i, xk_add, xk_sub, xk_mul, xk_neg, lk_add, lN_z, rf_none, rb1, rb0, rbp, xk_nI, zk_eq, zk_lt, zk_eq0, zk_lt0, zk_0lt, zk_long, lz_lt, lz_gt, zmax, zmin, ↓reduceIte, Int.reduceEq, Int.reduceLT, Int.reduceNeg, Int.reduceAdd, Int.reduceSub, Int.reduceMul, Int.ofNat_eq_natCast, Int.cast_ofNat_Int]
      refine Ev.kB hpe (fun y => absurd y hi) (fun _ => ?_)
      try simp (disch := omega) only [b_18 hA, d_4 hA, d_5 hA, g_4_5 hA, g_4_6 hA, g_5_0 hA, Option.bind_some, up_s, up_k, up_j, up_i, xk_add, xk_sub, xk_mul, xk_neg, lk_add, lN_z, rf_none, rb1, rb0, rbp, xk_nI, zk_eq, zk_lt, zk_eq0, zk_lt0, zk_0lt, zk_long, lz_lt, lz_gt, zmax, zmin, ↓reduceIte, Int.reduceEq, Int.reduceLT, Int.reduceNeg, Int.reduceAdd, Int.reduceSub, Int.reduceMul, Int.ofNat_eq_natCast, Int.cast_ofNat_Int]
      exact hE
end CL
