/-! the class: end -/
def RA3 (J : ST) (t x : Int) (J' : ST) : Prop := (∀ k i j, ¬ (i = 0 ∧ (k = 22 ∨ k = 23 ∨ k = 27 ∨ k = 32)) → J' k i j = J k i j) ∧ (∀ j, J' 22 0 j = if emD J t j = true ∧ j < x then 2 else J 22 0 j) ∧ (∀ j, J' 27 0 j = if emD J t j = true ∧ j < x ∧ J 22 0 j = 0 then 0 else J 27 0 j) ∧ (∀ j, emD J t j = false → J' 23 0 j = J 23 0 j) ∧ (∀ j, emD J t j = true → j < x → J' 23 0 j = -1) ∧ (∀ j, J' 32 0 j = if emD J t (j / 20) = true ∧ j / 20 < x then 0 else J 32 0 j)
theorem RA3.z {J : ST} {t : Int} : RA3 J t 0 J := by
  have h : ∀ j, emD J t j = true → ¬ j < 0 := fun j q => by have := emD_v q; omega
  refine ⟨fun _ _ _ _ => rfl, fun j => ?_, fun j => ?_, fun _ _ => rfl, fun j a b => absurd b (h j a), fun j => ?_⟩
  · rw [if_neg (fun q => h j q.1 q.2)]
  · rw [if_neg (fun q => h j q.1 q.2.1)]
  · rw [if_neg (fun q => h _ q.1 q.2)]
theorem RA3.s0 {J J' : ST} {t x : Int} (h : RA3 J t x J') (hx : emD J t x = false) : RA3 J t (x + 1) J' := by
  obtain ⟨g1, g2, g3, g4, g5, g6⟩ := h
  have e : ∀ j, emD J t j = true → (j < x + 1 ↔ j < x) := fun j q => by
    have : j ≠ x := fun w => by rw [w, hx] at q; exact absurd q (by decide)
    omega
  refine ⟨g1, fun j => ?_, fun j => ?_, g4, fun j a b => g5 j a ((e j a).mp b), fun j => ?_⟩
  · rw [g2 j]; have := e j; clear g1 g2 g3 g4 g5 g6; grind
  · rw [g3 j]; have := e j; clear g1 g2 g3 g4 g5 g6; grind
  · rw [g6 j]; have := e (j / 20); clear g1 g2 g3 g4 g5 g6; grind
theorem RA3.s2 {J J' : ST} {t x : Int} (h : RA3 J t x J') (hx : emD J t x = true) (hz : J 22 0 x ≠ 0) : RA3 J t (x + 1) (fgI J' x) := by
  obtain ⟨g1, g2, g3, g4, g5, g6⟩ := h
  refine ⟨fun k i j q => ?_, fun j => ?_, fun j => ?_, fun j q => ?_, fun j a b => ?_, fun j => ?_⟩
  · rw [← g1 k i j q]
    unfold fgI fgA
    rw [if_neg (by omega), if_neg (by omega), if_neg (by omega)]
  · have : fgI J' x 22 0 j = if j = x then 2 else J' 22 0 j := by simp [fgI, fgA]
    rw [this, g2 j]
    clear g1 g2 g3 g4 g5 g6
    grind
  · have : fgI J' x 27 0 j = J' 27 0 j := by simp [fgI, fgA]
    rw [this, g3 j]
    clear g1 g2 g3 g4 g5 g6
    grind
  · have : fgI J' x 23 0 j = if j = x then -1 else J' 23 0 j := by simp [fgI, fgA]
    rw [this, g4 j q, if_neg]
    intro w
    rw [w, hx] at q
    exact absurd q (by decide)
  · have : fgI J' x 23 0 j = if j = x then -1 else J' 23 0 j := by simp [fgI, fgA]
    rw [this]
    by_cases w : j = x
    · rw [if_pos w]
    · rw [if_neg w]
      exact g5 j a (by omega)
  · have : fgI J' x 32 0 j = if j / 20 = x then 0 else J' 32 0 j := by simp [fgI, fgA]
    rw [this, g6 j]
    clear g1 g2 g3 g4 g5 g6
    grind
theorem RA3.s1 {J J' : ST} {t x : Int} (h : RA3 J t x J') (hc : emCl J t) (hx : emD J t x = true) (hl : J 22 0 x = 0) : RA3 J t (x + 1) (fgI (enI J' x) x) := by
  have hv := emD_v hx
  obtain ⟨g1, g2, g3, g4, g5, g6⟩ := h
  have et : J' 12 0 1 = J 12 0 1 := g1 _ _ _ (by omega)
  refine ⟨fun k i j q => ?_, fun j => ?_, fun j => ?_, fun j q => ?_, fun j a b => ?_, fun j => ?_⟩
  · rw [← g1 k i j q]
    unfold fgI fgA enI enN
    rw [if_neg (by omega), if_neg (by omega), if_neg (by omega), if_neg (by omega), if_neg (by omega), if_neg (by omega)]
  · have : fgI (enI J' x) x 22 0 j = if j = x then 2 else J' 22 0 j := by simp only [fgI, fgA, enI, enN]; grind
    rw [this, g2 j]
    clear g1 g2 g3 g4 g5 g6
    grind
  · have : fgI (enI J' x) x 27 0 j = if j = x then 0 else J' 27 0 j := by simp only [fgI, fgA, enI, enN]; grind
    rw [this, g3 j]
    clear g1 g2 g3 g4 g5 g6
    grind
  · have : fgI (enI J' x) x 23 0 j = if j = x then -1 else if 0 ≤ j ∧ j < J' 12 0 1 ∧ J' 22 0 j ≠ 2 ∧ J' 23 0 j = x then heI J' x else J' 23 0 j := by simp only [fgI, fgA, enI, enN]; grind
    rw [this, g4 j q, et, if_neg, if_neg]
    · rintro ⟨q1, q2, q3, q4⟩
      rw [g2 j, if_neg (fun w => by rw [q] at w; exact absurd w.1 (by decide))] at q3
      have := hc.1 j q1 q2 q3 (by rw [q4]; exact hx)
      rw [q] at this
      exact absurd this (by decide)
    · intro w
      rw [w, hx] at q
      exact absurd q (by decide)
  · have : fgI (enI J' x) x 23 0 j = if j = x then -1 else if 0 ≤ j ∧ j < J' 12 0 1 ∧ J' 22 0 j ≠ 2 ∧ J' 23 0 j = x then heI J' x else J' 23 0 j := by simp only [fgI, fgA, enI, enN]; grind
    rw [this]
    by_cases w : j = x
    · rw [if_pos w]
    · rw [if_neg w, if_neg]
      · exact g5 j a (by omega)
      · rintro ⟨q1, q2, q3, q4⟩
        rw [g2 j, if_pos ⟨a, by omega⟩] at q3
        exact q3 rfl
  · have : fgI (enI J' x) x 32 0 j = if j / 20 = x then 0 else J' 32 0 j := by simp only [fgI, fgA, enI, enN]; grind
    rw [this, g6 j]
    clear g1 g2 g3 g4 g5 g6
    grind
theorem RA3.f {J J' : ST} {t : Int} (h : RA3 J t (J 12 0 1) J') : J' = emI J t := by
  obtain ⟨g1, g2, g3, g4, g5, g6⟩ := h
  have hv := fun j => emD_v (I := J) (t := t) (j := j)
  funext k i j
  unfold emI fgA emP
  by_cases hi : i = 0 ∧ (k = 22 ∨ k = 23 ∨ k = 27 ∨ k = 32)
  · obtain ⟨rfl, hk⟩ := hi
    rcases hk with rfl | rfl | rfl | rfl
    · rw [g2 j]
      have := hv j
      clear g1 g2 g3 g4 g5 g6 hv
      grind
    · by_cases hd : emD J t j = true
      · have := emD_v hd
        rw [g5 j hd (by omega), if_neg (by omega), if_pos ⟨rfl, rfl, hd⟩]
      · rw [Bool.not_eq_true] at hd
        rw [g4 j hd, if_neg (by omega), if_neg (fun q => by rw [hd] at q; exact absurd q.2.2 (by decide)), if_neg (by omega), if_neg (by omega)]
    · rw [g3 j]
      have := hv j
      clear g1 g2 g3 g4 g5 g6 hv
      grind
    · rw [g6 j]
      have := hv (j / 20)
      clear g1 g2 g3 g4 g5 g6 hv
      grind
  · rw [g1 k i j hi, if_neg (by omega), if_neg (by omega), if_neg (by omega), if_neg (by omega)]
section CL
variable {e : EN} {C I J : ST} {z : Nat × Nat × Nat × Nat}
theorem lost_ev (hA : WA e z) (hC : Cpl e C J) (hT : TI J) {t : Int} (t0 : 0 ≤ t) (t1 : t < (J 12 0 1)) : Ev (fun F => J8_isLostZombie F (rf e 8 t) (HS e C I z)) (rI (bI ((J 22 0 t) = 1 ∧ ((J 23 0 t) ≤ 0 ∨ (J 22 0 ((J 23 0 t))) ≠ 0))) (HS e C I z)) := by
  have n8 := hC.1.1
  have n7 := hC.2.1.1
  have n1 := hC.2.2.1.1
  have n10 := hC.2.2.2.2.1.1
  have hB := hT.1
  have := RB.tasks hB
  have := RB.spaces hB
  have := RB.groups hB
  have := RB.views hB
  have n4 := hA.2.2.2.1
  have b := hT.b t0 t1
  refine Ev.step (fun F => E8_isLostZombie F _ _) ?_
  simp (disch := omega) only [g_8_0 hA, g_8_3 hA, g_8_5 hA, Option.bind_some, up_s, up_k, up_j, up_i, xk_add, xk_sub, xk_mul, xk_neg, lk_add, lN_z, rf_none, rb1, rb0, rbp, xk_nI, zk_eq, zk_lt, zk_eq0, zk_lt0, zk_0lt, zk_long, lz_lt, lz_gt, zmax, zmin, ↓reduceIte, Int.reduceEq, Int.reduceLT, Int.reduceNeg, Int.reduceAdd, Int.reduceSub, Int.reduceMul, Int.ofNat_eq_natCast, Int.cast_ofNat_Int, CT.space hC.1, CT.view hC.1, CT.parent hC.1, CT.group hC.1, CT.state hC.1, CT.pages hC.1, CT.points hC.1, CT.ticks hC.1, CT.asleep hC.1, CT.time hC.1, CP.outer hC.2.1, CP.depth hC.2.1, CP.init hC.2.1, CP.given hC.2.1, CG.outer hC.2.2.1, CG.depth hC.2.2.1, CG.max hC.2.2.1, CG.most hC.2.2.1, CG.weight hC.2.2.1, CG.quota hC.2.2.1, CG.cached hC.2.2.1, CG.ran hC.2.2.1, CG.time hC.2.2.1, CG.uses hC.2.2.1, CG.live hC.2.2.1, rf_eq hA]
  refine Ev.ite (fun h => ?_) (fun h => Ev.ret (by rw [bI_f (by omega)]; rfl))
  refine Ev.ite (fun h' => Ev.ret (by rw [bI_t (by omega)]; rfl)) (fun h' => ?_)
  have b2 := hT.b (t := (J 23 0 t)) (by omega) (by omega)
  try simp (disch := omega) only [g_8_0 hA, g_8_3 hA, g_8_5 hA, Option.bind_some, up_s, up_k, up_j, up_i, xk_add, xk_sub, xk_mul, xk_neg, lk_add, lN_z, rf_none, rb1, rb0, rbp, xk_nI, zk_eq, zk_lt, zk_eq0, zk_lt0, zk_0lt, zk_long, lz_lt, lz_gt, zmax, zmin, ↓reduceIte, Int.reduceEq, Int.reduceLT, Int.reduceNeg, Int.reduceAdd, Int.reduceSub, Int.reduceMul, Int.ofNat_eq_natCast, Int.cast_ofNat_Int, CT.space hC.1, CT.view hC.1, CT.parent hC.1, CT.group hC.1, CT.state hC.1, CT.pages hC.1, CT.points hC.1, CT.ticks hC.1, CT.asleep hC.1, CT.time hC.1, CP.outer hC.2.1, CP.depth hC.2.1, CP.init hC.2.1, CP.given hC.2.1, CG.outer hC.2.2.1, CG.depth hC.2.2.1, CG.max hC.2.2.1, CG.most hC.2.2.1, CG.weight hC.2.2.1, CG.quota hC.2.2.1, CG.cached hC.2.2.1, CG.ran hC.2.2.1, CG.time hC.2.2.1, CG.uses hC.2.2.1, CG.live hC.2.2.1, rf_eq hA]
  refine Ev.ite (fun q => ?_) (fun q => Ev.ret (by rw [bI_t (by omega)]; rfl))
  exact Ev.ite (fun q' => Ev.ret (by rw [bI_t (by omega)]; rfl)) (fun q' => Ev.ret (by rw [bI_f (by omega)]; rfl))
theorem lostAll_ev (hA : WA e z) (hT : TI J) (hC : Cpl e C J) : ∃ C', Ev (fun F => J9_dropLostZombies F (rf e 9 0) (HS e C I z)) (rV (HS e C' I z)) ∧ Cpl e C' (lzI J) := by
  have hB := hT.1
  have := RB.tasks hB
  have key : ∀ x, ∀ (C J' : ST), J' = fgA J (fun k => lzC J k && decide (k < x)) → Cpl e C J' → 0 ≤ x → x ≤ (J 12 0 1) → ∃ C', Ev (fun F => J9_dropLostZombies_2 F (rf e 9 0) (xk x) (HS e C I z)) (rV (HS e C' I z)) ∧ Cpl e C' (lzI J) := by
    intro x
    refine lpN (P := fun x => ∀ (C J' : ST), J' = fgA J (fun k => lzC J k && decide (k < x)) → Cpl e C J' → 0 ≤ x → x ≤ (J 12 0 1) → ∃ C', Ev (fun F => J9_dropLostZombies_2 F (rf e 9 0) (xk x) (HS e C I z)) (rV (HS e C' I z)) ∧ Cpl e C' (lzI J)) (J 12 0 1) (fun x ih C J' hJ hC x0 x1 => ?_) x
    have hT' : TI J' := by
      rw [hJ]
      refine hT.fg ?_
      have := hT.2.1.1
      unfold lzC
      rw [decide_eq_false (by omega)]
      rfl
    have e1 : J' 12 0 1 = (J 12 0 1) := by rw [hJ]; simp [fgA]
    have n8 := hC.1.1
    by_cases h : x < (J 12 0 1)
    · have ih := fun C J' h' hC => ih h C J' h' hC (by omega) (by omega)
      have e2 : J' 22 0 x = (J 22 0 x) := by rw [hJ]; simp [fgA]
      have e3 : J' 23 0 x = (J 23 0 x) := by rw [hJ]; simp [fgA]
      have bx := hT.b x0 h
      have hn : lzC J x = false → J' = fgA J (fun k => lzC J k && decide (k < x + 1)) := by
        intro q
        rw [hJ]
        congr 1
        funext k
        by_cases hk : k = x
        · rw [hk, q]; rfl
        · rw [show decide (k < x) = decide (k < x + 1) from decide_eq_decide.mpr (by omega)]
      have hy : lzC J x = true → fgI J' x = fgA J (fun k => lzC J k && decide (k < x + 1)) := by
        intro q
        rw [hJ, fgI_fgA]
        congr 1
        funext k
        by_cases hk : k = x
        · rw [hk, q]; simp; omega
        · rw [show decide (k < x) = decide (k < x + 1) from decide_eq_decide.mpr (by omega), decide_eq_false hk, Bool.or_false]
      have e4 : 0 ≤ (J 23 0 x) → ((J' 22 0 (J 23 0 x) = 0) = ((J 22 0 ((J 23 0 x))) = 0)) := by
        intro p0
        rw [hJ]
        simp only [fgA, lzC, Bool.and_eq_true, decide_eq_true_eq]
        grind
      have el : (J' 22 0 x = 1 ∧ (J' 23 0 x ≤ 0 ∨ J' 22 0 (J' 23 0 x) ≠ 0)) ↔ lzC J x = true := by
        unfold lzC
        rw [e2, e3, decide_eq_true_eq]
        by_cases p0 : 0 ≤ (J 23 0 x)
        · have := e4 p0
          simp only [ne_eq, this]
          constructor
          · rintro ⟨a, b⟩; exact ⟨x0, h, a, b⟩
          · rintro ⟨-, -, a, b⟩; exact ⟨a, b⟩
        · omega
      by_cases hl : lzC J x = true
      · have hs : J' 22 0 x ≠ 0 := by have := el.mpr hl; omega
        have hv := vanish_ev (I := I) hA hC hT' x0 (by omega)
        obtain ⟨C', hE, hC'⟩ := ih _ _ (hy hl) (hC.fg hT' x0 (by omega) hs)
        refine ⟨C', ?_, hC'⟩
        refine Ev.step (fun F => E9_dropLostZombies_2 F _ _ _) ?_
        simp (disch := omega) only [b_13 hA, d_8 hA, g_9_0 hA, g_9_2 hA, Option.bind_some, up_s, up_k, up_j, up_i, xk_add, xk_sub, xk_mul, xk_neg, lk_add, lN_z, rf_none, rb1, rb0, rbp, xk_nI, zk_eq, zk_lt, zk_eq0, zk_lt0, zk_0lt, zk_long, lz_lt, lz_gt, zmax, zmin, ↓reduceIte, Int.reduceEq, Int.reduceLT, Int.reduceNeg, Int.reduceAdd, Int.reduceSub, Int.reduceMul, Int.ofNat_eq_natCast, Int.cast_ofNat_Int]
        refine Ev.ite (fun _ => ?_) (fun q => absurd q (by omega))
        try simp (disch := omega) only [b_13 hA, d_8 hA, g_9_0 hA, g_9_2 hA, Option.bind_some, up_s, up_k, up_j, up_i, xk_add, xk_sub, xk_mul, xk_neg, lk_add, lN_z, rf_none, rb1, rb0, rbp, xk_nI, zk_eq, zk_lt, zk_eq0, zk_lt0, zk_0lt, zk_long, lz_lt, lz_gt, zmax, zmin, ↓reduceIte, Int.reduceEq, Int.reduceLT, Int.reduceNeg, Int.reduceAdd, Int.reduceSub, Int.reduceMul, Int.ofNat_eq_natCast, Int.cast_ofNat_Int]
        refine Ev.kB (lost_ev hA hC hT' x0 (by omega)) (fun _ => ?_) (fun q => absurd (el.mpr hl) q)
        try simp (disch := omega) only [b_13 hA, d_8 hA, g_9_0 hA, g_9_2 hA, Option.bind_some, up_s, up_k, up_j, up_i, xk_add, xk_sub, xk_mul, xk_neg, lk_add, lN_z, rf_none, rb1, rb0, rbp, xk_nI, zk_eq, zk_lt, zk_eq0, zk_lt0, zk_0lt, zk_long, lz_lt, lz_gt, zmax, zmin, ↓reduceIte, Int.reduceEq, Int.reduceLT, Int.reduceNeg, Int.reduceAdd, Int.reduceSub, Int.reduceMul, Int.ofNat_eq_natCast, Int.cast_ofNat_Int]
        exact Ev.kV hv hE
      · obtain ⟨C', hE, hC'⟩ := ih _ _ (hn (by simpa using hl)) hC
        refine ⟨C', ?_, hC'⟩
        refine Ev.step (fun F => E9_dropLostZombies_2 F _ _ _) ?_
        simp (disch := omega) only [b_13 hA, d_8 hA, g_9_0 hA, g_9_2 hA, Option.bind_some, up_s, up_k, up_j, up_i, xk_add, xk_sub, xk_mul, xk_neg, lk_add, lN_z, rf_none, rb1, rb0, rbp, xk_nI, zk_eq, zk_lt, zk_eq0, zk_lt0, zk_0lt, zk_long, lz_lt, lz_gt, zmax, zmin, ↓reduceIte, Int.reduceEq, Int.reduceLT, Int.reduceNeg, Int.reduceAdd, Int.reduceSub, Int.reduceMul, Int.ofNat_eq_natCast, Int.cast_ofNat_Int]
        refine Ev.ite (fun _ => ?_) (fun q => absurd q (by omega))
        try simp (disch := omega) only [b_13 hA, d_8 hA, g_9_0 hA, g_9_2 hA, Option.bind_some, up_s, up_k, up_j, up_i, xk_add, xk_sub, xk_mul, xk_neg, lk_add, lN_z, rf_none, rb1, rb0, rbp, xk_nI, zk_eq, zk_lt, zk_eq0, zk_lt0, zk_0lt, zk_long, lz_lt, lz_gt, zmax, zmin, ↓reduceIte, Int.reduceEq, Int.reduceLT, Int.reduceNeg, Int.reduceAdd, Int.reduceSub, Int.reduceMul, Int.ofNat_eq_natCast, Int.cast_ofNat_Int]
        refine Ev.kB (lost_ev hA hC hT' x0 (by omega)) (fun q => absurd (el.mp q) hl) (fun q => ?_)
        try simp (disch := omega) only [b_13 hA, d_8 hA, g_9_0 hA, g_9_2 hA, Option.bind_some, up_s, up_k, up_j, up_i, xk_add, xk_sub, xk_mul, xk_neg, lk_add, lN_z, rf_none, rb1, rb0, rbp, xk_nI, zk_eq, zk_lt, zk_eq0, zk_lt0, zk_0lt, zk_long, lz_lt, lz_gt, zmax, zmin, ↓reduceIte, Int.reduceEq, Int.reduceLT, Int.reduceNeg, Int.reduceAdd, Int.reduceSub, Int.reduceMul, Int.ofNat_eq_natCast, Int.cast_ofNat_Int]
        exact hE
    · have hx : x = (J 12 0 1) := by omega
      subst hx
      refine ⟨C, ?_, ?_⟩
      · refine Ev.step (fun F => E9_dropLostZombies_2 F _ _ _) ?_
        simp (disch := omega) only [b_13 hA, d_8 hA, g_9_0 hA, g_9_2 hA, Option.bind_some, up_s, up_k, up_j, up_i, xk_add, xk_sub, xk_mul, xk_neg, lk_add, lN_z, rf_none, rb1, rb0, rbp, xk_nI, zk_eq, zk_lt, zk_eq0, zk_lt0, zk_0lt, zk_long, lz_lt, lz_gt, zmax, zmin, ↓reduceIte, Int.reduceEq, Int.reduceLT, Int.reduceNeg, Int.reduceAdd, Int.reduceSub, Int.reduceMul, Int.ofNat_eq_natCast, Int.cast_ofNat_Int]
        refine Ev.ite (fun q => absurd q (by omega)) (fun _ => Ev.ret rfl)
      · have : J' = lzI J := by
          rw [hJ]
          unfold lzI
          congr 1
          funext k
          by_cases hk : lzC J k = true
          · have := hk
            unfold lzC at this
            rw [decide_eq_true_eq] at this
            rw [hk, decide_eq_true (by omega)]; rfl
          · rw [Bool.not_eq_true] at hk
            rw [hk]; rfl
        rw [← this]; exact hC
  obtain ⟨C', hE, hC'⟩ := key 0 C J (by
    unfold fgA
    funext k i j
    rw [if_neg, if_neg, if_neg]
    all_goals
      simp only [Bool.and_eq_true, decide_eq_true_eq, lzC]
      omega) hC (by omega) (by omega)
  exact ⟨C', Ev.step (fun F => E9_dropLostZombies F _ _) hE, hC'⟩
theorem empty_ev (hA : WA e z) (hT : TI J) (hG : TG J) (hC : Cpl e C J) {t : Int} (t0 : 0 < t) (t1 : t < (J 12 0 1)) (hi : (J 35 0 ((J 24 0 t))) = t) : ∃ C', Ev (fun F => J9_emptySpace F (rf e 9 0) (rf e 8 t) (HS e C I z)) (rI (sm (emN J t) (J 12 0 1)) (HS e C' I z)) ∧ Cpl e C' (emI J t) := by
  have hB := hT.1
  have := RB.tasks hB
  have hc := hT.ecl t0 t1 hi
  have he0 : emD J t 0 = false := by
    have e0 := hT.em0 t0 t1 hi
    rw [← Bool.not_eq_true, emD_i, hT.2.1.2.2.1, e0]
    exact fun q => absurd q.2 (by decide)
  have key : ∀ x, ∀ (C J' : ST) (n : Int), RA3 J t x J' → TI J' → TG J' → Cpl e C J' → n = sm (emN J t) x → 0 ≤ x → x ≤ (J 12 0 1) → ∃ C', Ev (fun F => J9_emptySpace_4 F (rf e 9 0) (rf e 8 t) (xk n) (xk x) (HS e C I z)) (rI (sm (emN J t) (J 12 0 1)) (HS e C' I z)) ∧ Cpl e C' (emI J t) := by
    intro x
    refine lpN (P := fun x => ∀ (C J' : ST) (n : Int), RA3 J t x J' → TI J' → TG J' → Cpl e C J' → n = sm (emN J t) x → 0 ≤ x → x ≤ (J 12 0 1) → ∃ C', Ev (fun F => J9_emptySpace_4 F (rf e 9 0) (rf e 8 t) (xk n) (xk x) (HS e C I z)) (rI (sm (emN J t) (J 12 0 1)) (HS e C' I z)) ∧ Cpl e C' (emI J t)) (J 12 0 1) (fun x ih C J' n h3 hT' hG' hC hn x0 x1 => ?_) x
    have e1 : J' 12 0 1 = (J 12 0 1) := h3.1 _ _ _ (by omega)
    have n8 := hC.1.1
    have n7 := hC.2.1.1
    by_cases h : x < (J 12 0 1)
    · have ih := fun C J' n a b c d f => ih h C J' n a b c d f (by omega) (by omega)
      rw [sm_s x0, ← hn] at ih
      have e2 : J' 22 0 x = (J 22 0 x) := by rw [h3.2.1 x, if_neg (by omega)]
      have es : ∀ j, J' 24 0 j = (J 24 0 j) := fun j => h3.1 _ _ _ (by omega)
      have el : lin J' = lin J := lin_c (fun k => h3.1 34 0 k (by omega))
      have bx := hT.b x0 h
      have bt := hT.b (t := t) (by omega) t1
      have esp : J' 12 0 13 = (J 12 0 13) := h3.1 _ _ _ (by omega)
      have no : emD J t x = false → ∃ C', Ev (fun F => J9_emptySpace_4 F (rf e 9 0) (rf e 8 t) (xk n) (xk (x + 1)) (HS e C I z)) (rI (sm (emN J t) (J 12 0 1)) (HS e C' I z)) ∧ Cpl e C' (emI J t) := fun q => ih C J' n (h3.s0 q) hT' hG' hC (by rw [emN, if_neg (fun w => by rw [q] at w; exact absurd w.1 (by decide)), Int.add_zero])
      by_cases hd : emD J t x = true
      · obtain ⟨q1, q2⟩ := emD_i.mp hd
        have x0' : 0 < x := by
          rcases (by omega : x = 0 ∨ 0 < x) with w | w
          · rw [w, he0] at hd; exact absurd hd (by decide)
          · exact w
        have cs : (C 8 x 5) = (J 22 0 x) := by rw [hC.1.state x0 (by omega), e2]
        have csp : (C 8 x 1) = (J 24 0 x) := by rw [hC.1.space x0 (by omega), es]
        have cst : (C 8 t 1) = (J 24 0 t) := by rw [hC.1.space (by omega) (by omega), es]
        by_cases hl : (J 22 0 x) = 0
        · have hr := retire_ev (I := I) hA hC hT' hG' x0' (by omega) (by omega)
          have hC1 := hC.en hT' hG' x0' (by omega) (by omega)
          have hT1 := hT'.en x0' (by omega) (by omega)
          have hG1 := hG'.en (t := x) (by omega)
          have t12 : enI J' x 12 0 1 = J' 12 0 1 := by simp [enI, enN]
          have t22 : enI J' x 22 0 x = 1 := by simp [enI, enN]
          have hv := vanish_ev (I := I) hA hC1 hT1 x0 (by omega)
          have hC2 := hC1.fg hT1 (t := x) x0 (by omega) (by omega)
          obtain ⟨C', hE, hC'⟩ := ih _ _ (n + 1) (h3.s1 hc hd hl) (hT1.fg (decide_eq_false (by omega))) hG1.fg hC2 (by rw [emN, if_pos ⟨hd, hl⟩])
          refine ⟨C', ?_, hC'⟩
          refine Ev.step (fun F => E9_emptySpace_4 F _ _ _ _ _) ?_
          simp (disch := omega) only [b_13 hA, d_7 hA, d_8 hA, d_9 hA, g_8_1 hA, g_8_5 hA, g_9_0 hA, g_9_2 hA, Option.bind_some, up_s, up_k, up_j, up_i, xk_add, xk_sub, xk_mul, xk_neg, lk_add, lN_z, rf_none, rb1, rb0, rbp, xk_nI, zk_eq, zk_lt, zk_eq0, zk_lt0, zk_0lt, zk_long, lz_lt, lz_gt, zmax, zmin, ↓reduceIte, Int.reduceEq, Int.reduceLT, Int.reduceNeg, Int.reduceAdd, Int.reduceSub, Int.reduceMul, Int.ofNat_eq_natCast, Int.cast_ofNat_Int]
          refine Ev.ite (fun _ => ?_) (fun q => absurd q (by omega))
          try simp (disch := omega) only [b_13 hA, d_7 hA, d_8 hA, d_9 hA, g_8_1 hA, g_8_5 hA, g_9_0 hA, g_9_2 hA, Option.bind_some, up_s, up_k, up_j, up_i, xk_add, xk_sub, xk_mul, xk_neg, lk_add, lN_z, rf_none, rb1, rb0, rbp, xk_nI, zk_eq, zk_lt, zk_eq0, zk_lt0, zk_0lt, zk_long, lz_lt, lz_gt, zmax, zmin, ↓reduceIte, Int.reduceEq, Int.reduceLT, Int.reduceNeg, Int.reduceAdd, Int.reduceSub, Int.reduceMul, Int.ofNat_eq_natCast, Int.cast_ofNat_Int, rf_eq hA, cs, csp, cst]
          refine Ev.ite (fun q => absurd q (by omega)) (fun _ => ?_)
          refine Ev.ite (fun q => absurd q (by omega)) (fun _ => ?_)
          refine Ev.kB (pliesIn_ev hA hC hT' (by omega) (by omega) (by omega) (by omega)) (fun _ => ?_) (fun q => absurd (by rw [el]; exact q2) q)
          try simp (disch := omega) only [b_13 hA, d_7 hA, d_8 hA, d_9 hA, g_8_1 hA, g_8_5 hA, g_9_0 hA, g_9_2 hA, Option.bind_some, up_s, up_k, up_j, up_i, xk_add, xk_sub, xk_mul, xk_neg, lk_add, lN_z, rf_none, rb1, rb0, rbp, xk_nI, zk_eq, zk_lt, zk_eq0, zk_lt0, zk_0lt, zk_long, lz_lt, lz_gt, zmax, zmin, ↓reduceIte, Int.reduceEq, Int.reduceLT, Int.reduceNeg, Int.reduceAdd, Int.reduceSub, Int.reduceMul, Int.ofNat_eq_natCast, Int.cast_ofNat_Int, rf_eq hA, cs, csp, cst]
          refine Ev.ite (fun _ => ?_) (fun q => absurd hl q)
          exact Ev.kV hr (by
            try simp (disch := omega) only [b_13 hA, d_7 hA, d_8 hA, d_9 hA, g_8_1 hA, g_8_5 hA, g_9_0 hA, g_9_2 hA, Option.bind_some, up_s, up_k, up_j, up_i, xk_add, xk_sub, xk_mul, xk_neg, lk_add, lN_z, rf_none, rb1, rb0, rbp, xk_nI, zk_eq, zk_lt, zk_eq0, zk_lt0, zk_0lt, zk_long, lz_lt, lz_gt, zmax, zmin, ↓reduceIte, Int.reduceEq, Int.reduceLT, Int.reduceNeg, Int.reduceAdd, Int.reduceSub, Int.reduceMul, Int.ofNat_eq_natCast, Int.cast_ofNat_Int, rf_eq hA]
            exact Ev.kV hv hE)
        · have hv := vanish_ev (I := I) hA hC hT' x0 (by omega)
          have hC2 := hC.fg hT' (t := x) x0 (by omega) (by omega)
          obtain ⟨C', hE, hC'⟩ := ih _ _ n (h3.s2 hd hl) (hT'.fg (decide_eq_false (by omega))) hG'.fg hC2 (by rw [emN, if_neg (fun w => hl w.2), Int.add_zero])
          refine ⟨C', ?_, hC'⟩
          refine Ev.step (fun F => E9_emptySpace_4 F _ _ _ _ _) ?_
          simp (disch := omega) only [b_13 hA, d_7 hA, d_8 hA, d_9 hA, g_8_1 hA, g_8_5 hA, g_9_0 hA, g_9_2 hA, Option.bind_some, up_s, up_k, up_j, up_i, xk_add, xk_sub, xk_mul, xk_neg, lk_add, lN_z, rf_none, rb1, rb0, rbp, xk_nI, zk_eq, zk_lt, zk_eq0, zk_lt0, zk_0lt, zk_long, lz_lt, lz_gt, zmax, zmin, ↓reduceIte, Int.reduceEq, Int.reduceLT, Int.reduceNeg, Int.reduceAdd, Int.reduceSub, Int.reduceMul, Int.ofNat_eq_natCast, Int.cast_ofNat_Int]
          refine Ev.ite (fun _ => ?_) (fun q => absurd q (by omega))
          try simp (disch := omega) only [b_13 hA, d_7 hA, d_8 hA, d_9 hA, g_8_1 hA, g_8_5 hA, g_9_0 hA, g_9_2 hA, Option.bind_some, up_s, up_k, up_j, up_i, xk_add, xk_sub, xk_mul, xk_neg, lk_add, lN_z, rf_none, rb1, rb0, rbp, xk_nI, zk_eq, zk_lt, zk_eq0, zk_lt0, zk_0lt, zk_long, lz_lt, lz_gt, zmax, zmin, ↓reduceIte, Int.reduceEq, Int.reduceLT, Int.reduceNeg, Int.reduceAdd, Int.reduceSub, Int.reduceMul, Int.ofNat_eq_natCast, Int.cast_ofNat_Int, rf_eq hA, cs, csp, cst]
          refine Ev.ite (fun q => absurd q (by omega)) (fun _ => ?_)
          refine Ev.ite (fun q => absurd q (by omega)) (fun _ => ?_)
          refine Ev.kB (pliesIn_ev hA hC hT' (by omega) (by omega) (by omega) (by omega)) (fun _ => ?_) (fun q => absurd (by rw [el]; exact q2) q)
          try simp (disch := omega) only [b_13 hA, d_7 hA, d_8 hA, d_9 hA, g_8_1 hA, g_8_5 hA, g_9_0 hA, g_9_2 hA, Option.bind_some, up_s, up_k, up_j, up_i, xk_add, xk_sub, xk_mul, xk_neg, lk_add, lN_z, rf_none, rb1, rb0, rbp, xk_nI, zk_eq, zk_lt, zk_eq0, zk_lt0, zk_0lt, zk_long, lz_lt, lz_gt, zmax, zmin, ↓reduceIte, Int.reduceEq, Int.reduceLT, Int.reduceNeg, Int.reduceAdd, Int.reduceSub, Int.reduceMul, Int.ofNat_eq_natCast, Int.cast_ofNat_Int, rf_eq hA, cs, csp, cst]
          refine Ev.ite (fun q => absurd q hl) (fun _ => ?_)
          exact Ev.kV hv hE
      · have hd' : emD J t x = false := by simpa using hd
        obtain ⟨C', hE, hC'⟩ := no hd'
        refine ⟨C', ?_, hC'⟩
        have cs : (C 8 x 5) = (J 22 0 x) := by rw [hC.1.state x0 (by omega), e2]
        have csp : (C 8 x 1) = (J 24 0 x) := by rw [hC.1.space x0 (by omega), es]
        have cst : (C 8 t 1) = (J 24 0 t) := by rw [hC.1.space (by omega) (by omega), es]
        refine Ev.step (fun F => E9_emptySpace_4 F _ _ _ _ _) ?_
        simp (disch := omega) only [b_13 hA, d_7 hA, d_8 hA, d_9 hA, g_8_1 hA, g_8_5 hA, g_9_0 hA, g_9_2 hA, Option.bind_some, up_s, up_k, up_j, up_i, xk_add, xk_sub, xk_mul, xk_neg, lk_add, lN_z, rf_none, rb1, rb0, rbp, xk_nI, zk_eq, zk_lt, zk_eq0, zk_lt0, zk_0lt, zk_long, lz_lt, lz_gt, zmax, zmin, ↓reduceIte, Int.reduceEq, Int.reduceLT, Int.reduceNeg, Int.reduceAdd, Int.reduceSub, Int.reduceMul, Int.ofNat_eq_natCast, Int.cast_ofNat_Int]
        refine Ev.ite (fun _ => ?_) (fun q => absurd q (by omega))
        try simp (disch := omega) only [b_13 hA, d_7 hA, d_8 hA, d_9 hA, g_8_1 hA, g_8_5 hA, g_9_0 hA, g_9_2 hA, Option.bind_some, up_s, up_k, up_j, up_i, xk_add, xk_sub, xk_mul, xk_neg, lk_add, lN_z, rf_none, rb1, rb0, rbp, xk_nI, zk_eq, zk_lt, zk_eq0, zk_lt0, zk_0lt, zk_long, lz_lt, lz_gt, zmax, zmin, ↓reduceIte, Int.reduceEq, Int.reduceLT, Int.reduceNeg, Int.reduceAdd, Int.reduceSub, Int.reduceMul, Int.ofNat_eq_natCast, Int.cast_ofNat_Int, rf_eq hA, cs, csp, cst]
        refine Ev.ite (fun _ => hE) (fun q1 => ?_)
        refine Ev.ite (fun _ => hE) (fun q2 => ?_)
        refine Ev.kB (pliesIn_ev hA hC hT' (by omega) (by omega) (by omega) (by omega)) (fun q => ?_) (fun q => ?_)
        · rw [el] at q
          exact absurd (emD_i.mpr ⟨⟨x0, h, q1, q2⟩, q⟩) hd
        · try simp (disch := omega) only [b_13 hA, d_7 hA, d_8 hA, d_9 hA, g_8_1 hA, g_8_5 hA, g_9_0 hA, g_9_2 hA, Option.bind_some, up_s, up_k, up_j, up_i, xk_add, xk_sub, xk_mul, xk_neg, lk_add, lN_z, rf_none, rb1, rb0, rbp, xk_nI, zk_eq, zk_lt, zk_eq0, zk_lt0, zk_0lt, zk_long, lz_lt, lz_gt, zmax, zmin, ↓reduceIte, Int.reduceEq, Int.reduceLT, Int.reduceNeg, Int.reduceAdd, Int.reduceSub, Int.reduceMul, Int.ofNat_eq_natCast, Int.cast_ofNat_Int, rf_eq hA]
          exact hE
    · have hx : x = (J 12 0 1) := by omega
      subst hx
      refine ⟨C, ?_, h3.f ▸ hC⟩
      refine Ev.step (fun F => E9_emptySpace_4 F _ _ _ _ _) ?_
      simp (disch := omega) only [b_13 hA, d_7 hA, d_8 hA, d_9 hA, g_8_1 hA, g_8_5 hA, g_9_0 hA, g_9_2 hA, Option.bind_some, up_s, up_k, up_j, up_i, xk_add, xk_sub, xk_mul, xk_neg, lk_add, lN_z, rf_none, rb1, rb0, rbp, xk_nI, zk_eq, zk_lt, zk_eq0, zk_lt0, zk_0lt, zk_long, lz_lt, lz_gt, zmax, zmin, ↓reduceIte, Int.reduceEq, Int.reduceLT, Int.reduceNeg, Int.reduceAdd, Int.reduceSub, Int.reduceMul, Int.ofNat_eq_natCast, Int.cast_ofNat_Int]
      refine Ev.ite (fun q => absurd q (by omega)) (fun _ => Ev.ret (by rw [hn]; rfl))
  obtain ⟨C', hE, hC'⟩ := key 0 C J 0 RA3.z hT hG hC rfl (by omega) (by omega)
  exact ⟨C', Ev.step (fun F => E9_emptySpace F _ _ _) hE, hC'⟩
theorem cend_ev (hA : WA e z) (hT : TI J) (hG : TG J) (hC : Cpl e C J) {t : Int} (t0 : 0 < t) (t1 : t < (J 12 0 1)) (ht : (J 22 0 t) = 0) : ∃ C', Ev (fun F => J9_end F (rf e 9 0) (rf e 8 t) (HS e C I z)) (rI (lvN J t) (HS e C' I z)) ∧ Cpl e C' (lvI J t) := by
  have hC1 := hC.en hT hG t0 t1 ht
  have hT1 := hT.en t0 t1 (by omega)
  have hG1 := hG.en (t := t) (by omega)
  have hr := retire_ev (I := I) hA hC hT hG t0 t1 ht
  have n8 := hC.1.1
  have n7 := hC.2.1.1
  have n1 := hC.2.2.1.1
  have n10 := hC.2.2.2.2.1.1
  have hB := hT.1
  have := RB.tasks hB
  have := RB.spaces hB
  have := RB.groups hB
  have := RB.views hB
  have n4 := hA.2.2.2.1
  have b := hT.b (by omega) t1
  have i := hT.ib b.1.1 b.1.2
  have e1 : enI J t 12 0 1 = (J 12 0 1) := by simp [enI, enN]
  have e24 : ∀ j, enI J t 24 0 j = J 24 0 j := fun j => by simp [enI, enN]
  have e35 : ∀ j, enI J t 35 0 j = J 35 0 j := fun j => by simp [enI, enN]
  have e13 : enI J t 12 0 13 = (J 12 0 13) := by simp [enI, enN]
  have c1 : (rtC J C t 8 t 1) = (J 24 0 t) := by rw [hC1.1.space (by omega) (by omega), e24]
  have c2 : (rtC J C t 7 ((J 24 0 t)) 4) = (J 35 0 ((J 24 0 t))) := by rw [hC1.2.1.init (by omega) (by omega), e35]
  unfold lvN lvI
  by_cases h : (J 35 0 ((J 24 0 t))) = t
  · obtain ⟨C2, hE2, hC2⟩ := empty_ev (I := I) hA hT1 hG1 hC1 t0 (by omega) (by rw [e24, e35]; exact h)
    have hT2 := hT1.em t0 (by omega) (by rw [e24, e35]; exact h)
    obtain ⟨C3, hE3, hC3⟩ := lostAll_ev (I := I) hA hT2 hC2
    rw [if_pos h, if_pos h]
    refine ⟨C3, ?_, hC3⟩
    rw [e1] at hE2
    refine Ev.step (fun F => E9_end F _ _ _) ?_
    simp (disch := omega) only [d_9 hA, g_7_4 hA, g_8_1 hA, Option.bind_some, up_s, up_k, up_j, up_i, xk_add, xk_sub, xk_mul, xk_neg, lk_add, lN_z, rf_none, rb1, rb0, rbp, xk_nI, zk_eq, zk_lt, zk_eq0, zk_lt0, zk_0lt, zk_long, lz_lt, lz_gt, zmax, zmin, ↓reduceIte, Int.reduceEq, Int.reduceLT, Int.reduceNeg, Int.reduceAdd, Int.reduceSub, Int.reduceMul, Int.ofNat_eq_natCast, Int.cast_ofNat_Int]
    refine Ev.kV hr ?_
    try simp (disch := omega) only [d_9 hA, g_7_4 hA, g_8_1 hA, Option.bind_some, up_s, up_k, up_j, up_i, xk_add, xk_sub, xk_mul, xk_neg, lk_add, lN_z, rf_none, rb1, rb0, rbp, xk_nI, zk_eq, zk_lt, zk_eq0, zk_lt0, zk_0lt, zk_long, lz_lt, lz_gt, zmax, zmin, ↓reduceIte, Int.reduceEq, Int.reduceLT, Int.reduceNeg, Int.reduceAdd, Int.reduceSub, Int.reduceMul, Int.ofNat_eq_natCast, Int.cast_ofNat_Int, c1, c2, rf_eq hA]
    refine Ev.ite (fun _ => ?_) (fun q => absurd h q)
    refine Ev.kI hE2 ?_
    try simp (disch := omega) only [d_9 hA, g_7_4 hA, g_8_1 hA, Option.bind_some, up_s, up_k, up_j, up_i, xk_add, xk_sub, xk_mul, xk_neg, lk_add, lN_z, rf_none, rb1, rb0, rbp, xk_nI, zk_eq, zk_lt, zk_eq0, zk_lt0, zk_0lt, zk_long, lz_lt, lz_gt, zmax, zmin, ↓reduceIte, Int.reduceEq, Int.reduceLT, Int.reduceNeg, Int.reduceAdd, Int.reduceSub, Int.reduceMul, Int.ofNat_eq_natCast, Int.cast_ofNat_Int]
    exact Ev.kV hE3 (Ev.ret rfl)
  · obtain ⟨C3, hE3, hC3⟩ := lostAll_ev (I := I) hA hT1 hC1
    rw [if_neg h, if_neg h]
    refine ⟨C3, ?_, hC3⟩
    refine Ev.step (fun F => E9_end F _ _ _) ?_
    simp (disch := omega) only [d_9 hA, g_7_4 hA, g_8_1 hA, Option.bind_some, up_s, up_k, up_j, up_i, xk_add, xk_sub, xk_mul, xk_neg, lk_add, lN_z, rf_none, rb1, rb0, rbp, xk_nI, zk_eq, zk_lt, zk_eq0, zk_lt0, zk_0lt, zk_long, lz_lt, lz_gt, zmax, zmin, ↓reduceIte, Int.reduceEq, Int.reduceLT, Int.reduceNeg, Int.reduceAdd, Int.reduceSub, Int.reduceMul, Int.ofNat_eq_natCast, Int.cast_ofNat_Int]
    refine Ev.kV hr ?_
    try simp (disch := omega) only [d_9 hA, g_7_4 hA, g_8_1 hA, Option.bind_some, up_s, up_k, up_j, up_i, xk_add, xk_sub, xk_mul, xk_neg, lk_add, lN_z, rf_none, rb1, rb0, rbp, xk_nI, zk_eq, zk_lt, zk_eq0, zk_lt0, zk_0lt, zk_long, lz_lt, lz_gt, zmax, zmin, ↓reduceIte, Int.reduceEq, Int.reduceLT, Int.reduceNeg, Int.reduceAdd, Int.reduceSub, Int.reduceMul, Int.ofNat_eq_natCast, Int.cast_ofNat_Int, c1, c2, rf_eq hA]
    refine Ev.ite (fun q => absurd q h) (fun _ => ?_)
    exact Ev.kV hE3 (Ev.ret rfl)
end CL
