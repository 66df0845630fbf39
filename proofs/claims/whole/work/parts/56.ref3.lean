/-! the reference: searches and counts -/
def foN {α : Type} (st : Int → α → α) (a : α) : Nat → α
  | 0 => a
  | n + 1 => st n (foN st a n)
def fo {α : Type} (st : Int → α → α) (a : α) (t : Int) : α := foN st a t.toNat
theorem fo_s {α : Type} {st : Int → α → α} {a : α} {t : Int} (h : 0 ≤ t) : fo st a (t + 1) = st t (fo st a t) := by
  unfold fo
  rw [show (t + 1).toNat = t.toNat + 1 by omega, foN, Int.toNat_of_nonneg h]
theorem sm_nn {f : Int → Int} (h : ∀ k, 0 ≤ f k) (n : Int) : 0 ≤ sm f n := by
  unfold sm
  generalize n.toNat = m
  induction m with
  | zero => exact Int.le_refl 0
  | succ m ih => rw [smN]; have := h m; omega
theorem sm_ge {f : Int → Int} (h : ∀ k, 0 ≤ f k) {t n : Int} (h0 : 0 ≤ t) (h1 : t < n) : f t ≤ sm f n := by
  have : ∀ m : Nat, t < m → f t ≤ smN f m := by
    intro m
    induction m with
    | zero => intro q; omega
    | succ m ih =>
      intro q
      rw [smN]
      by_cases hm : t = m
      · subst hm
        have := sm_nn h m
        unfold sm at this
        simp only [Int.toNat_natCast] at this
        omega
      · have := ih (by omega)
        have := h m
        omega
  exact this n.toNat (by omega)
section RA
variable {e : EN} {C I : ST} {z : Nat × Nat × Nat × Nat}
theorem uses_ev (hA : WA e z) (hR : WR e) (hB : RB I) {g : Int} (g0 : -1 ≤ g) (g1 : g < 20) : Ev (fun F => J12_uses F (rf e 12 0) (xk g) (HS e C I z)) (rI (usF I g) (HS e C I z)) := by
  have := RB.tasks hB
  have := RB.groups hB
  refine Ev.step (fun F => E12_uses F _ _ _) ?_
  refine lpN (P := fun t => ∀ acc, 0 ≤ t → t ≤ (I 12 0 1) → acc = sm (usT I g) t → Ev (fun F => J12_uses_4 F (rf e 12 0) (xk g) (xk acc) (xk t) (HS e C I z)) (rI (usF I g) (HS e C I z))) (I 12 0 1) (fun t ih acc t0 t1 ha => ?_) 0 0 (by omega) (by omega) rfl
  refine Ev.step (fun F => E12_uses_4 F _ _ _ _ _) ?_
  simp (disch := omega) only [a_22 hA hR, a_25 hA hR, a_27 hA hR, d_12 hA hR, g_12_1 hA hR, g_12_2 hA hR, g_12_5 hA hR, g_12_7 hA hR, Option.bind_some, xk_add, xk_sub, xk_mul, xk_neg, lk_add, lN_z, rf_none, rb1, rb0, rbp, xk_nI, zk_eq, zk_lt, zk_eq0, zk_lt0, zk_0lt, zk_long, lz_lt, lz_gt, zmax, zmin, ↓reduceIte, Int.reduceEq, Int.reduceLT, Int.reduceNeg, Int.reduceAdd, Int.reduceSub, Int.reduceMul, Int.ofNat_eq_natCast, Int.cast_ofNat_Int]
  refine Ev.ite (fun h => ?_) (fun h => ?_)
  · have := RB.state hB (j := t) (by omega) (by omega)
    have := RB.group hB (j := t) (by omega) (by omega)
    have ih := fun a => ih h a (by omega) (by omega)
    rw [sm_s t0, ← ha] at ih
    try simp (disch := omega) only [a_22 hA hR, a_25 hA hR, a_27 hA hR, d_12 hA hR, g_12_1 hA hR, g_12_2 hA hR, g_12_5 hA hR, g_12_7 hA hR, Option.bind_some, xk_add, xk_sub, xk_mul, xk_neg, lk_add, lN_z, rf_none, rb1, rb0, rbp, xk_nI, zk_eq, zk_lt, zk_eq0, zk_lt0, zk_0lt, zk_long, lz_lt, lz_gt, zmax, zmin, ↓reduceIte, Int.reduceEq, Int.reduceLT, Int.reduceNeg, Int.reduceAdd, Int.reduceSub, Int.reduceMul, Int.ofNat_eq_natCast, Int.cast_ofNat_Int]
    refine Ev.ite (fun hs => ?_) (fun hs => ?_)
    · refine Ev.kB (isWithin_ev hA hR hB g0 g1 (by omega) (by omega)) (fun hw => ?_) (fun hw => ?_)
      · try simp (disch := omega) only [a_22 hA hR, a_25 hA hR, a_27 hA hR, d_12 hA hR, g_12_1 hA hR, g_12_2 hA hR, g_12_5 hA hR, g_12_7 hA hR, Option.bind_some, xk_add, xk_sub, xk_mul, xk_neg, lk_add, lN_z, rf_none, rb1, rb0, rbp, xk_nI, zk_eq, zk_lt, zk_eq0, zk_lt0, zk_0lt, zk_long, lz_lt, lz_gt, zmax, zmin, ↓reduceIte, Int.reduceEq, Int.reduceLT, Int.reduceNeg, Int.reduceAdd, Int.reduceSub, Int.reduceMul, Int.ofNat_eq_natCast, Int.cast_ofNat_Int]
        exact ih _ (by rw [usT, if_pos ⟨hs, hw⟩])
      · try simp (disch := omega) only [a_22 hA hR, a_25 hA hR, a_27 hA hR, d_12 hA hR, g_12_1 hA hR, g_12_2 hA hR, g_12_5 hA hR, g_12_7 hA hR, Option.bind_some, xk_add, xk_sub, xk_mul, xk_neg, lk_add, lN_z, rf_none, rb1, rb0, rbp, xk_nI, zk_eq, zk_lt, zk_eq0, zk_lt0, zk_0lt, zk_long, lz_lt, lz_gt, zmax, zmin, ↓reduceIte, Int.reduceEq, Int.reduceLT, Int.reduceNeg, Int.reduceAdd, Int.reduceSub, Int.reduceMul, Int.ofNat_eq_natCast, Int.cast_ofNat_Int]
        exact ih _ (by rw [usT, if_neg (fun q => hw q.2)])
    · exact ih _ (by rw [usT, if_neg (fun q => hs q.1)])
  · have : t = (I 12 0 1) := by omega
    subst this
    refine lpN (P := fun t => ∀ acc, 0 ≤ t → t ≤ (I 12 0 17) → acc = sm (usT I g) (I 12 0 1) + sm (usK I g) t → Ev (fun F => J12_uses_56 F (rf e 12 0) (xk g) (xk acc) (xk t) (HS e C I z)) (rI (usF I g) (HS e C I z))) (I 12 0 17) (fun t ih acc t0 t1 ha => ?_) 0 acc (by omega) (by omega) (by rw [ha, sm_0, Int.add_zero])
    refine Ev.step (fun F => E12_uses_56 F _ _ _ _ _) ?_
    simp (disch := omega) only [a_43 hA hR, d_12 hA hR, g_12_17 hA hR, g_12_23 hA hR, Option.bind_some, xk_add, xk_sub, xk_mul, xk_neg, lk_add, lN_z, rf_none, rb1, rb0, rbp, xk_nI, zk_eq, zk_lt, zk_eq0, zk_lt0, zk_0lt, zk_long, lz_lt, lz_gt, zmax, zmin, ↓reduceIte, Int.reduceEq, Int.reduceLT, Int.reduceNeg, Int.reduceAdd, Int.reduceSub, Int.reduceMul, Int.ofNat_eq_natCast, Int.cast_ofNat_Int]
    refine Ev.ite (fun h => ?_) (fun h => ?_)
    · have ih := fun a => ih h a (by omega) (by omega)
      rw [sm_s t0] at ih
      try simp (disch := omega) only [a_43 hA hR, d_12 hA hR, g_12_17 hA hR, g_12_23 hA hR, Option.bind_some, xk_add, xk_sub, xk_mul, xk_neg, lk_add, lN_z, rf_none, rb1, rb0, rbp, xk_nI, zk_eq, zk_lt, zk_eq0, zk_lt0, zk_0lt, zk_long, lz_lt, lz_gt, zmax, zmin, ↓reduceIte, Int.reduceEq, Int.reduceLT, Int.reduceNeg, Int.reduceAdd, Int.reduceSub, Int.reduceMul, Int.ofNat_eq_natCast, Int.cast_ofNat_Int]
      refine Ev.kB (isWithin_ev hA hR hB g0 g1 (by omega) (by omega)) (fun hw => ?_) (fun hw => ?_)
      · try simp (disch := omega) only [a_43 hA hR, d_12 hA hR, g_12_17 hA hR, g_12_23 hA hR, Option.bind_some, xk_add, xk_sub, xk_mul, xk_neg, lk_add, lN_z, rf_none, rb1, rb0, rbp, xk_nI, zk_eq, zk_lt, zk_eq0, zk_lt0, zk_0lt, zk_long, lz_lt, lz_gt, zmax, zmin, ↓reduceIte, Int.reduceEq, Int.reduceLT, Int.reduceNeg, Int.reduceAdd, Int.reduceSub, Int.reduceMul, Int.ofNat_eq_natCast, Int.cast_ofNat_Int]
        exact ih _ (by rw [usK, if_pos hw]; omega)
      · try simp (disch := omega) only [a_43 hA hR, d_12 hA hR, g_12_17 hA hR, g_12_23 hA hR, Option.bind_some, xk_add, xk_sub, xk_mul, xk_neg, lk_add, lN_z, rf_none, rb1, rb0, rbp, xk_nI, zk_eq, zk_lt, zk_eq0, zk_lt0, zk_0lt, zk_long, lz_lt, lz_gt, zmax, zmin, ↓reduceIte, Int.reduceEq, Int.reduceLT, Int.reduceNeg, Int.reduceAdd, Int.reduceSub, Int.reduceMul, Int.ofNat_eq_natCast, Int.cast_ofNat_Int]
        exact ih _ (by rw [usK, if_neg hw]; omega)
    · have : t = (I 12 0 17) := by omega
      subst this
      exact Ev.ret (by rw [ha]; rfl)
/-- who holds a number in a space -/
def HoR (I : ST) (s n x : Int) : Prop := (-1 ≤ x ∧ x < (I 12 0 1)) ∧ ∀ t, 0 ≤ t → t < (I 12 0 1) → (((I 22 0 t) ≠ 2 ∧ (I 32 0 (20 * t + s)) = n) ↔ t = x)
theorem holder_ev (hA : WA e z) (hR : WR e) (hB : RB I) {s n x : Int} (s0 : 0 ≤ s) (s1 : s < 20) (n0 : -2147483648 ≤ n) (n1 : n < 2147483648) (hx : HoR I s n x) : Ev (fun F => J12_holder F (rf e 12 0) (xk s) (xk n) (HS e C I z)) (rI x (HS e C I z)) := by
  have := RB.tasks hB
  refine Ev.step (fun F => E12_holder F _ _ _ _) ?_
  refine lpN (P := fun t => 0 ≤ t → t ≤ (I 12 0 1) → (x = -1 ∨ t ≤ x) → Ev (fun F => J12_holder_2 F (rf e 12 0) (xk s) (xk n) (xk t) (HS e C I z)) (rI x (HS e C I z))) (I 12 0 1) (fun t ih t0 t1 ht => ?_) 0 (by omega) (by omega) (by have := hx.1; omega)
  refine Ev.step (fun F => E12_holder_2 F _ _ _ _ _) ?_
  simp (disch := omega) only [a_22 hA hR, a_32 hA hR, g_12_1 hA hR, g_12_12 hA hR, g_12_2 hA hR, Option.bind_some, xk_add, xk_sub, xk_mul, xk_neg, lk_add, lN_z, rf_none, rb1, rb0, rbp, xk_nI, zk_eq, zk_lt, zk_eq0, zk_lt0, zk_0lt, zk_long, lz_lt, lz_gt, zmax, zmin, ↓reduceIte, Int.reduceEq, Int.reduceLT, Int.reduceNeg, Int.reduceAdd, Int.reduceSub, Int.reduceMul, Int.ofNat_eq_natCast, Int.cast_ofNat_Int]
  refine Ev.ite (fun h => ?_) (fun h => ?_)
  · have := RB.state hB (j := t) (by omega) (by omega)
    have := RB.numbers hB (j := (20 * t + s)) (by omega) (by omega)
    have hq := hx.2 t t0 h
    try simp (disch := omega) only [a_22 hA hR, a_32 hA hR, g_12_1 hA hR, g_12_12 hA hR, g_12_2 hA hR, Option.bind_some, xk_add, xk_sub, xk_mul, xk_neg, lk_add, lN_z, rf_none, rb1, rb0, rbp, xk_nI, zk_eq, zk_lt, zk_eq0, zk_lt0, zk_0lt, zk_long, lz_lt, lz_gt, zmax, zmin, ↓reduceIte, Int.reduceEq, Int.reduceLT, Int.reduceNeg, Int.reduceAdd, Int.reduceSub, Int.reduceMul, Int.ofNat_eq_natCast, Int.cast_ofNat_Int]
    refine Ev.ite (fun hs => ?_) (fun hs => ?_)
    · refine ih h (by omega) (by omega) ?_
      have : t ≠ x := fun q => (hq.mpr q).1 hs
      omega
    · refine Ev.ite (fun hn => ?_) (fun hn => ?_)
      · have := hq.mp ⟨hs, hn⟩
        exact Ev.ret (by rw [this]; rfl)
      · refine ih h (by omega) (by omega) ?_
        have : t ≠ x := fun q => hn (hq.mpr q).2
        omega
  · have := hx.1
    exact Ev.ret (by rw [show x = -1 by omega]; rfl)
/-- the next number: d tries behind n -/
def nxF (h : Int → Int) : Nat → Int → Int
  | 0, _ => 0
  | d + 1, n => if h (if n = 40 then 1 else n + 1) < 0 then (if n = 40 then 1 else n + 1) else nxF h d (if n = 40 then 1 else n + 1)
theorem nextNumber_ev (hA : WA e z) (hR : WR e) (hB : RB I) {s : Int} {h : Int → Int} (s0 : 0 ≤ s) (s1 : s < 20) (hx : ∀ n, 1 ≤ n → n ≤ 40 → HoR I s n (h n)) : Ev (fun F => J12_nextNumber F (rf e 12 0) (xk s) (HS e C I z)) (rI (nxF h 40 (I 36 0 s)) (HS e C I z)) := by
  have := RB.given hB (j := s) (by omega) (by omega)
  have := RB.tasks hB
  refine Ev.step (fun F => E12_nextNumber F _ _ _) ?_
  simp (disch := omega) only [a_36 hA hR, g_12_16 hA hR, Option.bind_some, xk_add, xk_sub, xk_mul, xk_neg, lk_add, lN_z, rf_none, rb1, rb0, rbp, xk_nI, zk_eq, zk_lt, zk_eq0, zk_lt0, zk_0lt, zk_long, lz_lt, lz_gt, zmax, zmin, ↓reduceIte, Int.reduceEq, Int.reduceLT, Int.reduceNeg, Int.reduceAdd, Int.reduceSub, Int.reduceMul, Int.ofNat_eq_natCast, Int.cast_ofNat_Int]
  have : ∀ (d : Nat) (k n : Int), 0 ≤ k → k + d = 40 → 0 ≤ n → n ≤ 40 → Ev (fun F => J12_nextNumber_9 F (rf e 12 0) (xk s) (xk n) (xk k) (HS e C I z)) (rI (nxF h d n) (HS e C I z)) := by
    intro d
    induction d with
    | zero =>
      intro k n k0 hk n0 n1
      refine Ev.step (fun F => E12_nextNumber_9 F _ _ _ _ _) ?_
      simp (disch := omega) only [d_12 hA hR, Option.bind_some, xk_add, xk_sub, xk_mul, xk_neg, lk_add, lN_z, rf_none, rb1, rb0, rbp, xk_nI, zk_eq, zk_lt, zk_eq0, zk_lt0, zk_0lt, zk_long, lz_lt, lz_gt, zmax, zmin, ↓reduceIte, Int.reduceEq, Int.reduceLT, Int.reduceNeg, Int.reduceAdd, Int.reduceSub, Int.reduceMul, Int.ofNat_eq_natCast, Int.cast_ofNat_Int]
      exact Ev.ite (fun q => absurd q (by omega)) (fun _ => Ev.ret rfl)
    | succ d ih =>
      intro k n k0 hk n0 n1
      refine Ev.step (fun F => E12_nextNumber_9 F _ _ _ _ _) ?_
      simp (disch := omega) only [d_12 hA hR, Option.bind_some, xk_add, xk_sub, xk_mul, xk_neg, lk_add, lN_z, rf_none, rb1, rb0, rbp, xk_nI, zk_eq, zk_lt, zk_eq0, zk_lt0, zk_0lt, zk_long, lz_lt, lz_gt, zmax, zmin, ↓reduceIte, Int.reduceEq, Int.reduceLT, Int.reduceNeg, Int.reduceAdd, Int.reduceSub, Int.reduceMul, Int.ofNat_eq_natCast, Int.cast_ofNat_Int]
      refine Ev.ite (fun _ => ?_) (fun q => absurd q (by omega))
      rw [nxF]
      refine Ev.ite (fun hn => ?_) (fun hn => ?_)
      · simp only [if_pos hn]
        have hh := hx 1 (by omega) (by omega)
        have := hh.1
        refine Ev.kI (holder_ev hA hR hB s0 s1 (by omega) (by omega) hh) ?_
        try simp (disch := omega) only [d_12 hA hR, Option.bind_some, xk_add, xk_sub, xk_mul, xk_neg, lk_add, lN_z, rf_none, rb1, rb0, rbp, xk_nI, zk_eq, zk_lt, zk_eq0, zk_lt0, zk_0lt, zk_long, lz_lt, lz_gt, zmax, zmin, ↓reduceIte, Int.reduceEq, Int.reduceLT, Int.reduceNeg, Int.reduceAdd, Int.reduceSub, Int.reduceMul, Int.ofNat_eq_natCast, Int.cast_ofNat_Int]
        refine Ev.ite (fun hq => ?_) (fun hq => ?_)
        · exact Ev.ret (by rw [if_pos (by omega)]; rfl)
        · rw [if_neg (by omega)]
          exact ih _ _ (by omega) (by omega) (by omega) (by omega)
      · simp only [if_neg hn]
        have hh := hx (n + 1) (by omega) (by omega)
        have := hh.1
        refine Ev.kI (holder_ev hA hR hB s0 s1 (by omega) (by omega) hh) ?_
        try simp (disch := omega) only [d_12 hA hR, Option.bind_some, xk_add, xk_sub, xk_mul, xk_neg, lk_add, lN_z, rf_none, rb1, rb0, rbp, xk_nI, zk_eq, zk_lt, zk_eq0, zk_lt0, zk_0lt, zk_long, lz_lt, lz_gt, zmax, zmin, ↓reduceIte, Int.reduceEq, Int.reduceLT, Int.reduceNeg, Int.reduceAdd, Int.reduceSub, Int.reduceMul, Int.ofNat_eq_natCast, Int.cast_ofNat_Int]
        refine Ev.ite (fun hq => ?_) (fun hq => ?_)
        · exact Ev.ret (by rw [if_pos (by omega)]; rfl)
        · rw [if_neg (by omega)]
          exact ih _ _ (by omega) (by omega) (by omega) (by omega)
  exact this 40 0 _ (by omega) (by omega) (by omega) (by omega)
theorem depth_ev (hA : WA e z) (hR : WR e) (hB : RB I) {s : Int} {dp : Int → Int} (s0 : 0 ≤ s) (s1 : s < 20) (hd : ∀ k, 0 ≤ k → k < 20 → dp k = if (I 34 0 k) = -1 then 0 else dp (I 34 0 k) + 1) : Ev (fun F => J12_depth F (rf e 12 0) (xk s) (HS e C I z)) (rI (dp s) (HS e C I z)) := by
  have := RB.around hB (j := s) (by omega) (by omega)
  have := RB.arw hB (j := s) (by omega) (by omega)
  refine Ev.step (fun F => E12_depth F _ _ _) ?_
  simp (disch := omega) only [a_34 hA hR, g_12_14 hA hR, Option.bind_some, xk_add, xk_sub, xk_mul, xk_neg, lk_add, lN_z, rf_none, rb1, rb0, rbp, xk_nI, zk_eq, zk_lt, zk_eq0, zk_lt0, zk_0lt, zk_long, lz_lt, lz_gt, zmax, zmin, ↓reduceIte, Int.reduceEq, Int.reduceLT, Int.reduceNeg, Int.reduceAdd, Int.reduceSub, Int.reduceMul, Int.ofNat_eq_natCast, Int.cast_ofNat_Int]
  refine lpD (P := fun k => k < 20 → ∀ n, n + (if k = -1 then 0 else dp k + 1) = dp s → Ev (fun F => J12_depth_9 F (rf e 12 0) (xk n) (xk k) (HS e C I z)) (rI (dp s) (HS e C I z))) (fun k k0 ih k1 n hn => ?_) (I 34 0 s) (by omega) (by omega) 0 (by rw [hd s s0 s1, Int.zero_add])
  refine Ev.step (fun F => E12_depth_9 F _ _ _ _) ?_
  simp (disch := omega) only [a_34 hA hR, g_12_14 hA hR, Option.bind_some, xk_add, xk_sub, xk_mul, xk_neg, lk_add, lN_z, rf_none, rb1, rb0, rbp, xk_nI, zk_eq, zk_lt, zk_eq0, zk_lt0, zk_0lt, zk_long, lz_lt, lz_gt, zmax, zmin, ↓reduceIte, Int.reduceEq, Int.reduceLT, Int.reduceNeg, Int.reduceAdd, Int.reduceSub, Int.reduceMul, Int.ofNat_eq_natCast, Int.cast_ofNat_Int]
  refine Ev.ite (fun h => ?_) (fun h => ?_)
  · rw [if_pos h] at hn
    exact Ev.ret (by rw [← hn, Int.add_zero]; rfl)
  · rw [if_neg h] at hn
    have := RB.around hB (j := k) (by omega) (by omega)
    have := RB.arw hB (j := k) (by omega) (by omega)
    try simp (disch := omega) only [a_34 hA hR, g_12_14 hA hR, Option.bind_some, xk_add, xk_sub, xk_mul, xk_neg, lk_add, lN_z, rf_none, rb1, rb0, rbp, xk_nI, zk_eq, zk_lt, zk_eq0, zk_lt0, zk_0lt, zk_long, lz_lt, lz_gt, zmax, zmin, ↓reduceIte, Int.reduceEq, Int.reduceLT, Int.reduceNeg, Int.reduceAdd, Int.reduceSub, Int.reduceMul, Int.ofNat_eq_natCast, Int.cast_ofNat_Int]
    refine ih _ (by omega) (by omega) (by omega) _ ?_
    have := hd k (by omega) k1
    omega
theorem freeMounts_ev (hA : WA e z) (hR : WR e) (hB : RB I) : Ev (fun F => J12_freeMounts F (rf e 12 0) (HS e C I z)) (rI (80 - sm (fun k => (I 50 0 k)) 80) (HS e C I z)) := by
  refine Ev.step (fun F => E12_freeMounts F _ _) ?_
  refine lpN (P := fun t => ∀ acc, 0 ≤ t → t ≤ 80 → acc = t - sm (fun k => (I 50 0 k)) t → Ev (fun F => J12_freeMounts_4 F (rf e 12 0) (xk acc) (xk t) (HS e C I z)) (rI (80 - sm (fun k => (I 50 0 k)) 80) (HS e C I z))) 80 (fun t ih acc t0 t1 ha => ?_) 0 0 (by omega) (by omega) rfl
  refine Ev.step (fun F => E12_freeMounts_4 F _ _ _ _) ?_
  simp (disch := omega) only [a_50 hA hR, g_12_30 hA hR, Option.bind_some, xk_add, xk_sub, xk_mul, xk_neg, lk_add, lN_z, rf_none, rb1, rb0, rbp, xk_nI, zk_eq, zk_lt, zk_eq0, zk_lt0, zk_0lt, zk_long, lz_lt, lz_gt, zmax, zmin, ↓reduceIte, Int.reduceEq, Int.reduceLT, Int.reduceNeg, Int.reduceAdd, Int.reduceSub, Int.reduceMul, Int.ofNat_eq_natCast, Int.cast_ofNat_Int]
  refine Ev.ite (fun h => ?_) (fun h => ?_)
  · have := RB.there hB (j := t) (by omega) (by omega)
    have ih := fun a => ih h a (by omega) (by omega)
    rw [sm_s t0] at ih
    try simp (disch := omega) only [a_50 hA hR, g_12_30 hA hR, Option.bind_some, xk_add, xk_sub, xk_mul, xk_neg, lk_add, lN_z, rf_none, rb1, rb0, rbp, xk_nI, zk_eq, zk_lt, zk_eq0, zk_lt0, zk_0lt, zk_long, lz_lt, lz_gt, zmax, zmin, ↓reduceIte, Int.reduceEq, Int.reduceLT, Int.reduceNeg, Int.reduceAdd, Int.reduceSub, Int.reduceMul, Int.ofNat_eq_natCast, Int.cast_ofNat_Int]
    exact Ev.ite (fun hs => ih _ (by omega)) (fun hs => ih _ (by omega))
  · have : t = 80 := by omega
    subst this
    exact Ev.ret (by rw [ha]; rfl)
/-- mounts of a view; mounts on a mount -/
def mvT (I : ST) (v k : Int) : Int := if (I 50 0 k) = 1 ∧ (I 51 0 k) = v then 1 else 0
def bzT (I : ST) (m k : Int) : Int := if (I 50 0 k) = 1 ∧ (I 52 0 k) = m then 1 else 0
theorem mountsOf_ev (hA : WA e z) (hR : WR e) (hB : RB I) {v : Int} (v0 : -1 ≤ v) (v1 : v < 20) : Ev (fun F => J12_mountsOf F (rf e 12 0) (xk v) (HS e C I z)) (rI (sm (mvT I v) 80) (HS e C I z)) := by
  refine Ev.step (fun F => E12_mountsOf F _ _ _) ?_
  refine lpN (P := fun t => ∀ acc, 0 ≤ t → t ≤ 80 → acc = sm (mvT I v) t → Ev (fun F => J12_mountsOf_4 F (rf e 12 0) (xk v) (xk acc) (xk t) (HS e C I z)) (rI (sm (mvT I v) 80) (HS e C I z))) 80 (fun t ih acc t0 t1 ha => ?_) 0 0 (by omega) (by omega) rfl
  refine Ev.step (fun F => E12_mountsOf_4 F _ _ _ _ _) ?_
  simp (disch := omega) only [a_50 hA hR, a_51 hA hR, g_12_30 hA hR, g_12_31 hA hR, Option.bind_some, xk_add, xk_sub, xk_mul, xk_neg, lk_add, lN_z, rf_none, rb1, rb0, rbp, xk_nI, zk_eq, zk_lt, zk_eq0, zk_lt0, zk_0lt, zk_long, lz_lt, lz_gt, zmax, zmin, ↓reduceIte, Int.reduceEq, Int.reduceLT, Int.reduceNeg, Int.reduceAdd, Int.reduceSub, Int.reduceMul, Int.ofNat_eq_natCast, Int.cast_ofNat_Int]
  refine Ev.ite (fun h => ?_) (fun h => ?_)
  · have := RB.there hB (j := t) (by omega) (by omega)
    have := RB.viewOf hB (j := t) (by omega) (by omega)
    have ih := fun a => ih h a (by omega) (by omega)
    rw [sm_s t0, mvT, ← ha] at ih
    try simp (disch := omega) only [a_50 hA hR, a_51 hA hR, g_12_30 hA hR, g_12_31 hA hR, Option.bind_some, xk_add, xk_sub, xk_mul, xk_neg, lk_add, lN_z, rf_none, rb1, rb0, rbp, xk_nI, zk_eq, zk_lt, zk_eq0, zk_lt0, zk_0lt, zk_long, lz_lt, lz_gt, zmax, zmin, ↓reduceIte, Int.reduceEq, Int.reduceLT, Int.reduceNeg, Int.reduceAdd, Int.reduceSub, Int.reduceMul, Int.ofNat_eq_natCast, Int.cast_ofNat_Int]
    refine Ev.ite (fun hs => ih _ (by rw [if_neg (by omega)])) (fun hs => ?_)
    exact Ev.ite (fun hs => ih _ (by rw [if_pos (by omega)])) (fun hs => ih _ (by rw [if_neg (by omega)]))
  · have : t = 80 := by omega
    subst this
    exact Ev.ret (by rw [ha]; rfl)
/-- what lies on a place of a mount -/
def ToR (I : ST) (m d x : Int) : Prop := (-1 ≤ x ∧ x < 80) ∧ ∀ k, 0 ≤ k → k < 80 → (((I 50 0 k) = 1 ∧ (I 52 0 k) = m ∧ (I 53 0 k) = d) ↔ k = x)
theorem mountAt_ev (hA : WA e z) (hR : WR e) (hB : RB I) {m d x : Int} (m0 : -1 ≤ m) (m1 : m < 80) (d0 : -1 ≤ d) (d1 : d < 100) (hx : ToR I m d x) : Ev (fun F => J12_mountAt F (rf e 12 0) (xk m) (xk d) (HS e C I z)) (rI x (HS e C I z)) := by
  refine Ev.step (fun F => E12_mountAt F _ _ _ _) ?_
  refine lpN (P := fun t => 0 ≤ t → t ≤ 80 → (x = -1 ∨ t ≤ x) → Ev (fun F => J12_mountAt_2 F (rf e 12 0) (xk m) (xk d) (xk t) (HS e C I z)) (rI x (HS e C I z))) 80 (fun t ih t0 t1 ht => ?_) 0 (by omega) (by omega) (by have := hx.1; omega)
  refine Ev.step (fun F => E12_mountAt_2 F _ _ _ _ _) ?_
  simp (disch := omega) only [a_50 hA hR, a_52 hA hR, a_53 hA hR, g_12_30 hA hR, g_12_32 hA hR, g_12_33 hA hR, Option.bind_some, xk_add, xk_sub, xk_mul, xk_neg, lk_add, lN_z, rf_none, rb1, rb0, rbp, xk_nI, zk_eq, zk_lt, zk_eq0, zk_lt0, zk_0lt, zk_long, lz_lt, lz_gt, zmax, zmin, ↓reduceIte, Int.reduceEq, Int.reduceLT, Int.reduceNeg, Int.reduceAdd, Int.reduceSub, Int.reduceMul, Int.ofNat_eq_natCast, Int.cast_ofNat_Int]
  refine Ev.ite (fun h => ?_) (fun h => ?_)
  · have := RB.there hB (j := t) (by omega) (by omega)
    have := RB.inMount hB (j := t) (by omega) (by omega)
    have := RB.inPlace hB (j := t) (by omega) (by omega)
    have hq := hx.2 t t0 h
    try simp (disch := omega) only [a_50 hA hR, a_52 hA hR, a_53 hA hR, g_12_30 hA hR, g_12_32 hA hR, g_12_33 hA hR, Option.bind_some, xk_add, xk_sub, xk_mul, xk_neg, lk_add, lN_z, rf_none, rb1, rb0, rbp, xk_nI, zk_eq, zk_lt, zk_eq0, zk_lt0, zk_0lt, zk_long, lz_lt, lz_gt, zmax, zmin, ↓reduceIte, Int.reduceEq, Int.reduceLT, Int.reduceNeg, Int.reduceAdd, Int.reduceSub, Int.reduceMul, Int.ofNat_eq_natCast, Int.cast_ofNat_Int]
    have ih := ih h (by omega) (by omega)
    refine Ev.ite (fun hs => ih ?_) (fun hs => Ev.ite (fun hm => Ev.ite (fun hd => ?_) (fun hd => ih ?_)) (fun hm => ih ?_))
    · have : t ≠ x := fun q => by have := hq.mpr q; omega
      omega
    · have := hq.mp ⟨by omega, hm, hd⟩
      exact Ev.ret (by rw [this]; rfl)
    · have : t ≠ x := fun q => hd (hq.mpr q).2.2
      omega
    · have : t ≠ x := fun q => hm (hq.mpr q).2.1
      omega
  · have := hx.1
    exact Ev.ret (by rw [show x = -1 by omega]; rfl)
theorem isBusy_ev (hA : WA e z) (hR : WR e) (hB : RB I) {m : Int} (m0 : -1 ≤ m) (m1 : m < 80) : Ev (fun F => J12_isBusy F (rf e 12 0) (xk m) (HS e C I z)) (rI (bI (0 < sm (bzT I m) 80)) (HS e C I z)) := by
  have nn : ∀ k, 0 ≤ bzT I m k := fun k => by unfold bzT; split <;> decide
  refine Ev.step (fun F => E12_isBusy F _ _ _) ?_
  refine lpN (P := fun t => 0 ≤ t → t ≤ 80 → sm (bzT I m) t = 0 → Ev (fun F => J12_isBusy_2 F (rf e 12 0) (xk m) (xk t) (HS e C I z)) (rI (bI (0 < sm (bzT I m) 80)) (HS e C I z))) 80 (fun t ih t0 t1 ha => ?_) 0 (by omega) (by omega) rfl
  refine Ev.step (fun F => E12_isBusy_2 F _ _ _ _) ?_
  simp (disch := omega) only [a_50 hA hR, a_52 hA hR, g_12_30 hA hR, g_12_32 hA hR, Option.bind_some, xk_add, xk_sub, xk_mul, xk_neg, lk_add, lN_z, rf_none, rb1, rb0, rbp, xk_nI, zk_eq, zk_lt, zk_eq0, zk_lt0, zk_0lt, zk_long, lz_lt, lz_gt, zmax, zmin, ↓reduceIte, Int.reduceEq, Int.reduceLT, Int.reduceNeg, Int.reduceAdd, Int.reduceSub, Int.reduceMul, Int.ofNat_eq_natCast, Int.cast_ofNat_Int]
  refine Ev.ite (fun h => ?_) (fun h => ?_)
  · have := RB.there hB (j := t) (by omega) (by omega)
    have := RB.inMount hB (j := t) (by omega) (by omega)
    have ih := ih h (by omega) (by omega)
    rw [sm_s t0, ha, Int.zero_add] at ih
    try simp (disch := omega) only [a_50 hA hR, a_52 hA hR, g_12_30 hA hR, g_12_32 hA hR, Option.bind_some, xk_add, xk_sub, xk_mul, xk_neg, lk_add, lN_z, rf_none, rb1, rb0, rbp, xk_nI, zk_eq, zk_lt, zk_eq0, zk_lt0, zk_0lt, zk_long, lz_lt, lz_gt, zmax, zmin, ↓reduceIte, Int.reduceEq, Int.reduceLT, Int.reduceNeg, Int.reduceAdd, Int.reduceSub, Int.reduceMul, Int.ofNat_eq_natCast, Int.cast_ofNat_Int]
    refine Ev.ite (fun hs => ih (by rw [bzT, if_neg (by omega)])) (fun hs => ?_)
    refine Ev.ite (fun hm => ?_) (fun hm => ih (by rw [bzT, if_neg (by omega)]))
    have := sm_ge nn t0 h
    rw [show bzT I m t = 1 by rw [bzT, if_pos (by omega)]] at this
    exact Ev.ret (by rw [bI_t (by omega)]; rfl)
  · have : t = 80 := by omega
    subst this
    exact Ev.ret (by rw [bI_f (by omega)]; rfl)
theorem isPeer_ev (hA : WA e z) (hR : WR e) (hB : RB I) {k m p : Int} (k0 : 0 ≤ k) (k1 : k < 80) (m0 : 0 ≤ m) (m1 : m < 80) (p0 : 0 ≤ p) (p1 : p < 2147483648) (q0 : 0 ≤ (I 55 0 k)) (q1 : (I 55 0 k) < 2147483648) : Ev (fun F => J12_isPeer F (rf e 12 0) (xk k) (xk m) (xk p) (HS e C I z)) (rI (bI (k ≠ m ∧ (I 50 0 k) = 1 ∧ 0 < p ∧ (I 55 0 k) = p)) (HS e C I z)) := by
  have := RB.there hB (j := k) (by omega) (by omega)
  refine Ev.step (fun F => E12_isPeer F _ _ _ _ _) ?_
  simp (disch := omega) only [a_50 hA hR, a_55 hA hR, g_12_30 hA hR, g_12_35 hA hR, Option.bind_some, xk_add, xk_sub, xk_mul, xk_neg, lk_add, lN_z, rf_none, rb1, rb0, rbp, xk_nI, zk_eq, zk_lt, zk_eq0, zk_lt0, zk_0lt, zk_long, lz_lt, lz_gt, zmax, zmin, ↓reduceIte, Int.reduceEq, Int.reduceLT, Int.reduceNeg, Int.reduceAdd, Int.reduceSub, Int.reduceMul, Int.ofNat_eq_natCast, Int.cast_ofNat_Int]
  refine Ev.ite (fun h => Ev.ret (by rw [bI_f (by omega)]; rfl)) (fun h => ?_)
  refine Ev.ite (fun h => Ev.ret (by rw [bI_f (by omega)]; rfl)) (fun h => ?_)
  refine Ev.ite (fun h => ?_) (fun h => Ev.ret (by rw [bI_f (by omega)]; rfl))
  exact Ev.ite (fun h => Ev.ret (by rw [bI_t (by omega)]; rfl)) (fun h => Ev.ret (by rw [bI_f (by omega)]; rfl))
theorem isReadyR_ev (hA : WA e z) (hR : WR e) (hB : RB I) {g : Int} (k0 : 0 ≤ g) (k1 : g < 20) (q0 : 0 ≤ (I 44 0 g)) (q1 : (I 44 0 g) < 2147483648) : Ev (fun F => J12_isReady F (rf e 12 0) (xk g) (HS e C I z)) (rI (bI ((I 59 0 g) = 1 ∧ ((I 42 0 g) = 0 ∨ (I 44 0 g) < (I 42 0 g)))) (HS e C I z)) := by
  have := RB.has hB (j := g) (by omega) (by omega)
  have := RB.quota hB (j := g) (by omega) (by omega)
  refine Ev.step (fun F => E12_isReady F _ _ _) ?_
  simp (disch := omega) only [a_42 hA hR, a_44 hA hR, a_59 hA hR, g_12_22 hA hR, g_12_24 hA hR, g_12_39 hA hR, Option.bind_some, xk_add, xk_sub, xk_mul, xk_neg, lk_add, lN_z, rf_none, rb1, rb0, rbp, xk_nI, zk_eq, zk_lt, zk_eq0, zk_lt0, zk_0lt, zk_long, lz_lt, lz_gt, zmax, zmin, ↓reduceIte, Int.reduceEq, Int.reduceLT, Int.reduceNeg, Int.reduceAdd, Int.reduceSub, Int.reduceMul, Int.ofNat_eq_natCast, Int.cast_ofNat_Int]
  refine Ev.ite (fun h => Ev.ret (by rw [bI_f (by omega)]; rfl)) (fun h => ?_)
  refine Ev.ite (fun h => Ev.ret (by rw [bI_t (by omega)]; rfl)) (fun h => ?_)
  exact Ev.ite (fun h => Ev.ret (by rw [bI_t (by omega)]; rfl)) (fun h => Ev.ret (by rw [bI_f (by omega)]; rfl))
end RA
