/-! the class: where a path leads -/
def tpC (C : ST) (m d : Int) : Int := (C 17 m d)
def plC (C : ST) (m d : Int) : ST := up (up C 6 0 0 m) 6 0 1 d
section CL
variable {e : EN} {C I J : ST} {z : Nat × Nat × Nat × Nat}
theorem plC_f {m d : Int} {k : Nat} {i j : Int} (h : k ≠ 6) : plC C m d k i j = C k i j := by
  unfold plC
  rw [up_k h, up_k h]
theorem plC_u {m d m' d' : Int} : up (up (plC C m d) 6 0 0 m') 6 0 1 d' = plC C m' d' := by
  funext k i j
  simp only [up, plC]
  repeat' split
  all_goals first | rfl | (exfalso; omega)
theorem plC_m {m d : Int} : plC C m d 6 0 0 = m := by unfold plC; rw [up_j (by decide), up_s]
theorem plC_d {m d : Int} : plC C m d 6 0 1 = d := up_s
theorem tpC_pl {m d : Int} : tpC (plC C m d) = tpC C := by
  funext a b
  unfold tpC
  exact plC_f (by decide)
theorem Cpl.pl (hC : Cpl e C J) {m d : Int} (m0 : -1 ≤ m) (m1 : m < 80) (d0 : 0 ≤ d) (d1 : d < 15) : Cpl e (plC C m d) J := by
  obtain ⟨h1, h2, h3, h4, h5, h6⟩ := hC
  have f0 : ∀ k i j, k ≠ 6 → plC C m d k i j = C k i j := fun k i j a => plC_f a
  refine ⟨h1.fr (fun i j => f0 _ _ _ (by decide)) rfl (fun _ _ _ _ => rfl), h2.fr (fun i j => f0 _ _ _ (by decide)) (fun i j => f0 _ _ _ (by decide)) rfl (fun _ => rfl) (fun _ => rfl) (fun _ => rfl) rfl, h3.fr (fun i j _ => f0 _ _ _ (by decide)) rfl (fun _ _ _ _ => rfl) rfl rfl, h4.fr (fun g => f0 _ _ _ (by decide)) (fun g => f0 _ _ _ (by decide)) rfl rfl, h5.fr (fun k i j h => f0 _ _ _ (by omega)) (fun _ _ _ _ _ => rfl) rfl rfl, ?_⟩
  obtain ⟨q1, q2, q3, q4, q5, q6, q7⟩ := h6
  refine ⟨?_, ?_, ?_, ?_, ?_, ?_, fun m m0 m1 => ?_⟩
  · rw [f0 _ _ _ (by decide)]; exact q1
  · rw [f0 _ _ _ (by decide)]; exact q2
  · rw [plC_m]; exact m0
  · rw [plC_m]; exact m1
  · rw [plC_d]; exact d0
  · rw [plC_d]; exact d1
  · rw [f0 _ _ _ (by decide)]; exact q7 m m0 m1
theorem Cpl.toa (hC : Cpl e C J) : ToA J (tpC C) := fun m d m0 m1 d0 d1 => (hC.2.2.2.2.1.2.2.1 m m0 m1).2.2.2.2.2.2 d d0 d1
theorem over_ev (hA : WA e z) {m d : Int} (m0 : 0 ≤ m) (m1 : m < 80) (d0 : 0 ≤ d) (d1 : d < 15) : Ev (fun F => J4_over F (rf e 4 m) (xk d) (HS e C I z)) (rR (rf e 4 (tpC C m d)) (HS e C I z)) := by
  have n4 := hA.2.2.2.1
  refine Ev.step (fun F => E4_over F _ _ _) ?_
  simp (disch := omega) only [a_17 hA, g_4_1 hA, Option.bind_some, up_s, up_k, up_j, up_i, xk_add, xk_sub, xk_mul, xk_neg, lk_add, lN_z, rf_none, rb1, rb0, rbp, xk_nI, zk_eq, zk_lt, zk_eq0, zk_lt0, zk_0lt, zk_long, lz_lt, lz_gt, zmax, zmin, ↓reduceIte, Int.reduceEq, Int.reduceLT, Int.reduceNeg, Int.reduceAdd, Int.reduceSub, Int.reduceMul, Int.ofNat_eq_natCast, Int.cast_ofNat_Int]
  refine Ev.ite (fun q => absurd q (by omega)) (fun _ => ?_)
  refine Ev.ite (fun _ => ?_) (fun q => absurd q (by omega))
  exact Ev.ret rfl
theorem enter16_ev (hA : WA e z) (hT : ToA J (tpC C)) : ∀ (n : Nat) (m d : Int), 0 ≤ m → m < 80 → 0 ≤ d → d < 15 → tpC C (riF (tpC C) n m d).1 (riF (tpC C) n m d).2 < 0 → Ev (fun F => J6_enter_16 F (rf e 6 0) (rf e 4 (tpC C m d)) (HS e (plC C m d) I z)) (rV (HS e (plC C (riF (tpC C) n m d).1 (riF (tpC C) n m d).2) I z)) := by
  have n4 := hA.2.2.2.1
  intro n
  induction n with
  | zero =>
    intro m d m0 m1 d0 d1 h
    have h : tpC C m d < 0 := h
    refine Ev.step (fun F => E6_enter_16 F _ _ _) ?_
    simp (disch := omega) only [d_4 hA, p_6_0 hA, p_6_1 hA, pn_6_0 hA, Option.bind_some, up_s, up_k, up_j, up_i, xk_add, xk_sub, xk_mul, xk_neg, lk_add, lN_z, rf_none, rb1, rb0, rbp, xk_nI, zk_eq, zk_lt, zk_eq0, zk_lt0, zk_0lt, zk_long, lz_lt, lz_gt, zmax, zmin, ↓reduceIte, Int.reduceEq, Int.reduceLT, Int.reduceNeg, Int.reduceAdd, Int.reduceSub, Int.reduceMul, Int.ofNat_eq_natCast, Int.cast_ofNat_Int]
    exact Ev.ite (fun _ => Ev.ret rfl) (fun q => absurd h q)
  | succ n ih =>
    intro m d m0 m1 d0 d1 h
    have hb := hT.b m0 m1 d0 d1
    rw [riF] at h ⊢
    refine Ev.step (fun F => E6_enter_16 F _ _ _) ?_
    simp (disch := omega) only [d_4 hA, p_6_0 hA, p_6_1 hA, pn_6_0 hA, Option.bind_some, up_s, up_k, up_j, up_i, xk_add, xk_sub, xk_mul, xk_neg, lk_add, lN_z, rf_none, rb1, rb0, rbp, xk_nI, zk_eq, zk_lt, zk_eq0, zk_lt0, zk_0lt, zk_long, lz_lt, lz_gt, zmax, zmin, ↓reduceIte, Int.reduceEq, Int.reduceLT, Int.reduceNeg, Int.reduceAdd, Int.reduceSub, Int.reduceMul, Int.ofNat_eq_natCast, Int.cast_ofNat_Int, plC_u]
    refine Ev.ite (fun q => Ev.ret (by rw [if_pos q]; rfl)) (fun q => ?_)
    rw [if_neg q] at h ⊢
    try simp (disch := omega) only [d_4 hA, p_6_0 hA, p_6_1 hA, pn_6_0 hA, Option.bind_some, up_s, up_k, up_j, up_i, xk_add, xk_sub, xk_mul, xk_neg, lk_add, lN_z, rf_none, rb1, rb0, rbp, xk_nI, zk_eq, zk_lt, zk_eq0, zk_lt0, zk_0lt, zk_long, lz_lt, lz_gt, zmax, zmin, ↓reduceIte, Int.reduceEq, Int.reduceLT, Int.reduceNeg, Int.reduceAdd, Int.reduceSub, Int.reduceMul, Int.ofNat_eq_natCast, Int.cast_ofNat_Int, plC_u]
    refine Ev.kR (over_ev (C := plC C (tpC C m d) 0) hA (by omega) (by omega) (by omega) (by omega)) ?_
    rw [tpC_pl]
    exact ih _ _ (by omega) (by omega) (by omega) (by omega) h
theorem enter_ev (hA : WA e z) (hT : ToA J (tpC C)) {n : Nat} {m d m' d' : Int} (m0 : 0 ≤ m) (m1 : m < 80) (d0 : 0 ≤ d) (d1 : d < 15) (h : tpC C (riF (tpC C) n m d).1 (riF (tpC C) n m d).2 < 0) : Ev (fun F => J6_enter F (rf e 6 0) (rf e 4 m) (xk d) (HS e (plC C m' d') I z)) (rV (HS e (plC C (riF (tpC C) n m d).1 (riF (tpC C) n m d).2) I z)) := by
  have n4 := hA.2.2.2.1
  refine Ev.step (fun F => E6_enter F _ _ _ _) ?_
  simp (disch := omega) only [d_4 hA, p_6_0 hA, p_6_1 hA, pn_6_0 hA, Option.bind_some, up_s, up_k, up_j, up_i, xk_add, xk_sub, xk_mul, xk_neg, lk_add, lN_z, rf_none, rb1, rb0, rbp, xk_nI, zk_eq, zk_lt, zk_eq0, zk_lt0, zk_0lt, zk_long, lz_lt, lz_gt, zmax, zmin, ↓reduceIte, Int.reduceEq, Int.reduceLT, Int.reduceNeg, Int.reduceAdd, Int.reduceSub, Int.reduceMul, Int.ofNat_eq_natCast, Int.cast_ofNat_Int, plC_u]
  refine Ev.kR (over_ev (C := plC C m d) hA m0 m1 d0 d1) ?_
  rw [tpC_pl]
  exact enter16_ev hA hT n m d m0 m1 d0 d1 h
theorem highest_ev {σ : XH} {p : Int} {h : Nat} (p0 : 1 ≤ p) (p1 : p < 2147483648) (hh : hbP p h) : Ev (fun F => J6_highestBit F (xk p) σ) (rI h σ) := by
  refine Ev.step (fun F => E6_highestBit F _ _) ?_
  have key : ∀ (n b : Nat), b = h + n → b ≤ 30 → Ev (fun F => J6_highestBit_3 F (xk p) (xk (b : Int)) σ) (rI h σ) := by
    intro n
    induction n with
    | zero =>
      intro b hb b1
      rw [hb, Nat.add_zero]
      refine Ev.step (fun F => E6_highestBit_3 F _ _ _) ?_
      rw [shr (by omega) p1 hh.1, hb_at hh]
      simp (disch := omega) only [Option.bind_some, up_s, up_k, up_j, up_i, xk_add, xk_sub, xk_mul, xk_neg, lk_add, lN_z, rf_none, rb1, rb0, rbp, xk_nI, zk_eq, zk_lt, zk_eq0, zk_lt0, zk_0lt, zk_long, lz_lt, lz_gt, zmax, zmin, ↓reduceIte, Int.reduceEq, Int.reduceLT, Int.reduceNeg, Int.reduceAdd, Int.reduceSub, Int.reduceMul, Int.ofNat_eq_natCast, Int.cast_ofNat_Int]
      exact Ev.ite (fun _ => Ev.ret rfl) (fun _ => Ev.ret rfl)
    | succ n ih =>
      intro b hb b1
      refine Ev.step (fun F => E6_highestBit_3 F _ _ _) ?_
      rw [shr (by omega) p1 (by omega), hb_hi hh (by omega) (by omega)]
      simp (disch := omega) only [Option.bind_some, up_s, up_k, up_j, up_i, xk_add, xk_sub, xk_mul, xk_neg, lk_add, lN_z, rf_none, rb1, rb0, rbp, xk_nI, zk_eq, zk_lt, zk_eq0, zk_lt0, zk_0lt, zk_long, lz_lt, lz_gt, zmax, zmin, ↓reduceIte, Int.reduceEq, Int.reduceLT, Int.reduceNeg, Int.reduceAdd, Int.reduceSub, Int.reduceMul, Int.ofNat_eq_natCast, Int.cast_ofNat_Int]
      have := ih (b - 1) (by omega) (by omega)
      rw [show ((b - 1 : Nat) : Int) = b + -1 by omega] at this
      exact Ev.ite (fun _ => this) (fun q => absurd q (by omega))
  exact key (30 - h) 30 (by have := hh.1; omega) (by omega)
theorem reach23_ev (hA : WA e z) (hT : ToA J (tpC C)) {N : Nat} (hN : RiN (tpC C) N) {p : Int} (p0 : 0 ≤ p) (p1 : p < 2147483648) : ∀ (b : Nat) (m d : Int), b ≤ 31 → 0 ≤ m → m < 80 → 0 ≤ d → d < 15 → Ev (fun F => J6_reach_23 F (rf e 6 0) (xk p) (xk ((b : Int) - 1)) (HS e (plC C m d) I z)) (rI (wlF (tpC C) N p b m d).1 (HS e (plC C (wlF (tpC C) N p b m d).2.1 (wlF (tpC C) N p b m d).2.2) I z)) := by
  intro b
  induction b with
  | zero =>
    intro m d hb m0 m1 d0 d1
    rw [show ((0 : Nat) : Int) - 1 = -1 from rfl]
    refine Ev.step (fun F => E6_reach_23 F _ _ _ _) ?_
    simp (disch := omega) only [d_6 hA, g_6_0 hA, g_6_1 hA, Option.bind_some, up_s, up_k, up_j, up_i, xk_add, xk_sub, xk_mul, xk_neg, lk_add, lN_z, rf_none, rb1, rb0, rbp, xk_nI, zk_eq, zk_lt, zk_eq0, zk_lt0, zk_0lt, zk_long, lz_lt, lz_gt, zmax, zmin, ↓reduceIte, Int.reduceEq, Int.reduceLT, Int.reduceNeg, Int.reduceAdd, Int.reduceSub, Int.reduceMul, Int.ofNat_eq_natCast, Int.cast_ofNat_Int]
    exact Ev.ret rfl
  | succ b ih =>
    intro m d hb m0 m1 d0 d1
    have hm : 0 ≤ p / 2 ^ b := Int.ediv_nonneg p0 (Int.le_of_lt (Int.pow_pos (by decide)))
    have hm2 : p / 2 ^ b ≤ p := Int.ediv_le_self _ p0
    have es : xk p >>> (xk (b : Int) &&& 31) = xk (p / 2 ^ b) := shr p0 p1 (by omega)
    rw [show ((b + 1 : Nat) : Int) - 1 = b by omega, wlF]
    refine Ev.step (fun F => E6_reach_23 F _ _ _ _) ?_
    simp (disch := omega) only [d_6 hA, g_6_0 hA, g_6_1 hA, Option.bind_some, up_s, up_k, up_j, up_i, xk_add, xk_sub, xk_mul, xk_neg, lk_add, lN_z, rf_none, rb1, rb0, rbp, xk_nI, zk_eq, zk_lt, zk_eq0, zk_lt0, zk_0lt, zk_long, lz_lt, lz_gt, zmax, zmin, ↓reduceIte, Int.reduceEq, Int.reduceLT, Int.reduceNeg, Int.reduceAdd, Int.reduceSub, Int.reduceMul, Int.ofNat_eq_natCast, Int.cast_ofNat_Int, plC_m, plC_d]
    refine Ev.ite (fun q => absurd q (by omega)) (fun _ => ?_)
    refine Ev.ite (fun q => ?_) (fun q => Ev.ret (by rw [if_neg q]; rfl))
    rw [if_pos q, es, and1 hm (by omega)]
    try simp (disch := omega) only [d_6 hA, g_6_0 hA, g_6_1 hA, Option.bind_some, up_s, up_k, up_j, up_i, xk_add, xk_sub, xk_mul, xk_neg, lk_add, lN_z, rf_none, rb1, rb0, rbp, xk_nI, zk_eq, zk_lt, zk_eq0, zk_lt0, zk_0lt, zk_long, lz_lt, lz_gt, zmax, zmin, ↓reduceIte, Int.reduceEq, Int.reduceLT, Int.reduceNeg, Int.reduceAdd, Int.reduceSub, Int.reduceMul, Int.ofNat_eq_natCast, Int.cast_ofNat_Int]
    have rb := ri_b hT N m (2 * d + 1 + p / 2 ^ b % 2) m0 m1 (by omega) (by omega)
    refine Ev.kV (enter_ev hA hT m0 m1 (by omega) (by omega) (hN _ _ m0 m1 (by omega) (by omega))) ?_
    exact ih _ _ (by omega) rb.1.1 rb.1.2 rb.2.1 rb.2.2
theorem plC_self : plC C (C 6 0 0) (C 6 0 1) = C := by
  unfold plC
  have : up C 6 0 0 (C 6 0 0) = C := up_id
  rw [this, up_id]
/-- the same answers as waF's, the same place -/
theorem reach_ev (hA : WA e z) (hC : Cpl e C J) (hT : TI J) {N : Nat} (hN : RiN (tpC C) N) {v p : Int} {h : Nat} (v0 : 0 ≤ v) (v1 : v < (J 12 0 28)) (p0 : -2147483648 ≤ p) (p1 : p < 2147483648) (hh : 1 ≤ p → hbP p h) : Ev (fun F => J6_reach F (rf e 6 0) (rf e 10 v) (xk p) (HS e C I z)) (if p < 1 then rI 0 (HS e C I z) else rI (wlF (tpC C) N p h (riF (tpC C) N (J 49 0 v) 0).1 (riF (tpC C) N (J 49 0 v) 0).2).1 (HS e (plC C (wlF (tpC C) N p h (riF (tpC C) N (J 49 0 v) 0).1 (riF (tpC C) N (J 49 0 v) 0).2).2.1 (wlF (tpC C) N p h (riF (tpC C) N (J 49 0 v) 0).1 (riF (tpC C) N (J 49 0 v) 0).2).2.2) I z)) := by
  have n8 := hC.1.1
  have n7 := hC.2.1.1
  have n1 := hC.2.2.1.1
  have n10 := hC.2.2.2.2.1.1
  have hB := hT.1
  have := RB.tasks hB
  have := RB.spaces hB
  have := RB.groups hB
  have := RB.views hB
  have n4 := hA.2.2.2.1
  have := RB.root hB (j := v) (by omega) (by omega)
  have hr := hC.2.2.2.2.1.2.1 v v0 v1
  refine Ev.step (fun F => E6_reach F _ _ _ _) ?_
  simp (disch := omega) only [d_6 hA, g_10_1 hA, Option.bind_some, up_s, up_k, up_j, up_i, xk_add, xk_sub, xk_mul, xk_neg, lk_add, lN_z, rf_none, rb1, rb0, rbp, xk_nI, zk_eq, zk_lt, zk_eq0, zk_lt0, zk_0lt, zk_long, lz_lt, lz_gt, zmax, zmin, ↓reduceIte, Int.reduceEq, Int.reduceLT, Int.reduceNeg, Int.reduceAdd, Int.reduceSub, Int.reduceMul, Int.ofNat_eq_natCast, Int.cast_ofNat_Int]
  refine Ev.ite (fun q => Ev.ret (by rw [if_pos q]; rfl)) (fun q => ?_)
  rw [if_neg q]
  have h1 := hh (by omega)
  have hA2 := hC.toa
  have rb := ri_b hA2 N (J 49 0 v) 0 (by omega) (by omega) (by omega) (by omega)
  try simp (disch := omega) only [d_6 hA, g_10_1 hA, Option.bind_some, up_s, up_k, up_j, up_i, xk_add, xk_sub, xk_mul, xk_neg, lk_add, lN_z, rf_none, rb1, rb0, rbp, xk_nI, zk_eq, zk_lt, zk_eq0, zk_lt0, zk_0lt, zk_long, lz_lt, lz_gt, zmax, zmin, ↓reduceIte, Int.reduceEq, Int.reduceLT, Int.reduceNeg, Int.reduceAdd, Int.reduceSub, Int.reduceMul, Int.ofNat_eq_natCast, Int.cast_ofNat_Int, hr]
  have he := enter_ev (I := I) (m' := C 6 0 0) (d' := C 6 0 1) hA hA2 (n := N) (m := (J 49 0 v)) (d := 0) (by omega) (by omega) (by omega) (by omega) (hN _ _ (by omega) (by omega) (by omega) (by omega))
  rw [plC_self] at he
  refine Ev.kV he ?_
  refine Ev.kI (highest_ev (by omega) p1 h1) ?_
  try simp (disch := omega) only [d_6 hA, g_10_1 hA, Option.bind_some, up_s, up_k, up_j, up_i, xk_add, xk_sub, xk_mul, xk_neg, lk_add, lN_z, rf_none, rb1, rb0, rbp, xk_nI, zk_eq, zk_lt, zk_eq0, zk_lt0, zk_0lt, zk_long, lz_lt, lz_gt, zmax, zmin, ↓reduceIte, Int.reduceEq, Int.reduceLT, Int.reduceNeg, Int.reduceAdd, Int.reduceSub, Int.reduceMul, Int.ofNat_eq_natCast, Int.cast_ofNat_Int]
  exact reach23_ev hA hA2 hN (by omega) p1 h _ _ (by have := h1.1; omega) rb.1.1 rb.1.2 rb.2.1 rb.2.2
end CL
