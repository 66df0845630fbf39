/-! the reference: reap, victims, caches -/
def rpZ (I : ST) (t k : Int) : Prop := 0 ≤ k ∧ k < (I 12 0 1) ∧ (I 22 0 k) = 1 ∧ (I 23 0 k) = t
/-- the zombie of t with the least number in space s; none is -1 -/
def RpR (I : ST) (t s x : Int) : Prop := (x = -1 ∧ ∀ k, ¬ rpZ I t k) ∨ (rpZ I t x ∧ ∀ k, rpZ I t k → k ≠ x → (I 32 0 (20 * x + s)) < (I 32 0 (20 * k + s)))
def rpI (I : ST) (x : Int) : ST := if x < 0 then I else fgI I x
def rpA (I : ST) (s x : Int) : Int := if x < 0 then 0 else (I 32 0 (20 * x + s))
section RA
variable {e : EN} {C I : ST} {z : Nat × Nat × Nat × Nat}
theorem reap27_ev (hA : WA e z) (hR : WR e) (hB : RB I) {t s x : Int} (t0 : 0 ≤ t) (t1 : t < 150) (s0 : 0 ≤ s) (s1 : s < 20) (hx : RpR I t s x) : Ev (fun F => J12_reap_27 F (rf e 12 0) (xk t) (xk (-1)) (xk s) (xk 0) (HS e C I z)) (rI (rpA I s x) (HS e C (rpI I x) z)) := by
  have := RB.tasks hB
  refine lpN (P := fun k => ∀ f, 0 ≤ k → k ≤ (I 12 0 1) → ((f = -1 ∧ ∀ j, j < k → ¬ rpZ I t j) ∨ (rpZ I t f ∧ ∀ j, j < k → rpZ I t j → (I 32 0 (20 * f + s)) ≤ (I 32 0 (20 * j + s)))) → Ev (fun F => J12_reap_27 F (rf e 12 0) (xk t) (xk f) (xk s) (xk k) (HS e C I z)) (rI (rpA I s x) (HS e C (rpI I x) z))) (I 12 0 1) (fun k ih f k0 k1 hf => ?_) 0 (-1) (by omega) (by omega) (Or.inl ⟨rfl, fun j hj q => by have := q.1; omega⟩)
  have fb : -1 ≤ f ∧ f < (I 12 0 1) := by
    rcases hf with hf | hf
    · omega
    · have := hf.1.1; have := hf.1.2.1; omega
  refine Ev.step (fun F => E12_reap_27 F _ _ _ _ _ _) ?_
  simp (disch := omega) only [a_22 hA hR, a_23 hA hR, a_32 hA hR, d_12 hA hR, g_12_1 hA hR, g_12_12 hA hR, g_12_2 hA hR, g_12_3 hA hR, Option.bind_some, up_s, up_k, up_j, up_i, xk_add, xk_sub, xk_mul, xk_neg, lk_add, lN_z, rf_none, rb1, rb0, rbp, xk_nI, zk_eq, zk_lt, zk_eq0, zk_lt0, zk_0lt, zk_long, lz_lt, lz_gt, zmax, zmin, ↓reduceIte, Int.reduceEq, Int.reduceLT, Int.reduceNeg, Int.reduceAdd, Int.reduceSub, Int.reduceMul, Int.ofNat_eq_natCast, Int.cast_ofNat_Int]
  refine Ev.ite (fun h => ?_) (fun h => ?_)
  · have := RB.state hB (j := k) (by omega) (by omega)
    have := RB.parent hB (j := k) (by omega) (by omega)
    have := RB.numbers hB (j := (20 * k + s)) (by omega) (by omega)
    have ih := fun f => ih h f (by omega) (by omega)
    have no : ¬ rpZ I t k → Ev (fun F => J12_reap_27 F (rf e 12 0) (xk t) (xk f) (xk s) (xk (k + 1)) (HS e C I z)) (rI (rpA I s x) (HS e C (rpI I x) z)) := by
      intro hn
      refine ih f ?_
      rcases hf with hf | hf
      · refine Or.inl ⟨hf.1, fun j hj q => ?_⟩
        by_cases hk : j = k
        · exact hn (hk ▸ q)
        · exact hf.2 j (by omega) q
      · refine Or.inr ⟨hf.1, fun j hj q => ?_⟩
        by_cases hk : j = k
        · exact absurd (hk ▸ q) hn
        · exact hf.2 j (by omega) q
    try simp (disch := omega) only [a_22 hA hR, a_23 hA hR, a_32 hA hR, d_12 hA hR, g_12_1 hA hR, g_12_12 hA hR, g_12_2 hA hR, g_12_3 hA hR, Option.bind_some, up_s, up_k, up_j, up_i, xk_add, xk_sub, xk_mul, xk_neg, lk_add, lN_z, rf_none, rb1, rb0, rbp, xk_nI, zk_eq, zk_lt, zk_eq0, zk_lt0, zk_0lt, zk_long, lz_lt, lz_gt, zmax, zmin, ↓reduceIte, Int.reduceEq, Int.reduceLT, Int.reduceNeg, Int.reduceAdd, Int.reduceSub, Int.reduceMul, Int.ofNat_eq_natCast, Int.cast_ofNat_Int]
    refine Ev.ite (fun hs => ?_) (fun hs => no (fun q => hs q.2.2.1))
    refine Ev.ite (fun hp => ?_) (fun hp => no (fun q => hp q.2.2.2))
    have hz : rpZ I t k := ⟨k0, h, hs, hp⟩
    refine Ev.ite (fun hn => ?_) (fun hn => ?_)
    · refine ih k (Or.inr ⟨hz, fun j hj q => ?_⟩)
      rcases hf with hf | hf
      · by_cases hk : j = k
        · rw [hk]; omega
        · exact absurd q (hf.2 j (by omega))
      · have := hf.1.1; omega
    · have := RB.numbers hB (j := (20 * f + s)) (by omega) (by omega)
      try simp (disch := omega) only [a_22 hA hR, a_23 hA hR, a_32 hA hR, d_12 hA hR, g_12_1 hA hR, g_12_12 hA hR, g_12_2 hA hR, g_12_3 hA hR, Option.bind_some, up_s, up_k, up_j, up_i, xk_add, xk_sub, xk_mul, xk_neg, lk_add, lN_z, rf_none, rb1, rb0, rbp, xk_nI, zk_eq, zk_lt, zk_eq0, zk_lt0, zk_0lt, zk_long, lz_lt, lz_gt, zmax, zmin, ↓reduceIte, Int.reduceEq, Int.reduceLT, Int.reduceNeg, Int.reduceAdd, Int.reduceSub, Int.reduceMul, Int.ofNat_eq_natCast, Int.cast_ofNat_Int]
      have hg := hf.resolve_left (fun q => hn q.1)
      refine Ev.ite (fun hl => ?_) (fun hl => ?_)
      · refine ih k (Or.inr ⟨hz, fun j hj q => ?_⟩)
        by_cases hk : j = k
        · rw [hk]; omega
        · have := hg.2 j (by omega) q; omega
      · refine ih f (Or.inr ⟨hg.1, fun j hj q => ?_⟩)
        by_cases hk : j = k
        · rw [hk]; omega
        · exact hg.2 j (by omega) q
  · refine Ev.ite (fun hn => ?_) (fun hn => ?_)
    · have : x = -1 := by
        rcases hx with hx | hx
        · exact hx.1
        · rcases hf with hf | hf
          · exact absurd hx.1 (hf.2 x (by have := hx.1.2.1; omega))
          · have := hf.1.1; omega
      subst this
      exact Ev.ret rfl
    · have hg := hf.resolve_left (fun q => hn q.1)
      have : f = x := by
        rcases hx with hx | hx
        · exact absurd hg.1 (hx.2 f)
        · by_cases hq : f = x
          · exact hq
          · have := hx.2 f hg.1 hq
            have := hg.2 x (by have := hx.1.2.1; omega) hx.1
            omega
      subst this
      have := RB.numbers hB (j := (20 * f + s)) (by omega) (by omega)
      try simp (disch := omega) only [a_22 hA hR, a_23 hA hR, a_32 hA hR, d_12 hA hR, g_12_1 hA hR, g_12_12 hA hR, g_12_2 hA hR, g_12_3 hA hR, Option.bind_some, up_s, up_k, up_j, up_i, xk_add, xk_sub, xk_mul, xk_neg, lk_add, lN_z, rf_none, rb1, rb0, rbp, xk_nI, zk_eq, zk_lt, zk_eq0, zk_lt0, zk_0lt, zk_long, lz_lt, lz_gt, zmax, zmin, ↓reduceIte, Int.reduceEq, Int.reduceLT, Int.reduceNeg, Int.reduceAdd, Int.reduceSub, Int.reduceMul, Int.ofNat_eq_natCast, Int.cast_ofNat_Int]
      refine Ev.kV (forget_ev hA hR hB (by omega) (by omega)) (Ev.ret ?_)
      rw [rpA, rpI, if_neg (by omega), if_neg (by omega)]
      rfl
def ctT (I : ST) (w k : Int) : Int := if (I 22 0 k) = w then 1 else 0
theorem count83_ev (hA : WA e z) (hR : WR e) (hB : RB I) {w : Int} (w0 : 0 ≤ w) (w1 : w < 10) : Ev (fun F => J12_count_83 F (rf e 12 0) (xk w) (xk 0) (xk 0) (HS e C I z)) (rI (sm (ctT I (w - 1)) (I 12 0 1)) (HS e C I z)) := by
  have := RB.tasks hB
  refine lpN (P := fun t => ∀ acc, 0 ≤ t → t ≤ (I 12 0 1) → acc = sm (ctT I (w - 1)) t → Ev (fun F => J12_count_83 F (rf e 12 0) (xk w) (xk acc) (xk t) (HS e C I z)) (rI (sm (ctT I (w - 1)) (I 12 0 1)) (HS e C I z))) (I 12 0 1) (fun t ih acc t0 t1 ha => ?_) 0 0 (by omega) (by omega) rfl
  refine Ev.step (fun F => E12_count_83 F _ _ _ _ _) ?_
  simp (disch := omega) only [a_22 hA hR, g_12_1 hA hR, g_12_2 hA hR, Option.bind_some, up_s, up_k, up_j, up_i, xk_add, xk_sub, xk_mul, xk_neg, lk_add, lN_z, rf_none, rb1, rb0, rbp, xk_nI, zk_eq, zk_lt, zk_eq0, zk_lt0, zk_0lt, zk_long, lz_lt, lz_gt, zmax, zmin, ↓reduceIte, Int.reduceEq, Int.reduceLT, Int.reduceNeg, Int.reduceAdd, Int.reduceSub, Int.reduceMul, Int.ofNat_eq_natCast, Int.cast_ofNat_Int]
  refine Ev.ite (fun h => ?_) (fun h => ?_)
  · have := RB.state hB (j := t) (by omega) (by omega)
    have ih := fun a => ih h a (by omega) (by omega)
    rw [sm_s t0, ← ha] at ih
    try simp (disch := omega) only [a_22 hA hR, g_12_1 hA hR, g_12_2 hA hR, Option.bind_some, up_s, up_k, up_j, up_i, xk_add, xk_sub, xk_mul, xk_neg, lk_add, lN_z, rf_none, rb1, rb0, rbp, xk_nI, zk_eq, zk_lt, zk_eq0, zk_lt0, zk_0lt, zk_long, lz_lt, lz_gt, zmax, zmin, ↓reduceIte, Int.reduceEq, Int.reduceLT, Int.reduceNeg, Int.reduceAdd, Int.reduceSub, Int.reduceMul, Int.ofNat_eq_natCast, Int.cast_ofNat_Int]
    refine Ev.ite (fun hs => ?_) (fun hs => ?_)
    · exact ih _ (by rw [ctT, if_pos hs])
    · exact ih _ (by rw [ctT, if_neg hs])
  · have : t = (I 12 0 1) := by omega
    subst this
    exact Ev.ret (by rw [ha]; rfl)
/-- a new group within o -/
def ngI (I : ST) (o : Int) : ST := up (up (up (up (up (up I 12 0 17 ((I 12 0 17) + 1)) 38 0 (I 12 0 17) o) 40 0 (I 12 0 17) 1000000) 39 0 (I 12 0 17) 150) 41 0 (I 12 0 17) 100) 45 0 (I 12 0 17) 0
theorem newGroup_ev (hA : WA e z) (hR : WR e) (hB : RB I) {o : Int} (h : (I 12 0 17) < 20) : Ev (fun F => J12_newGroup F (rf e 12 0) (xk o) (HS e C I z)) (rI (I 12 0 17) (HS e C (ngI I o) z)) := by
  have := RB.groups hB
  refine Ev.step (fun F => E12_newGroup F _ _ _) ?_
  simp (disch := omega) only [g_12_17 hA hR, g_12_18 hA hR, g_12_19 hA hR, g_12_20 hA hR, g_12_21 hA hR, g_12_25 hA hR, p_12_17 hA hR, s_38 hA hR, s_39 hA hR, s_40 hA hR, s_41 hA hR, s_45 hA hR, Option.bind_some, up_s, up_k, up_j, up_i, xk_add, xk_sub, xk_mul, xk_neg, lk_add, lN_z, rf_none, rb1, rb0, rbp, xk_nI, zk_eq, zk_lt, zk_eq0, zk_lt0, zk_0lt, zk_long, lz_lt, lz_gt, zmax, zmin, ↓reduceIte, Int.reduceEq, Int.reduceLT, Int.reduceNeg, Int.reduceAdd, Int.reduceSub, Int.reduceMul, Int.ofNat_eq_natCast, Int.cast_ofNat_Int, i32_m]
  exact Ev.ret rfl
/-- the next victim -/
def viS (I : ST) (g k b : Int) : Int := if k ≠ 0 ∧ (I 22 0 k) = 0 ∧ (I 28 0 k) ≠ -10 ∧ win I ((I 25 0 k)) g = true ∧ (b < 0 ∨ (I 27 0 b) + 100 * (I 28 0 b) ≤ (I 27 0 k) + 100 * (I 28 0 k)) then k else b
def viF (I : ST) (g : Int) : Int := fo (viS I g) (-1) (I 12 0 1)
theorem victim_ev (hA : WA e z) (hR : WR e) (hB : RB I) {g : Int} (g0 : -1 ≤ g) (g1 : g < 20) : Ev (fun F => J12_victim F (rf e 12 0) (xk g) (HS e C I z)) (rI (viF I g) (HS e C I z)) := by
  have := RB.tasks hB
  refine Ev.step (fun F => E12_victim F _ _ _) ?_
  refine lpN (P := fun k => ∀ b, 1 ≤ k → k ≤ (I 12 0 1) → -1 ≤ b → b < k → b = fo (viS I g) (-1) k → Ev (fun F => J12_victim_4 F (rf e 12 0) (xk g) (xk b) (xk k) (HS e C I z)) (rI (viF I g) (HS e C I z))) (I 12 0 1) (fun k ih b k0 k1 b0 b1 hb => ?_) 1 (-1) (by omega) (by omega) (by omega) (by omega) (by rw [show (1 : Int) = 0 + 1 from rfl, fo_s (by omega), viS, if_neg (by omega)]; rfl)
  refine Ev.step (fun F => E12_victim_4 F _ _ _ _ _) ?_
  simp (disch := omega) only [a_22 hA hR, a_25 hA hR, a_27 hA hR, a_28 hA hR, d_12 hA hR, g_12_1 hA hR, g_12_2 hA hR, g_12_5 hA hR, g_12_7 hA hR, g_12_8 hA hR, Option.bind_some, up_s, up_k, up_j, up_i, xk_add, xk_sub, xk_mul, xk_neg, lk_add, lN_z, rf_none, rb1, rb0, rbp, xk_nI, zk_eq, zk_lt, zk_eq0, zk_lt0, zk_0lt, zk_long, lz_lt, lz_gt, zmax, zmin, ↓reduceIte, Int.reduceEq, Int.reduceLT, Int.reduceNeg, Int.reduceAdd, Int.reduceSub, Int.reduceMul, Int.ofNat_eq_natCast, Int.cast_ofNat_Int]
  refine Ev.ite (fun h => ?_) (fun h => ?_)
  · have := RB.state hB (j := k) (by omega) (by omega)
    have := RB.badness hB (j := k) (by omega) (by omega)
    have := RB.pages hB (j := k) (by omega) (by omega)
    have := RB.group hB (j := k) (by omega) (by omega)
    have ih := fun b => ih h b (by omega) (by omega)
    rw [fo_s (by omega), ← hb, viS] at ih
    have no : ¬ (k ≠ 0 ∧ (I 22 0 k) = 0 ∧ (I 28 0 k) ≠ -10 ∧ win I ((I 25 0 k)) g = true ∧ (b < 0 ∨ (I 27 0 b) + 100 * (I 28 0 b) ≤ (I 27 0 k) + 100 * (I 28 0 k))) → Ev (fun F => J12_victim_4 F (rf e 12 0) (xk g) (xk b) (xk (k + 1)) (HS e C I z)) (rI (viF I g) (HS e C I z)) := fun q => ih b (by omega) (by omega) (by rw [if_neg q])
    have yes : (k ≠ 0 ∧ (I 22 0 k) = 0 ∧ (I 28 0 k) ≠ -10 ∧ win I ((I 25 0 k)) g = true ∧ (b < 0 ∨ (I 27 0 b) + 100 * (I 28 0 b) ≤ (I 27 0 k) + 100 * (I 28 0 k))) → Ev (fun F => J12_victim_4 F (rf e 12 0) (xk g) (xk k) (xk (k + 1)) (HS e C I z)) (rI (viF I g) (HS e C I z)) := fun q => ih k (by omega) (by omega) (by rw [if_pos q])
    try simp (disch := omega) only [a_22 hA hR, a_25 hA hR, a_27 hA hR, a_28 hA hR, d_12 hA hR, g_12_1 hA hR, g_12_2 hA hR, g_12_5 hA hR, g_12_7 hA hR, g_12_8 hA hR, Option.bind_some, up_s, up_k, up_j, up_i, xk_add, xk_sub, xk_mul, xk_neg, lk_add, lN_z, rf_none, rb1, rb0, rbp, xk_nI, zk_eq, zk_lt, zk_eq0, zk_lt0, zk_0lt, zk_long, lz_lt, lz_gt, zmax, zmin, ↓reduceIte, Int.reduceEq, Int.reduceLT, Int.reduceNeg, Int.reduceAdd, Int.reduceSub, Int.reduceMul, Int.ofNat_eq_natCast, Int.cast_ofNat_Int]
    refine Ev.ite (fun hs => ?_) (fun hs => no (fun q => hs q.2.1))
    refine Ev.ite (fun hw => no (fun q => q.2.2.1 hw)) (fun hw => ?_)
    refine Ev.kB (isWithin_ev hA hR hB g0 g1 (by omega) (by omega)) (fun hi => ?_) (fun hi => ?_)
    · try simp (disch := omega) only [a_22 hA hR, a_25 hA hR, a_27 hA hR, a_28 hA hR, d_12 hA hR, g_12_1 hA hR, g_12_2 hA hR, g_12_5 hA hR, g_12_7 hA hR, g_12_8 hA hR, Option.bind_some, up_s, up_k, up_j, up_i, xk_add, xk_sub, xk_mul, xk_neg, lk_add, lN_z, rf_none, rb1, rb0, rbp, xk_nI, zk_eq, zk_lt, zk_eq0, zk_lt0, zk_0lt, zk_long, lz_lt, lz_gt, zmax, zmin, ↓reduceIte, Int.reduceEq, Int.reduceLT, Int.reduceNeg, Int.reduceAdd, Int.reduceSub, Int.reduceMul, Int.ofNat_eq_natCast, Int.cast_ofNat_Int]
      refine Ev.ite (fun hn => yes ⟨by omega, hs, hw, hi, by omega⟩) (fun hn => ?_)
      have := RB.badness hB (j := b) (by omega) (by omega)
      have := RB.pages hB (j := b) (by omega) (by omega)
      try simp (disch := omega) only [a_22 hA hR, a_25 hA hR, a_27 hA hR, a_28 hA hR, d_12 hA hR, g_12_1 hA hR, g_12_2 hA hR, g_12_5 hA hR, g_12_7 hA hR, g_12_8 hA hR, Option.bind_some, up_s, up_k, up_j, up_i, xk_add, xk_sub, xk_mul, xk_neg, lk_add, lN_z, rf_none, rb1, rb0, rbp, xk_nI, zk_eq, zk_lt, zk_eq0, zk_lt0, zk_0lt, zk_long, lz_lt, lz_gt, zmax, zmin, ↓reduceIte, Int.reduceEq, Int.reduceLT, Int.reduceNeg, Int.reduceAdd, Int.reduceSub, Int.reduceMul, Int.ofNat_eq_natCast, Int.cast_ofNat_Int]
      exact Ev.ite (fun hl => no (fun q => by omega)) (fun hl => yes ⟨by omega, hs, hw, hi, by omega⟩)
    · try simp (disch := omega) only [a_22 hA hR, a_25 hA hR, a_27 hA hR, a_28 hA hR, d_12 hA hR, g_12_1 hA hR, g_12_2 hA hR, g_12_5 hA hR, g_12_7 hA hR, g_12_8 hA hR, Option.bind_some, up_s, up_k, up_j, up_i, xk_add, xk_sub, xk_mul, xk_neg, lk_add, lN_z, rf_none, rb1, rb0, rbp, xk_nI, zk_eq, zk_lt, zk_eq0, zk_lt0, zk_0lt, zk_long, lz_lt, lz_gt, zmax, zmin, ↓reduceIte, Int.reduceEq, Int.reduceLT, Int.reduceNeg, Int.reduceAdd, Int.reduceSub, Int.reduceMul, Int.ofNat_eq_natCast, Int.cast_ofNat_Int]
      exact no (fun q => hi q.2.2.2.1)
  · have : k = (I 12 0 1) := by omega
    subst this
    exact Ev.ret (by rw [hb]; rfl)
/-- the richest cache in a group -/
def rcS (I : ST) (g k b : Int) : Int := if win I k g = true ∧ 0 < (I 43 0 k) ∧ (b < 0 ∨ (I 43 0 b) < (I 43 0 k)) then k else b
def rcF (I : ST) (g : Int) : Int := fo (rcS I g) (-1) (I 12 0 17)
end RA
