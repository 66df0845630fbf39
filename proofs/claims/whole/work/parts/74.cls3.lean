/-! the class: vanish, end -/
/-- t's numbers in the spaces around s are dropped -/
def drC (J C : ST) (t s : Int) : ST := fun k i j => if k = 15 ∧ 0 ≤ i ∧ lin J s i = true ∧ 1 ≤ j ∧ j ≤ 40 ∧ C 15 i j = t then -1 else C k i j
def vaC (J C : ST) (t : Int) : ST := drC J (up (up C 8 t 5 2) 8 t 3 (-1)) t (J 24 0 t)
section CL
variable {e : EN} {C I J : ST} {z : Nat × Nat × Nat × Nat}
theorem drop_ev (hA : WA e z) (n8 : (e.2.1 8) = (J 12 0 1)) (n7 : (e.2.1 7) = (J 12 0 13)) (tb : 1 ≤ (J 12 0 1)) {t s : Int} (t0 : 0 ≤ t) (t1 : t < (J 12 0 1)) (s0 : 0 ≤ s) (s1 : s < (J 12 0 13)) (hh : ∀ n, 1 ≤ n → n ≤ 40 → -1 ≤ (C 15 s n) ∧ (C 15 s n) < (J 12 0 1)) : Ev (fun F => J7_drop F (rf e 7 s) (rf e 8 t) (HS e C I z)) (rV (HS e (fun k i j => if k = 15 ∧ i = s ∧ 1 ≤ j ∧ j ≤ 40 ∧ C 15 i j = t then -1 else C k i j) I z)) := by
  have n4 := hA.2.2.2.1
  refine Ev.step (fun F => E7_drop F _ _ _) ?_
  refine lpN (P := fun n => ∀ C', 1 ≤ n → n ≤ 41 → C' = (fun k i j => if k = 15 ∧ i = s ∧ 1 ≤ j ∧ j < n ∧ C 15 i j = t then -1 else C k i j) → Ev (fun F => J7_drop_2 F (rf e 7 s) (rf e 8 t) (xk n) (HS e C' I z)) (rV (HS e (fun k i j => if k = 15 ∧ i = s ∧ 1 ≤ j ∧ j ≤ 40 ∧ C 15 i j = t then -1 else C k i j) I z))) 41 (fun n ih C' n0 nn hC => ?_) 1 C (by omega) (by omega) (by funext k i j; rw [if_neg (by omega)])
  refine Ev.step (fun F => E7_drop_2 F _ _ _ _) ?_
  simp (disch := omega) only [a_15 hA, g_7_3 hA, s_15 hA, sn_15 hA, Option.bind_some, up_s, up_k, up_j, up_i, xk_add, xk_sub, xk_mul, xk_neg, lk_add, lN_z, rf_none, rb1, rb0, rbp, xk_nI, zk_eq, zk_lt, zk_eq0, zk_lt0, zk_0lt, zk_long, lz_lt, lz_gt, zmax, zmin, ↓reduceIte, Int.reduceEq, Int.reduceLT, Int.reduceNeg, Int.reduceAdd, Int.reduceSub, Int.reduceMul, Int.ofNat_eq_natCast, Int.cast_ofNat_Int]
  refine Ev.ite (fun q => Ev.ret ?_) (fun q => ?_)
  · rw [hC]
    unfold rV
    congr 2
    funext k i j
    simp only [show ∀ j : Int, (j < n) = (j ≤ 40) from fun j => propext (by omega)]
  · have e1 : C' 15 s n = C 15 s n := by
      rw [hC]
      simp
    have := hh n n0 (by omega)
    try simp (disch := omega) only [a_15 hA, g_7_3 hA, s_15 hA, sn_15 hA, Option.bind_some, up_s, up_k, up_j, up_i, xk_add, xk_sub, xk_mul, xk_neg, lk_add, lN_z, rf_none, rb1, rb0, rbp, xk_nI, zk_eq, zk_lt, zk_eq0, zk_lt0, zk_0lt, zk_long, lz_lt, lz_gt, zmax, zmin, ↓reduceIte, Int.reduceEq, Int.reduceLT, Int.reduceNeg, Int.reduceAdd, Int.reduceSub, Int.reduceMul, Int.ofNat_eq_natCast, Int.cast_ofNat_Int, e1, rf_eq hA]
    refine Ev.ite (fun w => ih (by omega) _ (by omega) (by omega) ?_) (fun w => ih (by omega) _ (by omega) (by omega) ?_)
    · rw [hC]
      funext k i j
      simp only [up]
      clear ih hC hh
      grind
    · rw [hC]
      funext k i j
      clear ih hC hh
      grind
theorem vanish15_ev (hA : WA e z) (hB : RB J) (n8 : (e.2.1 8) = (J 12 0 1)) (n7 : (e.2.1 7) = (J 12 0 13)) {t : Int} (t0 : 0 ≤ t) (t1 : t < (J 12 0 1)) : ∀ s, -1 ≤ s → ∀ C : ST, s < (J 12 0 13) → (∀ s n, 0 ≤ s → s < (J 12 0 13) → 1 ≤ n → n ≤ 40 → -1 ≤ (C 15 s n) ∧ (C 15 s n) < (J 12 0 1)) → (∀ s, 0 ≤ s → s < (J 12 0 13) → (C 7 s 1) = (J 34 0 s)) → Ev (fun F => J8_vanish_15 F (rf e 8 t) (rf e 7 s) (HS e C I z)) (rV (HS e (drC J C t s) I z)) := by
  have := RB.tasks hB
  have := RB.spaces hB
  intro s hs
  refine lpD (P := fun s => ∀ C : ST, s < (J 12 0 13) → (∀ s n, 0 ≤ s → s < (J 12 0 13) → 1 ≤ n → n ≤ 40 → -1 ≤ (C 15 s n) ∧ (C 15 s n) < (J 12 0 1)) → (∀ s, 0 ≤ s → s < (J 12 0 13) → (C 7 s 1) = (J 34 0 s)) → Ev (fun F => J8_vanish_15 F (rf e 8 t) (rf e 7 s) (HS e C I z)) (rV (HS e (drC J C t s) I z))) (fun s s0 ih C s1 hh ho => ?_) s hs
  refine Ev.step (fun F => E8_vanish_15 F _ _ _) ?_
  simp (disch := omega) only [d_7 hA, g_7_1 hA, Option.bind_some, up_s, up_k, up_j, up_i, xk_add, xk_sub, xk_mul, xk_neg, lk_add, lN_z, rf_none, rb1, rb0, rbp, xk_nI, zk_eq, zk_lt, zk_eq0, zk_lt0, zk_0lt, zk_long, lz_lt, lz_gt, zmax, zmin, ↓reduceIte, Int.reduceEq, Int.reduceLT, Int.reduceNeg, Int.reduceAdd, Int.reduceSub, Int.reduceMul, Int.ofNat_eq_natCast, Int.cast_ofNat_Int]
  refine Ev.ite (fun h => Ev.ret ?_) (fun h => ?_)
  · unfold rV
    congr 2
    funext k i j
    unfold drC
    rw [if_neg]
    rintro ⟨-, i0, q, -⟩
    rw [lin_u hB (by omega) (by omega), if_neg (by omega), if_pos h] at q
    exact absurd q (by decide)
  · try simp (disch := omega) only [d_7 hA, g_7_1 hA, Option.bind_some, up_s, up_k, up_j, up_i, xk_add, xk_sub, xk_mul, xk_neg, lk_add, lN_z, rf_none, rb1, rb0, rbp, xk_nI, zk_eq, zk_lt, zk_eq0, zk_lt0, zk_0lt, zk_long, lz_lt, lz_gt, zmax, zmin, ↓reduceIte, Int.reduceEq, Int.reduceLT, Int.reduceNeg, Int.reduceAdd, Int.reduceSub, Int.reduceMul, Int.ofNat_eq_natCast, Int.cast_ofNat_Int]
    refine Ev.kV (drop_ev hA n8 n7 (by omega) t0 t1 (by omega) s1 (fun n a b => hh s n (by omega) s1 a b)) ?_
    have w := RB.aw hB s (by omega) (by omega)
    have e1 : ∀ i j, (fun k i j => if k = 15 ∧ i = s ∧ 1 ≤ j ∧ j ≤ 40 ∧ C 15 i j = t then -1 else C k i j) 7 i j = C 7 i j := fun i j => by simp
    simp (disch := omega) only [g_7_1 hA, e1, ho, Option.bind_some, up_s, up_k, up_j, up_i, xk_add, xk_sub, xk_mul, xk_neg, lk_add, lN_z, rf_none, rb1, rb0, rbp, xk_nI, zk_eq, zk_lt, zk_eq0, zk_lt0, zk_0lt, zk_long, lz_lt, lz_gt, zmax, zmin, ↓reduceIte, Int.reduceEq, Int.reduceLT, Int.reduceNeg, Int.reduceAdd, Int.reduceSub, Int.reduceMul, Int.ofNat_eq_natCast, Int.cast_ofNat_Int]
    have ed : drC J (fun k i j => if k = 15 ∧ i = s ∧ 1 ≤ j ∧ j ≤ 40 ∧ C 15 i j = t then -1 else C k i j) t (J 34 0 s) = drC J C t s := by
      funext k i j
      have hu := lin_u hB (o := i) (k := s) (by omega) (by omega)
      rw [if_neg (c := s < 0) (by omega)] at hu
      simp only [drC]
      by_cases hi : s = i
      · subst hi
        rw [if_pos rfl] at hu
        have hn : lin J (J 34 0 s) s = false := by
          rw [← Bool.not_eq_true]
          intro q
          have := chn_le (RB.aw hB) _ (by omega) (by omega) q
          omega
        simp only [hu, hn]
        clear ih hh ho
        grind
      · rw [if_neg hi] at hu
        rw [hu]
        clear ih hh ho
        grind
    rw [← ed]
    refine ih _ (by omega) (by omega) _ (by omega) (fun s' n a b c d => ?_) (fun s' a b => by rw [if_neg (by omega)]; exact ho s' a b)
    have := hh s' n a b c d
    split <;> omega
theorem vanish_ev (hA : WA e z) (hC : Cpl e C J) (hT : TI J) {t : Int} (t0 : 0 ≤ t) (t1 : t < (J 12 0 1)) : Ev (fun F => J8_vanish F (rf e 8 t) (HS e C I z)) (rV (HS e (vaC J C t) I z)) := by
  have n8 := hC.1.1
  have n7 := hC.2.1.1
  have n1 := hC.2.2.1.1
  have n10 := hC.2.2.2.2.1.1
  have hB := hT.1
  have := RB.tasks hB
  have := RB.spaces hB
  have := RB.groups hB
  have := RB.views hB
  have n4 := hA.2.2.2.1
  have b := hT.b t0 t1
  refine Ev.step (fun F => E8_vanish F _ _) ?_
  simp (disch := omega) only [g_8_1 hA, p_8_3 hA, p_8_5 hA, pn_8_3 hA, Option.bind_some, up_s, up_k, up_j, up_i, xk_add, xk_sub, xk_mul, xk_neg, lk_add, lN_z, rf_none, rb1, rb0, rbp, xk_nI, zk_eq, zk_lt, zk_eq0, zk_lt0, zk_0lt, zk_long, lz_lt, lz_gt, zmax, zmin, ↓reduceIte, Int.reduceEq, Int.reduceLT, Int.reduceNeg, Int.reduceAdd, Int.reduceSub, Int.reduceMul, Int.ofNat_eq_natCast, Int.cast_ofNat_Int, CT.space hC.1, CT.view hC.1, CT.parent hC.1, CT.group hC.1, CT.state hC.1, CT.pages hC.1, CT.points hC.1, CT.ticks hC.1, CT.asleep hC.1, CT.time hC.1, CP.outer hC.2.1, CP.depth hC.2.1, CP.init hC.2.1, CP.given hC.2.1, CG.outer hC.2.2.1, CG.depth hC.2.2.1, CG.max hC.2.2.1, CG.most hC.2.2.1, CG.weight hC.2.2.1, CG.quota hC.2.2.1, CG.cached hC.2.2.1, CG.ran hC.2.2.1, CG.time hC.2.2.1, CG.uses hC.2.2.1, CG.live hC.2.2.1, rf_eq hA]
  refine vanish15_ev hA hB n8 n7 t0 t1 (J 24 0 t) (by omega) _ (by omega) (fun s n a b c d => ?_) (fun s a b => ?_)
  · rw [up_k (by decide), up_k (by decide)]
    exact (hC.2.1.hold a b c d).1
  · rw [up_k (by decide), up_k (by decide)]
    exact hC.2.1.outer a b
theorem usF_fg {c : Int → Bool} (hc : ∀ j, c j = true → (J 22 0 j) ≠ 0) : usF (fgA J c) = usF J ∧ lvF (fgA J c) = lvF J := by
  have h2 : ∀ j, (fgA J c 22 0 j = 0) = (J 22 0 j = 0) := fun j => by
    have : fgA J c 22 0 j = if c j = true then 2 else J 22 0 j := by simp [fgA]
    rw [this]
    by_cases h : c j = true
    · have := hc j h
      rw [if_pos h]
      apply propext
      omega
    · rw [if_neg h]
  exact ⟨usF_c (by simp [fgA]) (by simp [fgA]) h2 (fun j => by simp [fgA]) (fun j => by simp [fgA]) (fun j => by simp [fgA]) (fun j => by simp [fgA]), lvF_c (by simp [fgA]) h2 (fun j => by simp [fgA]) (fun j => by simp [fgA])⟩
theorem Cpl.fg (hC : Cpl e C J) (hT : TI J) {t : Int} (t0 : 0 ≤ t) (t1 : t < (J 12 0 1)) (ht : (J 22 0 t) ≠ 0) : Cpl e (vaC J C t) (fgI J t) := by
  obtain ⟨h1, h2, h3, h4, h5, h6⟩ := hC
  have hB := hT.1
  have f0 : ∀ k i j, k ≠ 8 → k ≠ 15 → vaC J C t k i j = C k i j := fun k i j a b => by simp [vaC, drC, up, a, b]
  have e12 : ∀ j, fgI J t 12 0 j = J 12 0 j := fun j => by simp [fgI, fgA]
  have dr : ∀ k, k ≠ 22 → k ≠ 23 → k ≠ 32 → ∀ j, fgI J t k 0 j = J k 0 j := fun k a b c j => by simp [fgI, fgA, a, b, c]
  have d3 : ∀ x, fgI J t 23 0 x = if x = t then -1 else J 23 0 x := fun x => by simp [fgI, fgA]
  have d5 : ∀ x, fgI J t 22 0 x = if x = t then 2 else J 22 0 x := fun x => by simp [fgI, fgA]
  have d32 : ∀ x, fgI J t 32 0 x = if x / 20 = t then 0 else J 32 0 x := fun x => by simp [fgI, fgA]
  have us := usF_fg (J := J) (c := fun k => decide (k = t)) (fun j hj => by rw [of_decide_eq_true hj]; exact ht)
  have ed : dpS (fgI J t) = dpS J := by
    funext s
    unfold dpS
    rw [show (fun k => fgI J t 34 0 k) = (fun k => J 34 0 k) from funext (dr 34 (by decide) (by decide) (by decide))]
  refine ⟨⟨(e12 1).symm ▸ h1.1, fun x x0 x1 => ?_⟩, ⟨(e12 13).symm ▸ h2.1, fun s s0 s1 => ?_⟩, ?_, ?_, ?_, ?_⟩
  · rw [e12] at x1
    have q := h1.2 x x0 x1
    have c3 : vaC J C t 8 x 3 = if x = t then -1 else C 8 x 3 := by simp [vaC, drC, up]
    have c5 : vaC J C t 8 x 5 = if x = t then 2 else C 8 x 5 := by simp [vaC, drC, up]
    have cr : ∀ j, j ≠ 3 → j ≠ 5 → vaC J C t 8 x j = C 8 x j := fun j a b => by simp [vaC, drC, up, a, b]
    rw [c3, c5, d3, d5]
    simp (disch := decide) only [cr, dr]
    refine ⟨q.1, q.2.1, ?_, q.2.2.2.1, ?_, q.2.2.2.2.2⟩
    · rw [q.2.2.1]
    · rw [q.2.2.2.2.1]
  · rw [e12] at s1
    have q := h2.2 s s0 s1
    have c7 : ∀ j, vaC J C t 7 s j = C 7 s j := fun j => f0 _ _ _ (by decide) (by decide)
    rw [ed]
    simp (disch := decide) only [c7, dr]
    refine ⟨q.1, q.2.1, q.2.2.1, q.2.2.2.1, fun n n0 n1 => ?_, by simp [vaC, drC, up]; exact q.2.2.2.2.2⟩
    have hh := q.2.2.2.2.1 n n0 n1
    have tk := RB.tasks hB
    have sk := RB.spaces hB
    have c15 : vaC J C t 15 s n = if lin J (J 24 0 t) s = true ∧ C 15 s n = t then -1 else C 15 s n := by simp [vaC, drC, up, s0, n0, n1]
    rw [c15]
    have nu := hT.2.2.2.2.2.2 t s t0 t1 s0 s1
    refine ⟨?_, fun x x0 x1 => ?_⟩
    · rw [e12]
      have := hh.1
      split <;> omega
    · rw [e12] at x1
      have hx := hh.2 x x0 x1
      rw [d5, d32, show (20 * x + s) / 20 = x by omega]
      by_cases hxt : x = t
      · rw [hxt, if_pos rfl, if_pos rfl]
        constructor
        · intro w; exact absurd rfl w.1
        · intro w
          exfalso
          rw [hxt] at hx
          split at w
          · omega
          · rename_i hw
            have y := hx.mpr w
            have := (nu.2 y.1).mp (by omega)
            exact hw ⟨this, w.symm⟩
      · rw [if_neg hxt, if_neg hxt, hx]
        split
        · rename_i hw
          omega
        · exact Iff.rfl
  · exact h3.fr (fun i j _ => f0 _ _ _ (by decide) (by decide)) (e12 _) (fun k j a b => dr k (by omega) (by omega) (by omega) j) us.1 us.2
  · exact h4.fr (fun g => f0 _ _ _ (by decide) (by decide)) (fun g => f0 _ _ _ (by decide) (by decide)) (e12 _) (e12 _)
  · exact h5.fr (fun k i j h => f0 _ _ _ (by omega) (by omega)) (fun k i j a b => by simp only [fgI, fgA]; rw [if_neg (by omega), if_neg (by omega), if_neg (by omega)]) (e12 _) (e12 _)
  · exact h6.fr (f0 _ _ _ (by decide) (by decide)) (f0 _ _ _ (by decide) (by decide)) (fun j => f0 _ _ _ (by decide) (by decide)) (fun j => f0 _ _ _ (by decide) (by decide)) (e12 _) (e12 _)
end CL
