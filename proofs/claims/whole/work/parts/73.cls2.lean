/-! the class: retire -/
def TG (J : ST) : Prop := ∀ t, 0 ≤ t → t < (J 12 0 1) → (J 22 0 t) = 2 → (J 23 0 t) = -1
theorem TG.en {J : ST} (h : TG J) {t : Int} (ht : (J 22 0 t) ≠ 2) : TG (enI J t) := by
  intro x x0 x1 hs
  simp only [enI, enN] at *
  grind [TG]
theorem TG.fg {J : ST} (h : TG J) {c : Int → Bool} : TG (fgA J c) := by
  intro x x0 x1 hs
  simp only [fgA] at *
  grind [TG]
/-- children of t below n go to h -/
def paC (C : ST) (t h n : Int) : ST := fun k i j => if k = 8 ∧ j = 3 ∧ 0 ≤ i ∧ i < n ∧ C 8 i 3 = t then h else C k i j
def rtC (J C : ST) (t : Int) : ST := paC (up (adG J (adG J (up C 8 t 5 1) 7 (J 25 0 t) (-(J 27 0 t))) 8 (J 25 0 t) (-1)) 8 t 6 0) t (heI J t) (J 12 0 1)
theorem usF_en {J : ST} (hT : TI J) {t g : Int} (t0 : 0 ≤ t) (t1 : t < (J 12 0 1)) (ht : (J 22 0 t) = 0) : usF (enI J t) g = usF J g - (if win J (J 25 0 t) g = true then (J 27 0 t) else 0) := by
  have ew : win (enI J t) = win J := win_c (fun k => by simp [enI, enN])
  have e1 : enI J t 12 0 1 = (J 12 0 1) := by simp [enI, enN]
  have e2 : enI J t 12 0 17 = (J 12 0 17) := by simp [enI, enN]
  have e25 : ∀ j, enI J t 25 0 j = J 25 0 j := fun j => by simp [enI, enN]
  have e27 : ∀ j, j ≠ t → enI J t 27 0 j = J 27 0 j := fun j h => by simp [enI, enN, h]
  have e22 : ∀ j, j ≠ t → enI J t 22 0 j = J 22 0 j := fun j h => by simp [enI, enN, h]
  have e43 : ∀ j, enI J t 43 0 j = J 43 0 j := fun j => by simp [enI, enN]
  have et : enI J t 22 0 t = 1 := by simp [enI, enN]
  unfold usF
  rw [e1, e2]
  have a := sm_u (f := usT J g) (f' := usT (enI J t) g) (n := (J 12 0 1)) (x := t) t0 t1 (fun k _ _ hk => by unfold usT; rw [ew, e25, e27 k hk, e22 k hk])
  have b : sm (usK (enI J t) g) (J 12 0 17) = sm (usK J g) (J 12 0 17) := sm_c (fun k _ _ => by unfold usK; rw [ew, e43])
  have c : usT (enI J t) g t = 0 := by unfold usT; rw [if_neg (by omega)]
  have d : usT J g t = if win J (J 25 0 t) g = true then (J 27 0 t) else 0 := by
    unfold usT
    simp only [ht, true_and]
  rw [a, b, c, d]
  omega
theorem lvF_en {J : ST} {t g : Int} (t0 : 0 ≤ t) (t1 : t < (J 12 0 1)) (ht : (J 22 0 t) = 0) : lvF (enI J t) g = lvF J g - (if win J (J 25 0 t) g = true then 1 else 0) := by
  have ew : win (enI J t) = win J := win_c (fun k => by simp [enI, enN])
  have e1 : enI J t 12 0 1 = (J 12 0 1) := by simp [enI, enN]
  have e25 : ∀ j, enI J t 25 0 j = J 25 0 j := fun j => by simp [enI, enN]
  have e22 : ∀ j, j ≠ t → enI J t 22 0 j = J 22 0 j := fun j h => by simp [enI, enN, h]
  have et : enI J t 22 0 t = 1 := by simp [enI, enN]
  unfold lvF
  rw [e1]
  have a := sm_u (f := lvT J g) (f' := lvT (enI J t) g) (n := (J 12 0 1)) (x := t) t0 t1 (fun k _ _ hk => by unfold lvT; rw [ew, e25, e22 k hk])
  have c : lvT (enI J t) g t = 0 := by unfold lvT; rw [if_neg (by omega)]
  have d : lvT J g t = if win J (J 25 0 t) g = true then 1 else 0 := by
    unfold lvT
    simp only [ht, true_and]
  rw [a, c, d]
  omega
section CL
variable {e : EN} {C I J : ST} {z : Nat × Nat × Nat × Nat}
theorem Cpl.en (hC : Cpl e C J) (hT : TI J) (hG : TG J) {t : Int} (t0 : 0 < t) (t1 : t < (J 12 0 1)) (ht : (J 22 0 t) = 0) : Cpl e (rtC J C t) (enI J t) := by
  obtain ⟨h1, h2, h3, h4, h5, h6⟩ := hC
  have f0 : ∀ k i j, k ≠ 8 → k ≠ 1 → rtC J C t k i j = C k i j := fun k i j a b => by simp [rtC, paC, adG, up, a, b]
  have f1 : ∀ i j, j ≠ 7 → j ≠ 8 → rtC J C t 1 i j = C 1 i j := fun i j a b => by simp [rtC, paC, adG, up, a, b]
  have f7 : ∀ i, 0 ≤ i → rtC J C t 1 i 7 = C 1 i 7 - (if win J (J 25 0 t) i = true then (J 27 0 t) else 0) := fun i i0 => by
    simp only [rtC, paC, adG, up]
    grind
  have f8 : ∀ i, 0 ≤ i → rtC J C t 1 i 8 = C 1 i 8 - (if win J (J 25 0 t) i = true then 1 else 0) := fun i i0 => by
    simp only [rtC, paC, adG, up]
    grind
  have e12 : ∀ j, enI J t 12 0 j = J 12 0 j := fun j => by simp [enI, enN]
  refine ⟨⟨(e12 1).symm ▸ h1.1, fun x x0 x1 => ?_⟩, ?_, ⟨(e12 17).symm ▸ h3.1, fun g g0 g1 => ?_⟩, ?_, ?_, ?_⟩
  · rw [e12] at x1
    have q := h1.2 x x0 x1
    have c3 : rtC J C t 8 x 3 = if C 8 x 3 = t then heI J t else C 8 x 3 := by simp [rtC, paC, adG, up, x0, x1]
    have c5 : rtC J C t 8 x 5 = if x = t then 1 else C 8 x 5 := by simp [rtC, paC, adG, up]
    have c6 : rtC J C t 8 x 6 = if x = t then 0 else C 8 x 6 := by simp [rtC, paC, adG, up]
    have cr : ∀ j, j ≠ 3 → j ≠ 5 → j ≠ 6 → rtC J C t 8 x j = C 8 x j := fun j a b c => by simp [rtC, paC, adG, up, a, b, c]
    have d3 : enI J t 23 0 x = if J 22 0 x ≠ 2 ∧ J 23 0 x = t then heI J t else J 23 0 x := by simp [enI, enN, x0, x1]
    have d5 : enI J t 22 0 x = if x = t then 1 else J 22 0 x := by simp [enI, enN]
    have d6 : enI J t 27 0 x = if x = t then 0 else J 27 0 x := by simp [enI, enN]
    have dr : ∀ k, k ≠ 22 → k ≠ 23 → k ≠ 27 → enI J t k 0 x = J k 0 x := fun k a b c => by simp [enI, enN, a, b, c]
    rw [c3, c5, c6, d3, d5, d6, cr 1 (by decide) (by decide) (by decide), cr 2 (by decide) (by decide) (by decide), cr 4 (by decide) (by decide) (by decide), cr 7 (by decide) (by decide) (by decide), cr 8 (by decide) (by decide) (by decide), cr 9 (by decide) (by decide) (by decide), cr 10 (by decide) (by decide) (by decide), dr 24 (by decide) (by decide) (by decide), dr 26 (by decide) (by decide) (by decide), dr 25 (by decide) (by decide) (by decide), dr 28 (by decide) (by decide) (by decide), dr 31 (by decide) (by decide) (by decide), dr 29 (by decide) (by decide) (by decide), dr 30 (by decide) (by decide) (by decide)]
    have gg := hG x x0 x1
    refine ⟨q.1, q.2.1, ?_, q.2.2.2.1, ?_, ?_, q.2.2.2.2.2.2⟩
    · rw [q.2.2.1]
      by_cases hp : J 23 0 x = t
      · rw [if_pos hp, if_pos ⟨fun w => by have := gg w; omega, hp⟩]
      · rw [if_neg hp, if_neg (fun w => hp w.2)]
    · rw [q.2.2.2.2.1]
    · rw [q.2.2.2.2.2.1]
  · refine h2.fr (fun i j => f0 _ _ _ (by decide) (by decide)) (fun i j => f0 _ _ _ (by decide) (by decide)) (e12 _) (fun j => by simp [enI, enN]) (fun j => by simp [enI, enN]) (fun j => by simp [enI, enN]) (HoR_c (e12 _) (fun j => ?_) (fun j => by simp [enI, enN]))
    have : enI J t 22 0 j = if j = t then 1 else J 22 0 j := by simp [enI, enN]
    rw [this]
    by_cases hj : j = t
    · subst hj; simp [ht]
    · rw [if_neg hj]
  · rw [e12] at g1
    have q := h3.2 g g0 g1
    have dr : ∀ k, k ≠ 22 → k ≠ 23 → k ≠ 27 → ∀ j, enI J t k 0 j = J k 0 j := fun k a b c j => by simp [enI, enN, a, b, c]
    have ed : dpG (enI J t) = dpG J := by
      funext s
      unfold dpG
      rw [show (fun k => enI J t 38 0 k) = (fun k => J 38 0 k) from funext (dr 38 (by decide) (by decide) (by decide))]
    rw [usF_en hT (by omega) t1 ht, lvF_en (by omega) t1 ht, f7 g g0, f8 g g0, ed]
    simp (disch := decide) only [f1, dr]
    rw [← q.2.2.2.2.2.2.2.2.2.1, ← q.2.2.2.2.2.2.2.2.2.2]
    exact ⟨q.1, q.2.1, q.2.2.1, q.2.2.2.1, q.2.2.2.2.1, q.2.2.2.2.2.1, q.2.2.2.2.2.2.1, q.2.2.2.2.2.2.2.1, q.2.2.2.2.2.2.2.2.1, rfl, rfl⟩
  · exact h4.fr (fun g => f1 _ _ (by decide) (by decide)) (fun g => f1 _ _ (by decide) (by decide)) (e12 _) (e12 _)
  · exact h5.fr (fun k i j h => f0 _ _ _ (by omega) (by omega)) (fun k i j a b => by simp only [enI, enN]; rw [if_neg (by omega), if_neg (by omega), if_neg (by omega)]) (e12 _) (e12 _)
  · exact h6.fr (f0 _ _ _ (by decide) (by decide)) (f0 _ _ _ (by decide) (by decide)) (fun j => f0 _ _ _ (by decide) (by decide)) (fun j => f0 _ _ _ (by decide) (by decide)) (e12 _) (e12 _)
theorem retire37_ev (hA : WA e z) (n8 : (e.2.1 8) = (J 12 0 1)) (hb : (J 12 0 1) ≤ 150) {t h : Int} (t0 : 0 ≤ t) (t1 : t < (J 12 0 1)) (h0 : 0 ≤ h) (h1 : h < (J 12 0 1)) (hp : ∀ x, 0 ≤ x → x < (J 12 0 1) → -1 ≤ (C 8 x 3) ∧ (C 8 x 3) < (J 12 0 1)) : Ev (fun F => J9_retire_37 F (rf e 9 0) (rf e 8 t) (rf e 8 h) (xk 0) (HS e C I z)) (rV (HS e (paC C t h (J 12 0 1)) I z)) := by
  refine lpN (P := fun n => ∀ C', 0 ≤ n → n ≤ (J 12 0 1) → C' = paC C t h n → Ev (fun F => J9_retire_37 F (rf e 9 0) (rf e 8 t) (rf e 8 h) (xk n) (HS e C' I z)) (rV (HS e (paC C t h (J 12 0 1)) I z))) (J 12 0 1) (fun n ih C' n0 nn hC => ?_) 0 C (by omega) (by omega) ?_
  · refine Ev.step (fun F => E9_retire_37 F _ _ _ _ _) ?_
    simp (disch := omega) only [b_13 hA, g_8_3 hA, g_9_0 hA, g_9_2 hA, p_8_3 hA, pn_8_3 hA, Option.bind_some, up_s, up_k, up_j, up_i, xk_add, xk_sub, xk_mul, xk_neg, lk_add, lN_z, rf_none, rb1, rb0, rbp, xk_nI, zk_eq, zk_lt, zk_eq0, zk_lt0, zk_0lt, zk_long, lz_lt, lz_gt, zmax, zmin, ↓reduceIte, Int.reduceEq, Int.reduceLT, Int.reduceNeg, Int.reduceAdd, Int.reduceSub, Int.reduceMul, Int.ofNat_eq_natCast, Int.cast_ofNat_Int]
    refine Ev.ite (fun q => ?_) (fun q => ?_)
    · have e1 : C' 8 n 3 = C 8 n 3 := by
        rw [hC]
        simp [paC]
      have := hp n n0 (by omega)
      try simp (disch := omega) only [b_13 hA, g_8_3 hA, g_9_0 hA, g_9_2 hA, p_8_3 hA, pn_8_3 hA, Option.bind_some, up_s, up_k, up_j, up_i, xk_add, xk_sub, xk_mul, xk_neg, lk_add, lN_z, rf_none, rb1, rb0, rbp, xk_nI, zk_eq, zk_lt, zk_eq0, zk_lt0, zk_0lt, zk_long, lz_lt, lz_gt, zmax, zmin, ↓reduceIte, Int.reduceEq, Int.reduceLT, Int.reduceNeg, Int.reduceAdd, Int.reduceSub, Int.reduceMul, Int.ofNat_eq_natCast, Int.cast_ofNat_Int, e1, rf_eq hA]
      refine Ev.ite (fun w => ih (by omega) _ (by omega) (by omega) ?_) (fun w => ih (by omega) _ (by omega) (by omega) ?_)
      · rw [hC]
        funext k i j
        simp only [paC, up]
        clear ih hC hp
        grind
      · rw [hC]
        funext k i j
        simp only [paC]
        clear ih hC hp
        grind
    · have : n = (J 12 0 1) := by omega
      subst this
      exact Ev.ret (by rw [hC]; rfl)
  · funext k i j
    simp only [paC]
    rw [if_neg (by omega)]
theorem retire_ev (hA : WA e z) (hC : Cpl e C J) (hT : TI J) (hG : TG J) {t : Int} (t0 : 0 < t) (t1 : t < (J 12 0 1)) (ht : (J 22 0 t) = 0) : Ev (fun F => J9_retire F (rf e 9 0) (rf e 8 t) (HS e C I z)) (rV (HS e (rtC J C t) I z)) := by
  have n8 := hC.1.1
  have n7 := hC.2.1.1
  have n1 := hC.2.2.1.1
  have n10 := hC.2.2.2.2.1.1
  have hB := hT.1
  have := RB.tasks hB
  have := RB.spaces hB
  have := RB.groups hB
  have := RB.views hB
  have n4 := hA.2.2.2.1
  have b := hT.b (by omega) t1
  have hh := hT.hei t0 t1
  refine Ev.step (fun F => E9_retire F _ _ _) ?_
  simp (disch := omega) only [d_1 hA, d_8 hA, g_8_4 hA, g_8_6 hA, p_8_5 hA, p_8_6 hA, Option.bind_some, up_s, up_k, up_j, up_i, xk_add, xk_sub, xk_mul, xk_neg, lk_add, lN_z, rf_none, rb1, rb0, rbp, xk_nI, zk_eq, zk_lt, zk_eq0, zk_lt0, zk_0lt, zk_long, lz_lt, lz_gt, zmax, zmin, ↓reduceIte, Int.reduceEq, Int.reduceLT, Int.reduceNeg, Int.reduceAdd, Int.reduceSub, Int.reduceMul, Int.ofNat_eq_natCast, Int.cast_ofNat_Int, CT.space hC.1, CT.view hC.1, CT.parent hC.1, CT.group hC.1, CT.state hC.1, CT.pages hC.1, CT.points hC.1, CT.ticks hC.1, CT.asleep hC.1, CT.time hC.1, CP.outer hC.2.1, CP.depth hC.2.1, CP.init hC.2.1, CP.given hC.2.1, CG.outer hC.2.2.1, CG.depth hC.2.2.1, CG.max hC.2.2.1, CG.most hC.2.2.1, CG.weight hC.2.2.1, CG.quota hC.2.2.1, CG.cached hC.2.2.1, CG.ran hC.2.2.1, CG.time hC.2.2.1, CG.uses hC.2.2.1, CG.live hC.2.2.1, rf_eq hA]
  refine Ev.kR (heir_ev hA hC hT t0 t1) ?_
  try simp (disch := omega) only [d_1 hA, d_8 hA, g_8_4 hA, g_8_6 hA, p_8_5 hA, p_8_6 hA, Option.bind_some, up_s, up_k, up_j, up_i, xk_add, xk_sub, xk_mul, xk_neg, lk_add, lN_z, rf_none, rb1, rb0, rbp, xk_nI, zk_eq, zk_lt, zk_eq0, zk_lt0, zk_0lt, zk_long, lz_lt, lz_gt, zmax, zmin, ↓reduceIte, Int.reduceEq, Int.reduceLT, Int.reduceNeg, Int.reduceAdd, Int.reduceSub, Int.reduceMul, Int.ofNat_eq_natCast, Int.cast_ofNat_Int, CT.space hC.1, CT.view hC.1, CT.parent hC.1, CT.group hC.1, CT.state hC.1, CT.pages hC.1, CT.points hC.1, CT.ticks hC.1, CT.asleep hC.1, CT.time hC.1, CP.outer hC.2.1, CP.depth hC.2.1, CP.init hC.2.1, CP.given hC.2.1, CG.outer hC.2.2.1, CG.depth hC.2.2.1, CG.max hC.2.2.1, CG.most hC.2.2.1, CG.weight hC.2.2.1, CG.quota hC.2.2.1, CG.cached hC.2.2.1, CG.ran hC.2.2.1, CG.time hC.2.2.1, CG.uses hC.2.2.1, CG.live hC.2.2.1, rf_eq hA]
  refine Ev.kV (Ev.step (fun F => E1_addUse F _ _ _) (addUse_ev hA hB n1 (J 25 0 t) (by omega) _ (-(J 27 0 t)) (fun k a b => by rw [up_k (by decide)]; exact hC.2.2.1.outer a b) (by omega))) ?_
  have e1 : adG J (up C 8 t 5 1) 7 (J 25 0 t) (-(J 27 0 t)) 8 t 4 = C 8 t 4 := by simp [adG, up]
  try simp (disch := omega) only [d_1 hA, d_8 hA, g_8_4 hA, g_8_6 hA, p_8_5 hA, p_8_6 hA, Option.bind_some, up_s, up_k, up_j, up_i, xk_add, xk_sub, xk_mul, xk_neg, lk_add, lN_z, rf_none, rb1, rb0, rbp, xk_nI, zk_eq, zk_lt, zk_eq0, zk_lt0, zk_0lt, zk_long, lz_lt, lz_gt, zmax, zmin, ↓reduceIte, Int.reduceEq, Int.reduceLT, Int.reduceNeg, Int.reduceAdd, Int.reduceSub, Int.reduceMul, Int.ofNat_eq_natCast, Int.cast_ofNat_Int, CT.space hC.1, CT.view hC.1, CT.parent hC.1, CT.group hC.1, CT.state hC.1, CT.pages hC.1, CT.points hC.1, CT.ticks hC.1, CT.asleep hC.1, CT.time hC.1, CP.outer hC.2.1, CP.depth hC.2.1, CP.init hC.2.1, CP.given hC.2.1, CG.outer hC.2.2.1, CG.depth hC.2.2.1, CG.max hC.2.2.1, CG.most hC.2.2.1, CG.weight hC.2.2.1, CG.quota hC.2.2.1, CG.cached hC.2.2.1, CG.ran hC.2.2.1, CG.time hC.2.2.1, CG.uses hC.2.2.1, CG.live hC.2.2.1, rf_eq hA, e1]
  refine Ev.kV (Ev.step (fun F => E1_addLive F _ _ _) (addLive_ev hA hB n1 (J 25 0 t) (by omega) _ (-1) (fun k a b => ?_) (by omega))) ?_
  · simp only [adG, up]
    rw [if_neg (by omega), if_neg (by omega)]
    exact hC.2.2.1.outer a b
  · try simp (disch := omega) only [d_1 hA, d_8 hA, g_8_4 hA, g_8_6 hA, p_8_5 hA, p_8_6 hA, Option.bind_some, up_s, up_k, up_j, up_i, xk_add, xk_sub, xk_mul, xk_neg, lk_add, lN_z, rf_none, rb1, rb0, rbp, xk_nI, zk_eq, zk_lt, zk_eq0, zk_lt0, zk_0lt, zk_long, lz_lt, lz_gt, zmax, zmin, ↓reduceIte, Int.reduceEq, Int.reduceLT, Int.reduceNeg, Int.reduceAdd, Int.reduceSub, Int.reduceMul, Int.ofNat_eq_natCast, Int.cast_ofNat_Int, CT.space hC.1, CT.view hC.1, CT.parent hC.1, CT.group hC.1, CT.state hC.1, CT.pages hC.1, CT.points hC.1, CT.ticks hC.1, CT.asleep hC.1, CT.time hC.1, CP.outer hC.2.1, CP.depth hC.2.1, CP.init hC.2.1, CP.given hC.2.1, CG.outer hC.2.2.1, CG.depth hC.2.2.1, CG.max hC.2.2.1, CG.most hC.2.2.1, CG.weight hC.2.2.1, CG.quota hC.2.2.1, CG.cached hC.2.2.1, CG.ran hC.2.2.1, CG.time hC.2.2.1, CG.uses hC.2.2.1, CG.live hC.2.2.1, rf_eq hA]
    refine retire37_ev hA n8 (by omega) (by omega) t1 hh.1 hh.2 (fun x a b => ?_)
    have := hC.1.parent a b
    have := (hT.b a b).2.1
    have e2 : up (adG J (adG J (up C 8 t 5 1) 7 (J 25 0 t) (-(J 27 0 t))) 8 (J 25 0 t) (-1)) 8 t 6 0 8 x 3 = C 8 x 3 := by simp [adG, up]
    rw [e2]
    omega
end CL
