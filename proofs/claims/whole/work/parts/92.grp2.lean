/-! group, move: both sides -/
section CL
variable {e : EN} {C I J : ST} {z : Nat × Nat × Nat × Nat}
theorem Cpl.gt (hC : Cpl e C J) {g v : Int} : Cpl e (up C 1 g 11 v) (up J 45 0 g v) := by
  obtain ⟨h1, h2, h3, h4, h5, h6⟩ := hC
  have f0 : ∀ k i j, k ≠ 1 → up C 1 g 11 v k i j = C k i j := fun k i j a => up_k a
  have ej : ∀ k i j, k ≠ 45 → up J 45 0 g v k i j = J k i j := fun k i j a => up_k a
  have hg : CG e (up C 1 g 11 v) (up J 45 0 g v) := by
    by_cases q : 0 ≤ g ∧ g < (J 12 0 17)
    · have := h3.rn (k := g) (v := (J 44 0 g)) (w := v)
      have e1 : up C 1 g 10 (J 44 0 g) = C := by
        rw [← h3.ran q.1 q.2, up_id]
      have e2 : up J 44 0 g (J 44 0 g) = J := up_id
      rw [e1, e2] at this
      exact this
    · refine ⟨(ej 12 0 17 (by decide)).symm ▸ h3.1, fun x x0 x1 => ?_⟩
      rw [ej _ _ _ (by decide)] at x1
      have hx : x ≠ g := by omega
      have y := h3.2 x x0 x1
      have ed : dpG (up J 45 0 g v) = dpG J := by
        funext s
        unfold dpG
        rw [show (fun k => up J 45 0 g v 38 0 k) = (fun k => J 38 0 k) from funext (fun k => ej _ _ _ (by decide))]
      rw [ed, usF_c (J := J) (J' := up J 45 0 g v) (ej _ _ _ (by decide)) (ej _ _ _ (by decide)) (fun j => by rw [ej _ _ _ (by decide)]) (fun j => ej _ _ _ (by decide)) (fun j => ej _ _ _ (by decide)) (fun j => ej _ _ _ (by decide)) (fun j => ej _ _ _ (by decide)), lvF_c (J := J) (J' := up J 45 0 g v) (ej _ _ _ (by decide)) (fun j => by rw [ej _ _ _ (by decide)]) (fun j => ej _ _ _ (by decide)) (fun j => ej _ _ _ (by decide))]
      have c1 : ∀ j, up C 1 g 11 v 1 x j = C 1 x j := fun j => up_i hx
      have d1 : ∀ k, up J 45 0 g v k 0 x = J k 0 x := fun k => up_j hx
      simp only [c1, d1]
      exact y
  exact ⟨h1.fr (fun i j => f0 _ _ _ (by decide)) (ej _ _ _ (by decide)) (fun k j a b => ej _ _ _ (by omega)), h2.fr (fun i j => f0 _ _ _ (by decide)) (fun i j => f0 _ _ _ (by decide)) (ej _ _ _ (by decide)) (fun j => ej _ _ _ (by decide)) (fun j => ej _ _ _ (by decide)) (fun j => ej _ _ _ (by decide)) (HoR_c (ej _ _ _ (by decide)) (fun j => by rw [ej _ _ _ (by decide)]) (fun j => ej _ _ _ (by decide))), hg, h4.fr (fun g => up_j (by decide)) (fun g => up_j (by decide)) (ej _ _ _ (by decide)) (ej _ _ _ (by decide)), h5.fr (fun k i j h => f0 _ _ _ (by omega)) (fun k i j a b => ej _ _ _ (by omega)) (ej _ _ _ (by decide)) (ej _ _ _ (by decide)), h6.fr (f0 _ _ _ (by decide)) (f0 _ _ _ (by decide)) (fun j => f0 _ _ _ (by decide)) (fun j => f0 _ _ _ (by decide)) (ej _ _ _ (by decide)) (ej _ _ _ (by decide))⟩
/-- the new group g within o gets its time -/
def agI (J : ST) (g x : Int) : ST := if 0 < x then up J 45 0 g x else J
theorem admitGroup_ev (hA : WA e z) (hC : Cpl e C J) (hT : TI J) (hK : KB J) {g o : Int} (g0 : 0 ≤ g) (g1 : g < (J 12 0 17)) (ho : (J 38 0 g) = o) (o0 : 0 ≤ o) (hz : (J 45 0 g) = 0) (hn : ∀ t, ¬ rt J g t) (hc : ∀ k, 0 ≤ k → k < (J 12 0 17) → (J 38 0 k) ≠ g) : ∃ C' hs a b, Ev (fun F => J0_admitGroup F (rf e 0 0) (rf e 1 g) (HS e C I z)) (rV (HS e C' I z)) ∧ HsR J hs ∧ AM (ltP J o 1 g) (fun k => (J 30 0 k)) (J 12 0 1) a ∧ AM (ltQ hs J o 1 g) (fun k => (J 45 0 k)) (J 12 0 17) b ∧ Cpl e C' (agI (frI J hs) g (ltV J a b)) := by
  have n8 := hC.1.1
  have n7 := hC.2.1.1
  have n1 := hC.2.2.1.1
  have n10 := hC.2.2.2.2.1.1
  have hB := hT.1
  have := RB.tasks hB
  have := RB.spaces hB
  have := RB.groups hB
  have := RB.views hB
  have n4 := hA.2.2.2.1
  obtain ⟨hs, ft, fg, hE, hF, hX⟩ := look_ev (I := I) hA hC hT hK (x := -1) ⟨by omega, by omega⟩
  have hE' := hE
  rw [rf_n (i := -1) (by decide)] at hE'
  have hH := hX.r
  have w := RB.ww hB g g0 (by omega)
  have ob : o < (J 12 0 17) := by omega
  have q := hF o o0 ob
  have b1 := q.1.b (by omega)
  have b2 := q.2.b (by omega)
  have hC1 : Cpl e (lkC J C ft fg) J := hC.lk (fun g g0 g1 => ⟨(hF g g0 g1).1.b (by omega), (hF g g0 g1).2.b (by omega)⟩)
  have hl := leastTime_cl (I := I) hA hC1 hT hK (g := o) o0 ob
  rw [lk_t o0 ob, lk_g o0 ob] at hl
  have lb := ltV_b hK (a := ft o) (b := fg o) (by omega) (by omega)
  have hsg : hs g = false := by
    rw [← Bool.not_eq_true, hH g g0 g1]
    rintro (⟨t, ht⟩ | ⟨k, hk⟩)
    · exact hn t ht
    · exact hc k (by have := hk.1; omega) hk.2.1 hk.2.2.1
  refine ⟨up (lkC J C ft fg) 1 g 11 (max (ltV J (ft o) (fg o)) 0), hs, ft o, fg o, ?_, hH, ?_, ?_, ?_⟩
  · have c1 : lkC J C ft fg 1 g 1 = o := by rw [lk_f (Or.inr (by decide)), hC.2.2.1.outer g0 g1, ho]
    have c11 : lkC J C ft fg 1 g 11 = 0 := by rw [lk_f (Or.inr (by decide)), hC.2.2.1.time g0 g1, hz]
    refine Ev.step (fun F => E0_admitGroup F _ _ _) ?_
    simp (disch := omega) only [d_0 hA, d_1 hA, g_1_1 hA, g_1_11 hA, p_1_11 hA, Option.bind_some, up_s, up_k, up_j, up_i, xk_add, xk_sub, xk_mul, xk_neg, lk_add, lN_z, rf_none, rb1, rb0, rbp, xk_nI, zk_eq, zk_lt, zk_eq0, zk_lt0, zk_0lt, zk_long, lz_lt, lz_gt, zmax, zmin, ↓reduceIte, Int.reduceEq, Int.reduceLT, Int.reduceNeg, Int.reduceAdd, Int.reduceSub, Int.reduceMul, Int.ofNat_eq_natCast, Int.cast_ofNat_Int]
    refine Ev.kV hE' ?_
    try simp (disch := omega) only [d_0 hA, d_1 hA, g_1_1 hA, g_1_11 hA, p_1_11 hA, Option.bind_some, up_s, up_k, up_j, up_i, xk_add, xk_sub, xk_mul, xk_neg, lk_add, lN_z, rf_none, rb1, rb0, rbp, xk_nI, zk_eq, zk_lt, zk_eq0, zk_lt0, zk_0lt, zk_long, lz_lt, lz_gt, zmax, zmin, ↓reduceIte, Int.reduceEq, Int.reduceLT, Int.reduceNeg, Int.reduceAdd, Int.reduceSub, Int.reduceMul, Int.ofNat_eq_natCast, Int.cast_ofNat_Int, c1]
    refine Ev.ite (fun y => absurd y (by omega)) (fun _ => ?_)
    refine Ev.kL hl ?_
    try simp (disch := omega) only [d_0 hA, d_1 hA, g_1_1 hA, g_1_11 hA, p_1_11 hA, Option.bind_some, up_s, up_k, up_j, up_i, xk_add, xk_sub, xk_mul, xk_neg, lk_add, lN_z, rf_none, rb1, rb0, rbp, xk_nI, zk_eq, zk_lt, zk_eq0, zk_lt0, zk_0lt, zk_long, lz_lt, lz_gt, zmax, zmin, ↓reduceIte, Int.reduceEq, Int.reduceLT, Int.reduceNeg, Int.reduceAdd, Int.reduceSub, Int.reduceMul, Int.ofNat_eq_natCast, Int.cast_ofNat_Int, c11]
    exact Ev.ret rfl
  · exact q.1.c (fun x _ _ => ⟨fun y => ⟨y.1, fun u => absurd u.1 (by decide)⟩, fun y => ⟨y.1, by have := y.1.1; omega⟩⟩) (fun _ _ _ _ => rfl)
  · refine q.2.c (fun x _ _ => ⟨fun y => ⟨y, fun u => ?_⟩, fun y => y.1⟩) (fun _ _ _ _ => rfl)
    rw [u.2] at y
    have := y.2.2.2.1
    rw [hsg] at this
    exact absurd this (by decide)
  · have := hC1.fri (hs := hs)
    unfold agI
    by_cases y : 0 < ltV J (ft o) (fg o)
    · rw [if_pos y, show max (ltV J (ft o) (fg o)) 0 = ltV J (ft o) (fg o) by omega]
      exact this.gt
    · rw [if_neg y, show max (ltV J (ft o) (fg o)) 0 = 0 by omega]
      have e1 : up (lkC J C ft fg) 1 g 11 0 = lkC J C ft fg := by
        have : (0 : Int) = lkC J C ft fg 1 g 11 := by rw [lk_f (Or.inr (by decide)), hC.2.2.1.time g0 g1, hz]
        rw [this, up_id]
      rw [e1]
      exact this
theorem madeAt_ev (hA : WA e z) (hC : Cpl e C J) (hT : TI J) {g : Int} (t0 : -2147483648 ≤ g) (t1 : g < 2147483648) : Ev (fun F => J2_madeAt F (rf e 2 0) (xk g) (HS e C I z)) (rR (rf e 1 (if 0 ≤ g ∧ g < (J 12 0 17) then g else -1)) (HS e C I z)) := by
  have n8 := hC.1.1
  have n7 := hC.2.1.1
  have n1 := hC.2.2.1.1
  have n10 := hC.2.2.2.2.1.1
  have hB := hT.1
  have := RB.tasks hB
  have := RB.spaces hB
  have := RB.groups hB
  have := RB.views hB
  have n4 := hA.2.2.2.1
  refine Ev.step (fun F => E2_madeAt F _ _ _) ?_
  simp (disch := omega) only [b_16 hA, g_2_0 hA, g_2_1 hA, Option.bind_some, up_s, up_k, up_j, up_i, xk_add, xk_sub, xk_mul, xk_neg, lk_add, lN_z, rf_none, rb1, rb0, rbp, xk_nI, zk_eq, zk_lt, zk_eq0, zk_lt0, zk_0lt, zk_long, lz_lt, lz_gt, zmax, zmin, ↓reduceIte, Int.reduceEq, Int.reduceLT, Int.reduceNeg, Int.reduceAdd, Int.reduceSub, Int.reduceMul, Int.ofNat_eq_natCast, Int.cast_ofNat_Int, CT.space hC.1, CT.view hC.1, CT.parent hC.1, CT.group hC.1, CT.state hC.1, CT.pages hC.1, CT.points hC.1, CT.ticks hC.1, CT.asleep hC.1, CT.time hC.1, CP.outer hC.2.1, CP.depth hC.2.1, CP.init hC.2.1, CP.given hC.2.1, CG.outer hC.2.2.1, CG.depth hC.2.2.1, CG.max hC.2.2.1, CG.most hC.2.2.1, CG.weight hC.2.2.1, CG.quota hC.2.2.1, CG.cached hC.2.2.1, CG.ran hC.2.2.1, CG.time hC.2.2.1, CG.uses hC.2.2.1, CG.live hC.2.2.1, rf_eq hA]
  refine Ev.ite (fun h => Ev.ret (by rw [if_neg (by omega), rf_n (by omega)]; rfl)) (fun h => ?_)
  refine Ev.ite (fun h' => ?_) (fun h' => Ev.ret (by rw [if_neg (by omega), rf_n (by omega)]; rfl))
  refine Ev.ite (fun h'' => ?_) (fun h'' => absurd h'' (by omega))
  try simp (disch := omega) only [b_16 hA, g_2_0 hA, g_2_1 hA, Option.bind_some, up_s, up_k, up_j, up_i, xk_add, xk_sub, xk_mul, xk_neg, lk_add, lN_z, rf_none, rb1, rb0, rbp, xk_nI, zk_eq, zk_lt, zk_eq0, zk_lt0, zk_0lt, zk_long, lz_lt, lz_gt, zmax, zmin, ↓reduceIte, Int.reduceEq, Int.reduceLT, Int.reduceNeg, Int.reduceAdd, Int.reduceSub, Int.reduceMul, Int.ofNat_eq_natCast, Int.cast_ofNat_Int, CT.space hC.1, CT.view hC.1, CT.parent hC.1, CT.group hC.1, CT.state hC.1, CT.pages hC.1, CT.points hC.1, CT.ticks hC.1, CT.asleep hC.1, CT.time hC.1, CP.outer hC.2.1, CP.depth hC.2.1, CP.init hC.2.1, CP.given hC.2.1, CG.outer hC.2.2.1, CG.depth hC.2.2.1, CG.max hC.2.2.1, CG.most hC.2.2.1, CG.weight hC.2.2.1, CG.quota hC.2.2.1, CG.cached hC.2.2.1, CG.ran hC.2.2.1, CG.time hC.2.2.1, CG.uses hC.2.2.1, CG.live hC.2.2.1, rf_eq hA]
  exact Ev.ret (by rw [if_pos (by omega)]; rfl)
end CL
section RA
variable {e : EN} {C I : ST} {z : Nat × Nat × Nat × Nat}
/-- the reference's group, behind its first rows -/
theorem group24_ev (hA : WA e z) (hR : WR e) (hB : RB I) {o : Int} (o0 : 0 ≤ o) (o1 : o < (I 12 0 17)) {r : XV × XH} (hf : ((I 12 0 17) = 20 ∨ 5 ≤ dpG I o) → r = rI (-2) (HS e C I z)) (hg : (I 12 0 17) < 20 → dpG I o < 5 → Ev (fun F => xci (J12_newGroup F (rf e 12 0) (xk o) (HS e C I z)) fun v3 s2 => xgd s2 (rf e 12 0) 12 (xcl (J12_leastTime F (rf e 12 0) (xk o) (xk 1) v3 s2) fun v5 s4 => if 0 < (lg_cmp v5 (lN 0)) then ((xgr s4 (rf e 12 0) 12 25).bind fun v6 => (xsl s4 v6 v3 v5).bind fun s7 => some (.inl (some (.inl v3)), s7)) else (some (.inl (some (.inl v3)), s4)))) r) : Ev (fun F => J12_group_24 F (rf e 12 0) (xk o) (xk 1) (xk (I 38 0 o)) (HS e C I z)) r := by
  have := RB.groups hB
  have := RB.within hB (j := o) (by omega) (by omega)
  have := RB.wiw hB (j := o) (by omega) (by omega)
  refine lpD (P := fun k => k < 20 → ∀ n, n + (if k = -1 then 0 else dpG I k + 1) = dpG I o + 1 → 1 ≤ n → n + k < 30 → Ev (fun F => J12_group_24 F (rf e 12 0) (xk o) (xk n) (xk k) (HS e C I z)) r) (fun k k0 ih k1 n hn n0 nk => ?_) (I 38 0 o) (by omega) (by omega) 1 (by have := dpG_u hB (s := o) o0 (by omega); rw [this]; split <;> omega) (by omega) (by omega)
  refine Ev.step (fun F => E12_group_24 F _ _ _ _ _) ?_
  simp (disch := omega) only [a_38 hA hR, a_45 hA hR, d_12 hA hR, g_12_17 hA hR, g_12_18 hA hR, g_12_25 hA hR, s_38 hA hR, s_45 hA hR, Option.bind_some, up_s, up_k, up_j, up_i, xk_add, xk_sub, xk_mul, xk_neg, lk_add, lN_z, rf_none, rb1, rb0, rbp, xk_nI, zk_eq, zk_lt, zk_eq0, zk_lt0, zk_0lt, zk_long, lz_lt, lz_gt, zmax, zmin, ↓reduceIte, Int.reduceEq, Int.reduceLT, Int.reduceNeg, Int.reduceAdd, Int.reduceSub, Int.reduceMul, Int.ofNat_eq_natCast, Int.cast_ofNat_Int]
  refine Ev.ite (fun h => ?_) (fun h => ?_)
  · rw [if_pos h] at hn
    refine Ev.ite (fun q => Ev.ret (hf (Or.inl q)).symm) (fun q => ?_)
    refine Ev.ite (fun q' => Ev.ret (hf (Or.inr (by omega))).symm) (fun q' => ?_)
    exact hg (by omega) (by omega)
  · rw [if_neg h] at hn
    have w := RB.ww hB k (by omega) k1
    have du := dpG_u hB (s := k) (by omega) k1
    try simp (disch := omega) only [a_38 hA hR, a_45 hA hR, d_12 hA hR, g_12_17 hA hR, g_12_18 hA hR, g_12_25 hA hR, s_38 hA hR, s_45 hA hR, Option.bind_some, up_s, up_k, up_j, up_i, xk_add, xk_sub, xk_mul, xk_neg, lk_add, lN_z, rf_none, rb1, rb0, rbp, xk_nI, zk_eq, zk_lt, zk_eq0, zk_lt0, zk_0lt, zk_long, lz_lt, lz_gt, zmax, zmin, ↓reduceIte, Int.reduceEq, Int.reduceLT, Int.reduceNeg, Int.reduceAdd, Int.reduceSub, Int.reduceMul, Int.ofNat_eq_natCast, Int.cast_ofNat_Int]
    refine ih _ (by omega) (by omega) (by omega) _ ?_ (by omega) (by omega)
    rw [du] at hn
    split at hn
    · rename_i y
      rw [if_pos y]; omega
    · rename_i y
      rw [if_neg y]; omega
/-- groups outward from g on have room for one task more (and p pages), but those that have it already -/
def tkB (I : ST) (f p : Int) : Nat → Int → Bool
  | 0, _ => true
  | n + 1, g => if g < 0 then true else if win I f g = true then tkB I f p n (I 38 0 g) else if (I 39 0 g) < lvF I g + 1 ∨ (I 40 0 g) < usF I g + p then false else tkB I f p n (I 38 0 g)
theorem move40_ev (hA : WA e z) (hR : WR e) (hB : RB I) (hU : GU I) {t to f p : Int} (hp : (I 27 0 t) = p) (t0 : 0 ≤ t) (t1 : t < (I 12 0 1)) (f0 : 0 ≤ f) (f1 : f < (I 12 0 17)) {r : XV × XH} {b : Bool} (hf : b = false → r = rI (-3) (HS e C I z)) (hg : b = true → Ev (fun F => J12_move_40 F (rf e 12 0) (xk t) (xk to) (xk f) (xk (-1)) (HS e C I z)) r) : ∀ (n : Nat) (g : Int), g < n → -1 ≤ g → g < (I 12 0 17) → tkB I f p n g = b → Ev (fun F => J12_move_40 F (rf e 12 0) (xk t) (xk to) (xk f) (xk g) (HS e C I z)) r := by
  have := RB.groups hB
  have := RB.tasks hB
  intro n
  induction n with
  | zero =>
    intro g h0 h1 h2 hb
    rw [show g = -1 by omega]
    exact hg hb.symm
  | succ n ih =>
    intro g h0 h1 h2 hb
    rw [tkB] at hb
    by_cases hn : g < 0
    · rw [if_pos hn] at hb
      rw [show g = -1 by omega]
      exact hg hb.symm
    · rw [if_neg hn] at hb
      have w := RB.ww hB g (by omega) (by omega)
      have lb : 0 ≤ lvF I g ∧ lvF I g ≤ (I 12 0 1) := sm_b1 (fun k => by unfold lvT; split <;> omega) (by omega)
      have u0 := usF_n hB (g := g)
      have u1 := hU g (by omega) h2
      have := RB.max hB (j := g) (by omega) (by omega)
      have := RB.most hB (j := g) (by omega) (by omega)
      have := RB.pages hB (j := t) (by omega) (by omega)
      refine Ev.step (fun F => E12_move_40 F _ _ _ _ _ _) ?_
      simp (disch := omega) only [a_25 hA hR, a_27 hA hR, a_38 hA hR, a_39 hA hR, a_40 hA hR, d_12 hA hR, g_12_18 hA hR, g_12_19 hA hR, g_12_20 hA hR, g_12_5 hA hR, g_12_7 hA hR, s_25 hA hR, s_27 hA hR, s_38 hA hR, s_39 hA hR, s_40 hA hR, Option.bind_some, up_s, up_k, up_j, up_i, xk_add, xk_sub, xk_mul, xk_neg, lk_add, lN_z, rf_none, rb1, rb0, rbp, xk_nI, zk_eq, zk_lt, zk_eq0, zk_lt0, zk_0lt, zk_long, lz_lt, lz_gt, zmax, zmin, ↓reduceIte, Int.reduceEq, Int.reduceLT, Int.reduceNeg, Int.reduceAdd, Int.reduceSub, Int.reduceMul, Int.ofNat_eq_natCast, Int.cast_ofNat_Int, hp]
      refine Ev.ite (fun q => absurd q (by omega)) (fun _ => ?_)
      refine Ev.kB (isWithin_ev hA hR hB (by omega) (by omega) (by omega) (by omega)) (fun hw => ?_) (fun hw => ?_)
      · rw [if_pos hw] at hb
        try simp (disch := omega) only [a_25 hA hR, a_27 hA hR, a_38 hA hR, a_39 hA hR, a_40 hA hR, d_12 hA hR, g_12_18 hA hR, g_12_19 hA hR, g_12_20 hA hR, g_12_5 hA hR, g_12_7 hA hR, s_25 hA hR, s_27 hA hR, s_38 hA hR, s_39 hA hR, s_40 hA hR, Option.bind_some, up_s, up_k, up_j, up_i, xk_add, xk_sub, xk_mul, xk_neg, lk_add, lN_z, rf_none, rb1, rb0, rbp, xk_nI, zk_eq, zk_lt, zk_eq0, zk_lt0, zk_0lt, zk_long, lz_lt, lz_gt, zmax, zmin, ↓reduceIte, Int.reduceEq, Int.reduceLT, Int.reduceNeg, Int.reduceAdd, Int.reduceSub, Int.reduceMul, Int.ofNat_eq_natCast, Int.cast_ofNat_Int, hp]
        exact ih _ (by omega) (by omega) (by omega) hb
      · rw [if_neg hw] at hb
        try simp (disch := omega) only [a_25 hA hR, a_27 hA hR, a_38 hA hR, a_39 hA hR, a_40 hA hR, d_12 hA hR, g_12_18 hA hR, g_12_19 hA hR, g_12_20 hA hR, g_12_5 hA hR, g_12_7 hA hR, s_25 hA hR, s_27 hA hR, s_38 hA hR, s_39 hA hR, s_40 hA hR, Option.bind_some, up_s, up_k, up_j, up_i, xk_add, xk_sub, xk_mul, xk_neg, lk_add, lN_z, rf_none, rb1, rb0, rbp, xk_nI, zk_eq, zk_lt, zk_eq0, zk_lt0, zk_0lt, zk_long, lz_lt, lz_gt, zmax, zmin, ↓reduceIte, Int.reduceEq, Int.reduceLT, Int.reduceNeg, Int.reduceAdd, Int.reduceSub, Int.reduceMul, Int.ofNat_eq_natCast, Int.cast_ofNat_Int, hp]
        refine Ev.kI (liveIn_ev hA hR hB (by omega) (by omega)) ?_
        try simp (disch := omega) only [a_25 hA hR, a_27 hA hR, a_38 hA hR, a_39 hA hR, a_40 hA hR, d_12 hA hR, g_12_18 hA hR, g_12_19 hA hR, g_12_20 hA hR, g_12_5 hA hR, g_12_7 hA hR, s_25 hA hR, s_27 hA hR, s_38 hA hR, s_39 hA hR, s_40 hA hR, Option.bind_some, up_s, up_k, up_j, up_i, xk_add, xk_sub, xk_mul, xk_neg, lk_add, lN_z, rf_none, rb1, rb0, rbp, xk_nI, zk_eq, zk_lt, zk_eq0, zk_lt0, zk_0lt, zk_long, lz_lt, lz_gt, zmax, zmin, ↓reduceIte, Int.reduceEq, Int.reduceLT, Int.reduceNeg, Int.reduceAdd, Int.reduceSub, Int.reduceMul, Int.ofNat_eq_natCast, Int.cast_ofNat_Int, hp]
        refine Ev.ite (fun q => ?_) (fun q => ?_)
        · rw [if_pos (Or.inl q)] at hb
          exact Ev.ret (hf hb.symm).symm
        · refine Ev.kI (uses_ev hA hR hB (by omega) (by omega)) ?_
          try simp (disch := omega) only [a_25 hA hR, a_27 hA hR, a_38 hA hR, a_39 hA hR, a_40 hA hR, d_12 hA hR, g_12_18 hA hR, g_12_19 hA hR, g_12_20 hA hR, g_12_5 hA hR, g_12_7 hA hR, s_25 hA hR, s_27 hA hR, s_38 hA hR, s_39 hA hR, s_40 hA hR, Option.bind_some, up_s, up_k, up_j, up_i, xk_add, xk_sub, xk_mul, xk_neg, lk_add, lN_z, rf_none, rb1, rb0, rbp, xk_nI, zk_eq, zk_lt, zk_eq0, zk_lt0, zk_0lt, zk_long, lz_lt, lz_gt, zmax, zmin, ↓reduceIte, Int.reduceEq, Int.reduceLT, Int.reduceNeg, Int.reduceAdd, Int.reduceSub, Int.reduceMul, Int.ofNat_eq_natCast, Int.cast_ofNat_Int, hp]
          refine Ev.ite (fun q' => ?_) (fun q' => ?_)
          · rw [if_pos (Or.inr q')] at hb
            exact Ev.ret (hf hb.symm).symm
          · rw [if_neg (by omega)] at hb
            exact ih _ (by omega) (by omega) (by omega) hb
end RA
