/-! pair: set (printed by gen99m.py) -/
noncomputable def setT (F : Nat) (l0 : Option Nat) (l1 l2 l3 : Int32) (s5 : XH) : XR := (xgi s5 l0 12 0).bind fun v6 => if 0 < v6 then (some (.inl (some (.inl (xk 0))), s5)) else (xgd s5 l0 12 (xci (J12_isGroup F l0 l1 s5) fun v8 s7 => if v8 = 0 then (some (.inl (some (.inl (xk (-1)))), s7)) else (if l2 = 0 then (xgd s7 l0 12 (xci (J12_uses F l0 l1 s7) fun v10 s9 => if l3 < v10 then (some (.inl (some (.inl (xk (-3)))), s9)) else (if l2 = (xk 1) then (xgd s9 l0 12 (xci (J12_liveIn F l0 l1 s9) fun v12 s11 => if l3 < v12 then (some (.inl (some (.inl (xk (-3)))), s11)) else (J12_set_140 F (l0) (l1) (l2) (l3) s11))) else (J12_set_140 F (l0) (l1) (l2) (l3) s9)))) else (if l2 = (xk 1) then (xgd s7 l0 12 (xci (J12_liveIn F l0 l1 s7) fun v14 s13 => if l3 < v14 then (some (.inl (some (.inl (xk (-3)))), s13)) else (J12_set_140 F (l0) (l1) (l2) (l3) s13))) else (J12_set_140 F (l0) (l1) (l2) (l3) s7)))))
noncomputable def setA (F : Nat) (l0 : Option Nat) (l1 l2 l3 : Int32) (s0 : XH) (a : Nat) (b : Int64) : XR := xci (J12_in F (Int32.toInt64 l3) (lN a) b s0) fun v2 s1 => xci (J12_in F (Int32.toInt64 l2) (lN 0) (3 : Int64) s1) fun v4 s3 => if v4 = 0 then ((xpt s3 l0 12 0 (.inl (xk 1))).bind fun s => setT F l0 l1 l2 l3 s) else (if v2 = 0 then ((xpt s3 l0 12 0 (.inl (xk 2))).bind fun s => setT F l0 l1 l2 l3 s) else ((xpt s3 l0 12 0 (.inl (xk 0))).bind fun s => setT F l0 l1 l2 l3 s))
theorem E12_setA (F : Nat) (l0 : Option Nat) (l1 l2 l3 : Int32) (s0 : XH) : J12_set (F + 1) l0 l1 l2 l3 s0 = (if l2 = 0 then setA F l0 l1 l2 l3 s0 0 1000000 else if l2 = xk 1 then setA F l0 l1 l2 l3 s0 0 150 else if l2 = xk 2 then setA F l0 l1 l2 l3 s0 1 1000 else setA F l0 l1 l2 l3 s0 0 20) := E12_set F l0 l1 l2 l3 s0
def loV (w : Int) : Int := if w = 2 then 1 else 0
def hiV (w : Int) : Int := if w = 0 then 1000000 else if w = 1 then 150 else if w = 2 then 1000 else 20
def seI (J : ST) (g w v : Int) : ST := if w = 0 then up J 40 0 g v else if w = 1 then up J 39 0 g v else if w = 2 then up J 41 0 g v else up J 42 0 g v
def seC (C : ST) (g w v : Int) : ST := if w = 0 then up C 1 g 3 v else if w = 1 then up C 1 g 4 v else if w = 2 then up C 1 g 5 v else up C 1 g 6 v
section OPs
variable {e : EN} {C I J : ST} {z : Nat × Nat × Nat × Nat} {n : Int}
theorem setA_ev (hA : WA e z) (hR : WR e) {g w v : Int} (w0 : -2147483648 ≤ w) (w1 : w < 2147483648) (v0 : -2147483648 ≤ v) (v1 : v < 2147483648) {a : Nat} {b : Int64} {hb : Int} (a1 : a < 10) (b1 : 0 ≤ hb ∧ hb < 10000000) (hbb : b = Int64.ofInt hb) {r : XV × XH} (h1 : ¬ (0 ≤ w ∧ w ≤ 3) → r = rI 0 (HS e C (th I 1) z)) (h2 : 0 ≤ w ∧ w ≤ 3 → ¬ ((a : Int) ≤ v ∧ v ≤ hb) → r = rI 0 (HS e C (th I 2) z)) (h3 : 0 ≤ w ∧ w ≤ 3 → (a : Int) ≤ v ∧ v ≤ hb → Ev (fun F => setT F (rf e 12 0) (xk g) (xk w) (xk v) (HS e C (th I 0) z)) r) : Ev (fun F => setA F (rf e 12 0) (xk g) (xk w) (xk v) (HS e C I z) a b) r := by
  unfold setA
  have tt : ∀ c : Int, 0 < c → c < 10 → Ev (fun F => setT F (rf e 12 0) (xk g) (xk w) (xk v) (HS e C (up I 12 0 0 c) z)) (rI 0 (HS e C (up I 12 0 0 c) z)) := by
    intro c c0 c1
    unfold setT
    refine Ev.bs (g_12_0 hA hR) ?_
    rw [up_s]
    exact Ev.ite (fun _ => Ev.ret rfl) (fun q => absurd ((xk_0lt ⟨by omega, by omega⟩).mpr c0) q)
  rw [hbb, ll_3, lN_z a, lN_z 0, zk_long v0 v1, zk_long w0 w1]
  have i2 := fun σ => in_ev (σ := σ) (a := w) (b := ((0 : Nat) : Int)) (c := 3) ⟨by omega, by omega⟩ ⟨by decide, by decide⟩ ⟨by decide, by decide⟩
  refine Ev.kB (in_ev ⟨by omega, by omega⟩ ⟨by omega, by omega⟩ ⟨by omega, by omega⟩) (fun q => ?_) (fun q => ?_)
  · refine Ev.kB (i2 _) (fun q' => ?_) (fun q' => ?_)
    · refine Ev.ite (fun y => absurd y k10) (fun _ => ?_)
      refine Ev.ite (fun y => absurd y k10) (fun _ => ?_)
      exact Ev.bs (p_12_0 hA hR) (h3 (by simpa using q') q)
    · refine Ev.ite (fun _ => ?_) (fun y => absurd k00 y)
      rw [h1 (by simpa using q')]
      exact Ev.bs (p_12_0 hA hR) (tt 1 (by decide) (by decide))
  · refine Ev.kB (i2 _) (fun q' => ?_) (fun q' => ?_)
    · refine Ev.ite (fun y => absurd y k10) (fun _ => ?_)
      refine Ev.ite (fun _ => ?_) (fun y => absurd k00 y)
      rw [h2 (by simpa using q') q]
      exact Ev.bs (p_12_0 hA hR) (tt 2 (by decide) (by decide))
    · refine Ev.ite (fun _ => ?_) (fun y => absurd k00 y)
      rw [h1 (by simpa using q')]
      exact Ev.bs (p_12_0 hA hR) (tt 1 (by decide) (by decide))
theorem set12_ev (hA : WA e z) (hR : WR e) {g w v : Int} (w0 : -2147483648 ≤ w) (w1 : w < 2147483648) (v0 : -2147483648 ≤ v) (v1 : v < 2147483648) {r : XV × XH} (h1 : ¬ (0 ≤ w ∧ w ≤ 3) → r = rI 0 (HS e C (th I 1) z)) (h2 : 0 ≤ w ∧ w ≤ 3 → ¬ (loV w ≤ v ∧ v ≤ hiV w) → r = rI 0 (HS e C (th I 2) z)) (h3 : 0 ≤ w ∧ w ≤ 3 → loV w ≤ v ∧ v ≤ hiV w → Ev (fun F => setT F (rf e 12 0) (xk g) (xk w) (xk v) (HS e C (th I 0) z)) r) : Ev (fun F => J12_set F (rf e 12 0) (xk g) (xk w) (xk v) (HS e C I z)) r := by
  refine Ev.step (fun F => E12_setA F _ _ _ _ _) ?_
  have e0 : (xk w = 0) = (w = 0) := zk_eq0 w0 w1
  have e1 : (xk w = xk 1) = (w = 1) := zk_eq w0 w1 (by decide) (by decide)
  have e2 : (xk w = xk 2) = (w = 2) := zk_eq w0 w1 (by decide) (by decide)
  simp only [e0, e1, e2]
  unfold loV hiV at h2 h3
  refine Ev.ite (fun q => ?_) (fun q => ?_)
  · simp (disch := omega) only [if_pos, if_neg] at h2 h3
    exact setA_ev hA hR w0 w1 v0 v1 (by decide) ⟨by decide, by decide⟩ ll_1000000 h1 h2 h3
  refine Ev.ite (fun q => ?_) (fun q => ?_)
  · simp (disch := omega) only [if_pos, if_neg] at h2 h3
    exact setA_ev hA hR w0 w1 v0 v1 (by decide) ⟨by decide, by decide⟩ ll_150 h1 h2 h3
  refine Ev.ite (fun q => ?_) (fun q => ?_)
  · simp (disch := omega) only [if_pos, if_neg] at h2 h3
    exact setA_ev hA hR w0 w1 v0 v1 (by decide) ⟨by decide, by decide⟩ ll_1000 h1 h2 h3
  · simp (disch := omega) only [if_pos, if_neg] at h2 h3
    exact setA_ev hA hR w0 w1 v0 v1 (by decide) ⟨by decide, by decide⟩ ll_20 h1 h2 h3
theorem set140_ev (hA : WA e z) (hR : WR e) (hB : RB J) {g w v : Int} (g0 : 0 ≤ g) (g1 : g < 20) (w0 : 0 ≤ w) (w1 : w ≤ 3) : Ev (fun F => J12_set_140 F (rf e 12 0) (xk g) (xk w) (xk v) (HS e C J z)) (rI (gtT J g (w + 3)) (HS e C (seI J g w v) z)) := by
  refine Ev.step (fun F => E12_set_140 F _ _ _ _ _) ?_
  have e0 : (xk w = 0) = (w = 0) := zk_eq0 (by omega) (by omega)
  have e1 : (xk w = xk 1) = (w = 1) := zk_eq (by omega) (by omega) (by decide) (by decide)
  have e2 : (xk w = xk 2) = (w = 2) := zk_eq (by omega) (by omega) (by decide) (by decide)
  simp only [e0, e1, e2]
  unfold gtT seI
  rw [if_neg (c := w + 3 = 0) (by omega), if_neg (c := w + 3 = 1) (by omega), if_neg (c := w + 3 = 2) (by omega)]
  refine Ev.ite (fun q => ?_) (fun q => ?_)
  · rw [if_pos (c := w + 3 = 3) (by omega), if_pos q]
    refine Ev.bs (g_12_20 hA hR) (Ev.bs (a_40 hA hR g0 g1) ?_)
    refine Ev.ite (fun _ => ?_) (fun y => absurd q y)
    exact Ev.bs (g_12_20 hA hR) (Ev.bs (s_40 hA hR g0 g1) (Ev.ret rfl))
  rw [if_neg (c := w + 3 = 3) (by omega), if_neg q]
  refine Ev.ite (fun q' => ?_) (fun q' => ?_)
  · rw [if_pos (c := w + 3 = 4) (by omega), if_pos q']
    refine Ev.bs (g_12_19 hA hR) (Ev.bs (a_39 hA hR g0 g1) ?_)
    refine Ev.ite (fun y => absurd y q) (fun _ => ?_)
    refine Ev.ite (fun _ => ?_) (fun y => absurd q' y)
    exact Ev.bs (g_12_19 hA hR) (Ev.bs (s_39 hA hR g0 g1) (Ev.ret rfl))
  rw [if_neg (c := w + 3 = 4) (by omega), if_neg q']
  refine Ev.ite (fun q'' => ?_) (fun q'' => ?_)
  · rw [if_pos (c := w + 3 = 5) (by omega), if_pos q'']
    refine Ev.bs (g_12_21 hA hR) (Ev.bs (a_41 hA hR g0 g1) ?_)
    refine Ev.ite (fun y => absurd y q) (fun _ => ?_)
    refine Ev.ite (fun y => absurd y q') (fun _ => ?_)
    refine Ev.ite (fun _ => ?_) (fun y => absurd q'' y)
    exact Ev.bs (g_12_21 hA hR) (Ev.bs (s_41 hA hR g0 g1) (Ev.ret rfl))
  · rw [if_neg (c := w + 3 = 5) (by omega), if_pos (c := w + 3 = 6) (by omega), if_neg q'']
    refine Ev.bs (g_12_22 hA hR) (Ev.bs (a_42 hA hR g0 g1) ?_)
    refine Ev.ite (fun y => absurd y q) (fun _ => ?_)
    refine Ev.ite (fun y => absurd y q') (fun _ => ?_)
    refine Ev.ite (fun y => absurd y q'') (fun _ => ?_)
    exact Ev.bs (g_12_22 hA hR) (Ev.bs (s_42 hA hR g0 g1) (Ev.ret rfl))
def hmV (J : ST) (g w v : Int) : Prop := (w = 0 ∧ v < usF J g) ∨ (w = 1 ∧ v < lvF J g)
theorem setT_ev (hA : WA e z) (hR : WR e) (hB : RB J) (hG : GU J) (hJ : J 12 0 0 = 0) {g w v : Int} (g0 : -2147483648 ≤ g) (g1 : g < 2147483648) (w0 : 0 ≤ w) (w1 : w ≤ 3) (v0 : 0 ≤ v) (v1 : v ≤ 1000000) {r : XV × XH} (h1 : ¬ (0 ≤ g ∧ g < (J 12 0 17)) → r = rI (-1) (HS e C J z)) (h2 : 0 ≤ g ∧ g < (J 12 0 17) → hmV J g w v → r = rI (-3) (HS e C J z)) (h3 : 0 ≤ g ∧ g < (J 12 0 17) → ¬ hmV J g w v → r = rI (gtT J g (w + 3)) (HS e C (seI J g w v) z)) : Ev (fun F => setT F (rf e 12 0) (xk g) (xk w) (xk v) (HS e C J z)) r := by
  unfold setT
  have e0 : (xk w = 0) = (w = 0) := zk_eq0 (by omega) (by omega)
  have e1 : (xk w = xk 1) = (w = 1) := zk_eq (by omega) (by omega) (by decide) (by decide)
  have gk := RB.groups hB
  simp only [e0, e1]
  refine Ev.bs (g_12_0 hA hR) ?_
  rw [hJ]
  refine Ev.ite (fun q => absurd q n0k) (fun _ => ?_)
  refine Ev.xg (d_12 hA hR) ?_
  refine Ev.kB (isGroup_ev hA hR hB g0 g1) (fun q => ?_) (fun q => ?_)
  · refine Ev.ite (fun y => absurd y k10) (fun _ => ?_)
    have ub := usF_n hB (g := g)
    have uu := hG g q.1 q.2
    have um := RB.max hB (j := g) q.1 (by omega)
    have lb := lvF_b hB (g := g)
    have tb := RB.tasks hB
    have hu : (xk v < xk (usF J g)) = (v < usF J g) := zk_lt (by omega) (by omega) (by omega) (by omega)
    have hl : (xk v < xk (lvF J g)) = (v < lvF J g) := zk_lt (by omega) (by omega) (by omega) (by omega)
    refine Ev.ite (fun y => ?_) (fun y => ?_)
    · refine Ev.xg (d_12 hA hR) (Ev.kI (uses_ev hA hR hB (by omega) (by omega)) ?_)
      simp only [hu]
      refine Ev.ite (fun x => Ev.ret (h2 q (Or.inl ⟨y, x⟩)).symm) (fun x => ?_)
      refine Ev.ite (fun x => absurd x (by omega)) (fun _ => ?_)
      rw [h3 q (by unfold hmV; omega)]
      exact set140_ev hA hR hB q.1 (by omega) w0 w1
    · refine Ev.ite (fun y' => ?_) (fun y' => ?_)
      · refine Ev.xg (d_12 hA hR) (Ev.kI (liveIn_ev hA hR hB (by omega) (by omega)) ?_)
        simp only [hl]
        refine Ev.ite (fun x => Ev.ret (h2 q (Or.inr ⟨y', x⟩)).symm) (fun x => ?_)
        rw [h3 q (by unfold hmV; omega)]
        exact set140_ev hA hR hB q.1 (by omega) w0 w1
      · rw [h3 q (by unfold hmV; omega)]
        exact set140_ev hA hR hB q.1 (by omega) w0 w1
  · exact Ev.ite (fun _ => Ev.ret (h1 q).symm) (fun y => absurd k00 y)
theorem holdsMore_ev (hA : WA e z) (hC : Cpl e C J) (hT : TI J) (hG : GU J) {g w v : Int} (g0 : 0 ≤ g) (g1 : g < (J 12 0 17)) (w0 : 0 ≤ w) (w1 : w ≤ 3) (v0 : 0 ≤ v) (v1 : v ≤ 1000000) : Ev (fun F => J1_holdsMoreThan F (rf e 1 g) (xk w) (xk v) (HS e C I z)) (rI (@bI (hmV J g w v) (Classical.propDecidable _)) (HS e C I z)) := by
  have n8 := hC.1.1
  have n7 := hC.2.1.1
  have n1 := hC.2.2.1.1
  have n10 := hC.2.2.2.2.1.1
  have hB := hT.1
  have := RB.tasks hB
  have := RB.spaces hB
  have := RB.groups hB
  have := RB.views hB
  have n4 := hA.2.2.2.1
  have ub := usF_n hB (g := g)
  have uu := hG g g0 g1
  have um := RB.max hB (j := g) g0 (by omega)
  have lb := lvF_b hB (g := g)
  have bt : hmV J g w v → @bI (hmV J g w v) (Classical.propDecidable _) = 1 := fun h => @bI_t _ (Classical.propDecidable _) h
  have bf : ¬ hmV J g w v → @bI (hmV J g w v) (Classical.propDecidable _) = 0 := fun h => @bI_f _ (Classical.propDecidable _) h
  refine Ev.step (fun F => E1_holdsMoreThan F _ _ _ _) ?_
  simp (disch := omega) only [g_1_7 hA, g_1_8 hA, Option.bind_some, up_s, up_k, up_j, up_i, xk_add, xk_sub, xk_mul, xk_neg, lk_add, lN_z, rf_none, rb1, rb0, rbp, xk_nI, zk_eq, zk_lt, zk_eq0, zk_lt0, zk_0lt, zk_long, lz_lt, lz_gt, zmax, zmin, ↓reduceIte, Int.reduceEq, Int.reduceLT, Int.reduceNeg, Int.reduceAdd, Int.reduceSub, Int.reduceMul, Int.ofNat_eq_natCast, Int.cast_ofNat_Int, CT.space hC.1, CT.view hC.1, CT.parent hC.1, CT.group hC.1, CT.state hC.1, CT.pages hC.1, CT.points hC.1, CT.ticks hC.1, CT.asleep hC.1, CT.time hC.1, CP.outer hC.2.1, CP.depth hC.2.1, CP.init hC.2.1, CP.given hC.2.1, CG.outer hC.2.2.1, CG.depth hC.2.2.1, CG.max hC.2.2.1, CG.most hC.2.2.1, CG.weight hC.2.2.1, CG.quota hC.2.2.1, CG.cached hC.2.2.1, CG.ran hC.2.2.1, CG.time hC.2.2.1, CG.uses hC.2.2.1, CG.live hC.2.2.1, rf_eq hA]
  refine Ev.ite (fun q => ?_) (fun q => ?_)
  · refine Ev.ite (fun q' => Ev.ret (by rw [bt (Or.inl ⟨q, q'⟩)]; rfl)) (fun q' => ?_)
    exact Ev.ite (fun y => absurd y (by omega)) (fun _ => Ev.ret (by rw [bf (by unfold hmV; omega)]; rfl))
  · refine Ev.ite (fun q' => ?_) (fun q' => Ev.ret (by rw [bf (by unfold hmV; omega)]; rfl))
    exact Ev.ite (fun q'' => Ev.ret (by rw [bt (Or.inr ⟨q', q''⟩)]; rfl)) (fun q'' => Ev.ret (by rw [bf (by unfold hmV; omega)]; rfl))
theorem change_ev (hA : WA e z) (hC : Cpl e C J) (hT : TI J) {g w v : Int} (g0 : 0 ≤ g) (g1 : g < (J 12 0 17)) (w0 : 0 ≤ w) (w1 : w ≤ 3) : Ev (fun F => J1_change F (rf e 1 g) (xk w) (xk v) (HS e C I z)) (rI (gtT J g (w + 3)) (HS e (seC C g w v) I z)) := by
  have n8 := hC.1.1
  have n7 := hC.2.1.1
  have n1 := hC.2.2.1.1
  have n10 := hC.2.2.2.2.1.1
  have hB := hT.1
  have := RB.tasks hB
  have := RB.spaces hB
  have := RB.groups hB
  have := RB.views hB
  have n4 := hA.2.2.2.1
  refine Ev.step (fun F => E1_change F _ _ _ _) ?_
  refine Ev.xg (d_1 hA g0 (by omega)) ?_
  rw [xk_add]
  refine Ev.kI (gtell_ev hA hC hT g0 g1 (by omega) (by omega)) ?_
  unfold seC
  refine Ev.sw (by omega) (by omega) (by decide) (fun q => ?_) (fun q => ?_)
  · rw [if_pos (by omega)]
    exact Ev.bs (p_1_3 hA g0 (by omega)) (Ev.ret rfl)
  rw [if_neg (c := w = 0) (by omega)]
  refine Ev.sw (by omega) (by omega) (by decide) (fun q => ?_) (fun q => ?_)
  · rw [if_pos (by omega)]
    exact Ev.bs (p_1_4 hA g0 (by omega)) (Ev.ret rfl)
  rw [if_neg (c := w = 1) (by omega)]
  refine Ev.sw (by omega) (by omega) (by decide) (fun q => ?_) (fun q => ?_)
  · rw [if_pos (by omega)]
    exact Ev.bs (p_1_5 hA g0 (by omega)) (Ev.ret rfl)
  rw [if_neg (c := w = 2) (by omega)]
  exact Ev.bs (p_1_6 hA g0 (by omega)) (Ev.ret rfl)
theorem Cpl.gs (hC : Cpl e C J) {g v : Int} {c : Int} {k : Nat} (hk : (c = 3 ∧ k = 40) ∨ (c = 4 ∧ k = 39) ∨ (c = 5 ∧ k = 41) ∨ (c = 6 ∧ k = 42)) : Cpl e (up C 1 g c v) (up J k 0 g v) := by
  obtain ⟨h1, h2, h3, h4, h5, h6⟩ := hC
  have f0 : ∀ k i j, k ≠ 1 → up C 1 g c v k i j = C k i j := fun k i j a => up_k a
  have f1 : ∀ i j, j ≠ c → up C 1 g c v 1 i j = C 1 i j := fun i j a => up_j a
  have ej : ∀ k' i j, k' ≠ k → up J k 0 g v k' i j = J k' i j := fun k' i j a => up_k a
  refine ⟨h1.fr (fun i j => f0 _ _ _ (by decide)) (ej _ _ _ (by omega)) (fun k j a b => ej _ _ _ (by omega)), h2.fr (fun i j => f0 _ _ _ (by decide)) (fun i j => f0 _ _ _ (by decide)) (ej _ _ _ (by omega)) (fun j => ej _ _ _ (by omega)) (fun j => ej _ _ _ (by omega)) (fun j => ej _ _ _ (by omega)) (HoR_c (ej _ _ _ (by omega)) (fun j => by rw [ej _ _ _ (by omega)]) (fun j => ej _ _ _ (by omega))), ?_, h4.fr (fun g => f1 _ _ (by omega)) (fun g => f1 _ _ (by omega)) (ej _ _ _ (by omega)) (ej _ _ _ (by omega)), h5.fr (fun k i j h => f0 _ _ _ (by omega)) (fun k i j a b => ej _ _ _ (by omega)) (ej _ _ _ (by omega)) (ej _ _ _ (by omega)), h6.fr (f0 _ _ _ (by decide)) (f0 _ _ _ (by decide)) (fun j => f0 _ _ _ (by decide)) (fun j => f0 _ _ _ (by decide)) (ej _ _ _ (by omega)) (ej _ _ _ (by omega))⟩
  have eu : usF (up J k 0 g v) = usF J := usF_c (ej _ _ _ (by omega)) (ej _ _ _ (by omega)) (fun j => by rw [ej _ _ _ (by omega)]) (fun j => ej _ _ _ (by omega)) (fun j => ej _ _ _ (by omega)) (fun j => ej _ _ _ (by omega)) (fun j => ej _ _ _ (by omega))
  have el : lvF (up J k 0 g v) = lvF J := lvF_c (ej _ _ _ (by omega)) (fun j => by rw [ej _ _ _ (by omega)]) (fun j => ej _ _ _ (by omega)) (fun j => ej _ _ _ (by omega))
  have ed : dpG (up J k 0 g v) = dpG J := by
    funext s
    unfold dpG
    rw [show (fun x => up J k 0 g v 38 0 x) = (fun x => J 38 0 x) from funext (fun j => ej _ _ _ (by omega))]
  refine ⟨by rw [ej _ _ _ (by omega)]; exact h3.1, fun x x0 x1 => ?_⟩
  rw [ej _ _ _ (by omega)] at x1
  have y := h3.2 x x0 x1
  rw [eu, el, ed]
  by_cases hx : x = g
  · subst hx
    rcases hk with ⟨rfl, rfl⟩ | ⟨rfl, rfl⟩ | ⟨rfl, rfl⟩ | ⟨rfl, rfl⟩
    all_goals
      simp (disch := decide) only [up_s, up_k, f1]
      simp only [y, and_self]
  · have a : ∀ j, up C 1 g c v 1 x j = C 1 x j := fun j => up_i hx
    have b : ∀ k', up J k 0 g v k' 0 x = J k' 0 x := fun k' => up_j hx
    simp only [a, b]
    exact y
theorem Inv.gs (h : Inv n J) {m g v : Int} (hm : n ≤ m) (g0 : 0 ≤ g) (g1 : g < (J 12 0 17)) {k : Nat} (hk : (k = 40 ∧ usF J g ≤ v ∧ v ≤ 1000000) ∨ (k = 39 ∧ v ≤ 150) ∨ (k = 41 ∧ 1 ≤ v ∧ v ≤ 1000) ∨ (k = 42 ∧ v ≤ 20)) (v0 : 0 ≤ v) : Inv m (up J k 0 g v) := by
  obtain ⟨h1, h2, h3, h4, h5, h6, h7, h8, h9⟩ := h
  have ej : ∀ k' i j, k' ≠ k → up J k 0 g v k' i j = J k' i j := fun k' i j a => up_k a
  have hB : RB (up J k 0 g v) := by
    rcases hk with q | q | q | q
    · rw [q.1]; exact RB.u_max h1.1 (by omega) (by omega)
    · rw [q.1]; exact RB.u_most h1.1 (by omega) (by omega)
    · rw [q.1]; exact RB.u_weight h1.1 (by omega) (by omega)
    · rw [q.1]; exact RB.u_quota h1.1 (by omega) (by omega)
  have hT : TI (up J k 0 g v) := by
    refine ⟨hB, ?_⟩
    have el : lin (up J k 0 g v) = lin J := lin_c (fun j => ej _ _ _ (by omega))
    simp (disch := omega) only [ej, el]
    exact h1.2
  have eu : usF (up J k 0 g v) = usF J := usF_c (ej _ _ _ (by omega)) (ej _ _ _ (by omega)) (fun j => by rw [ej _ _ _ (by omega)]) (fun j => ej _ _ _ (by omega)) (fun j => ej _ _ _ (by omega)) (fun j => ej _ _ _ (by omega)) (fun j => ej _ _ _ (by omega))
  refine ⟨hT, h2.c (ej _ _ _ (by omega)) (fun j => ej _ _ _ (by omega)) (fun j => ej _ _ _ (by omega)), fun x x0 x1 => ?_, fun x x0 x1 => ?_, fun x x0 x1 => ?_, h6.c (ej _ _ _ (by omega)) (ej _ _ _ (by omega)) (fun j => ej _ _ _ (by omega)) (fun j => ej _ _ _ (by omega)) (fun j => ej _ _ _ (by omega)) (fun j => ej _ _ _ (by omega)) (fun j => ej _ _ _ (by omega)), h7.c hm (ej _ _ _ (by omega)) (fun j => ej _ _ _ (by omega)) (fun j => ej _ _ _ (by omega)) (fun j => ej _ _ _ (by omega)), h8.c (ej _ _ _ (by omega)) (fun k j a b => ej _ _ _ (by omega)), h9.c hm (ej _ _ _ (by omega)) (fun j => ej _ _ _ (by omega))⟩
  · rw [ej _ _ _ (by omega)] at x1
    rw [eu]
    by_cases hx : x = g
    · by_cases k0 : k = 40
      · rw [hx, k0, up_s]; omega
      · rw [ej _ _ _ (by omega)]; exact h3 x x0 x1
    · rw [up_j hx]; exact h3 x x0 x1
  · rw [ej _ _ _ (by omega)] at x1
    have y := h4 x x0 x1
    rw [ej 38 _ _ (by omega)]
    refine ⟨y.1, ?_⟩
    by_cases hx : x = g
    · by_cases k0 : k = 41
      · rw [hx, k0, up_s]; omega
      · rw [ej _ _ _ (by omega)]; exact y.2
    · rw [up_j hx]; exact y.2
  · rw [ej _ _ _ (by omega)] at x0
    have hx : x ≠ g := by omega
    rw [up_j hx, up_j hx, up_j hx]
    exact h5 x x0 x1
theorem a63 (hA : WA e z) (h63 : e.2.1 63 = 1) {a : Int} (a0 : 0 ≤ a) (a1 : a < 4) : xai (HS e C I z) (rf e 63 0) (xk a) = some (xk (stv 900 a)) := by
  unfold xai HS
  rw [H0.at hA (by decide) (Int.le_refl 0) (by rw [h63]; decide) a0 (by show a < ((4 : Nat) : Int); exact a1) (by show 4 ≤ 2147483647; decide)]
  rfl
theorem a64 (hA : WA e z) (h64 : e.2.1 64 = 1) {a : Int} (a0 : 0 ≤ a) (a1 : a < 4) : xai (HS e C I z) (rf e 64 0) (xk a) = some (xk (stv 901 a)) := by
  unfold xai HS
  rw [H0.at hA (by decide) (Int.le_refl 0) (by rw [h64]; decide) a0 (by show a < ((4 : Nat) : Int); exact a1) (by show 4 ≤ 2147483647; decide)]
  rfl
theorem set_pr (hO : OK n e C I z) (h63 : e.2.1 63 = 1) (h64 : e.2.1 64 = 1) {g w v : Int} (t0 : -2147483648 ≤ g) (t1 : g < 2147483648) (w0 : -2147483648 ≤ w) (w1 : w < 2147483648) (v0 : -2147483648 ≤ v) (v1 : v < 2147483648) : PR n e C I z (fun F σ => J11_set F (rf e 11 0) (xk g) (xk w) (xk v) σ) (fun F σ => J12_set F (rf e 12 0) (xk g) (xk w) (xk v) σ) ∨ PT n e C I z 50 1 (fun F σ => J11_set F (rf e 11 0) (xk g) (xk w) (xk v) σ) (fun F σ => J12_set F (rf e 12 0) (xk g) (xk w) (xk v) σ) ∨ PT n e C I z 51 2 (fun F σ => J11_set F (rf e 11 0) (xk g) (xk w) (xk v) σ) (fun F σ => J12_set F (rf e 12 0) (xk g) (xk w) (xk v) σ) := by
  obtain ⟨hA, hR, hC0, hI0⟩ := hO
  have hO : OK n e C I z := ⟨hA, hR, hC0, hI0⟩
  have hC := hC0.th (v := 0)
  have hI := hI0.th (m := n) (v := 0) (by omega)
  have hT := hI.ti
  generalize hJ : th I 0 = J at *
  have n8 := hC.1.1
  have n7 := hC.2.1.1
  have n1 := hC.2.2.1.1
  have n10 := hC.2.2.2.2.1.1
  have hB := hT.1
  have := RB.tasks hB
  have := RB.spaces hB
  have := RB.groups hB
  have := RB.views hB
  have n4 := hA.2.2.2.1
  have ma := madeAt_ev (I := I) hA hC hT t0 t1
  have J0 : J 12 0 0 = 0 := by rw [← hJ]; exact up_s
  have l0 : (xk w < 0) = (w < 0) := zk_lt0 w0 w1
  have l3 : (xk 3 < xk w) = (3 < w) := zk_lt (by decide) (by decide) w0 w1
  have gs0 : some (xgs (HS e C I z) 0) = rf e 63 0 := by
    rw [rf_v (by decide)]
    show some z.2.2.1 = _
    rw [hA.2.2.2.2]
  have gs1 : some (xgs (HS e C I z) 1) = rf e 64 0 := by
    rw [rf_v (by decide)]
    show some z.2.2.2 = _
    rw [hA.2.2.2.2]
  have bot : ∀ {r}, (¬ (0 ≤ w ∧ w ≤ 3) → r = (.inr (50, z.1), HS e C I (z.1 + 1, z.2.1 + 6, z.2.2))) → (0 ≤ w ∧ w ≤ 3 → ¬ (loV w ≤ v ∧ v ≤ hiV w) → r = (.inr (51, z.1), HS e C I (z.1 + 1, z.2.1 + 6, z.2.2))) → (0 ≤ w ∧ w ≤ 3 → loV w ≤ v ∧ v ≤ hiV w → Ev (fun F => xcr (J2_madeAt F (rf e 2 0) (xk g) (HS e C I z)) fun v5 s4 => if v5 = none then (some (.inl (some (.inl (xk (-1)))), s4)) else (xgd s4 v5 1 (xci (J1_holdsMoreThan F v5 (xk w) (xk v) s4) fun v7 s6 => if v7 = 0 then (xgd s6 v5 1 (xci (J1_change F v5 (xk w) (xk v) s6) fun v9 s8 => some (.inl (some (.inl v9)), s8))) else (some (.inl (some (.inl (xk (-3)))), s6))))) r) → Ev (fun F => J11_set F (rf e 11 0) (xk g) (xk w) (xk v) (HS e C I z)) r := by
    intro r h1 h2 h3
    refine Ev.step (fun F => E11_set F _ _ _ _ _) ?_
    simp only [l0, l3, gs0, gs1, thr_HS]
    refine Ev.ite (fun q => Ev.ret (h1 (by omega)).symm) (fun q => ?_)
    refine Ev.ite (fun q' => Ev.ret (h1 (by omega)).symm) (fun q' => ?_)
    refine Ev.bs (a63 hA h63 (by omega) (by omega)) ?_
    have hlo : stv 900 w = loV w := rfl
    have hhi : stv 901 w = hiV w := rfl
    have lb : 0 ≤ loV w ∧ loV w ≤ 1 := by unfold loV; split <;> omega
    have hb : 0 ≤ hiV w ∧ hiV w ≤ 1000000 := by unfold hiV; (repeat' split) <;> omega
    simp only [hlo, zk_lt v0 v1 (show -2147483648 ≤ loV w by omega) (show loV w < 2147483648 by omega)]
    refine Ev.ite (fun y => Ev.ret (h2 (by omega) (by omega)).symm) (fun y => ?_)
    refine Ev.bs (a64 hA h64 (by omega) (by omega)) ?_
    simp only [hhi, zk_lt (show -2147483648 ≤ hiV w by omega) (show hiV w < 2147483648 by omega) v0 v1]
    refine Ev.ite (fun y => Ev.ret (h2 (by omega) (by omega)).symm) (fun y' => ?_)
    refine Ev.bs (g_11_0 hA) ?_
    exact Ev.xg (d_2 hA) (h3 (by omega) (by omega))
  by_cases hw : 0 ≤ w ∧ w ≤ 3
  · by_cases hv : loV w ≤ v ∧ v ≤ hiV w
    · left
      have vb : 0 ≤ v ∧ v ≤ 1000000 := by
        have lb : 0 ≤ loV w ∧ loV w ≤ 1 := by unfold loV; split <;> omega
        have hb : 0 ≤ hiV w ∧ hiV w ≤ 1000000 := by unfold hiV; (repeat' split) <;> omega
        omega
      by_cases hg : 0 ≤ g ∧ g < (J 12 0 17)
      · rw [if_pos hg] at ma
        have hm := holdsMore_ev (I := I) hA hC hT hI.gu hg.1 hg.2 hw.1 hw.2 vb.1 vb.2
        by_cases hh : hmV J g w v
        · refine PR.look' hO (A := -3) ?_ ?_
          · refine bot (fun q => absurd hw q) (fun _ q => absurd hv q) (fun _ _ => ?_)
            refine Ev.kR ma ?_
            refine Ev.ite (fun q => absurd q (by rw [rf_v hg.1]; simp)) (fun _ => ?_)
            refine Ev.xg (d_1 hA hg.1 (by omega)) ?_
            rw [@bI_t _ (Classical.propDecidable _) hh] at hm
            refine Ev.kI hm ?_
            exact Ev.ite (fun q => absurd q k10) (fun _ => Ev.ret rfl)
          · rw [hJ]
            refine set12_ev hA hR w0 w1 v0 v1 (fun q => absurd hw q) (fun _ q => absurd hv q) (fun _ _ => ?_)
            rw [hJ]
            exact setT_ev hA hR hB hI.gu J0 t0 t1 hw.1 hw.2 vb.1 vb.2 (fun q => absurd hg q) (fun _ _ => rfl) (fun _ q => absurd hh q)
        · have hCI : Cpl e (seC C g w v) (seI J g w v) ∧ Inv (n + 1) (seI J g w v) ∧ (∀ k i j, k ≠ 39 → k ≠ 40 → k ≠ 41 → k ≠ 42 → seI J g w v k i j = J k i j) := by
            unfold seC seI
            unfold loV hiV at hv
            unfold hmV at hh
            by_cases q0 : w = 0
            · rw [if_pos q0, if_pos q0]
              rw [if_pos q0, if_neg (by omega)] at hv
              exact ⟨hC.gs (Or.inl ⟨rfl, rfl⟩), hI.gs (by omega) hg.1 hg.2 (Or.inl ⟨rfl, by omega, by omega⟩) vb.1, fun k i j a b c d => up_k b⟩
            rw [if_neg q0, if_neg q0]
            by_cases q1 : w = 1
            · rw [if_pos q1, if_pos q1]
              rw [if_neg q0, if_pos q1, if_neg (by omega)] at hv
              exact ⟨hC.gs (Or.inr (Or.inl ⟨rfl, rfl⟩)), hI.gs (by omega) hg.1 hg.2 (Or.inr (Or.inl ⟨rfl, by omega⟩)) vb.1, fun k i j a b c d => up_k a⟩
            rw [if_neg q1, if_neg q1]
            by_cases q2 : w = 2
            · rw [if_pos q2, if_pos q2]
              rw [if_neg q0, if_neg q1, if_pos q2, if_pos q2] at hv
              exact ⟨hC.gs (Or.inr (Or.inr (Or.inl ⟨rfl, rfl⟩))), hI.gs (by omega) hg.1 hg.2 (Or.inr (Or.inr (Or.inl ⟨rfl, by omega, by omega⟩))) vb.1, fun k i j a b c d => up_k c⟩
            rw [if_neg q2, if_neg q2]
            rw [if_neg q0, if_neg q1, if_neg q2] at hv
            exact ⟨hC.gs (Or.inr (Or.inr (Or.inr ⟨rfl, rfl⟩))), hI.gs (by omega) hg.1 hg.2 (Or.inr (Or.inr (Or.inr ⟨rfl, by omega⟩))) vb.1, fun k i j a b c d => up_k d⟩
          obtain ⟨hC1, hI1, ej⟩ := hCI
          refine ⟨e, seC C g w v, seI J g w v, z, (xk (gtT J g (w + 3))).toInt, ?_, ?_, ⟨hA, hR, hC1, hI1⟩, NX.r (fun j => ?_), xkt_b, ?_⟩
          · rw [← rI_n]
            refine bot (fun q => absurd hw q) (fun _ q => absurd hv q) (fun _ _ => ?_)
            refine Ev.kR ma ?_
            refine Ev.ite (fun q => absurd q (by rw [rf_v hg.1]; simp)) (fun _ => ?_)
            refine Ev.xg (d_1 hA hg.1 (by omega)) ?_
            rw [@bI_f _ (Classical.propDecidable _) hh] at hm
            refine Ev.kI hm ?_
            refine Ev.ite (fun _ => ?_) (fun q => absurd k00 q)
            refine Ev.xg (d_1 hA hg.1 (by omega)) ?_
            exact Ev.kI (change_ev hA hC hT hg.1 hg.2 hw.1 hw.2) (Ev.ret rfl)
          · rw [← rI_n]
            refine set12_ev hA hR w0 w1 v0 v1 (fun q => absurd hw q) (fun _ q => absurd hv q) (fun _ _ => ?_)
            rw [hJ]
            exact setT_ev hA hR hB hI.gu J0 t0 t1 hw.1 hw.2 vb.1 vb.2 (fun q => absurd hg q) (fun _ q => absurd q hh) (fun _ _ => rfl)
          · rw [ej _ _ _ (by decide) (by decide) (by decide) (by decide), ← hJ]
            exact th_f (Or.inl (by decide))
          · rw [ej _ _ _ (by decide) (by decide) (by decide) (by decide)]
            exact J0
      · rw [if_neg hg] at ma
        refine PR.look' hO (A := -1) ?_ ?_
        · refine bot (fun q => absurd hw q) (fun _ q => absurd hv q) (fun _ _ => ?_)
          refine Ev.kR ma ?_
          exact Ev.ite (fun _ => Ev.ret rfl) (fun q => absurd (rf_n (by decide)) q)
        · rw [hJ]
          refine set12_ev hA hR w0 w1 v0 v1 (fun q => absurd hw q) (fun _ q => absurd hv q) (fun _ _ => ?_)
          rw [hJ]
          exact setT_ev hA hR hB hI.gu J0 t0 t1 hw.1 hw.2 vb.1 vb.2 (fun _ => rfl) (fun q => absurd q hg) (fun q => absurd q hg)
    · right; right
      refine ⟨⟨z.1, bot (fun q => absurd hw q) (fun _ _ => rfl) (fun _ q => absurd q hv)⟩, 0, ?_⟩
      have hA' := hA.thr
      generalize (z.1 + 1, z.2.1 + 6, z.2.2) = z' at hA' ⊢
      have hA := hA'
      exact set12_ev hA hR w0 w1 v0 v1 (fun q => absurd hw q) (fun _ _ => rfl) (fun _ q => absurd q hv)
  · right; left
    refine ⟨⟨z.1, bot (fun _ => rfl) (fun q => absurd q hw) (fun q => absurd q hw)⟩, 0, ?_⟩
    have hA' := hA.thr
    generalize (z.1 + 1, z.2.1 + 6, z.2.2) = z' at hA' ⊢
    have hA := hA'
    exact set12_ev hA hR w0 w1 v0 v1 (fun _ => rfl) (fun q => absurd q hw) (fun q => absurd q hw)
end OPs
