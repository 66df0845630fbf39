/-! the reference: leastTime, come, tick -/
def ltV (I : ST) (a b : Int) : Int := if a < 0 then (if b < 0 then -1 else (I 45 0 b)) else if b < 0 then (I 30 0 a) else min (I 30 0 a) (I 45 0 b)
def ltP (I : ST) (g fl bt t : Int) : Prop := rt I g t ∧ ¬ (fl = 0 ∧ t = bt)
def ltQ (hs : Int → Bool) (I : ST) (g fl bt k : Int) : Prop := rg hs I g k ∧ ¬ (fl = 1 ∧ k = bt)
section RA
variable {e : EN} {C I : ST} {z : Nat × Nat × Nat × Nat}
theorem leastTime103_ev (hA : WA e z) (hR : WR e) (hB : RB I) (hK : KB I) {hs : Int → Bool} (hF : ∀ k, 0 ≤ k → k < (I 12 0 17) → I 59 0 k = bI (hs k = true)) {g fl bt a b : Int} (g0 : 0 ≤ g) (g1 : g < 20) (f0 : 0 ≤ fl) (f1 : fl ≤ 1) (b0 : 0 ≤ bt) (b1 : bt < 150) (a0 : -1 ≤ a) (a1 : a < 150) (hb : AM (ltQ hs I g fl bt) (fun k => (I 45 0 k)) (I 12 0 17) b) : ∀ k x l, 1 ≤ k → k ≤ (I 12 0 17) → AM (ltQ hs I g fl bt) (fun k => (I 45 0 k)) k x → l = ltV I a x → Ev (fun F => J12_leastTime_103 F (rf e 12 0) (xk g) (xk fl) (xk bt) (Int64.ofInt l) (xk k) (HS e C I z)) (rL (ltV I a b) (HS e C I z)) := by
  have := RB.groups hB
  intro k
  refine lpN (P := fun k => ∀ x l, 1 ≤ k → k ≤ (I 12 0 17) → AM (ltQ hs I g fl bt) (fun k => (I 45 0 k)) k x → l = ltV I a x → Ev (fun F => J12_leastTime_103 F (rf e 12 0) (xk g) (xk fl) (xk bt) (Int64.ofInt l) (xk k) (HS e C I z)) (rL (ltV I a b) (HS e C I z))) (I 12 0 17) (fun k ih x l k0 k1 hx hl => ?_) k
  refine Ev.step (fun F => E12_leastTime_103 F _ _ _ _ _ _ _) ?_
  simp (disch := omega) only [a_38 hA hR, g_12_17 hA hR, g_12_18 hA hR, Option.bind_some, up_s, up_k, up_j, up_i, xk_add, xk_sub, xk_mul, xk_neg, lk_add, lN_z, rf_none, rb1, rb0, rbp, xk_nI, zk_eq, zk_lt, zk_eq0, zk_lt0, zk_0lt, zk_long, lz_lt, lz_gt, zmax, zmin, ↓reduceIte, Int.reduceEq, Int.reduceLT, Int.reduceNeg, Int.reduceAdd, Int.reduceSub, Int.reduceMul, Int.ofNat_eq_natCast, Int.cast_ofNat_Int]
  refine Ev.ite (fun h => ?_) (fun h => ?_)
  · have := RB.within hB (j := k) (by omega) (by omega)
    have ih := fun x l => ih h x l (by omega) (by omega)
    try simp (disch := omega) only [a_38 hA hR, g_12_17 hA hR, g_12_18 hA hR, Option.bind_some, up_s, up_k, up_j, up_i, xk_add, xk_sub, xk_mul, xk_neg, lk_add, lN_z, rf_none, rb1, rb0, rbp, xk_nI, zk_eq, zk_lt, zk_eq0, zk_lt0, zk_0lt, zk_long, lz_lt, lz_gt, zmax, zmin, ↓reduceIte, Int.reduceEq, Int.reduceLT, Int.reduceNeg, Int.reduceAdd, Int.reduceSub, Int.reduceMul, Int.ofNat_eq_natCast, Int.cast_ofNat_Int]
    have no : ¬ ltQ hs I g fl bt k → Ev (fun F => J12_leastTime_103 F (rf e 12 0) (xk g) (xk fl) (xk bt) (Int64.ofInt l) (xk (k + 1)) (HS e C I z)) (rL (ltV I a b) (HS e C I z)) := fun q => ih x l (hx.no q) hl
    have xb := hx.b (by omega)
    have tk := hK.2.1 k (by omega) (by omega)
    have ta : 0 ≤ a → 0 ≤ (I 30 0 a) ∧ (I 30 0 a) < 1000000000000 := fun q => hK.1 a q a1
    have tx : 0 ≤ x → 0 ≤ (I 45 0 x) ∧ (I 45 0 x) < 1000000000000 := fun q => ⟨(hK.2.1 x q (by omega)).1, (hK.2.1 x q (by omega)).2.1⟩
    have lb : -1 ≤ l ∧ l < 1000000000000 ∧ (l < 0 ↔ (a < 0 ∧ x < 0)) := by
      rw [hl]
      unfold ltV
      split
      · split
        · omega
        · have := tx (by omega); omega
      · have := ta (by omega)
        split
        · omega
        · have := tx (by omega); omega
    have go : (I 38 0 k) = g → ¬ (fl = 1 ∧ k = bt) → Ev (fun F => J12_leastTime_133 F (rf e 12 0) (xk g) (xk fl) (xk bt) (Int64.ofInt l) (xk k) (HS e C I z)) (rL (ltV I a b) (HS e C I z)) := by
      intro hw hn
      refine Ev.step (fun F => E12_leastTime_133 F _ _ _ _ _ _ _) ?_
      simp (disch := omega) only [a_45 hA hR, d_12 hA hR, g_12_25 hA hR, Option.bind_some, up_s, up_k, up_j, up_i, xk_add, xk_sub, xk_mul, xk_neg, lk_add, lN_z, rf_none, rb1, rb0, rbp, xk_nI, zk_eq, zk_lt, zk_eq0, zk_lt0, zk_0lt, zk_long, lz_lt, lz_gt, zmax, zmin, ↓reduceIte, Int.reduceEq, Int.reduceLT, Int.reduceNeg, Int.reduceAdd, Int.reduceSub, Int.reduceMul, Int.ofNat_eq_natCast, Int.cast_ofNat_Int]
      refine Ev.kB (isReadyR_ev hA hR hB (by omega) (by omega) (by omega) (by omega)) (fun hi => ?_) (fun hi => ?_)
      · rw [hF k (by omega) h, bI_1] at hi
        have hq : ltQ hs I g fl bt k := ⟨⟨by omega, h, hw, hi.1, hi.2⟩, hn⟩
        have tak : (x < 0 ∨ (I 45 0 k) < (I 45 0 x)) → AM (ltQ hs I g fl bt) (fun k => (I 45 0 k)) (k + 1) k := fun q => hx.take (by omega) hq q
        have kee : 0 ≤ x → (I 45 0 x) ≤ (I 45 0 k) → AM (ltQ hs I g fl bt) (fun k => (I 45 0 k)) (k + 1) x := fun q w => hx.keep q w
        try simp (disch := omega) only [a_45 hA hR, d_12 hA hR, g_12_25 hA hR, Option.bind_some, up_s, up_k, up_j, up_i, xk_add, xk_sub, xk_mul, xk_neg, lk_add, lN_z, rf_none, rb1, rb0, rbp, xk_nI, zk_eq, zk_lt, zk_eq0, zk_lt0, zk_0lt, zk_long, lz_lt, lz_gt, zmax, zmin, ↓reduceIte, Int.reduceEq, Int.reduceLT, Int.reduceNeg, Int.reduceAdd, Int.reduceSub, Int.reduceMul, Int.ofNat_eq_natCast, Int.cast_ofNat_Int]
        refine Ev.ite (fun hz => ?_) (fun hz => ?_)
        · refine ih k _ (tak (by omega)) ?_
          unfold ltV
          rw [if_pos (by omega), if_neg (by omega)]
        · refine Ev.ite (fun hc => ?_) (fun hc => ?_)
          · have : x < 0 ∨ (I 45 0 k) < (I 45 0 x) := by
              by_cases q : x < 0
              · exact Or.inl q
              · right
                rw [hl] at hc
                unfold ltV at hc
                rw [if_neg q, if_neg q] at hc
                split at hc <;> omega
            refine ih k _ (tak this) ?_
            unfold ltV
            rw [if_neg (by omega : ¬ k < 0), if_neg (by omega : ¬ k < 0)]
            split
            · rfl
            · rw [hl] at hc
              unfold ltV at hc
              rw [if_neg (by assumption)] at hc
              split at hc <;> omega
          · by_cases q : x < 0 ∨ (I 45 0 k) < (I 45 0 x)
            · refine ih k _ (tak q) ?_
              rw [hl] at hc hz ⊢
              unfold ltV at hc hz ⊢
              by_cases qa : a < 0
              · simp only [if_pos qa] at hc hz ⊢
                by_cases qx : x < 0
                · simp only [if_pos qx] at hz; omega
                · simp only [if_neg qx] at hc ⊢; omega
              · simp only [if_neg qa] at hc hz ⊢
                rw [if_neg (by omega : ¬ k < 0)]
                by_cases qx : x < 0
                · simp only [if_pos qx] at hc ⊢; omega
                · simp only [if_neg qx] at hc ⊢; omega
            · exact ih x _ (kee (by omega) (by omega)) hl
      · rw [hF k (by omega) h, bI_1] at hi
        try simp (disch := omega) only [a_45 hA hR, d_12 hA hR, g_12_25 hA hR, Option.bind_some, up_s, up_k, up_j, up_i, xk_add, xk_sub, xk_mul, xk_neg, lk_add, lN_z, rf_none, rb1, rb0, rbp, xk_nI, zk_eq, zk_lt, zk_eq0, zk_lt0, zk_0lt, zk_long, lz_lt, lz_gt, zmax, zmin, ↓reduceIte, Int.reduceEq, Int.reduceLT, Int.reduceNeg, Int.reduceAdd, Int.reduceSub, Int.reduceMul, Int.ofNat_eq_natCast, Int.cast_ofNat_Int]
        exact no (fun q => hi ⟨q.1.2.2.2.1, q.1.2.2.2.2⟩)
    refine Ev.ite (fun hw => ?_) (fun hw => no (fun q => hw q.1.2.2.1))
    refine Ev.ite (fun hf => go hw (by omega)) (fun hf => ?_)
    exact Ev.ite (fun hk => no (fun q => q.2 ⟨by omega, hk⟩)) (fun hk => go hw (by omega))
  · have : k = (I 12 0 17) := by omega
    subst this
    rw [hl, hx.uq hb]
    exact Ev.ret rfl
theorem leastTime12_ev (hA : WA e z) (hR : WR e) (hB : RB I) (hK : KB I) {hs : Int → Bool} (hF : ∀ k, 0 ≤ k → k < (I 12 0 17) → I 59 0 k = bI (hs k = true)) {g fl bt a b : Int} (g0 : 0 ≤ g) (g1 : g < 20) (f0 : 0 ≤ fl) (f1 : fl ≤ 1) (b0 : 0 ≤ bt) (b1 : bt < 150) (ha : AM (ltP I g fl bt) (fun k => (I 30 0 k)) (I 12 0 1) a) (hb : AM (ltQ hs I g fl bt) (fun k => (I 45 0 k)) (I 12 0 17) b) : ∀ t x l, 0 ≤ t → t ≤ (I 12 0 1) → AM (ltP I g fl bt) (fun k => (I 30 0 k)) t x → l = ltV I x (-1) → Ev (fun F => J12_leastTime_12 F (rf e 12 0) (xk g) (xk fl) (xk bt) (Int64.ofInt l) (xk t) (HS e C I z)) (rL (ltV I a b) (HS e C I z)) := by
  have := RB.tasks hB
  have := RB.groups hB
  intro t
  refine lpN (P := fun t => ∀ x l, 0 ≤ t → t ≤ (I 12 0 1) → AM (ltP I g fl bt) (fun k => (I 30 0 k)) t x → l = ltV I x (-1) → Ev (fun F => J12_leastTime_12 F (rf e 12 0) (xk g) (xk fl) (xk bt) (Int64.ofInt l) (xk t) (HS e C I z)) (rL (ltV I a b) (HS e C I z))) (I 12 0 1) (fun t ih x l t0 t1 hx hl => ?_) t
  refine Ev.step (fun F => E12_leastTime_12 F _ _ _ _ _ _ _) ?_
  simp (disch := omega) only [a_22 hA hR, a_25 hA hR, a_29 hA hR, g_12_1 hA hR, g_12_2 hA hR, g_12_5 hA hR, g_12_9 hA hR, Option.bind_some, up_s, up_k, up_j, up_i, xk_add, xk_sub, xk_mul, xk_neg, lk_add, lN_z, rf_none, rb1, rb0, rbp, xk_nI, zk_eq, zk_lt, zk_eq0, zk_lt0, zk_0lt, zk_long, lz_lt, lz_gt, zmax, zmin, ↓reduceIte, Int.reduceEq, Int.reduceLT, Int.reduceNeg, Int.reduceAdd, Int.reduceSub, Int.reduceMul, Int.ofNat_eq_natCast, Int.cast_ofNat_Int]
  refine Ev.ite (fun h => ?_) (fun h => ?_)
  · have := RB.state hB (j := t) (by omega) (by omega)
    have := RB.asleep hB (j := t) (by omega) (by omega)
    have := RB.group hB (j := t) (by omega) (by omega)
    have ih := fun x l => ih h x l (by omega) (by omega)
    try simp (disch := omega) only [a_22 hA hR, a_25 hA hR, a_29 hA hR, g_12_1 hA hR, g_12_2 hA hR, g_12_5 hA hR, g_12_9 hA hR, Option.bind_some, up_s, up_k, up_j, up_i, xk_add, xk_sub, xk_mul, xk_neg, lk_add, lN_z, rf_none, rb1, rb0, rbp, xk_nI, zk_eq, zk_lt, zk_eq0, zk_lt0, zk_0lt, zk_long, lz_lt, lz_gt, zmax, zmin, ↓reduceIte, Int.reduceEq, Int.reduceLT, Int.reduceNeg, Int.reduceAdd, Int.reduceSub, Int.reduceMul, Int.ofNat_eq_natCast, Int.cast_ofNat_Int]
    have no : ¬ ltP I g fl bt t → Ev (fun F => J12_leastTime_12 F (rf e 12 0) (xk g) (xk fl) (xk bt) (Int64.ofInt l) (xk (t + 1)) (HS e C I z)) (rL (ltV I a b) (HS e C I z)) := fun q => ih x l (hx.no q) hl
    have xb := hx.b (by omega)
    have tk := hK.1 t (by omega) (by omega)
    have tx : 0 ≤ x → 0 ≤ (I 30 0 x) ∧ (I 30 0 x) < 1000000000000 := fun q => hK.1 x q (by omega)
    have lv : l = if x < 0 then -1 else (I 30 0 x) := by
      rw [hl]
      unfold ltV
      split <;> rfl
    have go : ltP I g fl bt t → Ev (fun F => J12_leastTime_65 F (rf e 12 0) (xk g) (xk fl) (xk bt) (Int64.ofInt l) (xk t) (HS e C I z)) (rL (ltV I a b) (HS e C I z)) := by
      intro hq
      have lb : -1 ≤ l ∧ l < 1000000000000 ∧ (l < 0 ↔ x < 0) := by
        rw [lv]
        split
        · omega
        · have := tx (by omega); omega
      have nv : ltV I t (-1) = (I 30 0 t) := by unfold ltV; rw [if_neg (by omega)]; rfl
      refine Ev.step (fun F => E12_leastTime_65 F _ _ _ _ _ _ _) ?_
      simp (disch := omega) only [a_30 hA hR, g_12_10 hA hR, Option.bind_some, up_s, up_k, up_j, up_i, xk_add, xk_sub, xk_mul, xk_neg, lk_add, lN_z, rf_none, rb1, rb0, rbp, xk_nI, zk_eq, zk_lt, zk_eq0, zk_lt0, zk_0lt, zk_long, lz_lt, lz_gt, zmax, zmin, ↓reduceIte, Int.reduceEq, Int.reduceLT, Int.reduceNeg, Int.reduceAdd, Int.reduceSub, Int.reduceMul, Int.ofNat_eq_natCast, Int.cast_ofNat_Int]
      refine Ev.ite (fun hz => ?_) (fun hz => ?_)
      · exact ih t _ (hx.take t0 hq (Or.inl (by omega))) nv.symm
      · rw [if_neg (by omega)] at lv
        refine Ev.ite (fun hc => ?_) (fun hc => ?_)
        · exact ih t _ (hx.take t0 hq (Or.inr (by show (I 30 0 t) < (I 30 0 x); omega))) nv.symm
        · exact ih x _ (hx.keep (by omega) (by show (I 30 0 x) ≤ (I 30 0 t); omega)) hl
    refine Ev.ite (fun h1 => ?_) (fun h1 => no (fun q => h1 q.1.2.2.1))
    refine Ev.ite (fun h2 => ?_) (fun h2 => no (fun q => h2 q.1.2.2.2.1))
    refine Ev.ite (fun h3 => ?_) (fun h3 => no (fun q => h3 q.1.2.2.2.2))
    refine Ev.ite (fun h4 => ?_) (fun h4 => go ⟨⟨t0, h, h1, h2, h3⟩, by omega⟩)
    exact Ev.ite (fun h5 => no (fun q => q.2 ⟨h4, h5⟩)) (fun h5 => go ⟨⟨t0, h, h1, h2, h3⟩, by omega⟩)
  · have : t = (I 12 0 1) := by omega
    subst this
    have e := hx.uq ha
    have ab := ha.b (by omega)
    refine leastTime103_ev hA hR hB hK hF g0 g1 f0 f1 b0 b1 (by omega) (by omega) hb 1 (-1) l (by omega) (by omega) ?_ (by rw [hl, e])
    have := (AM.z (P := ltQ hs I g fl bt) (f := fun k => (I 45 0 k))).no (fun q => absurd q.1.1 (by omega))
    exact this
theorem KB.fr {J : ST} (h : KB J) {hs : Int → Bool} : KB (frI J hs) := by
  unfold KB
  simp (disch := decide) only [fr_f]
  exact h
theorem rt_c {I I' : ST} (h1 : I' 12 0 1 = I 12 0 1) (h2 : ∀ j, I' 22 0 j = I 22 0 j) (h3 : ∀ j, I' 29 0 j = I 29 0 j) (h4 : ∀ j, I' 25 0 j = I 25 0 j) : rt I' = rt I := by
  funext g t
  unfold rt
  rw [h1, h2, h3, h4]
theorem rg_c {I I' : ST} (h1 : I' 12 0 17 = I 12 0 17) (h2 : ∀ j, I' 38 0 j = I 38 0 j) (h3 : ∀ j, I' 42 0 j = I 42 0 j) (h4 : ∀ j, I' 44 0 j = I 44 0 j) {hs : Int → Bool} : rg hs I' = rg hs I := by
  funext g t
  unfold rg qok
  rw [h1, h2, h3, h4]
theorem rt_fr {hs : Int → Bool} : rt (frI I hs) = rt I := rt_c (fr_f (by decide)) (fun _ => fr_f (by decide)) (fun _ => fr_f (by decide)) (fun _ => fr_f (by decide))
theorem rg_fr {hs hs' : Int → Bool} : rg hs' (frI I hs) = rg hs' I := rg_c (fr_f (by decide)) (fun _ => fr_f (by decide)) (fun _ => fr_f (by decide)) (fun _ => fr_f (by decide))
theorem leastTime_ev (hA : WA e z) (hR : WR e) (hB : RB I) (hK : KB I) {hs : Int → Bool} (hH : HsR I hs) {g fl bt a b : Int} (g0 : 0 ≤ g) (g1 : g < 20) (f0 : 0 ≤ fl) (f1 : fl ≤ 1) (b0 : 0 ≤ bt) (b1 : bt < 150) (ha : AM (ltP I g fl bt) (fun k => (I 30 0 k)) (I 12 0 1) a) (hb : AM (ltQ hs I g fl bt) (fun k => (I 45 0 k)) (I 12 0 17) b) : Ev (fun F => J12_leastTime F (rf e 12 0) (xk g) (xk fl) (xk bt) (HS e C I z)) (rL (ltV I a b) (HS e C (frI I hs) z)) := by
  refine Ev.step (fun F => E12_leastTime F _ _ _ _ _) ?_
  simp (disch := omega) only [d_12 hA hR, Option.bind_some, up_s, up_k, up_j, up_i, xk_add, xk_sub, xk_mul, xk_neg, lk_add, lN_z, rf_none, rb1, rb0, rbp, xk_nI, zk_eq, zk_lt, zk_eq0, zk_lt0, zk_0lt, zk_long, lz_lt, lz_gt, zmax, zmin, ↓reduceIte, Int.reduceEq, Int.reduceLT, Int.reduceNeg, Int.reduceAdd, Int.reduceSub, Int.reduceMul, Int.ofNat_eq_natCast, Int.cast_ofNat_Int]
  refine Ev.kV (findReady_ev hA hR hB hK hH) ?_
  have e1 : frI I hs 12 0 1 = I 12 0 1 := fr_f (by decide)
  have e2 : frI I hs 12 0 17 = I 12 0 17 := fr_f (by decide)
  have e3 : ltV (frI I hs) a b = ltV I a b := by
    unfold ltV
    simp (disch := decide) only [fr_f]
  have e4 : ltP (frI I hs) g fl bt = ltP I g fl bt := by funext t; unfold ltP; rw [rt_fr]
  have e5 : ltQ hs (frI I hs) g fl bt = ltQ hs I g fl bt := by funext t; unfold ltQ; rw [rg_fr]
  have := leastTime12_ev (C := C) (I := frI I hs) hA hR hB.fri hK.fr (hs := hs) (fun k k0 k1 => fr_h k0 (by rw [← e2]; exact k1)) g0 g1 f0 f1 b0 b1 (a := a) (b := b) (by rw [e4, e1]; simp (disch := decide) only [fr_f]; exact ha) (by rw [e5, e2]; simp (disch := decide) only [fr_f]; exact hb) 0 (-1) (-1) (by omega) (by have := RB.tasks hB; omega) AM.z rfl
  rw [e3] at this
  rw [ll_n1]
  exact this
def cmI (J : ST) (t mv x : Int) : ST := if mv = 0 then (if (J 30 0 t) < x then up J 30 0 t x else J) else up J 30 0 t (if x < 0 then 0 else x)
theorem come_ev (hA : WA e z) (hR : WR e) (hB : RB I) (hK : KB I) {hs : Int → Bool} (hH : HsR I hs) {t mv a b : Int} (t0 : 0 ≤ t) (t1 : t < 150) (m0 : 0 ≤ mv) (m1 : mv ≤ 1) (ha : AM (ltP I (I 25 0 t) 0 t) (fun k => (I 30 0 k)) (I 12 0 1) a) (hb : AM (ltQ hs I (I 25 0 t) 0 t) (fun k => (I 45 0 k)) (I 12 0 17) b) : Ev (fun F => J12_come F (rf e 12 0) (xk t) (xk mv) (HS e C I z)) (rV (HS e C (cmI (frI I hs) t mv (ltV I a b)) z)) := by
  have := RB.group hB (j := t) (by omega) (by omega)
  have := RB.tasks hB
  have := RB.groups hB
  have tt := hK.1 t t0 t1
  have ab := ha.b (by omega)
  have bb := hb.b (by omega)
  have lb : -1 ≤ ltV I a b ∧ ltV I a b < 1000000000000 := by
    unfold ltV
    split
    · split
      · omega
      · have := hK.2.1 b (by omega) (by omega); omega
    · have := hK.1 a (by omega) (by omega)
      split
      · omega
      · have := hK.2.1 b (by omega) (by omega); omega
  refine Ev.step (fun F => E12_come F _ _ _ _) ?_
  simp (disch := omega) only [a_25 hA hR, a_30 hA hR, d_12 hA hR, g_12_10 hA hR, g_12_5 hA hR, s_25 hA hR, s_30 hA hR, Option.bind_some, up_s, up_k, up_j, up_i, xk_add, xk_sub, xk_mul, xk_neg, lk_add, lN_z, rf_none, rb1, rb0, rbp, xk_nI, zk_eq, zk_lt, zk_eq0, zk_lt0, zk_0lt, zk_long, lz_lt, lz_gt, zmax, zmin, ↓reduceIte, Int.reduceEq, Int.reduceLT, Int.reduceNeg, Int.reduceAdd, Int.reduceSub, Int.reduceMul, Int.ofNat_eq_natCast, Int.cast_ofNat_Int]
  refine Ev.kL (leastTime_ev hA hR hB hK hH (by omega) (by omega) (by omega) (by omega) t0 t1 ha hb) ?_
  have e1 : ∀ j, frI I hs 30 0 j = I 30 0 j := fun j => fr_f (by decide)
  try simp (disch := omega) only [a_25 hA hR, a_30 hA hR, d_12 hA hR, g_12_10 hA hR, g_12_5 hA hR, s_25 hA hR, s_30 hA hR, Option.bind_some, up_s, up_k, up_j, up_i, xk_add, xk_sub, xk_mul, xk_neg, lk_add, lN_z, rf_none, rb1, rb0, rbp, xk_nI, zk_eq, zk_lt, zk_eq0, zk_lt0, zk_0lt, zk_long, lz_lt, lz_gt, zmax, zmin, ↓reduceIte, Int.reduceEq, Int.reduceLT, Int.reduceNeg, Int.reduceAdd, Int.reduceSub, Int.reduceMul, Int.ofNat_eq_natCast, Int.cast_ofNat_Int, e1]
  unfold cmI
  refine Ev.ite (fun h => ?_) (fun h => ?_)
  · rw [if_pos h]
    refine Ev.ite (fun q => Ev.ret ?_) (fun q => Ev.ret ?_)
    · rw [if_pos (by rw [e1]; exact q)]; rfl
    · rw [if_neg (by rw [e1]; exact q)]; rfl
  · rw [if_neg h]
    refine Ev.ite (fun q => Ev.ret ?_) (fun q => Ev.ret ?_)
    · rw [if_pos q]; rfl
    · rw [if_neg q]; rfl
end RA
