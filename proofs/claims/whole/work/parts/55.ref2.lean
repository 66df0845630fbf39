/-! the reference: chains, sums, first ones -/
theorem lpN {P : Int → Prop} (N : Int) (h : ∀ t, (t < N → P (t + 1)) → P t) (t : Int) : P t := by
  have : ∀ (d : Nat) (t : Int), N - t ≤ d → P t := by
    intro d
    induction d with
    | zero => intro t ht; exact h t (fun q => absurd q (by omega))
    | succ d ih => intro t ht; exact h t (fun q => ih (t + 1) (by omega))
  exact this (N - t).toNat t (by omega)
theorem lpD {P : Int → Prop} (h : ∀ k, -1 ≤ k → (∀ j, -1 ≤ j → j < k → P j) → P k) (k : Int) (hk : -1 ≤ k) : P k := by
  have : ∀ (d : Nat) (k : Int), -1 ≤ k → k < d → P k := by
    intro d
    induction d with
    | zero => intro k h1 h2; exact h k h1 (fun j j1 j2 => absurd j2 (by omega))
    | succ d ih => intro k h1 h2; exact h k h1 (fun j j1 j2 => ih j j1 (by omega))
  exact this (k + 1).toNat k hk (by omega)
/-! a chain outwards -/
def chF (w : Int → Int) : Nat → Int → Int → Bool
  | 0, k, o => decide (k = o)
  | n + 1, k, o => if k = o then true else if k < 0 then false else chF w n (w k) o
theorem chF_s {w : Int → Int} {o : Int} (hw : ∀ k, 0 ≤ k → k < 20 → -1 ≤ w k ∧ w k < k) : ∀ (n : Nat) (k : Int), -1 ≤ k → k < n → k < 20 → chF w n k o = chF w (n + 1) k o
  | 0, k, h1, h2, h3 => by
    simp only [chF]
    by_cases h : k = o
    · simp [h]
    · rw [if_neg h, if_pos (by omega)]; simp [h]
  | n + 1, k, h1, h2, h3 => by
    rw [chF, chF]
    by_cases h : k = o
    · rw [if_pos h, if_pos h]
    · rw [if_neg h, if_neg h]
      by_cases h' : k < 0
      · rw [if_pos h', if_pos h']
      · have := hw k (by omega) h3
        rw [if_neg h', if_neg h', chF_s hw n (w k) (by omega) (by omega) (by omega)]
def chn (w : Int → Int) (k o : Int) : Bool := chF w 21 k o
theorem chn_u {w : Int → Int} {o k : Int} (hw : ∀ k, 0 ≤ k → k < 20 → -1 ≤ w k ∧ w k < k) (h1 : -1 ≤ k) (h2 : k < 20) : chn w k o = if k = o then true else if k < 0 then false else chn w (w k) o := by
  unfold chn
  rw [chF]
  by_cases h : k = o
  · rw [if_pos h, if_pos h]
  · rw [if_neg h, if_neg h]
    by_cases h' : k < 0
    · rw [if_pos h', if_pos h']
    · have := hw k (by omega) h2
      rw [if_neg h', if_neg h', chF_s hw 20 (w k) (by omega) (by omega) (by omega)]
/-- group k lies within o; space k lies in o -/
def win (I : ST) (k o : Int) : Bool := chn (fun k => (I 38 0 k)) k o
def lin (I : ST) (k o : Int) : Bool := chn (fun k => (I 34 0 k)) k o
theorem win_u {I : ST} (hB : RB I) {o k : Int} (h1 : -1 ≤ k) (h2 : k < 20) : win I k o = if k = o then true else if k < 0 then false else win I ((I 38 0 k)) o := chn_u (fun k a b => ⟨(RB.within hB a b).1, RB.wiw hB a b⟩) h1 h2
theorem lin_u {I : ST} (hB : RB I) {o k : Int} (h1 : -1 ≤ k) (h2 : k < 20) : lin I k o = if k = o then true else if k < 0 then false else lin I ((I 34 0 k)) o := chn_u (fun k a b => ⟨(RB.around hB a b).1, RB.arw hB a b⟩) h1 h2
/-! sums -/
def smN (f : Int → Int) : Nat → Int
  | 0 => 0
  | n + 1 => smN f n + f n
def sm (f : Int → Int) (t : Int) : Int := smN f t.toNat
theorem sm_0 {f : Int → Int} : sm f 0 = 0 := rfl
theorem sm_s {f : Int → Int} {t : Int} (h : 0 ≤ t) : sm f (t + 1) = sm f t + f t := by
  unfold sm
  rw [show (t + 1).toNat = t.toNat + 1 by omega, smN, Int.toNat_of_nonneg h]
section RA
variable {e : EN} {C I : ST} {z : Nat × Nat × Nat × Nat}
theorem isGroup_ev (hA : WA e z) (hR : WR e) (hB : RB I) {t : Int} (t0 : -2147483648 ≤ t) (t1 : t < 2147483648) : Ev (fun F => J12_isGroup F (rf e 12 0) (xk t) (HS e C I z)) (rI (bI (0 ≤ t ∧ t < (I 12 0 17))) (HS e C I z)) := by
  have := RB.groups hB
  refine Ev.step (fun F => E12_isGroup F _ _ _) ?_
  simp (disch := omega) only [g_12_17 hA hR, Option.bind_some, xk_add, xk_sub, xk_mul, xk_neg, lk_add, lN_z, rf_none, rb1, rb0, rbp, xk_nI, zk_eq, zk_lt, zk_eq0, zk_lt0, zk_0lt, zk_long, lz_lt, lz_gt, zmax, zmin, ↓reduceIte, Int.reduceEq, Int.reduceLT, Int.reduceNeg, Int.reduceAdd, Int.reduceSub, Int.reduceMul, Int.ofNat_eq_natCast, Int.cast_ofNat_Int]
  refine Ev.kB (in_ev ⟨by omega, by omega⟩ ⟨by decide, by decide⟩ ⟨by omega, by omega⟩) (fun h => ?_) (fun h => ?_)
  · simp only [rb1]; exact Ev.ret (by rw [bI_t (by omega)]; rfl)
  · simp only [rb0]; exact Ev.ret (by rw [bI_f (by omega)]; rfl)
theorem isWithin_ev (hA : WA e z) (hR : WR e) (hB : RB I) {k o : Int} (o0 : -1 ≤ o) (o1 : o < 20) (k0 : -1 ≤ k) (k1 : k < 20) : Ev (fun F => J12_isWithin F (rf e 12 0) (xk k) (xk o) (HS e C I z)) (rI (bI (win I k o = true)) (HS e C I z)) := by
  refine Ev.step (fun F => E12_isWithin F _ _ _ _) ?_
  refine lpD (P := fun k => k < 20 → Ev (fun F => J12_isWithin_2 F (rf e 12 0) (xk o) (xk k) (HS e C I z)) (rI (bI (win I k o = true)) (HS e C I z))) (fun k k0 ih k1 => ?_) k k0 k1
  rw [win_u hB k0 k1]
  refine Ev.step (fun F => E12_isWithin_2 F _ _ _ _) ?_
  simp (disch := omega) only [a_38 hA hR, g_12_18 hA hR, Option.bind_some, xk_add, xk_sub, xk_mul, xk_neg, lk_add, lN_z, rf_none, rb1, rb0, rbp, xk_nI, zk_eq, zk_lt, zk_eq0, zk_lt0, zk_0lt, zk_long, lz_lt, lz_gt, zmax, zmin, ↓reduceIte, Int.reduceEq, Int.reduceLT, Int.reduceNeg, Int.reduceAdd, Int.reduceSub, Int.reduceMul, Int.ofNat_eq_natCast, Int.cast_ofNat_Int]
  refine Ev.ite (fun h => ?_) (fun h => ?_)
  · refine Ev.ite (fun h => ?_) (fun h => ?_)
    · exact Ev.ret (by rw [bI_t (by rw [if_pos h])]; rfl)
    · exact Ev.ret (by rw [bI_f (by rw [if_neg h, if_pos (by omega)]; decide)]; rfl)
  · refine Ev.ite (fun h => ?_) (fun h => ?_)
    · simp only [if_pos h]
      exact Ev.ret (by rw [bI_t trivial]; rfl)
    · have := RB.within hB (j := k) (by omega) (by omega)
      have := RB.wiw hB (j := k) (by omega) (by omega)
      rw [if_neg h, if_neg (by omega)]
      try simp (disch := omega) only [a_38 hA hR, g_12_18 hA hR, Option.bind_some, xk_add, xk_sub, xk_mul, xk_neg, lk_add, lN_z, rf_none, rb1, rb0, rbp, xk_nI, zk_eq, zk_lt, zk_eq0, zk_lt0, zk_0lt, zk_long, lz_lt, lz_gt, zmax, zmin, ↓reduceIte, Int.reduceEq, Int.reduceLT, Int.reduceNeg, Int.reduceAdd, Int.reduceSub, Int.reduceMul, Int.ofNat_eq_natCast, Int.cast_ofNat_Int]
      exact ih _ (by omega) (by omega) (by omega)
theorem liesIn_ev (hA : WA e z) (hR : WR e) (hB : RB I) {k o : Int} (o0 : -1 ≤ o) (o1 : o < 20) (k0 : -1 ≤ k) (k1 : k < 20) : Ev (fun F => J12_liesIn F (rf e 12 0) (xk k) (xk o) (HS e C I z)) (rI (bI (lin I k o = true)) (HS e C I z)) := by
  refine Ev.step (fun F => E12_liesIn F _ _ _ _) ?_
  refine lpD (P := fun k => k < 20 → Ev (fun F => J12_liesIn_2 F (rf e 12 0) (xk o) (xk k) (HS e C I z)) (rI (bI (lin I k o = true)) (HS e C I z))) (fun k k0 ih k1 => ?_) k k0 k1
  rw [lin_u hB k0 k1]
  refine Ev.step (fun F => E12_liesIn_2 F _ _ _ _) ?_
  simp (disch := omega) only [a_34 hA hR, g_12_14 hA hR, Option.bind_some, xk_add, xk_sub, xk_mul, xk_neg, lk_add, lN_z, rf_none, rb1, rb0, rbp, xk_nI, zk_eq, zk_lt, zk_eq0, zk_lt0, zk_0lt, zk_long, lz_lt, lz_gt, zmax, zmin, ↓reduceIte, Int.reduceEq, Int.reduceLT, Int.reduceNeg, Int.reduceAdd, Int.reduceSub, Int.reduceMul, Int.ofNat_eq_natCast, Int.cast_ofNat_Int]
  refine Ev.ite (fun h => ?_) (fun h => ?_)
  · refine Ev.ite (fun h => ?_) (fun h => ?_)
    · exact Ev.ret (by rw [bI_t (by rw [if_pos h])]; rfl)
    · exact Ev.ret (by rw [bI_f (by rw [if_neg h, if_pos (by omega)]; decide)]; rfl)
  · refine Ev.ite (fun h => ?_) (fun h => ?_)
    · simp only [if_pos h]
      exact Ev.ret (by rw [bI_t trivial]; rfl)
    · have := RB.around hB (j := k) (by omega) (by omega)
      have := RB.arw hB (j := k) (by omega) (by omega)
      rw [if_neg h, if_neg (by omega)]
      try simp (disch := omega) only [a_34 hA hR, g_12_14 hA hR, Option.bind_some, xk_add, xk_sub, xk_mul, xk_neg, lk_add, lN_z, rf_none, rb1, rb0, rbp, xk_nI, zk_eq, zk_lt, zk_eq0, zk_lt0, zk_0lt, zk_long, lz_lt, lz_gt, zmax, zmin, ↓reduceIte, Int.reduceEq, Int.reduceLT, Int.reduceNeg, Int.reduceAdd, Int.reduceSub, Int.reduceMul, Int.ofNat_eq_natCast, Int.cast_ofNat_Int]
      exact ih _ (by omega) (by omega) (by omega)
/-- live tasks in a group; what it uses -/
def lvT (I : ST) (g t : Int) : Int := if (I 22 0 t) = 0 ∧ win I ((I 25 0 t)) g = true then 1 else 0
def usT (I : ST) (g t : Int) : Int := if (I 22 0 t) = 0 ∧ win I ((I 25 0 t)) g = true then (I 27 0 t) else 0
def usK (I : ST) (g k : Int) : Int := if win I k g = true then (I 43 0 k) else 0
def lvF (I : ST) (g : Int) : Int := sm (lvT I g) (I 12 0 1)
def usF (I : ST) (g : Int) : Int := sm (usT I g) (I 12 0 1) + sm (usK I g) (I 12 0 17)
theorem liveIn_ev (hA : WA e z) (hR : WR e) (hB : RB I) {g : Int} (g0 : -1 ≤ g) (g1 : g < 20) : Ev (fun F => J12_liveIn F (rf e 12 0) (xk g) (HS e C I z)) (rI (lvF I g) (HS e C I z)) := by
  have := RB.tasks hB
  refine Ev.step (fun F => E12_liveIn F _ _ _) ?_
  refine lpN (P := fun t => ∀ acc, 0 ≤ t → t ≤ (I 12 0 1) → acc = sm (lvT I g) t → Ev (fun F => J12_liveIn_4 F (rf e 12 0) (xk g) (xk acc) (xk t) (HS e C I z)) (rI (lvF I g) (HS e C I z))) (I 12 0 1) (fun t ih acc t0 t1 ha => ?_) 0 0 (by omega) (by omega) rfl
  refine Ev.step (fun F => E12_liveIn_4 F _ _ _ _ _) ?_
  simp (disch := omega) only [a_22 hA hR, a_25 hA hR, d_12 hA hR, g_12_1 hA hR, g_12_2 hA hR, g_12_5 hA hR, Option.bind_some, xk_add, xk_sub, xk_mul, xk_neg, lk_add, lN_z, rf_none, rb1, rb0, rbp, xk_nI, zk_eq, zk_lt, zk_eq0, zk_lt0, zk_0lt, zk_long, lz_lt, lz_gt, zmax, zmin, ↓reduceIte, Int.reduceEq, Int.reduceLT, Int.reduceNeg, Int.reduceAdd, Int.reduceSub, Int.reduceMul, Int.ofNat_eq_natCast, Int.cast_ofNat_Int]
  refine Ev.ite (fun h => ?_) (fun h => ?_)
  · have := RB.state hB (j := t) (by omega) (by omega)
    have := RB.group hB (j := t) (by omega) (by omega)
    have ih := fun a => ih h a (by omega) (by omega)
    rw [sm_s t0, ← ha] at ih
    try simp (disch := omega) only [a_22 hA hR, a_25 hA hR, d_12 hA hR, g_12_1 hA hR, g_12_2 hA hR, g_12_5 hA hR, Option.bind_some, xk_add, xk_sub, xk_mul, xk_neg, lk_add, lN_z, rf_none, rb1, rb0, rbp, xk_nI, zk_eq, zk_lt, zk_eq0, zk_lt0, zk_0lt, zk_long, lz_lt, lz_gt, zmax, zmin, ↓reduceIte, Int.reduceEq, Int.reduceLT, Int.reduceNeg, Int.reduceAdd, Int.reduceSub, Int.reduceMul, Int.ofNat_eq_natCast, Int.cast_ofNat_Int]
    refine Ev.ite (fun hs => ?_) (fun hs => ?_)
    · refine Ev.kB (isWithin_ev hA hR hB g0 g1 (by omega) (by omega)) (fun hw => ?_) (fun hw => ?_)
      · try simp (disch := omega) only [a_22 hA hR, a_25 hA hR, d_12 hA hR, g_12_1 hA hR, g_12_2 hA hR, g_12_5 hA hR, Option.bind_some, xk_add, xk_sub, xk_mul, xk_neg, lk_add, lN_z, rf_none, rb1, rb0, rbp, xk_nI, zk_eq, zk_lt, zk_eq0, zk_lt0, zk_0lt, zk_long, lz_lt, lz_gt, zmax, zmin, ↓reduceIte, Int.reduceEq, Int.reduceLT, Int.reduceNeg, Int.reduceAdd, Int.reduceSub, Int.reduceMul, Int.ofNat_eq_natCast, Int.cast_ofNat_Int]
        exact ih _ (by rw [lvT, if_pos ⟨hs, hw⟩])
      · try simp (disch := omega) only [a_22 hA hR, a_25 hA hR, d_12 hA hR, g_12_1 hA hR, g_12_2 hA hR, g_12_5 hA hR, Option.bind_some, xk_add, xk_sub, xk_mul, xk_neg, lk_add, lN_z, rf_none, rb1, rb0, rbp, xk_nI, zk_eq, zk_lt, zk_eq0, zk_lt0, zk_0lt, zk_long, lz_lt, lz_gt, zmax, zmin, ↓reduceIte, Int.reduceEq, Int.reduceLT, Int.reduceNeg, Int.reduceAdd, Int.reduceSub, Int.reduceMul, Int.ofNat_eq_natCast, Int.cast_ofNat_Int]
        exact ih _ (by rw [lvT, if_neg (fun q => hw q.2)])
    · exact ih _ (by rw [lvT, if_neg (fun q => hs q.1)])
  · have : t = (I 12 0 1) := by omega
    subst this
    exact Ev.ret (by rw [ha]; rfl)
end RA
