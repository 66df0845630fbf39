/-! the reference: takeCache, tooFull, makeRoom -/
theorem rcS_b {I : ST} {g k b : Int} (hb : -1 ≤ b ∧ b < k) : -1 ≤ rcS I g k b ∧ rcS I g k b < k + 1 := by
  unfold rcS
  split <;> omega
theorem fo_b {st : Int → Int → Int} (h : ∀ k b, 0 ≤ k → -1 ≤ b ∧ b < k → -1 ≤ st k b ∧ st k b < k + 1) {n : Int} (hn : 0 ≤ n) : -1 ≤ fo st (-1) n ∧ fo st (-1) n < n := by
  obtain ⟨m, rfl⟩ : ∃ m : Nat, n = m := ⟨n.toNat, by omega⟩
  induction m with
  | zero => exact ⟨Int.le_refl _, (by decide : (-1 : Int) < 0)⟩
  | succ m ih =>
    have := ih (by omega)
    rw [show ((m + 1 : Nat) : Int) = (m : Int) + 1 by omega, fo_s (by omega)]
    exact h m _ (by omega) this
theorem rcF_b {I : ST} (hB : RB I) {g : Int} : -1 ≤ rcF I g ∧ rcF I g < (I 12 0 17) := fo_b (fun k b k0 hb => rcS_b hb) (by have := RB.groups hB; omega)
theorem viF_b {I : ST} (hB : RB I) {g : Int} : -1 ≤ viF I g ∧ viF I g < (I 12 0 1) := fo_b (fun k b k0 hb => by unfold viS; split <;> omega) (by have := RB.tasks hB; omega)
/-- what the fold has found is good -/
theorem fo_p {st : Int → Int → Int} {Q : Int → Prop} (h : ∀ k b, 0 ≤ k → (b = -1 ∨ Q b) → (st k b = -1 ∨ Q (st k b))) {n : Int} (hn : 0 ≤ n) : fo st (-1) n = -1 ∨ Q (fo st (-1) n) := by
  obtain ⟨m, rfl⟩ : ∃ m : Nat, n = m := ⟨n.toNat, by omega⟩
  induction m with
  | zero => exact Or.inl rfl
  | succ m ih =>
    rw [show ((m + 1 : Nat) : Int) = (m : Int) + 1 by omega, fo_s (by omega)]
    exact h m _ (by omega) (ih (by omega))
theorem viF_p {I : ST} (hB : RB I) {g : Int} (h : 0 ≤ viF I g) : viF I g ≠ 0 ∧ (I 22 0 (viF I g)) = 0 ∧ (I 28 0 (viF I g)) ≠ -10 ∧ win I ((I 25 0 (viF I g))) g = true := by
  have := RB.tasks hB
  have := fo_p (st := viS I g) (Q := fun b => b ≠ 0 ∧ (I 22 0 b) = 0 ∧ (I 28 0 b) ≠ -10 ∧ win I ((I 25 0 b)) g = true) (fun k b k0 hb => by
    unfold viS
    split
    · rename_i q; exact Or.inr ⟨q.1, q.2.1, q.2.2.1, q.2.2.2.1⟩
    · exact hb) (n := (I 12 0 1)) (by omega)
  rcases this with q | q
  · unfold viF at h; omega
  · exact q
theorem rcF_p {I : ST} (hB : RB I) {g : Int} (h : 0 ≤ rcF I g) : win I (rcF I g) g = true ∧ 0 < (I 43 0 (rcF I g)) := by
  have := RB.groups hB
  have := fo_p (st := rcS I g) (Q := fun b => win I b g = true ∧ 0 < (I 43 0 b)) (fun k b k0 hb => by
    unfold rcS
    split
    · rename_i q; exact Or.inr ⟨q.1, q.2.1⟩
    · exact hb) (n := (I 12 0 17)) (by omega)
  rcases this with q | q
  · unfold rcF at h; omega
  · exact q
/-- none is found: none is there -/
theorem rcF_n {I : ST} (hB : RB I) {g k : Int} (h : rcF I g < 0) (k0 : 0 ≤ k) (k1 : k < (I 12 0 17)) : ¬ (win I k g = true ∧ 0 < (I 43 0 k)) := by
  have hm : ∀ m : Nat, fo (rcS I g) (-1) m < 0 → ∀ k : Int, 0 ≤ k → k < m → ¬ (win I k g = true ∧ 0 < (I 43 0 k)) := by
    intro m
    induction m with
    | zero => intro _ k k0 k1; omega
    | succ m ih =>
      intro hm k k0 k1 q
      rw [show ((m + 1 : Nat) : Int) = (m : Int) + 1 by omega, fo_s (by omega)] at hm
      by_cases hk : k = m
      · subst hk
        unfold rcS at hm
        split at hm
        · omega
        · rename_i hq
          exact hq ⟨q.1, q.2, Or.inl (by omega)⟩
      · refine ih ?_ k k0 (by omega) q
        unfold rcS at hm
        split at hm
        · omega
        · exact hm
  have := RB.groups hB
  refine hm (I 12 0 17).toNat ?_ k k0 (by omega)
  rw [show (((I 12 0 17).toNat : Nat) : Int) = (I 12 0 17) by omega]
  exact h
/-- how many caches there are in a group -/
def pcT (I : ST) (g k : Int) : Int := if win I k g = true ∧ 0 < (I 43 0 k) then 1 else 0
/-- caches of a group are taken, n at most, for l pages -/
def tcF (g : Int) : Nat → ST → Int → ST
  | 0, I, _ => I
  | n + 1, I, l => if 0 < l then (if rcF I g < 0 then I else tcF g n (up I 43 0 (rcF I g) ((I 43 0 (rcF I g)) - min (I 43 0 (rcF I g)) l)) (l - min (I 43 0 (rcF I g)) l)) else I
theorem tcF_0 {g : Int} {n : Nat} {I : ST} {l : Int} (h : l ≤ 0) : tcF g n I l = I := by
  cases n with
  | zero => rfl
  | succ n => rw [tcF, if_neg (by omega)]
def tcI (I : ST) (g n : Int) : ST := tcF g 20 I (usF I g + n - (I 40 0 g))
theorem sm_c {f f' : Int → Int} {n : Int} (h : ∀ k, 0 ≤ k → k < n → f k = f' k) : sm f n = sm f' n := by
  unfold sm
  have : ∀ m : Nat, (m : Int) ≤ n → smN f m = smN f' m := by
    intro m
    induction m with
    | zero => intro _; rfl
    | succ m ih => intro q; rw [smN, smN, ih (by omega), h m (by omega) (by omega)]
  by_cases hn : 0 ≤ n
  · exact this n.toNat (by omega)
  · rw [show n.toNat = 0 by omega]; rfl
/-- one row of a sum changes -/
theorem sm_u {f f' : Int → Int} {n x : Int} (x0 : 0 ≤ x) (x1 : x < n) (h : ∀ k, 0 ≤ k → k < n → k ≠ x → f' k = f k) : sm f' n = sm f n + (f' x - f x) := by
  have : ∀ m : Nat, (m : Int) ≤ n → smN f' m = smN f m + (if x < m then f' x - f x else 0) := by
    intro m
    induction m with
    | zero => intro _; rw [if_neg (by omega)]; rfl
    | succ m ih =>
      intro q
      rw [smN, smN, ih (by omega)]
      by_cases hm : x = m
      · subst hm
        rw [if_neg (by omega), if_pos (by omega)]; omega
      · rw [h m (by omega) (by omega) (by omega)]
        by_cases hx : x < m
        · rw [if_pos hx, if_pos (by omega)]; omega
        · rw [if_neg hx, if_neg (by omega)]; omega
  have := this n.toNat (by omega)
  rw [if_pos (by omega)] at this
  exact this
theorem sm_le {f f' : Int → Int} {n : Int} (h : ∀ k, 0 ≤ k → k < n → f k ≤ f' k) : sm f n ≤ sm f' n := by
  have : ∀ m : Nat, (m : Int) ≤ n → smN f m ≤ smN f' m := by
    intro m
    induction m with
    | zero => intro _; exact Int.le_refl _
    | succ m ih => intro q; rw [smN, smN]; have := ih (by omega); have := h m (by omega) (by omega); omega
  by_cases hn : 0 ≤ n
  · exact this n.toNat (by omega)
  · unfold sm; rw [show n.toNat = 0 by omega]; exact Int.le_refl _
section RA
variable {e : EN} {C I : ST} {z : Nat × Nat × Nat × Nat}
theorem richest_ev (hA : WA e z) (hR : WR e) (hB : RB I) {g l : Int} (g0 : -1 ≤ g) (g1 : g < 20) (l0 : 0 < l) (l1 : l < 2147483648) {r : XV × XH} (hz : rcF I g = -1 → r = rV (HS e C I z)) (hk : 0 ≤ rcF I g → Ev (fun F => J12_takeCache_15 F (rf e 12 0) (xk g) (xk (l - min (I 43 0 (rcF I g)) l)) (HS e C (up I 43 0 (rcF I g) ((I 43 0 (rcF I g)) - min (I 43 0 (rcF I g)) l)) z)) r) : Ev (fun F => J12_takeCache_25 F (rf e 12 0) (xk g) (xk l) (xk (-1)) (xk 0) (HS e C I z)) r := by
  have := RB.groups hB
  refine lpN (P := fun k => ∀ b, 0 ≤ k → k ≤ (I 12 0 17) → -1 ≤ b → b < k → b = fo (rcS I g) (-1) k → Ev (fun F => J12_takeCache_25 F (rf e 12 0) (xk g) (xk l) (xk b) (xk k) (HS e C I z)) r) (I 12 0 17) (fun k ih b k0 k1 b0 b1 hb => ?_) 0 (-1) (by omega) (by omega) (by omega) (by omega) rfl
  refine Ev.step (fun F => E12_takeCache_25 F _ _ _ _ _ _) ?_
  simp (disch := omega) only [a_43 hA hR, d_12 hA hR, g_12_17 hA hR, g_12_23 hA hR, s_43 hA hR, Option.bind_some, up_s, up_k, up_j, up_i, xk_add, xk_sub, xk_mul, xk_neg, lk_add, lN_z, rf_none, rb1, rb0, rbp, xk_nI, zk_eq, zk_lt, zk_eq0, zk_lt0, zk_0lt, zk_long, lz_lt, lz_gt, zmax, zmin, ↓reduceIte, Int.reduceEq, Int.reduceLT, Int.reduceNeg, Int.reduceAdd, Int.reduceSub, Int.reduceMul, Int.ofNat_eq_natCast, Int.cast_ofNat_Int]
  refine Ev.ite (fun h => ?_) (fun h => ?_)
  · have := RB.cached hB (j := k) (by omega) (by omega)
    have ih := fun b => ih h b (by omega) (by omega)
    rw [fo_s (by omega), ← hb, rcS] at ih
    have no : ¬ (win I k g = true ∧ 0 < (I 43 0 k) ∧ (b < 0 ∨ (I 43 0 b) < (I 43 0 k))) → Ev (fun F => J12_takeCache_25 F (rf e 12 0) (xk g) (xk l) (xk b) (xk (k + 1)) (HS e C I z)) r := fun q => ih b (by omega) (by omega) (by rw [if_neg q])
    have yes : (win I k g = true ∧ 0 < (I 43 0 k) ∧ (b < 0 ∨ (I 43 0 b) < (I 43 0 k))) → Ev (fun F => J12_takeCache_25 F (rf e 12 0) (xk g) (xk l) (xk k) (xk (k + 1)) (HS e C I z)) r := fun q => ih k (by omega) (by omega) (by rw [if_pos q])
    refine Ev.kB (isWithin_ev hA hR hB g0 g1 (by omega) (by omega)) (fun hi => ?_) (fun hi => ?_)
    · try simp (disch := omega) only [a_43 hA hR, d_12 hA hR, g_12_17 hA hR, g_12_23 hA hR, s_43 hA hR, Option.bind_some, up_s, up_k, up_j, up_i, xk_add, xk_sub, xk_mul, xk_neg, lk_add, lN_z, rf_none, rb1, rb0, rbp, xk_nI, zk_eq, zk_lt, zk_eq0, zk_lt0, zk_0lt, zk_long, lz_lt, lz_gt, zmax, zmin, ↓reduceIte, Int.reduceEq, Int.reduceLT, Int.reduceNeg, Int.reduceAdd, Int.reduceSub, Int.reduceMul, Int.ofNat_eq_natCast, Int.cast_ofNat_Int]
      refine Ev.ite (fun hc => ?_) (fun hc => no (fun q => hc q.2.1))
      refine Ev.ite (fun hn => yes ⟨hi, hc, by omega⟩) (fun hn => ?_)
      have := RB.cached hB (j := b) (by omega) (by omega)
      try simp (disch := omega) only [a_43 hA hR, d_12 hA hR, g_12_17 hA hR, g_12_23 hA hR, s_43 hA hR, Option.bind_some, up_s, up_k, up_j, up_i, xk_add, xk_sub, xk_mul, xk_neg, lk_add, lN_z, rf_none, rb1, rb0, rbp, xk_nI, zk_eq, zk_lt, zk_eq0, zk_lt0, zk_0lt, zk_long, lz_lt, lz_gt, zmax, zmin, ↓reduceIte, Int.reduceEq, Int.reduceLT, Int.reduceNeg, Int.reduceAdd, Int.reduceSub, Int.reduceMul, Int.ofNat_eq_natCast, Int.cast_ofNat_Int]
      exact Ev.ite (fun hl => yes ⟨hi, hc, by omega⟩) (fun hl => no (fun q => by omega))
    · try simp (disch := omega) only [a_43 hA hR, d_12 hA hR, g_12_17 hA hR, g_12_23 hA hR, s_43 hA hR, Option.bind_some, up_s, up_k, up_j, up_i, xk_add, xk_sub, xk_mul, xk_neg, lk_add, lN_z, rf_none, rb1, rb0, rbp, xk_nI, zk_eq, zk_lt, zk_eq0, zk_lt0, zk_0lt, zk_long, lz_lt, lz_gt, zmax, zmin, ↓reduceIte, Int.reduceEq, Int.reduceLT, Int.reduceNeg, Int.reduceAdd, Int.reduceSub, Int.reduceMul, Int.ofNat_eq_natCast, Int.cast_ofNat_Int]
      exact no (fun q => hi q.1)
  · have : k = (I 12 0 17) := by omega
    subst this
    have hb : b = rcF I g := hb
    subst hb
    refine Ev.ite (fun hn => ?_) (fun hn => ?_)
    · exact Ev.ret (hz hn).symm
    · have hk := hk (by omega)
      have := RB.cached hB (j := (rcF I g)) (by omega) (by omega)
      try simp (disch := omega) only [a_43 hA hR, d_12 hA hR, g_12_17 hA hR, g_12_23 hA hR, s_43 hA hR, Option.bind_some, up_s, up_k, up_j, up_i, xk_add, xk_sub, xk_mul, xk_neg, lk_add, lN_z, rf_none, rb1, rb0, rbp, xk_nI, zk_eq, zk_lt, zk_eq0, zk_lt0, zk_0lt, zk_long, lz_lt, lz_gt, zmax, zmin, ↓reduceIte, Int.reduceEq, Int.reduceLT, Int.reduceNeg, Int.reduceAdd, Int.reduceSub, Int.reduceMul, Int.ofNat_eq_natCast, Int.cast_ofNat_Int]
      refine Ev.ite (fun hl => ?_) (fun hl => ?_)
      · rw [show min (I 43 0 (rcF I g)) l = (I 43 0 (rcF I g)) by omega] at hk
        exact hk
      · rw [show min (I 43 0 (rcF I g)) l = l by omega] at hk
        exact hk
theorem takeCache15_ev (hA : WA e z) (hR : WR e) {g : Int} (g0 : -1 ≤ g) (g1 : g < 20) : ∀ (n : Nat) (I : ST) (l : Int), RB I → l < 2147483648 → -2147483648 ≤ l → sm (pcT I g) (I 12 0 17) ≤ n → Ev (fun F => J12_takeCache_15 F (rf e 12 0) (xk g) (xk l) (HS e C I z)) (rV (HS e C (tcF g n I l) z)) := by
  intro n
  induction n with
  | zero =>
    intro I l hB l0 l1 hc
    refine Ev.step (fun F => E12_takeCache_15 F _ _ _ _) ?_
    simp (disch := omega) only [Option.bind_some, up_s, up_k, up_j, up_i, xk_add, xk_sub, xk_mul, xk_neg, lk_add, lN_z, rf_none, rb1, rb0, rbp, xk_nI, zk_eq, zk_lt, zk_eq0, zk_lt0, zk_0lt, zk_long, lz_lt, lz_gt, zmax, zmin, ↓reduceIte, Int.reduceEq, Int.reduceLT, Int.reduceNeg, Int.reduceAdd, Int.reduceSub, Int.reduceMul, Int.ofNat_eq_natCast, Int.cast_ofNat_Int]
    refine Ev.ite (fun h => ?_) (fun h => Ev.ret rfl)
    refine richest_ev hA hR hB g0 g1 h l0 (fun _ => rfl) (fun q => ?_)
    exfalso
    have := rcF_p hB q
    have b := rcF_b hB (g := g)
    have := sm_ge (f := pcT I g) (fun k => by unfold pcT; split <;> decide) (t := rcF I g) (by omega) b.2
    rw [pcT, if_pos (by assumption)] at this
    omega
  | succ n ih =>
    intro I l hB l0 l1 hc
    refine Ev.step (fun F => E12_takeCache_15 F _ _ _ _) ?_
    simp (disch := omega) only [Option.bind_some, up_s, up_k, up_j, up_i, xk_add, xk_sub, xk_mul, xk_neg, lk_add, lN_z, rf_none, rb1, rb0, rbp, xk_nI, zk_eq, zk_lt, zk_eq0, zk_lt0, zk_0lt, zk_long, lz_lt, lz_gt, zmax, zmin, ↓reduceIte, Int.reduceEq, Int.reduceLT, Int.reduceNeg, Int.reduceAdd, Int.reduceSub, Int.reduceMul, Int.ofNat_eq_natCast, Int.cast_ofNat_Int]
    rw [tcF]
    refine Ev.ite (fun h => ?_) (fun h => Ev.ret (by rw [if_neg h]; rfl))
    rw [if_pos h]
    refine richest_ev hA hR hB g0 g1 h l0 (fun q => by rw [if_pos (by omega)]) (fun q => ?_)
    rw [if_neg (by omega)]
    have hp := rcF_p hB q
    have b := rcF_b hB (g := g)
    have := RB.groups hB
    have := RB.cached hB (j := (rcF I g)) (by omega) (by omega)
    by_cases hl : (I 43 0 (rcF I g)) < l
    · refine ih _ _ (RB.u_cached hB (by omega) (by omega)) (by omega) (by omega) ?_
      have := sm_u (f := pcT I g) (f' := pcT (up I 43 0 (rcF I g) ((I 43 0 (rcF I g)) - min (I 43 0 (rcF I g)) l)) g) (n := (I 12 0 17)) (x := rcF I g) (by omega) (by omega) (fun k k0 k1 hk => by
        unfold pcT
        rw [win_c (I' := up I 43 0 (rcF I g) ((I 43 0 (rcF I g)) - min (I 43 0 (rcF I g)) l)) (I := I) (fun k => by simp [up]), up_j hk])
      have h1 : pcT I g (rcF I g) = 1 := by rw [pcT, if_pos hp]
      have h2 : pcT (up I 43 0 (rcF I g) ((I 43 0 (rcF I g)) - min (I 43 0 (rcF I g)) l)) g (rcF I g) = 0 := by rw [pcT, if_neg (by rw [up_s]; omega)]
      rw [up_k (by decide), this]
      omega
    · rw [show min (I 43 0 (rcF I g)) l = l by omega, tcF_0 (by omega), Int.sub_self]
      refine Ev.step (fun F => E12_takeCache_15 F _ _ _ _) ?_
      simp (disch := omega) only [Option.bind_some, up_s, up_k, up_j, up_i, xk_add, xk_sub, xk_mul, xk_neg, lk_add, lN_z, rf_none, rb1, rb0, rbp, xk_nI, zk_eq, zk_lt, zk_eq0, zk_lt0, zk_0lt, zk_long, lz_lt, lz_gt, zmax, zmin, ↓reduceIte, Int.reduceEq, Int.reduceLT, Int.reduceNeg, Int.reduceAdd, Int.reduceSub, Int.reduceMul, Int.ofNat_eq_natCast, Int.cast_ofNat_Int]
      exact Ev.ret rfl
/-- the first group from g on that has no room for n pages -/
def tfF (I : ST) (n : Int) : Nat → Int → Int
  | 0, g => g
  | m + 1, g => if g < 0 then g else if (I 40 0 g) < usF I g + n then g else tfF I n m (I 38 0 g)
theorem tooFull_ev (hA : WA e z) (hR : WR e) (hB : RB I) {n : Int} (n0 : 0 ≤ n) (n1 : n ≤ 1000000) (hu : ∀ g, 0 ≤ g → g < (I 12 0 17) → 0 ≤ usF I g ∧ usF I g ≤ 1000000) (hw : ∀ g, 0 ≤ g → g < (I 12 0 17) → (I 38 0 g) < (I 12 0 17)) : ∀ (m : Nat) (g : Int), g < m → -1 ≤ g → g < (I 12 0 17) → Ev (fun F => J12_tooFull_2 F (rf e 12 0) (xk n) (xk g) (HS e C I z)) (rI (tfF I n m g) (HS e C I z)) := by
  have := RB.groups hB
  intro m
  induction m with
  | zero =>
    intro g h0 h1 h2
    refine Ev.step (fun F => E12_tooFull_2 F _ _ _ _) ?_
    simp (disch := omega) only [a_38 hA hR, a_40 hA hR, d_12 hA hR, g_12_18 hA hR, g_12_20 hA hR, Option.bind_some, up_s, up_k, up_j, up_i, xk_add, xk_sub, xk_mul, xk_neg, lk_add, lN_z, rf_none, rb1, rb0, rbp, xk_nI, zk_eq, zk_lt, zk_eq0, zk_lt0, zk_0lt, zk_long, lz_lt, lz_gt, zmax, zmin, ↓reduceIte, Int.reduceEq, Int.reduceLT, Int.reduceNeg, Int.reduceAdd, Int.reduceSub, Int.reduceMul, Int.ofNat_eq_natCast, Int.cast_ofNat_Int]
    exact Ev.ite (fun _ => Ev.ret rfl) (fun q => absurd q (by omega))
  | succ m ih =>
    intro g h0 h1 h2
    rw [tfF]
    refine Ev.step (fun F => E12_tooFull_2 F _ _ _ _) ?_
    simp (disch := omega) only [a_38 hA hR, a_40 hA hR, d_12 hA hR, g_12_18 hA hR, g_12_20 hA hR, Option.bind_some, up_s, up_k, up_j, up_i, xk_add, xk_sub, xk_mul, xk_neg, lk_add, lN_z, rf_none, rb1, rb0, rbp, xk_nI, zk_eq, zk_lt, zk_eq0, zk_lt0, zk_0lt, zk_long, lz_lt, lz_gt, zmax, zmin, ↓reduceIte, Int.reduceEq, Int.reduceLT, Int.reduceNeg, Int.reduceAdd, Int.reduceSub, Int.reduceMul, Int.ofNat_eq_natCast, Int.cast_ofNat_Int]
    refine Ev.ite (fun q => Ev.ret (by rw [if_pos (by omega)]; rfl)) (fun q => ?_)
    have := RB.max hB (j := g) (by omega) (by omega)
    have := RB.within hB (j := g) (by omega) (by omega)
    have := RB.wiw hB (j := g) (by omega) (by omega)
    have := hu g (by omega) h2
    refine Ev.kI (uses_ev hA hR hB (by omega) (by omega)) ?_
    try simp (disch := omega) only [a_38 hA hR, a_40 hA hR, d_12 hA hR, g_12_18 hA hR, g_12_20 hA hR, Option.bind_some, up_s, up_k, up_j, up_i, xk_add, xk_sub, xk_mul, xk_neg, lk_add, lN_z, rf_none, rb1, rb0, rbp, xk_nI, zk_eq, zk_lt, zk_eq0, zk_lt0, zk_0lt, zk_long, lz_lt, lz_gt, zmax, zmin, ↓reduceIte, Int.reduceEq, Int.reduceLT, Int.reduceNeg, Int.reduceAdd, Int.reduceSub, Int.reduceMul, Int.ofNat_eq_natCast, Int.cast_ofNat_Int]
    rw [if_neg (by omega)]
    refine Ev.ite (fun h => Ev.ret (by rw [if_pos h]; rfl)) (fun h => ?_)
    rw [if_neg h]
    exact ih _ (by omega) (by omega) (hw g (by omega) h2)
end RA
