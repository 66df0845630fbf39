/-! the reference: who is ready, and the least time -/
/-- x is the first of those with P below n that have the least f -/
def AM (P : Int → Prop) (f : Int → Int) (n x : Int) : Prop := (x = -1 ∧ ∀ t, 0 ≤ t → t < n → ¬ P t) ∨ (0 ≤ x ∧ x < n ∧ P x ∧ ∀ t, 0 ≤ t → t < n → P t → f x < f t ∨ (f x = f t ∧ x ≤ t))
section AMs
variable {P : Int → Prop} {f : Int → Int} {n x y : Int}
theorem AM.z : AM P f 0 (-1) := Or.inl ⟨rfl, fun t a b => absurd b (by omega)⟩
theorem AM.b (h : AM P f n x) (hn : 0 ≤ n) : -1 ≤ x ∧ x < n := by
  rcases h with h | h <;> omega
theorem AM.p (h : AM P f n x) (hx : 0 ≤ x) : P x := by
  rcases h with h | h
  · omega
  · exact h.2.2.1
theorem AM.no (h : AM P f n x) (hp : ¬ P n) : AM P f (n + 1) x := by
  rcases h with h | h
  · refine Or.inl ⟨h.1, fun t a b q => ?_⟩
    by_cases e : t = n
    · exact hp (e ▸ q)
    · exact h.2 t a (by omega) q
  · refine Or.inr ⟨h.1, by omega, h.2.2.1, fun t a b q => ?_⟩
    by_cases e : t = n
    · exact absurd (e ▸ q) hp
    · exact h.2.2.2 t a (by omega) q
theorem AM.take (h : AM P f n x) (hn : 0 ≤ n) (hp : P n) (hx : x < 0 ∨ f n < f x) : AM P f (n + 1) n := by
  refine Or.inr ⟨hn, by omega, hp, fun t a b q => ?_⟩
  by_cases e : t = n
  · subst e; omega
  · rcases h with h | h
    · exact absurd q (h.2 t a (by omega))
    · have := h.2.2.2 t a (by omega) q
      omega
theorem AM.keep (h : AM P f n x) (hx : 0 ≤ x) (hf : f x ≤ f n) : AM P f (n + 1) x := by
  rcases h with h | h
  · omega
  · refine Or.inr ⟨h.1, by omega, h.2.2.1, fun t a b q => ?_⟩
    by_cases e : t = n
    · subst e; omega
    · exact h.2.2.2 t a (by omega) q
theorem AM.uq (h : AM P f n x) (h' : AM P f n y) : x = y := by
  rcases h with h | h <;> rcases h' with h' | h'
  · omega
  · exact absurd h'.2.2.1 (h.2 y h'.1 h'.2.1)
  · exact absurd h.2.2.1 (h'.2 x h.1 h.2.1)
  · have := h.2.2.2 y h'.1 h'.2.1 h'.2.2.1
    have := h'.2.2.2 x h.1 h.2.1 h.2.2.1
    omega
theorem AM.c {P' : Int → Prop} {f' : Int → Int} (h : AM P f n x) (hp : ∀ t, 0 ≤ t → t < n → (P t ↔ P' t)) (hf : ∀ t, 0 ≤ t → t < n → P t → f' t = f t) : AM P' f' n x := by
  rcases h with h | h
  · exact Or.inl ⟨h.1, fun t a b q => h.2 t a b ((hp t a b).mpr q)⟩
  · refine Or.inr ⟨h.1, h.2.1, (hp x h.1 h.2.1).mp h.2.2.1, fun t a b q => ?_⟩
    have q' := (hp t a b).mpr q
    rw [hf x h.1 h.2.1 h.2.2.1, hf t a b q']
    exact h.2.2.2 t a b q'
end AMs
def rt (J : ST) (g t : Int) : Prop := 0 ≤ t ∧ t < (J 12 0 1) ∧ (J 22 0 t) = 0 ∧ (J 29 0 t) = 0 ∧ (J 25 0 t) = g
def qok (J : ST) (k : Int) : Prop := (J 42 0 k) = 0 ∨ (J 44 0 k) < (J 42 0 k)
def rg (hs : Int → Bool) (J : ST) (g k : Int) : Prop := 0 < k ∧ k < (J 12 0 17) ∧ (J 38 0 k) = g ∧ hs k = true ∧ qok J k
def HsR (J : ST) (hs : Int → Bool) : Prop := ∀ g, 0 ≤ g → g < (J 12 0 17) → (hs g = true ↔ (∃ t, rt J g t) ∨ ∃ k, rg hs J g k)
def frN (J : ST) (hs : Int → Bool) (g b : Int) : ST := fun k i j => if k = 59 ∧ i = 0 ∧ g < j ∧ j < (J 12 0 17) then bI (hs j = true) else if k = 59 ∧ i = 0 ∧ j = g then b else J k i j
def frI (J : ST) (hs : Int → Bool) : ST := fun k i j => if k = 59 ∧ i = 0 ∧ 0 ≤ j ∧ j < (J 12 0 17) then bI (hs j = true) else J k i j
/-- times and ticks are in bounds -/
def KB (J : ST) : Prop := (∀ t, 0 ≤ t → t < 150 → 0 ≤ (J 30 0 t) ∧ (J 30 0 t) < 1000000000000) ∧ (∀ g, 0 ≤ g → g < 20 → 0 ≤ (J 45 0 g) ∧ (J 45 0 g) < 1000000000000 ∧ 0 ≤ (J 44 0 g) ∧ (J 44 0 g) < 1000000) ∧ 0 ≤ (J 12 0 26) ∧ (J 12 0 26) < 1000000
theorem bI_b {p : Prop} [Decidable p] : 0 ≤ bI p ∧ bI p ≤ 1 := by unfold bI; split <;> omega
theorem or1 {a : Int} (h : 0 ≤ a) (h' : a ≤ 1) : xk a ||| xk 1 = xk 1 := by
  rcases (by omega : a = 0 ∨ a = 1) with rfl | rfl <;> decide +kernel
theorem or0 {a : Int} (h : 0 ≤ a) (h' : a ≤ 1) : xk a ||| xk 0 = xk a := by
  rcases (by omega : a = 0 ∨ a = 1) with rfl | rfl <;> decide +kernel
theorem frN_u {J : ST} {hs : Int → Bool} {g b b' : Int} : up (frN J hs g b) 59 0 g b' = frN J hs g b' := by
  funext k i j
  simp only [up, frN]
  repeat' split
  all_goals first | rfl | (exfalso; omega)
theorem RB.frn {J : ST} (hB : RB J) {hs : Int → Bool} {g b : Int} (b0 : 0 ≤ b) (b1 : b ≤ 1) : RB (frN J hs g b) := by
  obtain ⟨h1, h2, h3, h4, h5, h6⟩ := hB
  refine ⟨fun r hr a a0 a1 => ?_, fun g g0 g1 => ?_, ?_, ?_, ?_, ?_⟩
  · have := h1 r hr a a0 a1
    have e1 : ∀ r ∈ rbt, r.1 = 59 → r.2.1 = 0 ∧ r.2.2.1 = 1 := by decide
    unfold frN
    split
    · rename_i hh; have := e1 r hr hh.1; have := bI_b (p := hs a = true); omega
    · split
      · rename_i hh; have := e1 r hr hh.1; omega
      · exact this
  · have := h2 g g0 g1
    simpa [frN] using this
  all_goals simpa [frN]
theorem RB.fri {J : ST} (hB : RB J) {hs : Int → Bool} : RB (frI J hs) := by
  obtain ⟨h1, h2, h3, h4, h5, h6⟩ := hB
  refine ⟨fun r hr a a0 a1 => ?_, fun g g0 g1 => ?_, ?_, ?_, ?_, ?_⟩
  · have := h1 r hr a a0 a1
    have e1 : ∀ r ∈ rbt, r.1 = 59 → r.2.1 = 0 ∧ r.2.2.1 = 1 := by decide
    unfold frI
    split
    · rename_i hh; have := e1 r hr hh.1; have := bI_b (p := hs a = true); omega
    · exact this
  · have := h2 g g0 g1
    simpa [frI] using this
  all_goals simpa [frI]
theorem fr_f {J : ST} {hs : Int → Bool} {k : Nat} {i j : Int} (h : k ≠ 59) : frI J hs k i j = J k i j := by simp [frI, h]
theorem fr_h {J : ST} {hs : Int → Bool} {j : Int} (h0 : 0 ≤ j) (h1 : j < (J 12 0 17)) : frI J hs 59 0 j = bI (hs j = true) := by simp [frI, h0, h1]
theorem bI_1 {p : Prop} [Decidable p] : bI p = 1 ↔ p := by
  unfold bI
  by_cases h : p
  · simp [h]
  · simp [h]
section RA
variable {e : EN} {C I : ST} {z : Nat × Nat × Nat × Nat}
theorem findReady80_ev (hA : WA e z) (hR : WR e) (hB : RB I) (hK : KB I) {hs : Int → Bool} (hH : HsR I hs) {g : Int} (g0 : 0 ≤ g) (g1 : g < (I 12 0 17)) {r : XV × XH} (hr : Ev (fun F => J12_findReady_7 F (rf e 12 0) (xk (g - 1)) (HS e C (frN I hs g (bI (hs g = true))) z)) r) : ∀ k b, g < k → k ≤ (I 12 0 17) → 0 ≤ b → b ≤ 1 → (b = 1 ↔ (∃ t, rt I g t) ∨ ∃ k', k' < k ∧ rg hs I g k') → Ev (fun F => J12_findReady_80 F (rf e 12 0) (xk g) (xk k) (HS e C (frN I hs g b) z)) r := by
  intro k
  refine lpN (P := fun k => ∀ b, g < k → k ≤ (I 12 0 17) → 0 ≤ b → b ≤ 1 → (b = 1 ↔ (∃ t, rt I g t) ∨ ∃ k', k' < k ∧ rg hs I g k') → Ev (fun F => J12_findReady_80 F (rf e 12 0) (xk g) (xk k) (HS e C (frN I hs g b) z)) r) (I 12 0 17) (fun k ih b k0 k1 b0 b1 hb => ?_) k
  have hB' := hB.frn (hs := hs) (g := g) b0 b1
  have := RB.groups hB
  have e1 : frN I hs g b 12 0 17 = (I 12 0 17) := by simp [frN]
  have e2 : frN I hs g b 59 0 g = b := by simp [frN]
  have e3 : ∀ j, frN I hs g b 38 0 j = (I 38 0 j) := fun j => by simp [frN]
  refine Ev.step (fun F => E12_findReady_80 F _ _ _ _) ?_
  simp (disch := omega) only [a_38 hA hR, a_59 hA hR, d_12 hA hR, g_12_17 hA hR, g_12_18 hA hR, g_12_39 hA hR, s_38 hA hR, s_59 hA hR, Option.bind_some, up_s, up_k, up_j, up_i, xk_add, xk_sub, xk_mul, xk_neg, lk_add, lN_z, rf_none, rb1, rb0, rbp, xk_nI, zk_eq, zk_lt, zk_eq0, zk_lt0, zk_0lt, zk_long, lz_lt, lz_gt, zmax, zmin, ↓reduceIte, Int.reduceEq, Int.reduceLT, Int.reduceNeg, Int.reduceAdd, Int.reduceSub, Int.reduceMul, Int.ofNat_eq_natCast, Int.cast_ofNat_Int, e1, e2, e3]
  refine Ev.ite (fun h => ?_) (fun h => ?_)
  · have := RB.within hB (j := k) (by omega) (by omega)
    have ih := fun b => ih h b (by omega) (by omega)
    try simp (disch := omega) only [a_38 hA hR, a_59 hA hR, d_12 hA hR, g_12_17 hA hR, g_12_18 hA hR, g_12_39 hA hR, s_38 hA hR, s_59 hA hR, Option.bind_some, up_s, up_k, up_j, up_i, xk_add, xk_sub, xk_mul, xk_neg, lk_add, lN_z, rf_none, rb1, rb0, rbp, xk_nI, zk_eq, zk_lt, zk_eq0, zk_lt0, zk_0lt, zk_long, lz_lt, lz_gt, zmax, zmin, ↓reduceIte, Int.reduceEq, Int.reduceLT, Int.reduceNeg, Int.reduceAdd, Int.reduceSub, Int.reduceMul, Int.ofNat_eq_natCast, Int.cast_ofNat_Int, e1, e2, e3]
    have no : ¬ rg hs I g k → Ev (fun F => J12_findReady_80 F (rf e 12 0) (xk g) (xk (k + 1)) (HS e C (frN I hs g b) z)) r := fun q => ih b b0 b1 (hb.trans (or_congr_right ⟨fun ⟨a, c, d⟩ => ⟨a, by omega, d⟩, fun ⟨a, c, d⟩ => ⟨a, by
      by_cases ak : a = k
      · exact absurd (ak ▸ d) q
      · omega, d⟩⟩))
    have hq := hK.2.1 k (by omega) (by omega)
    have e4 : ∀ j, frN I hs g b 44 0 j = (I 44 0 j) := fun j => by simp [frN]
    have e5 : frN I hs g b 59 0 k = bI (hs k = true) := by simp [frN, k0, h]
    have e6 : ∀ j, frN I hs g b 42 0 j = (I 42 0 j) := fun j => by simp [frN]
    refine Ev.ite (fun hw => ?_) (fun hw => ?_)
    · refine Ev.kB (isReadyR_ev hA hR hB' (by omega) (by omega) (by rw [e4]; omega) (by rw [e4]; omega)) (fun hi => ?_) (fun hi => ?_)
      · rw [e4, e5, e6, bI_1] at hi
        try simp (disch := omega) only [a_38 hA hR, a_59 hA hR, d_12 hA hR, g_12_17 hA hR, g_12_18 hA hR, g_12_39 hA hR, s_38 hA hR, s_59 hA hR, Option.bind_some, up_s, up_k, up_j, up_i, xk_add, xk_sub, xk_mul, xk_neg, lk_add, lN_z, rf_none, rb1, rb0, rbp, xk_nI, zk_eq, zk_lt, zk_eq0, zk_lt0, zk_0lt, zk_long, lz_lt, lz_gt, zmax, zmin, ↓reduceIte, Int.reduceEq, Int.reduceLT, Int.reduceNeg, Int.reduceAdd, Int.reduceSub, Int.reduceMul, Int.ofNat_eq_natCast, Int.cast_ofNat_Int, e1, e2, e3, or1, or0, frN_u]
        exact ih 1 (by omega) (by omega) ⟨fun _ => Or.inr ⟨k, by omega, by omega, h, hw, hi.1, hi.2⟩, fun _ => rfl⟩
      · rw [e4, e5, e6, bI_1] at hi
        try simp (disch := omega) only [a_38 hA hR, a_59 hA hR, d_12 hA hR, g_12_17 hA hR, g_12_18 hA hR, g_12_39 hA hR, s_38 hA hR, s_59 hA hR, Option.bind_some, up_s, up_k, up_j, up_i, xk_add, xk_sub, xk_mul, xk_neg, lk_add, lN_z, rf_none, rb1, rb0, rbp, xk_nI, zk_eq, zk_lt, zk_eq0, zk_lt0, zk_0lt, zk_long, lz_lt, lz_gt, zmax, zmin, ↓reduceIte, Int.reduceEq, Int.reduceLT, Int.reduceNeg, Int.reduceAdd, Int.reduceSub, Int.reduceMul, Int.ofNat_eq_natCast, Int.cast_ofNat_Int, e1, e2, e3, or1, or0, frN_u]
        exact no (fun q => hi ⟨q.2.2.2.1, q.2.2.2.2⟩)
    · try simp (disch := omega) only [a_38 hA hR, a_59 hA hR, d_12 hA hR, g_12_17 hA hR, g_12_18 hA hR, g_12_39 hA hR, s_38 hA hR, s_59 hA hR, Option.bind_some, up_s, up_k, up_j, up_i, xk_add, xk_sub, xk_mul, xk_neg, lk_add, lN_z, rf_none, rb1, rb0, rbp, xk_nI, zk_eq, zk_lt, zk_eq0, zk_lt0, zk_0lt, zk_long, lz_lt, lz_gt, zmax, zmin, ↓reduceIte, Int.reduceEq, Int.reduceLT, Int.reduceNeg, Int.reduceAdd, Int.reduceSub, Int.reduceMul, Int.ofNat_eq_natCast, Int.cast_ofNat_Int, e1, e2, e3, or1, or0, frN_u]
      exact no (fun q => hw q.2.2.1)
  · have : k = (I 12 0 17) := by omega
    subst this
    have : b = bI (hs g = true) := by
      have h1 := hH g g0 g1
      have h2 : (∃ k', k' < (I 12 0 17) ∧ rg hs I g k') ↔ ∃ k, rg hs I g k := ⟨fun ⟨a, c, d⟩ => ⟨a, d⟩, fun ⟨a, d⟩ => ⟨a, d.2.1, d⟩⟩
      rw [h2, ← h1] at hb
      have := bI_b (p := hs g = true)
      have := bI_1 (p := hs g = true)
      by_cases q : hs g = true
      · rw [hb.mpr q, this.mpr q]
      · have : b ≠ 1 := fun w => q (hb.mp w)
        rw [bI_f q]; omega
    subst this
    rw [Int.sub_eq_add_neg] at hr
    exact hr
theorem findReady20_ev (hA : WA e z) (hR : WR e) (hB : RB I) (hK : KB I) {hs : Int → Bool} (hH : HsR I hs) {g : Int} (g0 : 0 ≤ g) (g1 : g < (I 12 0 17)) {r : XV × XH} (hr : Ev (fun F => J12_findReady_7 F (rf e 12 0) (xk (g - 1)) (HS e C (frN I hs g (bI (hs g = true))) z)) r) : ∀ t b, 0 ≤ t → t ≤ (I 12 0 1) → 0 ≤ b → b ≤ 1 → (b = 1 ↔ ∃ t', t' < t ∧ rt I g t') → Ev (fun F => J12_findReady_20 F (rf e 12 0) (xk g) (xk t) (HS e C (frN I hs g b) z)) r := by
  intro t
  refine lpN (P := fun t => ∀ b, 0 ≤ t → t ≤ (I 12 0 1) → 0 ≤ b → b ≤ 1 → (b = 1 ↔ ∃ t', t' < t ∧ rt I g t') → Ev (fun F => J12_findReady_20 F (rf e 12 0) (xk g) (xk t) (HS e C (frN I hs g b) z)) r) (I 12 0 1) (fun t ih b t0 t1 b0 b1 hb => ?_) t
  have := RB.groups hB
  have := RB.tasks hB
  have e1 : frN I hs g b 12 0 1 = (I 12 0 1) := by simp [frN]
  have e2 : frN I hs g b 59 0 g = b := by simp [frN]
  have e3 : ∀ j, frN I hs g b 22 0 j = (I 22 0 j) := fun j => by simp [frN]
  have e4 : ∀ j, frN I hs g b 29 0 j = (I 29 0 j) := fun j => by simp [frN]
  have e5 : ∀ j, frN I hs g b 25 0 j = (I 25 0 j) := fun j => by simp [frN]
  refine Ev.step (fun F => E12_findReady_20 F _ _ _ _) ?_
  simp (disch := omega) only [a_22 hA hR, a_25 hA hR, a_29 hA hR, a_59 hA hR, g_12_1 hA hR, g_12_2 hA hR, g_12_39 hA hR, g_12_5 hA hR, g_12_9 hA hR, s_22 hA hR, s_25 hA hR, s_29 hA hR, s_59 hA hR, Option.bind_some, up_s, up_k, up_j, up_i, xk_add, xk_sub, xk_mul, xk_neg, lk_add, lN_z, rf_none, rb1, rb0, rbp, xk_nI, zk_eq, zk_lt, zk_eq0, zk_lt0, zk_0lt, zk_long, lz_lt, lz_gt, zmax, zmin, ↓reduceIte, Int.reduceEq, Int.reduceLT, Int.reduceNeg, Int.reduceAdd, Int.reduceSub, Int.reduceMul, Int.ofNat_eq_natCast, Int.cast_ofNat_Int, e1, e2, e3, e4, e5]
  refine Ev.ite (fun h => ?_) (fun h => ?_)
  · have := RB.state hB (j := t) (by omega) (by omega)
    have := RB.asleep hB (j := t) (by omega) (by omega)
    have := RB.group hB (j := t) (by omega) (by omega)
    have ih := fun b => ih h b (by omega) (by omega)
    try simp (disch := omega) only [a_22 hA hR, a_25 hA hR, a_29 hA hR, a_59 hA hR, g_12_1 hA hR, g_12_2 hA hR, g_12_39 hA hR, g_12_5 hA hR, g_12_9 hA hR, s_22 hA hR, s_25 hA hR, s_29 hA hR, s_59 hA hR, Option.bind_some, up_s, up_k, up_j, up_i, xk_add, xk_sub, xk_mul, xk_neg, lk_add, lN_z, rf_none, rb1, rb0, rbp, xk_nI, zk_eq, zk_lt, zk_eq0, zk_lt0, zk_0lt, zk_long, lz_lt, lz_gt, zmax, zmin, ↓reduceIte, Int.reduceEq, Int.reduceLT, Int.reduceNeg, Int.reduceAdd, Int.reduceSub, Int.reduceMul, Int.ofNat_eq_natCast, Int.cast_ofNat_Int, e1, e2, e3, e4, e5, or1, or0, frN_u]
    have no : ¬ rt I g t → Ev (fun F => J12_findReady_20 F (rf e 12 0) (xk g) (xk (t + 1)) (HS e C (frN I hs g b) z)) r := fun q => ih b b0 b1 (hb.trans ⟨fun ⟨a, c, d⟩ => ⟨a, by omega, d⟩, fun ⟨a, c, d⟩ => ⟨a, by
      by_cases ak : a = t
      · exact absurd (ak ▸ d) q
      · omega, d⟩⟩)
    refine Ev.ite (fun hs => ?_) (fun hs => no (fun q => hs q.2.2.1))
    refine Ev.ite (fun hs => ?_) (fun hs => no (fun q => hs q.2.2.2.1))
    refine Ev.ite (fun hs => ?_) (fun hs => no (fun q => hs q.2.2.2.2))
    exact ih 1 (by omega) (by omega) ⟨fun _ => ⟨t, by omega, t0, h, by assumption, by assumption, hs⟩, fun _ => rfl⟩
  · refine findReady80_ev hA hR hB hK hH g0 g1 hr (g + 1) b (by omega) (by omega) b0 b1 (hb.trans ⟨fun ⟨a, c, d⟩ => Or.inl ⟨a, d⟩, fun q => ?_⟩)
    rcases q with ⟨a, d⟩ | ⟨k, d, q⟩
    · exact ⟨a, by have := d.2.1; omega, d⟩
    · have a1 := q.1
      have a2 := q.2.1
      have a3 := q.2.2.1
      have := RB.wiw hB (j := k) (by omega) (by omega)
      omega
theorem findReady7_ev (hA : WA e z) (hR : WR e) (hB : RB I) (hK : KB I) {hs : Int → Bool} (hH : HsR I hs) : ∀ (n : Nat) (g : Int) (I' : ST), g + 1 = n → g < (I 12 0 17) → I' = (fun k i j => if k = 59 ∧ i = 0 ∧ g < j ∧ j < (I 12 0 17) then bI (hs j = true) else I k i j) → Ev (fun F => J12_findReady_7 F (rf e 12 0) (xk g) (HS e C I' z)) (rV (HS e C (frI I hs) z)) := by
  have := RB.groups hB
  have := RB.tasks hB
  intro n
  induction n with
  | zero =>
    intro g I' h1 h2 h3
    refine Ev.step (fun F => E12_findReady_7 F _ _ _) ?_
    simp (disch := omega) only [g_12_39 hA hR, s_59 hA hR, Option.bind_some, up_s, up_k, up_j, up_i, xk_add, xk_sub, xk_mul, xk_neg, lk_add, lN_z, rf_none, rb1, rb0, rbp, xk_nI, zk_eq, zk_lt, zk_eq0, zk_lt0, zk_0lt, zk_long, lz_lt, lz_gt, zmax, zmin, ↓reduceIte, Int.reduceEq, Int.reduceLT, Int.reduceNeg, Int.reduceAdd, Int.reduceSub, Int.reduceMul, Int.ofNat_eq_natCast, Int.cast_ofNat_Int]
    refine Ev.ite (fun _ => Ev.ret ?_) (fun q => absurd q (by omega))
    rw [h3]
    unfold rV
    congr 2
    funext k i j
    simp only [up, frI]
    repeat' split
    all_goals first | rfl | (exfalso; omega)
  | succ n ih =>
    intro g I' h1 h2 h3
    refine Ev.step (fun F => E12_findReady_7 F _ _ _) ?_
    simp (disch := omega) only [g_12_39 hA hR, s_59 hA hR, Option.bind_some, up_s, up_k, up_j, up_i, xk_add, xk_sub, xk_mul, xk_neg, lk_add, lN_z, rf_none, rb1, rb0, rbp, xk_nI, zk_eq, zk_lt, zk_eq0, zk_lt0, zk_0lt, zk_long, lz_lt, lz_gt, zmax, zmin, ↓reduceIte, Int.reduceEq, Int.reduceLT, Int.reduceNeg, Int.reduceAdd, Int.reduceSub, Int.reduceMul, Int.ofNat_eq_natCast, Int.cast_ofNat_Int]
    refine Ev.ite (fun q => absurd q (by omega)) (fun _ => ?_)
    have e1 : up I' 59 0 g 0 = frN I hs g 0 := by
      rw [h3]
      funext k i j
      simp only [up, frN]
      repeat' split
      all_goals first | rfl | (exfalso; omega)
    rw [e1]
    refine findReady20_ev hA hR hB hK hH (by omega) h2 (ih _ _ (by omega) (by omega) ?_) 0 0 (by omega) (by omega) (by omega) (by omega) ⟨fun q => absurd q (by omega), fun ⟨a, b, d⟩ => absurd d.1 (by omega)⟩
    funext k i j
    simp only [frN]
    by_cases hj : j = g
    · subst hj
      repeat' split
      all_goals first | rfl | (exfalso; omega)
    · repeat' split
      all_goals first | rfl | (exfalso; omega)
theorem findReady_ev (hA : WA e z) (hR : WR e) (hB : RB I) (hK : KB I) {hs : Int → Bool} (hH : HsR I hs) : Ev (fun F => J12_findReady F (rf e 12 0) (HS e C I z)) (rV (HS e C (frI I hs) z)) := by
  have := RB.groups hB
  refine Ev.step (fun F => E12_findReady F _ _) ?_
  simp (disch := omega) only [g_12_17 hA hR, Option.bind_some, up_s, up_k, up_j, up_i, xk_add, xk_sub, xk_mul, xk_neg, lk_add, lN_z, rf_none, rb1, rb0, rbp, xk_nI, zk_eq, zk_lt, zk_eq0, zk_lt0, zk_0lt, zk_long, lz_lt, lz_gt, zmax, zmin, ↓reduceIte, Int.reduceEq, Int.reduceLT, Int.reduceNeg, Int.reduceAdd, Int.reduceSub, Int.reduceMul, Int.ofNat_eq_natCast, Int.cast_ofNat_Int]
  refine findReady7_ev hA hR hB hK hH (I 12 0 17).toNat _ _ (by omega) (by omega) ?_
  funext k i j
  rw [if_neg (by omega)]
end RA
theorem HsR.ex {J : ST} (hB : RB J) : ∃ hs, HsR J hs := by
  have key : ∀ n : Nat, ∃ hs : Int → Bool, ∀ g, (J 12 0 17) - n ≤ g → 0 ≤ g → g < (J 12 0 17) → (hs g = true ↔ (∃ t, rt J g t) ∨ ∃ k, rg hs J g k) := by
    intro n
    induction n with
    | zero => exact ⟨fun _ => false, fun g a b c => absurd c (by omega)⟩
    | succ n ih =>
      obtain ⟨hs, h⟩ := ih
      have exb : ∀ P : Prop, ∃ b : Bool, b = true ↔ P := fun P => (Classical.em P).elim (fun p => ⟨true, fun _ => p, fun _ => rfl⟩) (fun p => ⟨false, fun q => absurd q (by decide), fun q => absurd q p⟩)
      obtain ⟨bb, hbb⟩ := exb ((∃ t, rt J ((J 12 0 17) - (n + 1)) t) ∨ ∃ k, rg hs J ((J 12 0 17) - (n + 1)) k)
      refine ⟨fun x => if x = (J 12 0 17) - (n + 1) then bb else hs x, fun g a b c => ?_⟩
      have e : ∀ k, rg (fun x => if x = (J 12 0 17) - (n + 1) then bb else hs x) J g k ↔ rg hs J g k := by
        intro k
        unfold rg
        constructor
        · rintro ⟨q1, q2, q3, q4, q5⟩
          have := RB.groups hB
          have := RB.wiw hB (j := k) (by omega) (by omega)
          dsimp only at q4
          rw [if_neg (by omega)] at q4
          exact ⟨q1, q2, q3, q4, q5⟩
        · rintro ⟨q1, q2, q3, q4, q5⟩
          have := RB.groups hB
          have := RB.wiw hB (j := k) (by omega) (by omega)
          refine ⟨q1, q2, q3, ?_, q5⟩
          dsimp only
          rw [if_neg (by omega)]
          exact q4
      simp only [e]
      by_cases hg : g = (J 12 0 17) - (n + 1)
      · rw [if_pos hg, hg]; exact hbb
      · rw [if_neg hg]
        exact h g (by omega) b c
  obtain ⟨hs, h⟩ := key (J 12 0 17).toNat
  have := RB.groups hB
  exact ⟨hs, fun g a b => h g (by omega) a b⟩
