/-! the reference: leave -/
theorem lin_c {I I' : ST} (h : ∀ k, I' 34 0 k = I 34 0 k) : lin I' = lin I := by
  funext k o
  unfold lin
  rw [show (fun k => I' 34 0 k) = (fun k => I 34 0 k) from funext h]
theorem win_c {I I' : ST} (h : ∀ k, I' 38 0 k = I 38 0 k) : win I' = win I := by
  funext k o
  unfold win
  rw [show (fun k => I' 38 0 k) = (fun k => I 38 0 k) from funext h]
theorem fgI_fgA {I : ST} {c : Int → Bool} {x : Int} : fgI (fgA I c) x = fgA I (fun k => c k || decide (k = x)) := by
  funext k i j
  simp only [fgI, fgA, Bool.or_eq_true, decide_eq_true_eq]
  grind (splits := 20)
/-- the others in the space of t, and within -/
def emD (I : ST) (t j : Int) : Bool := decide (0 ≤ j ∧ j < (I 12 0 1) ∧ j ≠ t ∧ (I 22 0 j) ≠ 2) && lin I ((I 24 0 j)) ((I 24 0 t))
theorem emD_i {I : ST} {t j : Int} : emD I t j = true ↔ (0 ≤ j ∧ j < (I 12 0 1) ∧ j ≠ t ∧ (I 22 0 j) ≠ 2) ∧ lin I ((I 24 0 j)) ((I 24 0 t)) = true := by
  unfold emD
  rw [Bool.and_eq_true, decide_eq_true_eq]
def emP (I : ST) (t : Int) : ST := fun k i j => if k = 27 ∧ i = 0 ∧ emD I t j = true ∧ (I 22 0 j) = 0 then 0 else I k i j
def emI (I : ST) (t : Int) : ST := fgA (emP I t) (emD I t)
def emN (I : ST) (t j : Int) : Int := if emD I t j = true ∧ (I 22 0 j) = 0 then 1 else 0
/-- lost zombies -/
def lzC (I : ST) (k : Int) : Bool := decide (0 ≤ k ∧ k < (I 12 0 1) ∧ (I 22 0 k) = 1 ∧ ((I 23 0 k) ≤ 0 ∨ (I 22 0 ((I 23 0 k))) ≠ 0))
def lzI (I : ST) : ST := fgA I (lzC I)
def lvI (I : ST) (t : Int) : ST := lzI (if (I 35 0 ((I 24 0 t))) = t then emI (enI I t) t else enI I t)
def lvN (I : ST) (t : Int) : Int := 1 + (if (I 35 0 ((I 24 0 t))) = t then sm (emN (enI I t) t) (I 12 0 1) else 0)
def RA1 (I : ST) (t x : Int) (I' : ST) : Prop := (∀ k i j, ¬ (i = 0 ∧ (k = 22 ∨ k = 23 ∨ k = 27)) → I' k i j = I k i j) ∧ (∀ j, I' 22 0 j = if emD I t j = true ∧ j < x ∧ I 22 0 j = 0 then 1 else I 22 0 j) ∧ (∀ j, I' 27 0 j = if emD I t j = true ∧ j < x ∧ I 22 0 j = 0 then 0 else I 27 0 j) ∧ (∀ j, emD I t j = false → I' 23 0 j = I 23 0 j) ∧ (∀ j, 0 ≤ j → j < 150 → -1 ≤ I' 23 0 j ∧ I' 23 0 j ≤ 149)
def RA2 (I : ST) (t x : Int) (I' : ST) : Prop := (∀ k i j, ¬ (i = 0 ∧ (k = 22 ∨ k = 23 ∨ k = 27 ∨ k = 32)) → I' k i j = I k i j) ∧ (∀ j, I' 22 0 j = if emD I t j = true then (if j < x then 2 else 1) else I 22 0 j) ∧ (∀ j, I' 27 0 j = if emD I t j = true ∧ I 22 0 j = 0 then 0 else I 27 0 j) ∧ (∀ j, emD I t j = false → I' 23 0 j = I 23 0 j) ∧ (∀ j, 0 ≤ j → j < 150 → -1 ≤ I' 23 0 j ∧ I' 23 0 j ≤ 149) ∧ (∀ j, emD I t j = true → j < x → I' 23 0 j = -1) ∧ (∀ j, I' 32 0 j = if emD I t (j / 20) = true ∧ j / 20 < x then 0 else I 32 0 j)
theorem RA1.rb {I I' : ST} {t x : Int} (h : RA1 I t x I') (hB : RB I) : RB I' := by
  obtain ⟨g1, g2, g3, g4, g5⟩ := h
  obtain ⟨h1, h2, h3, h4, h5, h6⟩ := hB
  refine ⟨fun r hr a a0 a1 => ?_, fun g k0 k1 => ?_, ?_, ?_, ?_, ?_⟩
  · have b := h1 r hr a a0 a1
    by_cases e22 : r.1 = 22
    · have hh : ∀ r ∈ rbt, r.1 = 22 → r.2.1 = 0 ∧ r.2.2.1 = 2 := by decide
      have := hh r hr e22
      rw [e22, g2 a]
      rw [e22] at b
      split <;> omega
    · by_cases e27 : r.1 = 27
      · have hh : ∀ r ∈ rbt, r.1 = 27 → r.2.1 = 0 ∧ r.2.2.1 = 1000000 := by decide
        have := hh r hr e27
        rw [e27, g3 a]
        rw [e27] at b
        split <;> omega
      · by_cases e23 : r.1 = 23
        · have hh : ∀ r ∈ rbt, r.1 = 23 → r.2.1 = -1 ∧ r.2.2.1 = 149 ∧ r.2.2.2 = 150 := by decide
          have := hh r hr e23
          have := g5 a a0 (by omega)
          rw [e23]
          omega
        · rw [g1 _ _ _ (by omega)]
          exact b
  · rw [g1 _ _ _ (by omega), g1 _ _ _ (by omega)]
    exact h2 g k0 k1
  all_goals
    rw [g1 _ _ _ (by omega)]
    assumption
theorem RA2.rb {I I' : ST} {t x : Int} (h : RA2 I t x I') (hB : RB I) : RB I' := by
  obtain ⟨g1, g2, g3, g4, g5, g6, g7⟩ := h
  obtain ⟨h1, h2, h3, h4, h5, h6⟩ := hB
  refine ⟨fun r hr a a0 a1 => ?_, fun g k0 k1 => ?_, ?_, ?_, ?_, ?_⟩
  · have b := h1 r hr a a0 a1
    by_cases e22 : r.1 = 22
    · have hh : ∀ r ∈ rbt, r.1 = 22 → r.2.1 = 0 ∧ r.2.2.1 = 2 := by decide
      have := hh r hr e22
      rw [e22, g2 a]
      rw [e22] at b
      split
      · split <;> omega
      · omega
    · by_cases e27 : r.1 = 27
      · have hh : ∀ r ∈ rbt, r.1 = 27 → r.2.1 = 0 ∧ r.2.2.1 = 1000000 := by decide
        have := hh r hr e27
        rw [e27, g3 a]
        rw [e27] at b
        split <;> omega
      · by_cases e23 : r.1 = 23
        · have hh : ∀ r ∈ rbt, r.1 = 23 → r.2.1 = -1 ∧ r.2.2.1 = 149 ∧ r.2.2.2 = 150 := by decide
          have := hh r hr e23
          have := g5 a a0 (by omega)
          rw [e23]
          omega
        · by_cases e32 : r.1 = 32
          · have hh : ∀ r ∈ rbt, r.1 = 32 → r.2.1 = 0 ∧ r.2.2.1 = 40 := by decide
            have := hh r hr e32
            rw [e32, g7 a]
            rw [e32] at b
            split <;> omega
          · rw [g1 _ _ _ (by omega)]
            exact b
  · rw [g1 _ _ _ (by omega), g1 _ _ _ (by omega)]
    exact h2 g k0 k1
  all_goals
    rw [g1 _ _ _ (by omega)]
    assumption
/-- what t's space holds is closed under children -/
def emCl (I : ST) (t : Int) : Prop := (∀ j, 0 ≤ j → j < (I 12 0 1) → (I 22 0 j) ≠ 2 → emD I t (I 23 0 j) = true → emD I t j = true) ∧ ∀ j, emD I t j = true → (I 35 0 ((I 24 0 j))) = j → 0 ≤ (I 34 0 ((I 24 0 j)))
theorem RA1.s1 {I I' : ST} {t x : Int} (h : RA1 I t x I') (hB : RB I) (hc : emCl I t) (hx : emD I t x = true) (hl : (I 22 0 x) = 0) : RA1 I t (x + 1) (enI I' x) := by
  have hB' := h.rb hB
  obtain ⟨g1, g2, g3, g4, g5⟩ := h
  have hx' := (emD_i.mp hx).1
  have tk := RB.tasks hB
  have hh : -1 ≤ heI I' x ∧ heI I' x ≤ 149 := by
    have b1 := RB.space hB' (j := x) (by omega) (by omega)
    have b2 := RB.init hB' (j := I' 24 0 x) (by omega) (by omega)
    unfold heI
    split
    · rename_i q
      have := hc.2 x hx (by rw [← g1 24 0 x (by omega), ← g1 35 0 _ (by omega)]; exact q)
      have b3 := RB.around hB' (j := I' 24 0 x) (by omega) (by omega)
      have b4 := g1 34 0 (I' 24 0 x) (by omega)
      have b5 := g1 24 0 x (by omega)
      rw [← b5, ← b4] at this
      have b6 := RB.init hB' (j := I' 34 0 (I' 24 0 x)) (by omega) (by omega)
      omega
    · omega
  have et : I' 12 0 1 = I 12 0 1 := g1 12 0 1 (by omega)
  refine ⟨fun k i j hk => ?_, fun j => ?_, fun j => ?_, fun j hj => ?_, fun j j0 j1 => ?_⟩
  · rw [← g1 k i j hk]
    unfold enI enN
    rw [if_neg (by omega), if_neg (by omega), if_neg (by omega)]
  · unfold enI enN
    rw [if_neg (c := 22 = 27 ∧ _) (by omega), if_neg (c := 22 = 23 ∧ _) (by omega), g2 j]
    by_cases hj : j = x
    · subst hj
      rw [if_pos ⟨rfl, rfl, rfl⟩, if_pos ⟨hx, by omega, hl⟩]
    · rw [if_neg (by omega)]
      by_cases hd : emD I t j = true ∧ j < x ∧ I 22 0 j = 0
      · rw [if_pos hd, if_pos ⟨hd.1, by omega, hd.2.2⟩]
      · rw [if_neg hd, if_neg (fun q => hd ⟨q.1, by omega, q.2.2⟩)]
  · unfold enI enN
    rw [if_neg (c := 27 = 22 ∧ _) (by omega), if_neg (c := 27 = 23 ∧ _) (by omega), g3 j]
    by_cases hj : j = x
    · subst hj
      rw [if_pos ⟨rfl, rfl, rfl⟩, if_pos ⟨hx, by omega, hl⟩]
    · rw [if_neg (by omega)]
      by_cases hd : emD I t j = true ∧ j < x ∧ I 22 0 j = 0
      · rw [if_pos hd, if_pos ⟨hd.1, by omega, hd.2.2⟩]
      · rw [if_neg hd, if_neg (fun q => hd ⟨q.1, by omega, q.2.2⟩)]
  · unfold enI enN
    rw [if_neg (c := 23 = 22 ∧ _) (by omega), if_neg (c := 23 = 27 ∧ _) (by omega), et, g4 j hj]
    rw [if_neg]
    rintro ⟨-, -, q1, q2, q3, q4⟩
    have q5 : I 22 0 j ≠ 2 := by
      intro q
      rw [g2 j, if_neg (by omega)] at q3
      exact q3 q
    have := hc.1 j q1 q2 q5 (by rw [q4]; exact hx)
    rw [hj] at this
    exact absurd this (by decide)
  · have := g5 j j0 j1
    unfold enI enN
    rw [if_neg (c := 23 = 22 ∧ _) (by omega), if_neg (c := 23 = 27 ∧ _) (by omega)]
    split
    · exact hh
    · exact this
section RA
variable {e : EN} {C I : ST} {z : Nat × Nat × Nat × Nat}
theorem leave149_ev (hA : WA e z) (hR : WR e) (hB : RB I) {n : Int} : Ev (fun F => J12_leave_149 F (rf e 12 0) (xk n) (xk 0) (HS e C I z)) (rI n (HS e C (lzI I) z)) := by
  have := RB.tasks hB
  refine lpN (P := fun x => ∀ I', I' = fgA I (fun k => lzC I k && decide (k < x)) → 0 ≤ x → x ≤ (I 12 0 1) → Ev (fun F => J12_leave_149 F (rf e 12 0) (xk n) (xk x) (HS e C I' z)) (rI n (HS e C (lzI I) z))) (I 12 0 1) (fun x ih I' hI x0 x1 => ?_) 0 _ ?_ (by omega) (by omega)
  · have hB' : RB I' := hI ▸ RB.fg hB _
    have e1 : I' 12 0 1 = (I 12 0 1) := by rw [hI]; simp [fgA]
    refine Ev.step (fun F => E12_leave_149 F _ _ _ _) ?_
    simp (disch := omega) only [a_22 hA hR, a_23 hA hR, d_12 hA hR, g_12_1 hA hR, g_12_2 hA hR, g_12_3 hA hR, Option.bind_some, up_s, up_k, up_j, up_i, xk_add, xk_sub, xk_mul, xk_neg, lk_add, lN_z, rf_none, rb1, rb0, rbp, xk_nI, zk_eq, zk_lt, zk_eq0, zk_lt0, zk_0lt, zk_long, lz_lt, lz_gt, zmax, zmin, ↓reduceIte, Int.reduceEq, Int.reduceLT, Int.reduceNeg, Int.reduceAdd, Int.reduceSub, Int.reduceMul, Int.ofNat_eq_natCast, Int.cast_ofNat_Int, e1]
    refine Ev.ite (fun h => ?_) (fun h => ?_)
    · have ih := fun I' h' => ih h I' h' (by omega) (by omega)
      have e2 : I' 22 0 x = (I 22 0 x) := by rw [hI]; simp [fgA]
      have e3 : I' 23 0 x = (I 23 0 x) := by rw [hI]; simp [fgA]
      have := RB.state hB (j := x) (by omega) (by omega)
      have := RB.parent hB (j := x) (by omega) (by omega)
      have hn : lzC I x = false → I' = fgA I (fun k => lzC I k && decide (k < x + 1)) := by
        intro q
        rw [hI]
        congr 1
        funext k
        by_cases hk : k = x
        · rw [hk, q]; rfl
        · rw [show decide (k < x) = decide (k < x + 1) from decide_eq_decide.mpr (by omega)]
      have hy : lzC I x = true → fgI I' x = fgA I (fun k => lzC I k && decide (k < x + 1)) := by
        intro q
        rw [hI, fgI_fgA]
        congr 1
        funext k
        by_cases hk : k = x
        · rw [hk, q]; simp; omega
        · rw [show decide (k < x) = decide (k < x + 1) from decide_eq_decide.mpr (by omega), decide_eq_false hk, Bool.or_false]
      simp only [e2, e3]
      try simp (disch := omega) only [a_22 hA hR, a_23 hA hR, d_12 hA hR, g_12_1 hA hR, g_12_2 hA hR, g_12_3 hA hR, Option.bind_some, up_s, up_k, up_j, up_i, xk_add, xk_sub, xk_mul, xk_neg, lk_add, lN_z, rf_none, rb1, rb0, rbp, xk_nI, zk_eq, zk_lt, zk_eq0, zk_lt0, zk_0lt, zk_long, lz_lt, lz_gt, zmax, zmin, ↓reduceIte, Int.reduceEq, Int.reduceLT, Int.reduceNeg, Int.reduceAdd, Int.reduceSub, Int.reduceMul, Int.ofNat_eq_natCast, Int.cast_ofNat_Int]
      refine Ev.ite (fun hs => ?_) (fun hs => ih _ (hn (by unfold lzC; simp; omega)))
      refine Ev.ite (fun hp => ?_) (fun hp => ?_)
      · have e4 : (I' 22 0 (I 23 0 x) = 0) = ((I 22 0 ((I 23 0 x))) = 0) := by
          rw [hI]
          simp only [fgA, lzC, Bool.and_eq_true, decide_eq_true_eq]
          grind
        try simp (disch := omega) only [a_22 hA hR, a_23 hA hR, d_12 hA hR, g_12_1 hA hR, g_12_2 hA hR, g_12_3 hA hR, Option.bind_some, up_s, up_k, up_j, up_i, xk_add, xk_sub, xk_mul, xk_neg, lk_add, lN_z, rf_none, rb1, rb0, rbp, xk_nI, zk_eq, zk_lt, zk_eq0, zk_lt0, zk_0lt, zk_long, lz_lt, lz_gt, zmax, zmin, ↓reduceIte, Int.reduceEq, Int.reduceLT, Int.reduceNeg, Int.reduceAdd, Int.reduceSub, Int.reduceMul, Int.ofNat_eq_natCast, Int.cast_ofNat_Int, e4]
        have := RB.state hB (j := ((I 23 0 x))) (by omega) (by omega)
        have b5 := RB.state hB' (j := (I 23 0 x)) (by omega) (by omega)
        try simp (disch := omega) only [a_22 hA hR, a_23 hA hR, d_12 hA hR, g_12_1 hA hR, g_12_2 hA hR, g_12_3 hA hR, Option.bind_some, up_s, up_k, up_j, up_i, xk_add, xk_sub, xk_mul, xk_neg, lk_add, lN_z, rf_none, rb1, rb0, rbp, xk_nI, zk_eq, zk_lt, zk_eq0, zk_lt0, zk_0lt, zk_long, lz_lt, lz_gt, zmax, zmin, ↓reduceIte, Int.reduceEq, Int.reduceLT, Int.reduceNeg, Int.reduceAdd, Int.reduceSub, Int.reduceMul, Int.ofNat_eq_natCast, Int.cast_ofNat_Int, e4]
        refine Ev.ite (fun hq => ih _ (hn (by unfold lzC; simp; omega))) (fun hq => ?_)
        refine Ev.kV (forget_ev hA hR hB' x0 (by omega)) (ih _ (hy ?_))
        unfold lzC
        simp
        omega
      · refine Ev.kV (forget_ev hA hR hB' x0 (by omega)) (ih _ (hy ?_))
        unfold lzC
        simp
        omega
    · refine Ev.ret ?_
      rw [hI]
      have : x = (I 12 0 1) := by omega
      subst this
      unfold rI lzI
      congr 3
      funext k
      by_cases hk : lzC I k = true
      · have := hk
        unfold lzC at this
        rw [decide_eq_true_eq] at this
        rw [hk, decide_eq_true (by omega)]; rfl
      · rw [Bool.not_eq_true] at hk
        rw [hk]; rfl
  · unfold fgA
    funext k i j
    rw [if_neg, if_neg, if_neg]
    all_goals
      simp only [Bool.and_eq_true, decide_eq_true_eq, lzC]
      omega
end RA
