/-! the reference: leave, the rest -/
theorem emD_v {I : ST} {t j : Int} (h : emD I t j = true) : 0 ≤ j ∧ j < (I 12 0 1) ∧ j ≠ t ∧ (I 22 0 j) ≠ 2 := (emD_i.mp h).1
theorem RA1.z {I : ST} {t : Int} (hB : RB I) : RA1 I t 0 I := by
  refine ⟨fun _ _ _ _ => rfl, fun j => ?_, fun j => ?_, fun _ _ => rfl, fun j j0 j1 => RB.parent hB j0 j1⟩
  · rw [if_neg]
    intro q
    have := emD_v q.1
    omega
  · rw [if_neg]
    intro q
    have := emD_v q.1
    omega
theorem RA1.s0 {I I' : ST} {t x : Int} (h : RA1 I t x I') (hx : ¬ (emD I t x = true ∧ (I 22 0 x) = 0)) : RA1 I t (x + 1) I' := by
  obtain ⟨g1, g2, g3, g4, g5⟩ := h
  refine ⟨g1, fun j => ?_, fun j => ?_, g4, g5⟩
  · rw [g2 j]
    by_cases hj : j = x
    · subst hj
      rw [if_neg (by omega), if_neg (fun q => hx ⟨q.1, q.2.2⟩)]
    · by_cases hd : emD I t j = true ∧ j < x ∧ I 22 0 j = 0
      · rw [if_pos hd, if_pos ⟨hd.1, by omega, hd.2.2⟩]
      · rw [if_neg hd, if_neg (fun q => hd ⟨q.1, by omega, q.2.2⟩)]
  · rw [g3 j]
    by_cases hj : j = x
    · subst hj
      rw [if_neg (by omega), if_neg (fun q => hx ⟨q.1, q.2.2⟩)]
    · by_cases hd : emD I t j = true ∧ j < x ∧ I 22 0 j = 0
      · rw [if_pos hd, if_pos ⟨hd.1, by omega, hd.2.2⟩]
      · rw [if_neg hd, if_neg (fun q => hd ⟨q.1, by omega, q.2.2⟩)]
theorem RA1.f {I I' : ST} {t : Int} (h : RA1 I t (I 12 0 1) I') (hB : RB I) : RA2 I t 0 I' := by
  obtain ⟨g1, g2, g3, g4, g5⟩ := h
  have tk := RB.tasks hB
  refine ⟨fun k i j hk => g1 k i j (by omega), fun j => ?_, fun j => ?_, g4, g5, fun j hj j0 => ?_, fun j => ?_⟩
  · rw [g2 j]
    by_cases hd : emD I t j = true
    · have := emD_v hd
      have b := RB.state hB (j := j) (by omega) (by omega)
      rw [if_pos hd, if_neg (c := j < 0) (by omega)]
      by_cases hs : I 22 0 j = 0
      · rw [if_pos ⟨hd, by omega, hs⟩]
      · rw [if_neg (fun q => hs q.2.2)]; omega
    · rw [if_neg hd, if_neg (fun q => hd q.1)]
  · rw [g3 j]
    by_cases hd : emD I t j = true ∧ I 22 0 j = 0
    · have := emD_v hd.1
      rw [if_pos hd, if_pos ⟨hd.1, by omega, hd.2⟩]
    · rw [if_neg hd, if_neg (fun q => hd ⟨q.1, q.2.2⟩)]
  · have := emD_v hj
    omega
  · rw [g1 _ _ _ (by omega), if_neg]
    intro q
    have := emD_v q.1
    omega
theorem RA2.s0 {I I' : ST} {t x : Int} (h : RA2 I t x I') (hx : emD I t x = false) : RA2 I t (x + 1) I' := by
  obtain ⟨g1, g2, g3, g4, g5, g6, g7⟩ := h
  have hne : ∀ j, emD I t j = true → j ≠ x := fun j hj q => by rw [q, hx] at hj; exact absurd hj (by decide)
  refine ⟨g1, fun j => ?_, g3, g4, g5, fun j hj j1 => g6 j hj (by have := hne j hj; omega), fun j => ?_⟩
  · rw [g2 j]
    by_cases hd : emD I t j = true
    · have := hne j hd
      rw [if_pos hd, if_pos hd]
      by_cases hj : j < x
      · rw [if_pos hj, if_pos (by omega)]
      · rw [if_neg hj, if_neg (by omega)]
    · rw [if_neg hd, if_neg hd]
  · rw [g7 j]
    by_cases hd : emD I t (j / 20) = true
    · have := hne _ hd
      by_cases hj : j / 20 < x
      · rw [if_pos ⟨hd, hj⟩, if_pos ⟨hd, by omega⟩]
      · rw [if_neg (fun q => hj q.2), if_neg (fun q => by omega)]
    · rw [if_neg (fun q => hd q.1), if_neg (fun q => hd q.1)]
theorem RA2.s1 {I I' : ST} {t x : Int} (h : RA2 I t x I') (hx : emD I t x = true) : RA2 I t (x + 1) (fgI I' x) := by
  obtain ⟨g1, g2, g3, g4, g5, g6, g7⟩ := h
  refine ⟨fun k i j hk => ?_, fun j => ?_, fun j => ?_, fun j hj => ?_, fun j j0 j1 => ?_, fun j hj j1 => ?_, fun j => ?_⟩
  · rw [← g1 k i j hk]
    unfold fgI fgA
    rw [if_neg (by omega), if_neg (by omega), if_neg (by omega)]
  · unfold fgI fgA
    rw [if_neg (c := 22 = 23 ∧ _) (by omega), if_neg (c := 22 = 32 ∧ _) (by omega), g2 j]
    by_cases hj : j = x
    · subst hj
      rw [if_pos ⟨rfl, rfl, decide_eq_true rfl⟩, if_pos hx, if_pos (by omega)]
    · rw [if_neg (fun q => hj (of_decide_eq_true q.2.2))]
      by_cases hd : emD I t j = true
      · rw [if_pos hd, if_pos hd]
        by_cases hl : j < x
        · rw [if_pos hl, if_pos (by omega)]
        · rw [if_neg hl, if_neg (by omega)]
      · rw [if_neg hd, if_neg hd]
  · unfold fgI fgA
    rw [if_neg (by omega), if_neg (by omega), if_neg (by omega)]
    exact g3 j
  · unfold fgI fgA
    rw [if_neg (by omega), if_neg, if_neg (by omega)]
    · exact g4 j hj
    · intro q
      rw [of_decide_eq_true q.2.2, hx] at hj
      exact absurd hj (by decide)
  · have := g5 j j0 j1
    unfold fgI fgA
    rw [if_neg (by omega)]
    split
    · omega
    · rw [if_neg (by omega)]; exact this
  · unfold fgI fgA
    rw [if_neg (by omega)]
    by_cases h' : j = x
    · rw [if_pos ⟨rfl, rfl, decide_eq_true h'⟩]
    · rw [if_neg (fun q => h' (of_decide_eq_true q.2.2)), if_neg (by omega)]
      exact g6 j hj (by omega)
  · unfold fgI fgA
    rw [if_neg (by omega), if_neg (by omega), g7 j]
    by_cases h' : j / 20 = x
    · rw [if_pos ⟨rfl, rfl, decide_eq_true h'⟩, h', if_pos ⟨hx, by omega⟩]
    · rw [if_neg (fun q => h' (of_decide_eq_true q.2.2))]
      by_cases hd : emD I t (j / 20) = true ∧ j / 20 < x
      · rw [if_pos hd, if_pos ⟨hd.1, by omega⟩]
      · rw [if_neg hd, if_neg (fun q => hd ⟨q.1, by omega⟩)]
theorem RA2.f {I I' : ST} {t : Int} (h : RA2 I t (I 12 0 1) I') : I' = emI I t := by
  obtain ⟨g1, g2, g3, g4, g5, g6, g7⟩ := h
  funext k i j
  unfold emI fgA emP
  by_cases hi : i = 0 ∧ (k = 22 ∨ k = 23 ∨ k = 27 ∨ k = 32)
  · obtain ⟨rfl, hk⟩ := hi
    rcases hk with rfl | rfl | rfl | rfl
    · rw [g2 j]
      by_cases hd : emD I t j = true
      · have := emD_v hd
        rw [if_pos hd, if_pos (by omega), if_pos ⟨rfl, rfl, hd⟩]
      · rw [if_neg hd, if_neg (fun q => hd q.2.2), if_neg (by omega), if_neg (by omega), if_neg (by omega)]
    · by_cases hd : emD I t j = true
      · have := emD_v hd
        rw [g6 j hd (by omega), if_neg (by omega), if_pos ⟨rfl, rfl, hd⟩]
      · rw [Bool.not_eq_true] at hd
        rw [g4 j hd, if_neg (by omega), if_neg (fun q => by rw [hd] at q; exact absurd q.2.2 (by decide)), if_neg (by omega), if_neg (by omega)]
    · rw [g3 j]
      clear g1 g2 g3 g4 g5 g6 g7
      grind
    · rw [g7 j]
      have := fun h => emD_v (I := I) (t := t) (j := j / 20) h
      clear g1 g2 g3 g4 g5 g6 g7
      grind
  · rw [g1 k i j hi, if_neg (by omega), if_neg (by omega), if_neg (by omega), if_neg (by omega)]
theorem RB.en {I : ST} (hB : RB I) {t : Int} (hh : -1 ≤ heI I t ∧ heI I t ≤ 149) : RB (enI I t) := by
  obtain ⟨h1, h2, h3, h4, h5, h6⟩ := hB
  refine ⟨fun r hr a a0 a1 => ?_, fun g g0 g1 => ?_, ?_, ?_, ?_, ?_⟩
  · have := h1 r hr a a0 a1
    have e1 : ∀ r ∈ rbt, r.1 = 22 → r.2.1 = 0 ∧ r.2.2.1 = 2 := by decide
    have e2 : ∀ r ∈ rbt, r.1 = 23 → r.2.1 = -1 ∧ r.2.2.1 = 149 := by decide
    have e3 : ∀ r ∈ rbt, r.1 = 27 → r.2.1 = 0 ∧ r.2.2.1 = 1000000 := by decide
    unfold enI enN
    split
    · rename_i hh; have := e1 r hr hh.1; omega
    · split
      · rename_i hh; have := e3 r hr hh.1; omega
      · split
        · rename_i hh; have := e2 r hr hh.1; omega
        · exact this
  · have := h2 g g0 g1
    simpa [enI, enN] using this
  all_goals simpa [enI, enN]
theorem RB.em {I : ST} (hB : RB I) {t : Int} : RB (emI I t) := by
  refine RB.fg ?_ _
  obtain ⟨h1, h2, h3, h4, h5, h6⟩ := hB
  refine ⟨fun r hr a a0 a1 => ?_, fun g g0 g1 => ?_, ?_, ?_, ?_, ?_⟩
  · have := h1 r hr a a0 a1
    have e3 : ∀ r ∈ rbt, r.1 = 27 → r.2.1 = 0 ∧ r.2.2.1 = 1000000 := by decide
    unfold emP
    split
    · rename_i hh; have := e3 r hr hh.1; omega
    · exact this
  · have := h2 g g0 g1
    simpa [emP] using this
  all_goals simpa [emP]
section RA
variable {e : EN} {C I : ST} {z : Nat × Nat × Nat × Nat}
theorem leave94_ev (hA : WA e z) (hR : WR e) (hB : RB I) {t n : Int} (t0 : 0 ≤ t) (t1 : t < (I 12 0 1)) : ∀ x I', RA2 I t x I' → 0 ≤ x → x ≤ (I 12 0 1) → Ev (fun F => J12_leave_94 F (rf e 12 0) (xk t) (xk n) (xk x) (HS e C I' z)) (rI n (HS e C (lzI (emI I t)) z)) := by
  have := RB.tasks hB
  intro x
  refine lpN (P := fun x => ∀ I', RA2 I t x I' → 0 ≤ x → x ≤ (I 12 0 1) → Ev (fun F => J12_leave_94 F (rf e 12 0) (xk t) (xk n) (xk x) (HS e C I' z)) (rI n (HS e C (lzI (emI I t)) z))) (I 12 0 1) (fun x ih I' h x0 x1 => ?_) x
  have hB' := h.rb hB
  have e1 : I' 12 0 1 = (I 12 0 1) := h.1 _ _ _ (by omega)
  have e2 : ∀ j, I' 24 0 j = (I 24 0 j) := fun j => h.1 _ _ _ (by omega)
  refine Ev.step (fun F => E12_leave_94 F _ _ _ _ _) ?_
  simp (disch := omega) only [a_22 hA hR, a_24 hA hR, d_12 hA hR, g_12_1 hA hR, g_12_2 hA hR, g_12_4 hA hR, Option.bind_some, up_s, up_k, up_j, up_i, xk_add, xk_sub, xk_mul, xk_neg, lk_add, lN_z, rf_none, rb1, rb0, rbp, xk_nI, zk_eq, zk_lt, zk_eq0, zk_lt0, zk_0lt, zk_long, lz_lt, lz_gt, zmax, zmin, ↓reduceIte, Int.reduceEq, Int.reduceLT, Int.reduceNeg, Int.reduceAdd, Int.reduceSub, Int.reduceMul, Int.ofNat_eq_natCast, Int.cast_ofNat_Int, e1, e2]
  refine Ev.ite (fun hlt => ?_) (fun hlt => ?_)
  · have ih := fun I' h => ih hlt I' h (by omega) (by omega)
    have := RB.space hB (j := x) (by omega) (by omega)
    have := RB.space hB (j := t) (by omega) (by omega)
    have b1 := RB.state hB' (j := x) (by omega) (by omega)
    have e3 := h.2.1 x
    rw [if_neg (c := x < x) (by omega)] at e3
    refine Ev.ite (fun hx => ih _ (h.s0 ?_)) (fun hx => ?_)
    · rw [← Bool.not_eq_true, emD_i]
      omega
    · try simp (disch := omega) only [a_22 hA hR, a_24 hA hR, d_12 hA hR, g_12_1 hA hR, g_12_2 hA hR, g_12_4 hA hR, Option.bind_some, up_s, up_k, up_j, up_i, xk_add, xk_sub, xk_mul, xk_neg, lk_add, lN_z, rf_none, rb1, rb0, rbp, xk_nI, zk_eq, zk_lt, zk_eq0, zk_lt0, zk_0lt, zk_long, lz_lt, lz_gt, zmax, zmin, ↓reduceIte, Int.reduceEq, Int.reduceLT, Int.reduceNeg, Int.reduceAdd, Int.reduceSub, Int.reduceMul, Int.ofNat_eq_natCast, Int.cast_ofNat_Int, e1, e2]
      refine Ev.ite (fun hs => ?_) (fun hs => ih _ (h.s0 ?_))
      · refine Ev.kB (liesIn_ev hA hR hB' (by omega) (by omega) (by omega) (by omega)) (fun hl => ?_) (fun hl => ?_)
        · try simp (disch := omega) only [a_22 hA hR, a_24 hA hR, d_12 hA hR, g_12_1 hA hR, g_12_2 hA hR, g_12_4 hA hR, Option.bind_some, up_s, up_k, up_j, up_i, xk_add, xk_sub, xk_mul, xk_neg, lk_add, lN_z, rf_none, rb1, rb0, rbp, xk_nI, zk_eq, zk_lt, zk_eq0, zk_lt0, zk_0lt, zk_long, lz_lt, lz_gt, zmax, zmin, ↓reduceIte, Int.reduceEq, Int.reduceLT, Int.reduceNeg, Int.reduceAdd, Int.reduceSub, Int.reduceMul, Int.ofNat_eq_natCast, Int.cast_ofNat_Int, e1, e2]
          refine Ev.kV (forget_ev hA hR hB' x0 (by omega)) (ih _ (h.s1 ?_))
          rw [lin_c (fun k => h.1 34 0 k (by omega))] at hl
          rw [emD_i]
          refine ⟨⟨x0, hlt, hx, ?_⟩, hl⟩
          intro q
          rw [e3] at hs
          split at hs
          · rename_i hd; exact (emD_v hd).2.2.2 q
          · omega
        · try simp (disch := omega) only [a_22 hA hR, a_24 hA hR, d_12 hA hR, g_12_1 hA hR, g_12_2 hA hR, g_12_4 hA hR, Option.bind_some, up_s, up_k, up_j, up_i, xk_add, xk_sub, xk_mul, xk_neg, lk_add, lN_z, rf_none, rb1, rb0, rbp, xk_nI, zk_eq, zk_lt, zk_eq0, zk_lt0, zk_0lt, zk_long, lz_lt, lz_gt, zmax, zmin, ↓reduceIte, Int.reduceEq, Int.reduceLT, Int.reduceNeg, Int.reduceAdd, Int.reduceSub, Int.reduceMul, Int.ofNat_eq_natCast, Int.cast_ofNat_Int, e1, e2]
          refine ih _ (h.s0 ?_)
          rw [lin_c (fun k => h.1 34 0 k (by omega))] at hl
          rw [← Bool.not_eq_true, emD_i]
          exact fun q => hl q.2
      · rw [← Bool.not_eq_true]
        intro q
        rw [e3, if_pos q] at hs
        exact hs rfl
  · have : x = (I 12 0 1) := by omega
    subst this
    rw [h.f]
    exact leave149_ev hA hR hB.em
theorem leave24_ev (hA : WA e z) (hR : WR e) (hB : RB I) {t : Int} (hc : emCl I t) (t0 : 0 ≤ t) (t1 : t < (I 12 0 1)) : ∀ x I' n, RA1 I t x I' → n = 1 + sm (emN I t) x → 0 ≤ x → x ≤ (I 12 0 1) → Ev (fun F => J12_leave_24 F (rf e 12 0) (xk t) (xk n) (xk x) (HS e C I' z)) (rI (1 + sm (emN I t) (I 12 0 1)) (HS e C (lzI (emI I t)) z)) := by
  have := RB.tasks hB
  intro x
  refine lpN (P := fun x => ∀ I' n, RA1 I t x I' → n = 1 + sm (emN I t) x → 0 ≤ x → x ≤ (I 12 0 1) → Ev (fun F => J12_leave_24 F (rf e 12 0) (xk t) (xk n) (xk x) (HS e C I' z)) (rI (1 + sm (emN I t) (I 12 0 1)) (HS e C (lzI (emI I t)) z))) (I 12 0 1) (fun x ih I' n h hn x0 x1 => ?_) x
  have hB' := h.rb hB
  have e1 : I' 12 0 1 = (I 12 0 1) := h.1 _ _ _ (by omega)
  have e2 : ∀ j, I' 24 0 j = (I 24 0 j) := fun j => h.1 _ _ _ (by omega)
  refine Ev.step (fun F => E12_leave_24 F _ _ _ _ _) ?_
  simp (disch := omega) only [a_22 hA hR, a_24 hA hR, d_12 hA hR, g_12_1 hA hR, g_12_2 hA hR, g_12_4 hA hR, Option.bind_some, up_s, up_k, up_j, up_i, xk_add, xk_sub, xk_mul, xk_neg, lk_add, lN_z, rf_none, rb1, rb0, rbp, xk_nI, zk_eq, zk_lt, zk_eq0, zk_lt0, zk_0lt, zk_long, lz_lt, lz_gt, zmax, zmin, ↓reduceIte, Int.reduceEq, Int.reduceLT, Int.reduceNeg, Int.reduceAdd, Int.reduceSub, Int.reduceMul, Int.ofNat_eq_natCast, Int.cast_ofNat_Int, e1, e2]
  refine Ev.ite (fun hlt => ?_) (fun hlt => ?_)
  · have ih := fun I' n h => ih hlt I' n h
    rw [sm_s x0] at ih
    have ih := fun I' n h hn => ih I' n h hn (by omega) (by omega)
    have := RB.space hB (j := x) (by omega) (by omega)
    have := RB.space hB (j := t) (by omega) (by omega)
    have b1 := RB.state hB' (j := x) (by omega) (by omega)
    have e3 := h.2.1 x
    rw [if_neg (by omega)] at e3
    have n0 : ¬ (emD I t x = true ∧ (I 22 0 x) = 0) → n = 1 + (sm (emN I t) x + emN I t x) := by
      intro q
      rw [emN, if_neg q]
      omega
    have no : ¬ (emD I t x = true ∧ (I 22 0 x) = 0) → Ev (fun F => J12_leave_24 F (rf e 12 0) (xk t) (xk n) (xk (x + 1)) (HS e C I' z)) (rI (1 + sm (emN I t) (I 12 0 1)) (HS e C (lzI (emI I t)) z)) := fun q => ih _ _ (h.s0 q) (n0 q)
    refine Ev.ite (fun hx => no (fun q => (emD_v q.1).2.2.1 hx)) (fun hx => ?_)
    try simp (disch := omega) only [a_22 hA hR, a_24 hA hR, d_12 hA hR, g_12_1 hA hR, g_12_2 hA hR, g_12_4 hA hR, Option.bind_some, up_s, up_k, up_j, up_i, xk_add, xk_sub, xk_mul, xk_neg, lk_add, lN_z, rf_none, rb1, rb0, rbp, xk_nI, zk_eq, zk_lt, zk_eq0, zk_lt0, zk_0lt, zk_long, lz_lt, lz_gt, zmax, zmin, ↓reduceIte, Int.reduceEq, Int.reduceLT, Int.reduceNeg, Int.reduceAdd, Int.reduceSub, Int.reduceMul, Int.ofNat_eq_natCast, Int.cast_ofNat_Int, e1, e2]
    refine Ev.ite (fun hs => no (fun q => by omega)) (fun hs => ?_)
    refine Ev.kB (liesIn_ev hA hR hB' (by omega) (by omega) (by omega) (by omega)) (fun hl => ?_) (fun hl => ?_)
    · rw [lin_c (fun k => h.1 34 0 k (by omega))] at hl
      have hD : emD I t x = true := emD_i.mpr ⟨⟨x0, hlt, hx, by omega⟩, hl⟩
      try simp (disch := omega) only [a_22 hA hR, a_24 hA hR, d_12 hA hR, g_12_1 hA hR, g_12_2 hA hR, g_12_4 hA hR, Option.bind_some, up_s, up_k, up_j, up_i, xk_add, xk_sub, xk_mul, xk_neg, lk_add, lN_z, rf_none, rb1, rb0, rbp, xk_nI, zk_eq, zk_lt, zk_eq0, zk_lt0, zk_0lt, zk_long, lz_lt, lz_gt, zmax, zmin, ↓reduceIte, Int.reduceEq, Int.reduceLT, Int.reduceNeg, Int.reduceAdd, Int.reduceSub, Int.reduceMul, Int.ofNat_eq_natCast, Int.cast_ofNat_Int, e1, e2]
      refine Ev.ite (fun hz => ?_) (fun hz => no (fun q => by omega))
      refine Ev.kV (end_ev hA hR hB' x0 (by omega) (by omega) ?_) (ih _ _ (h.s1 hB hc hD (by omega)) ?_)
      · rw [e2 x, h.1 35 0 _ (by omega), h.1 34 0 _ (by omega)]
        exact hc.2 x hD
      · rw [emN, if_pos ⟨hD, by omega⟩]
        omega
    · rw [lin_c (fun k => h.1 34 0 k (by omega))] at hl
      try simp (disch := omega) only [a_22 hA hR, a_24 hA hR, d_12 hA hR, g_12_1 hA hR, g_12_2 hA hR, g_12_4 hA hR, Option.bind_some, up_s, up_k, up_j, up_i, xk_add, xk_sub, xk_mul, xk_neg, lk_add, lN_z, rf_none, rb1, rb0, rbp, xk_nI, zk_eq, zk_lt, zk_eq0, zk_lt0, zk_0lt, zk_long, lz_lt, lz_gt, zmax, zmin, ↓reduceIte, Int.reduceEq, Int.reduceLT, Int.reduceNeg, Int.reduceAdd, Int.reduceSub, Int.reduceMul, Int.ofNat_eq_natCast, Int.cast_ofNat_Int, e1, e2]
      exact no (fun q => hl (emD_i.mp q.1).2)
  · have : x = (I 12 0 1) := by omega
    subst this
    rw [hn]
    exact leave94_ev hA hR hB t0 t1 0 I' (h.f hB) (by omega) (by omega)
theorem leave_ev (hA : WA e z) (hR : WR e) (hB : RB I) {t : Int} (t0 : 0 ≤ t) (t1 : t < (I 12 0 1)) (ht : (I 22 0 t) ≠ 2) (hr : (I 35 0 ((I 24 0 t))) = t → 0 ≤ (I 34 0 ((I 24 0 t)))) (hc : (I 35 0 ((I 24 0 t))) = t → emCl (enI I t) t) : Ev (fun F => J12_leave F (rf e 12 0) (xk t) (HS e C I z)) (rI (lvN I t) (HS e C (lvI I t) z)) := by
  have := RB.tasks hB
  have := RB.space hB (j := t) (by omega) (by omega)
  have := RB.init hB (j := ((I 24 0 t))) (by omega) (by omega)
  have hh : -1 ≤ heI I t ∧ heI I t ≤ 149 := by
    unfold heI
    split
    · rename_i q
      have := hr q
      have := RB.arw hB (j := ((I 24 0 t))) (by omega) (by omega)
      have := RB.init hB (j := ((I 34 0 ((I 24 0 t))))) (by omega) (by omega)
      omega
    · omega
  have hB' := hB.en hh
  have e1 : ∀ j, enI I t 24 0 j = (I 24 0 j) := fun j => by simp [enI, enN]
  have e2 : ∀ j, enI I t 35 0 j = (I 35 0 j) := fun j => by simp [enI, enN]
  have e3 : enI I t 12 0 1 = (I 12 0 1) := by simp [enI, enN]
  refine Ev.step (fun F => E12_leave F _ _ _) ?_
  simp (disch := omega) only [a_24 hA hR, a_35 hA hR, d_12 hA hR, g_12_15 hA hR, g_12_4 hA hR, Option.bind_some, up_s, up_k, up_j, up_i, xk_add, xk_sub, xk_mul, xk_neg, lk_add, lN_z, rf_none, rb1, rb0, rbp, xk_nI, zk_eq, zk_lt, zk_eq0, zk_lt0, zk_0lt, zk_long, lz_lt, lz_gt, zmax, zmin, ↓reduceIte, Int.reduceEq, Int.reduceLT, Int.reduceNeg, Int.reduceAdd, Int.reduceSub, Int.reduceMul, Int.ofNat_eq_natCast, Int.cast_ofNat_Int]
  refine Ev.kV (end_ev hA hR hB t0 t1 ht hr) ?_
  try simp (disch := omega) only [a_24 hA hR, a_35 hA hR, d_12 hA hR, g_12_15 hA hR, g_12_4 hA hR, Option.bind_some, up_s, up_k, up_j, up_i, xk_add, xk_sub, xk_mul, xk_neg, lk_add, lN_z, rf_none, rb1, rb0, rbp, xk_nI, zk_eq, zk_lt, zk_eq0, zk_lt0, zk_0lt, zk_long, lz_lt, lz_gt, zmax, zmin, ↓reduceIte, Int.reduceEq, Int.reduceLT, Int.reduceNeg, Int.reduceAdd, Int.reduceSub, Int.reduceMul, Int.ofNat_eq_natCast, Int.cast_ofNat_Int, e1, e2]
  unfold lvN lvI
  refine Ev.ite (fun h => ?_) (fun h => ?_)
  · rw [if_pos h, if_pos h]
    have := leave24_ev (C := C) hA hR hB' (hc h) t0 (by rw [e3]; exact t1) 0 _ 1 (RA1.z hB') rfl (by omega) (by omega)
    rw [e3] at this
    exact this
  · rw [if_neg h, if_neg h]
    exact leave149_ev hA hR hB'
end RA
