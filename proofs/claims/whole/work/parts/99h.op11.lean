/-! pairs: at, share, mounted -/
section OPs
variable {e : EN} {C I J : ST} {z : Nat × Nat × Nat × Nat} {n : Int}
theorem ri_t {tp : Int → Int → Int} (h : ToA J tp) : ∀ (m : Nat) (a d : Int), 0 ≤ a → a < 80 → 0 ≤ d → d < 15 → (J 50 0 a) = 1 → (J 50 0 ((riF tp m a d).1)) = 1 := by
  intro m
  induction m with
  | zero => intro a d _ _ _ _ q; exact q
  | succ m ih =>
    intro a d a0 a1 d0 d1 q
    rw [riF]
    have tb := h.b a0 a1 d0 d1
    split
    · exact q
    · have := ((h a d a0 a1 d0 d1).2 (tp a d) (by omega) tb.2).mpr rfl
      exact ih _ _ (by omega) tb.2 (by omega) (by omega) this.1
theorem wl_t {tp : Int → Int → Int} (h : ToA J tp) {N : Nat} {p : Int} (p0 : 0 ≤ p) : ∀ (b : Nat) (a d : Int), 0 ≤ a → a < 80 → 0 ≤ d → d < 15 → (J 50 0 a) = 1 → (J 50 0 ((wlF tp N p b a d).2.1)) = 1 := by
  intro b
  induction b with
  | zero => intro a d _ _ _ _ q; exact q
  | succ b ih =>
    intro a d a0 a1 d0 d1 q
    rw [wlF]
    split
    · have rb := ri_b h N a (2 * d + 1 + p / 2 ^ b % 2) a0 a1 (by omega) (by omega)
      exact ih _ _ rb.1.1 rb.1.2 rb.2.1 rb.2.2 (ri_t h N a _ a0 a1 (by omega) (by omega) q)
    · exact q
theorem wl_n {tp : Int → Int → Int} (h : ToA J tp) {N : Nat} (hN : RiN tp N) {p : Int} (p0 : 0 ≤ p) : ∀ (b : Nat) (a d : Int), 0 ≤ a → a < 80 → 0 ≤ d → d < 15 → tp a d < 0 → (wlF tp N p b a d).1 = 1 → tp (wlF tp N p b a d).2.1 (wlF tp N p b a d).2.2 < 0 := by
  intro b
  induction b with
  | zero => intro a d _ _ _ _ q _; exact q
  | succ b ih =>
    intro a d a0 a1 d0 d1 q hw
    rw [wlF] at hw ⊢
    by_cases y : d < 7
    · rw [if_pos y] at hw ⊢
      have rb := ri_b h N a (2 * d + 1 + p / 2 ^ b % 2) a0 a1 (by omega) (by omega)
      exact ih _ _ rb.1.1 rb.1.2 rb.2.1 rb.2.2 (hN _ _ a0 a1 (by omega) (by omega)) hw
    · rw [if_neg y] at hw
      exact absurd hw (by show ¬ (0 : Int) = 1; decide)
theorem Inv.plI (h : Inv n J) {m a d : Int} (hm : n ≤ m) : Inv m (pl J a d) := h.sc hm h.rb.pl (fun k i j _ _ c => pl_f (by omega))
/-- a path is walked on both sides -/
theorem walk_pr (hA : WA e z) (hR : WR e) (hC : Cpl e C J) (hI : Inv n J) {t p : Int} (t0 : -2147483648 ≤ t) (t1 : t < 2147483648) (p0 : -2147483648 ≤ p) (p1 : p < 2147483648) : ∃ C' J' b, (0 ≤ t ∧ t < (J 12 0 1) ∧ (J 22 0 t) = 0 → Ev (fun F => J6_reach F (rf e 6 0) (rf e 10 (J 26 0 t)) (xk p) (HS e C I z)) (rI b (HS e C' I z))) ∧ (∀ C2, Ev (fun F => J12_walk F (rf e 12 0) (xk t) (xk p) (HS e C2 J z)) (rI b (HS e C2 J' z))) ∧ Cpl e C' J' ∧ Inv n J' ∧ (∀ k i j, (k ≠ 12 ∨ (j ≠ 37 ∧ j ≠ 38)) → J' k i j = J k i j) ∧ (b = 0 ∨ b = 1) ∧ (b = 1 → (C' 6 0 0 = (J' 12 0 37) ∧ C' 6 0 1 = (J' 12 0 38)) ∧ (0 ≤ (J' 12 0 37) ∧ (J' 12 0 37) < 80) ∧ (0 ≤ (J' 12 0 38) ∧ (J' 12 0 38) < 15) ∧ (J' 50 0 ((J' 12 0 37))) = 1 ∧ tpC C' (J' 12 0 37) (J' 12 0 38) < 0) ∧ (¬ (0 ≤ t ∧ t < (J 12 0 1) ∧ (J 22 0 t) = 0) → b = 0 ∧ J' = J ∧ C' = C) := by
  have hT := hI.ti
  have hB := hT.1
  have hTA := hC.toa
  obtain ⟨N, hN⟩ := hI.mi.rin hTA
  have hhx : ∃ h, 1 ≤ p → hbP p h := by
    by_cases q : 1 ≤ p
    · obtain ⟨h, hh⟩ := hb_ex q p1
      exact ⟨h, fun _ => hh⟩
    · exact ⟨0, fun y => absurd y q⟩
  obtain ⟨h, hh⟩ := hhx
  have wk := fun C2 => walk_ev (C := C2) hA hR hB hTA hN t0 t1 p0 p1 hh
  by_cases hl : 0 ≤ t ∧ t < (J 12 0 1) ∧ (J 22 0 t) = 0
  · have bt := hT.b hl.1 hl.2.1
    have rc := reach_ev (I := I) hA hC hT hN (v := (J 26 0 t)) bt.2.2.2.1.1 bt.2.2.2.1.2 p0 p1 hh
    have vk := RB.views hB
    have rb0 := RB.root hB (j := (J 26 0 t)) (by omega) (by omega)
    have rt := hI.mi.2.1 (J 26 0 t) bt.2.2.2.1.1 bt.2.2.2.1.2
    by_cases hp : p < 1
    · rw [if_pos hp] at rc
      have ew : waF J (tpC C) N h t p = (0, J) := by
        unfold waF
        rw [if_neg (by omega)]
      rw [ew] at wk
      exact ⟨C, J, 0, fun _ => rc, wk, hC, hI, fun _ _ _ _ => rfl, Or.inl rfl, fun q => absurd q (by decide), fun q => absurd hl q⟩
    · rw [if_neg hp] at rc
      have rb := ri_b hTA N (J 49 0 ((J 26 0 t))) 0 (by omega) (by omega) (by omega) (by omega)
      have rtt := ri_t hTA N (J 49 0 ((J 26 0 t))) 0 (by omega) (by omega) (by omega) (by omega) rt.1
      have wb := wl_b hTA (N := N) (p := p) (by omega) h _ _ rb.1.1 rb.1.2 rb.2.1 rb.2.2
      have wt := wl_t hTA (N := N) (p := p) (by omega) h _ _ rb.1.1 rb.1.2 rb.2.1 rb.2.2 rtt
      have wn := wl_n hTA hN (p := p) (by omega) h _ _ rb.1.1 rb.1.2 rb.2.1 rb.2.2 (hN (J 49 0 ((J 26 0 t))) 0 (by omega) (by omega) (by omega) (by omega))
      have ew : waF J (tpC C) N h t p = ((wlF (tpC C) N p h (riF (tpC C) N (J 49 0 ((J 26 0 t))) 0).1 (riF (tpC C) N (J 49 0 ((J 26 0 t))) 0).2).1, pl J (wlF (tpC C) N p h (riF (tpC C) N (J 49 0 ((J 26 0 t))) 0).1 (riF (tpC C) N (J 49 0 ((J 26 0 t))) 0).2).2.1 (wlF (tpC C) N p h (riF (tpC C) N (J 49 0 ((J 26 0 t))) 0).1 (riF (tpC C) N (J 49 0 ((J 26 0 t))) 0).2).2.2) := by
        unfold waF
        rw [if_pos ⟨hl.1, hl.2.1, hl.2.2, by omega⟩]
      rw [ew] at wk
      generalize wlF (tpC C) N p h (riF (tpC C) N (J 49 0 ((J 26 0 t))) 0).1 (riF (tpC C) N (J 49 0 ((J 26 0 t))) 0).2 = w at *
      refine ⟨plC C w.2.1 w.2.2, pl J w.2.1 w.2.2, w.1, fun _ => rc, wk, (hC.pl (by omega) (by omega) wb.2.2.1 wb.2.2.2).sc (fun k i j a b c => pl_f (by omega)), hI.plI (by omega), fun k i j q => pl_f q, wb.1, fun hw1 => ?_, fun q => absurd hl q⟩
      rw [pl_m, pl_e, plC_m, plC_d, pl_f (Or.inl (by decide))]
      rw [tpC_pl]
      exact ⟨⟨rfl, rfl⟩, wb.2.1, wb.2.2, wt, wn hw1⟩
  · have ew : waF J (tpC C) N h t p = (0, J) := by
      unfold waF
      rw [if_neg (fun q => hl ⟨q.1, q.2.1, q.2.2.1⟩)]
    rw [ew] at wk
    exact ⟨C, J, 0, fun q => absurd q hl, wk, hC, hI, fun _ _ _ _ => rfl, Or.inl rfl, fun q => absurd q (by decide), fun _ => ⟨rfl, rfl, rfl⟩⟩
theorem at_pr (hO : OK n e C I z) {t p : Int} (t0 : -2147483648 ≤ t) (t1 : t < 2147483648) (p0 : -2147483648 ≤ p) (p1 : p < 2147483648) : PR n e C I z (fun F s => J11_at F (rf e 11 0) (xk t) (xk p) s) (fun F s => J12_at F (rf e 12 0) (xk t) (xk p) s) := by
  obtain ⟨hA, hR, hC0, hI0⟩ := hO
  have hO : OK n e C I z := ⟨hA, hR, hC0, hI0⟩
  have hC := hC0.th (v := 0)
  have hI := hI0.th (m := n) (v := 0) (by omega)
  have hT := hI.ti
  generalize hJ : th I 0 = J at *
  have n8 := hC.1.1
  have n7 := hC.2.1.1
  have n1 := hC.2.2.1.1
  have n10 := hC.2.2.2.2.1.1
  have hB := hT.1
  have := RB.tasks hB
  have := RB.spaces hB
  have := RB.groups hB
  have := RB.views hB
  have n4 := hA.2.2.2.1
  have lv := living_ev (I := I) hA hC hT t0 t1
  obtain ⟨C', J', b, hE, hr, hC', hI', ej, hb, hok, hno⟩ := walk_pr (I := I) hA hR hC hI t0 t1 p0 p1
  have e62 : ∀ j, J' 62 0 j = I 62 0 j := fun j => by rw [ej _ _ _ (Or.inl (by decide)), ← hJ]; exact th_f (Or.inl (by decide))
  have e0 : J' 12 0 0 = 0 := by rw [ej _ _ _ (Or.inr (by decide)), ← hJ]; exact up_s
  have rp : ∀ {C2 : ST} {r}, (b = 1 → Ev (fun F => some (.inl (some (.inl (xk (1000 * (J' 12 0 37) + 20 * (J' 54 0 ((J' 12 0 37))) + (J' 12 0 38))))), HS e C2 J' z)) r) → (b = 0 → r = rI (-1) (HS e C2 J' z)) → Ev (fun F => J12_at F (rf e 12 0) (xk t) (xk p) (HS e C2 I z)) r := by
    intro C2 r h1 h2
    refine Ev.step (fun F => E12_at F _ _ _ _) ?_
    simp (disch := omega) only [a_54 hA hR, d_12 hA hR, g_12_34 hA hR, g_12_37 hA hR, g_12_38 hA hR, p_12_0 hA hR, Option.bind_some, up_s, up_k, up_j, up_i, xk_add, xk_sub, xk_mul, xk_neg, lk_add, lN_z, rf_none, rb1, rb0, rbp, xk_nI, zk_eq, zk_lt, zk_eq0, zk_lt0, zk_0lt, zk_long, lz_lt, lz_gt, zmax, zmin, ↓reduceIte, Int.reduceEq, Int.reduceLT, Int.reduceNeg, Int.reduceAdd, Int.reduceSub, Int.reduceMul, Int.ofNat_eq_natCast, Int.cast_ofNat_Int]
    rw [show up I 12 0 0 0 = J from hJ]
    refine Ev.kI (hr C2) ?_
    rcases hb with q | q
    · rw [q]
      try simp (maxSteps := 2000000) (disch := omega) only [a_54 hA hR, d_12 hA hR, g_12_34 hA hR, g_12_37 hA hR, g_12_38 hA hR, p_12_0 hA hR, Option.bind_some, up_s, up_k, up_j, up_i, xk_add, xk_sub, xk_mul, xk_neg, lk_add, lN_z, rf_none, rb1, rb0, rbp, xk_nI, zk_eq, zk_lt, zk_eq0, zk_lt0, zk_0lt, zk_long, lz_lt, lz_gt, zmax, zmin, ↓reduceIte, Int.reduceEq, Int.reduceLT, Int.reduceNeg, Int.reduceAdd, Int.reduceSub, Int.reduceMul, Int.ofNat_eq_natCast, Int.cast_ofNat_Int]
      exact Ev.ret (h2 q).symm
    · have ok := hok q
      have h1 := h1 q
      rw [q]
      try simp (maxSteps := 2000000) (disch := omega) only [a_54 hA hR, d_12 hA hR, g_12_34 hA hR, g_12_37 hA hR, g_12_38 hA hR, p_12_0 hA hR, Option.bind_some, up_s, up_k, up_j, up_i, xk_add, xk_sub, xk_mul, xk_neg, lk_add, lN_z, rf_none, rb1, rb0, rbp, xk_nI, zk_eq, zk_lt, zk_eq0, zk_lt0, zk_0lt, zk_long, lz_lt, lz_gt, zmax, zmin, ↓reduceIte, Int.reduceEq, Int.reduceLT, Int.reduceNeg, Int.reduceAdd, Int.reduceSub, Int.reduceMul, Int.ofNat_eq_natCast, Int.cast_ofNat_Int]
      exact h1
  by_cases h : (0 ≤ t ∧ t < (J 12 0 1) ∧ (J 22 0 t) = 0)
  · have bt := hT.b h.1 h.2.1
    have hE := hE h
    have c2 := hC.1.view h.1 h.2.1
    rcases hb with q | q
    · refine ⟨e, C', J', z, -1, ?_, rp (fun y => absurd y (by omega)) (fun _ => rfl), ⟨hA, hR, hC', hI'.sc (by omega) hI'.rb (fun _ _ _ _ _ _ => rfl)⟩, NX.r e62, ⟨by decide, by decide⟩, e0⟩
      refine Ev.step (fun F => E11_at F _ _ _ _) ?_
      simp (disch := omega) only [d_6 hA, d_9 hA, g_11_1 hA, g_11_4 hA, g_5_2 hA, g_8_2 hA, Option.bind_some, up_s, up_k, up_j, up_i, xk_add, xk_sub, xk_mul, xk_neg, lk_add, lN_z, rf_none, rb1, rb0, rbp, xk_nI, zk_eq, zk_lt, zk_eq0, zk_lt0, zk_0lt, zk_long, lz_lt, lz_gt, zmax, zmin, ↓reduceIte, Int.reduceEq, Int.reduceLT, Int.reduceNeg, Int.reduceAdd, Int.reduceSub, Int.reduceMul, Int.ofNat_eq_natCast, Int.cast_ofNat_Int]
      refine Ev.kR lv ?_
      rw [lvg_y h]
      try simp (maxSteps := 2000000) (disch := omega) only [d_6 hA, d_9 hA, g_11_1 hA, g_11_4 hA, g_5_2 hA, g_8_2 hA, Option.bind_some, up_s, up_k, up_j, up_i, xk_add, xk_sub, xk_mul, xk_neg, lk_add, lN_z, rf_none, rb1, rb0, rbp, xk_nI, zk_eq, zk_lt, zk_eq0, zk_lt0, zk_0lt, zk_long, lz_lt, lz_gt, zmax, zmin, ↓reduceIte, Int.reduceEq, Int.reduceLT, Int.reduceNeg, Int.reduceAdd, Int.reduceSub, Int.reduceMul, Int.ofNat_eq_natCast, Int.cast_ofNat_Int, c2]
      refine Ev.ite (fun q => absurd q (by omega)) (fun _ => ?_)
      refine Ev.kI hE ?_
      rw [q]
      try simp (maxSteps := 2000000) (disch := omega) only [d_6 hA, d_9 hA, g_11_1 hA, g_11_4 hA, g_5_2 hA, g_8_2 hA, Option.bind_some, up_s, up_k, up_j, up_i, xk_add, xk_sub, xk_mul, xk_neg, lk_add, lN_z, rf_none, rb1, rb0, rbp, xk_nI, zk_eq, zk_lt, zk_eq0, zk_lt0, zk_0lt, zk_long, lz_lt, lz_gt, zmax, zmin, ↓reduceIte, Int.reduceEq, Int.reduceLT, Int.reduceNeg, Int.reduceAdd, Int.reduceSub, Int.reduceMul, Int.ofNat_eq_natCast, Int.cast_ofNat_Int]
      exact Ev.ret rfl
    · have ok := hok q
      have vb := RB.volumes hI'.rb (j := (J' 12 0 37)) ok.2.1.1 ok.2.1.2
      have cvv := (hC'.2.2.2.2.1.2.2.1 (J' 12 0 37) ok.2.1.1 ok.2.1.2).1
      refine ⟨e, C', J', z, 1000 * (J' 12 0 37) + 20 * (J' 54 0 ((J' 12 0 37))) + (J' 12 0 38), ?_, rp (fun _ => Ev.ret rfl) (fun y => absurd y (by omega)), ⟨hA, hR, hC', hI'.sc (by omega) hI'.rb (fun _ _ _ _ _ _ => rfl)⟩, NX.r e62, ⟨by omega, by omega⟩, e0⟩
      refine Ev.step (fun F => E11_at F _ _ _ _) ?_
      simp (disch := omega) only [d_6 hA, d_9 hA, g_11_1 hA, g_11_4 hA, g_5_2 hA, g_8_2 hA, Option.bind_some, up_s, up_k, up_j, up_i, xk_add, xk_sub, xk_mul, xk_neg, lk_add, lN_z, rf_none, rb1, rb0, rbp, xk_nI, zk_eq, zk_lt, zk_eq0, zk_lt0, zk_0lt, zk_long, lz_lt, lz_gt, zmax, zmin, ↓reduceIte, Int.reduceEq, Int.reduceLT, Int.reduceNeg, Int.reduceAdd, Int.reduceSub, Int.reduceMul, Int.ofNat_eq_natCast, Int.cast_ofNat_Int]
      refine Ev.kR lv ?_
      rw [lvg_y h]
      try simp (maxSteps := 2000000) (disch := omega) only [d_6 hA, d_9 hA, g_11_1 hA, g_11_4 hA, g_5_2 hA, g_8_2 hA, Option.bind_some, up_s, up_k, up_j, up_i, xk_add, xk_sub, xk_mul, xk_neg, lk_add, lN_z, rf_none, rb1, rb0, rbp, xk_nI, zk_eq, zk_lt, zk_eq0, zk_lt0, zk_0lt, zk_long, lz_lt, lz_gt, zmax, zmin, ↓reduceIte, Int.reduceEq, Int.reduceLT, Int.reduceNeg, Int.reduceAdd, Int.reduceSub, Int.reduceMul, Int.ofNat_eq_natCast, Int.cast_ofNat_Int, c2]
      refine Ev.ite (fun q => absurd q (by omega)) (fun _ => ?_)
      refine Ev.kI hE ?_
      rw [q]
      try simp (maxSteps := 2000000) (disch := omega) only [d_6 hA, d_9 hA, g_11_1 hA, g_11_4 hA, g_5_2 hA, g_8_2 hA, Option.bind_some, up_s, up_k, up_j, up_i, xk_add, xk_sub, xk_mul, xk_neg, lk_add, lN_z, rf_none, rb1, rb0, rbp, xk_nI, zk_eq, zk_lt, zk_eq0, zk_lt0, zk_0lt, zk_long, lz_lt, lz_gt, zmax, zmin, ↓reduceIte, Int.reduceEq, Int.reduceLT, Int.reduceNeg, Int.reduceAdd, Int.reduceSub, Int.reduceMul, Int.ofNat_eq_natCast, Int.cast_ofNat_Int]
      refine Ev.kI (x := 1000 * (J' 12 0 37) + 20 * (J' 54 0 ((J' 12 0 37))) + (J' 12 0 38)) (σ := HS e C' I z) ?_ (Ev.ret rfl)
      refine Ev.step (fun F => E6_code F _ _) ?_
      simp (disch := omega) only [g_4_0 hA, g_4_6 hA, g_6_0 hA, g_6_1 hA, Option.bind_some, up_s, up_k, up_j, up_i, xk_add, xk_sub, xk_mul, xk_neg, lk_add, lN_z, rf_none, rb1, rb0, rbp, xk_nI, zk_eq, zk_lt, zk_eq0, zk_lt0, zk_0lt, zk_long, lz_lt, lz_gt, zmax, zmin, ↓reduceIte, Int.reduceEq, Int.reduceLT, Int.reduceNeg, Int.reduceAdd, Int.reduceSub, Int.reduceMul, Int.ofNat_eq_natCast, Int.cast_ofNat_Int, ok.1.1, ok.1.2, cvv]
      exact Ev.ret rfl
  · have hno := hno h
    refine ⟨e, C, J', z, -1, ?_, rp (fun y => absurd y (by omega)) (fun _ => rfl), ⟨hA, hR, hno.2.2 ▸ hC', hI'.sc (by omega) hI'.rb (fun _ _ _ _ _ _ => rfl)⟩, NX.r e62, ⟨by decide, by decide⟩, e0⟩
    refine Ev.step (fun F => E11_at F _ _ _ _) ?_
    simp (disch := omega) only [d_6 hA, d_9 hA, g_11_1 hA, g_11_4 hA, g_5_2 hA, g_8_2 hA, Option.bind_some, up_s, up_k, up_j, up_i, xk_add, xk_sub, xk_mul, xk_neg, lk_add, lN_z, rf_none, rb1, rb0, rbp, xk_nI, zk_eq, zk_lt, zk_eq0, zk_lt0, zk_0lt, zk_long, lz_lt, lz_gt, zmax, zmin, ↓reduceIte, Int.reduceEq, Int.reduceLT, Int.reduceNeg, Int.reduceAdd, Int.reduceSub, Int.reduceMul, Int.ofNat_eq_natCast, Int.cast_ofNat_Int]
    refine Ev.kR lv ?_
    rw [lvg_n h]
    try simp (maxSteps := 2000000) (disch := omega) only [d_6 hA, d_9 hA, g_11_1 hA, g_11_4 hA, g_5_2 hA, g_8_2 hA, Option.bind_some, up_s, up_k, up_j, up_i, xk_add, xk_sub, xk_mul, xk_neg, lk_add, lN_z, rf_none, rb1, rb0, rbp, xk_nI, zk_eq, zk_lt, zk_eq0, zk_lt0, zk_0lt, zk_long, lz_lt, lz_gt, zmax, zmin, ↓reduceIte, Int.reduceEq, Int.reduceLT, Int.reduceNeg, Int.reduceAdd, Int.reduceSub, Int.reduceMul, Int.ofNat_eq_natCast, Int.cast_ofNat_Int]
    exact Ev.ret rfl
end OPs
