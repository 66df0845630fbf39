/-! the class: tick -/
theorem rn_f {J : ST} {k : Nat} {i j : Int} (h : k ≠ 44 ∧ k ≠ 45) : ∀ (n : Nat) (g : Int) , ∀ J : ST, rnF n g J k i j = J k i j := by
  intro n
  induction n with
  | zero => intro g J; rfl
  | succ n ih =>
    intro g J
    rw [rnF]
    split
    · rfl
    · rw [ih]
      unfold rnS
      split
      · rw [up_k h.2, up_k h.1]
      · rw [up_k h.1]
theorem rs_f {J : ST} {k : Nat} {i j : Int} (h : k ≠ 44) : rsI J k i j = J k i j := by
  unfold rsI
  rw [if_neg (fun q => h q.1)]
theorem pe_f {J : ST} {k : Nat} {i j : Int} (h : k ≠ 44) : peI J k i j = J k i j := by
  unfold peI
  split
  · exact rs_f h
  · rfl
theorem ru_f {J : ST} {g t : Int} {k : Nat} {i j : Int} (h : k ≠ 44 ∧ k ≠ 45 ∧ k ≠ 30 ∧ k ≠ 31) : ruI J g t k i j = J k i j := by
  unfold ruI
  split
  · rfl
  · rw [rn_f (J := J) ⟨h.1, h.2.1⟩, up_k h.2.2.2, up_k h.2.2.1]
theorem ru_t {J : ST} {g t : Int} {k : Nat} {i j : Int} (h : k = 30 ∨ k = 31) : ruI J g t k i j = if t < 0 then J k i j else up (up J 30 0 t ((J 30 0 t) + 10000)) 31 0 t ((J 31 0 t) + 1) k i j := by
  unfold ruI
  split
  · rfl
  · exact rn_f (J := J) ⟨by omega, by omega⟩ _ _ _
section CL
variable {e : EN} {C I J : ST} {z : Nat × Nat × Nat × Nat}
theorem CG.rs (h : CG e C J) {C' : ST} (hC' : C' = (fun k i j => if k = 1 ∧ j = 10 ∧ 0 ≤ i ∧ i < (J 12 0 17) then 0 else C k i j)) : CG e C' (rsI J) := by
  have ej : ∀ k i j, k ≠ 44 → rsI J k i j = J k i j := fun k i j a => rs_f a
  refine ⟨(ej 12 0 17 (by decide)).symm ▸ h.1, fun g g0 g1 => ?_⟩
  rw [ej _ _ _ (by decide)] at g1
  have q := h.2 g g0 g1
  have ed : dpG (rsI J) = dpG J := by
    funext s
    unfold dpG
    rw [show (fun k => rsI J 38 0 k) = (fun k => J 38 0 k) from funext (fun k => ej _ _ _ (by decide))]
  have el : lvF (rsI J) = lvF J := lvF_c (ej _ _ _ (by decide)) (fun j => by rw [ej _ _ _ (by decide)]) (fun j => ej _ _ _ (by decide)) (fun j => ej _ _ _ (by decide))
  have eu : usF (rsI J) = usF J := usF_c (ej _ _ _ (by decide)) (ej _ _ _ (by decide)) (fun j => by rw [ej _ _ _ (by decide)]) (fun j => ej _ _ _ (by decide)) (fun j => ej _ _ _ (by decide)) (fun j => ej _ _ _ (by decide)) (fun j => ej _ _ _ (by decide))
  have fc : ∀ j, j ≠ 10 → C' 1 g j = C 1 g j := fun j a => by rw [hC']; simp [a]
  have f10 : C' 1 g 10 = 0 := by rw [hC']; simp [g0, g1]
  have e44 : rsI J 44 0 g = 0 := by simp [rsI, g0, g1]
  have ej' : ∀ k, k ≠ 44 → rsI J k 0 g = J k 0 g := fun k a => rs_f a
  rw [ed, el, eu, f10, e44]
  simp (disch := decide) only [fc, ej']
  exact ⟨q.1, q.2.1, q.2.2.1, q.2.2.2.1, q.2.2.2.2.1, q.2.2.2.2.2.1, q.2.2.2.2.2.2.1, trivial, q.2.2.2.2.2.2.2.2⟩
theorem period_ev (hA : WA e z) (n1 : (e.2.1 1) = (J 12 0 17)) (hB : RB J) : Ev (fun F => J0_beginPeriod F (rf e 0 0) (HS e C I z)) (rV (HS e (fun k i j => if k = 1 ∧ j = 10 ∧ 0 ≤ i ∧ i < (J 12 0 17) then 0 else C k i j) I z)) := by
  have := RB.groups hB
  refine Ev.step (fun F => E0_beginPeriod F _ _) ?_
  refine lpN (P := fun n => ∀ C', 0 ≤ n → n ≤ (J 12 0 17) → C' = (fun k i j => if k = 1 ∧ j = 10 ∧ 0 ≤ i ∧ i < n then 0 else C k i j) → Ev (fun F => J0_beginPeriod_2 F (rf e 0 0) (xk n) (HS e C' I z)) (rV (HS e (fun k i j => if k = 1 ∧ j = 10 ∧ 0 ≤ i ∧ i < (J 12 0 17) then 0 else C k i j) I z))) (J 12 0 17) (fun n ih C' n0 n1' hC => ?_) 0 C (by omega) (by omega) (by funext k i j; rw [if_neg (by omega)])
  refine Ev.step (fun F => E0_beginPeriod_2 F _ _ _) ?_
  simp (disch := omega) only [b_16 hA, g_0_1 hA, g_2_0 hA, g_2_1 hA, p_1_10 hA, Option.bind_some, up_s, up_k, up_j, up_i, xk_add, xk_sub, xk_mul, xk_neg, lk_add, lN_z, rf_none, rb1, rb0, rbp, xk_nI, zk_eq, zk_lt, zk_eq0, zk_lt0, zk_0lt, zk_long, lz_lt, lz_gt, zmax, zmin, ↓reduceIte, Int.reduceEq, Int.reduceLT, Int.reduceNeg, Int.reduceAdd, Int.reduceSub, Int.reduceMul, Int.ofNat_eq_natCast, Int.cast_ofNat_Int]
  refine Ev.ite (fun q => ?_) (fun q => ?_)
  · try simp (disch := omega) only [b_16 hA, g_0_1 hA, g_2_0 hA, g_2_1 hA, p_1_10 hA, Option.bind_some, up_s, up_k, up_j, up_i, xk_add, xk_sub, xk_mul, xk_neg, lk_add, lN_z, rf_none, rb1, rb0, rbp, xk_nI, zk_eq, zk_lt, zk_eq0, zk_lt0, zk_0lt, zk_long, lz_lt, lz_gt, zmax, zmin, ↓reduceIte, Int.reduceEq, Int.reduceLT, Int.reduceNeg, Int.reduceAdd, Int.reduceSub, Int.reduceMul, Int.ofNat_eq_natCast, Int.cast_ofNat_Int]
    refine ih (by omega) _ (by omega) (by omega) ?_
    rw [hC]
    funext k i j
    simp only [up]
    clear ih hC
    grind
  · have : n = (J 12 0 17) := by omega
    subst this
    exact Ev.ret (by rw [hC]; rfl)
/-- all but the clock itself -/
theorem tick_cl (hA : WA e z) (hC : Cpl e C J) (hT : TI J) (hK : KB J) (hc : (J 12 0 26) + 1 < 1000000) (hG : GI J) : ∃ C' hs ft fg, Ev (fun F => J0_tick F (rf e 0 0) (HS e C I z)) (rR (rf e 8 (wkF J ft fg 20 0).2) (HS e C' I z)) ∧ HsR J hs ∧ FtR hs J ft fg ∧ Cpl e C' (tkI J hs ft fg) := by
  have n8 := hC.1.1
  have n7 := hC.2.1.1
  have n1 := hC.2.2.1.1
  have n10 := hC.2.2.2.2.1.1
  have hB := hT.1
  have := RB.tasks hB
  have := RB.spaces hB
  have := RB.groups hB
  have := RB.views hB
  have n4 := hA.2.2.2.1
  obtain ⟨hs, ft, fg, hE, hF', hX⟩ := look_ev (I := I) hA hC hT hK (x := -1) ⟨by omega, by omega⟩
  have hF : FtR hs J ft fg := fun g g0 g1 => ⟨(hF' g g0 g1).1.c (fun t _ _ => ⟨fun q => q.1, fun q => ⟨q, by have := q.1; omega⟩⟩) (fun _ _ _ _ => rfl), (hF' g g0 g1).2⟩
  have hC1 : Cpl e (lkC J C ft fg) J := hC.lk (fun g g0 g1 => ⟨(hF g g0 g1).1.b (by omega), (hF g g0 g1).2.b (by omega)⟩)
  have wb := wk_b hF hB 20 0 (by omega) (by omega)
  have ch := choose_ev (I := I) hA hC1 hT hK hF (fun g g0 g1 => ⟨lk_t g0 g1, lk_g g0 g1⟩)
  generalize hw : wkF J ft fg 20 0 = w at *
  -- run
  have run : ∃ C2, (∀ {r}, Ev (fun F => J0_tick_19 F (rf e 0 0) (rf e 8 w.2) (HS e C2 I z)) r → Ev (fun F => J0_tick F (rf e 0 0) (HS e C I z)) r) ∧ CG e C2 (ruI (tkJ J hs) w.1 w.2) ∧ CT e C2 (ruI (tkJ J hs) w.1 w.2) ∧ (∀ k i j, k ≠ 1 → k ≠ 8 → C2 k i j = C k i j) ∧ (∀ i j, j ≠ 10 → j ≠ 11 → C2 1 i j = lkC J C ft fg 1 i j) := by
    have hg1 : CG e (lkC J C ft fg) (tkJ J hs) := hC1.2.2.1.fr (fun i j _ => rfl) (tkJ_f (Or.inr (by decide)) (by decide)) (fun k j a b => tkJ_f (Or.inl (by omega)) (by omega)) (usF_c (tkJ_f (Or.inr (by decide)) (by decide)) (tkJ_f (Or.inr (by decide)) (by decide)) (fun j => by rw [tkJ_f (Or.inl (by decide)) (by decide)]) (fun j => tkJ_f (Or.inl (by decide)) (by decide)) (fun j => tkJ_f (Or.inl (by decide)) (by decide)) (fun j => tkJ_f (Or.inl (by decide)) (by decide)) (fun j => tkJ_f (Or.inl (by decide)) (by decide))) (lvF_c (tkJ_f (Or.inr (by decide)) (by decide)) (fun j => by rw [tkJ_f (Or.inl (by decide)) (by decide)]) (fun j => tkJ_f (Or.inl (by decide)) (by decide)) (fun j => tkJ_f (Or.inl (by decide)) (by decide)))
    have ht1 : CT e (lkC J C ft fg) (tkJ J hs) := hC1.1.fr (fun i j => rfl) (tkJ_f (Or.inr (by decide)) (by decide)) (fun k j a b => tkJ_f (Or.inl (by omega)) (by omega))
    have l8 : ∀ i j, lkC J C ft fg 8 i j = C 8 i j := fun i j => lk_f (Or.inl (by decide))
    by_cases h : w.2 < 0
    · refine ⟨lkC J C ft fg, fun {r} hr => ?_, ?_, ?_, fun k i j a b => lk_f (Or.inl a), fun i j a b => rfl⟩
      · refine Ev.step (fun F => E0_tick F _ _) ?_
        simp (disch := omega) only [d_0 hA, Option.bind_some, up_s, up_k, up_j, up_i, xk_add, xk_sub, xk_mul, xk_neg, lk_add, lN_z, rf_none, rb1, rb0, rbp, xk_nI, zk_eq, zk_lt, zk_eq0, zk_lt0, zk_0lt, zk_long, lz_lt, lz_gt, zmax, zmin, ↓reduceIte, Int.reduceEq, Int.reduceLT, Int.reduceNeg, Int.reduceAdd, Int.reduceSub, Int.reduceMul, Int.ofNat_eq_natCast, Int.cast_ofNat_Int]
        have hE' := hE
        rw [rf_n (i := -1) (by decide)] at hE'
        refine Ev.kV hE' ?_
        try simp (disch := omega) only [d_0 hA, Option.bind_some, up_s, up_k, up_j, up_i, xk_add, xk_sub, xk_mul, xk_neg, lk_add, lN_z, rf_none, rb1, rb0, rbp, xk_nI, zk_eq, zk_lt, zk_eq0, zk_lt0, zk_0lt, zk_long, lz_lt, lz_gt, zmax, zmin, ↓reduceIte, Int.reduceEq, Int.reduceLT, Int.reduceNeg, Int.reduceAdd, Int.reduceSub, Int.reduceMul, Int.ofNat_eq_natCast, Int.cast_ofNat_Int]
        refine Ev.kR ch ?_
        try simp (disch := omega) only [d_0 hA, Option.bind_some, up_s, up_k, up_j, up_i, xk_add, xk_sub, xk_mul, xk_neg, lk_add, lN_z, rf_none, rb1, rb0, rbp, xk_nI, zk_eq, zk_lt, zk_eq0, zk_lt0, zk_0lt, zk_long, lz_lt, lz_gt, zmax, zmin, ↓reduceIte, Int.reduceEq, Int.reduceLT, Int.reduceNeg, Int.reduceAdd, Int.reduceSub, Int.reduceMul, Int.ofNat_eq_natCast, Int.cast_ofNat_Int]
        exact Ev.ite (fun _ => hr) (fun q => absurd h q)
      · unfold ruI; rw [if_pos h]; exact hg1
      · unfold ruI; rw [if_pos h]; exact ht1
    · have rr := wb.2.2 (by omega)
      have e30 : tkJ J hs 30 0 w.2 = (J 30 0 w.2) := tkJ_f (Or.inl (by decide)) (by decide)
      have e31 : tkJ J hs 31 0 w.2 = (J 31 0 w.2) := tkJ_f (Or.inl (by decide)) (by decide)
      have hg2 : CG e (up (up (lkC J C ft fg) 8 w.2 8 ((J 31 0 w.2) + 1)) 8 w.2 10 ((J 30 0 w.2) + 10000)) (up (up (tkJ J hs) 30 0 w.2 ((J 30 0 w.2) + 10000)) 31 0 w.2 ((J 31 0 w.2) + 1)) := by
        have ej : ∀ k i j, k ≠ 30 → k ≠ 31 → up (up (tkJ J hs) 30 0 w.2 ((J 30 0 w.2) + 10000)) 31 0 w.2 ((J 31 0 w.2) + 1) k i j = tkJ J hs k i j := fun k i j a b => by rw [up_k b, up_k a]
        refine hg1.fr (fun i j _ => by rw [up_k (by decide), up_k (by decide)]) (ej _ _ _ (by decide) (by decide)) (fun k j a b => ej _ _ _ (by omega) (by omega)) (usF_c (ej _ _ _ (by decide) (by decide)) (ej _ _ _ (by decide) (by decide)) (fun j => by rw [ej _ _ _ (by decide) (by decide)]) (fun j => ej _ _ _ (by decide) (by decide)) (fun j => ej _ _ _ (by decide) (by decide)) (fun j => ej _ _ _ (by decide) (by decide)) (fun j => ej _ _ _ (by decide) (by decide))) (lvF_c (ej _ _ _ (by decide) (by decide)) (fun j => by rw [ej _ _ _ (by decide) (by decide)]) (fun j => ej _ _ _ (by decide) (by decide)) (fun j => ej _ _ _ (by decide) (by decide)))
      have etk : ∀ k i j, k ≠ 30 → k ≠ 31 → k ≠ 59 → (k ≠ 12 ∨ j ≠ 26) → up (up (tkJ J hs) 30 0 w.2 ((J 30 0 w.2) + 10000)) 31 0 w.2 ((J 31 0 w.2) + 1) k i j = J k i j := fun k i j a b c d => by rw [up_k b, up_k a, tkJ_f d c]
      have hB2 : RB (up (up (tkJ J hs) 30 0 w.2 ((J 30 0 w.2) + 10000)) 31 0 w.2 ((J 31 0 w.2) + 1)) := RB.u_ran (RB.u_time (RB.fri (hB.uS (by omega) (by omega) (by omega) (by omega))))
      obtain ⟨C2, hE2, hC2, hf⟩ := run27_ev (I := I) hA 20 w.1 _ _ hg2 hB2 (fun x x0 x1 => by rw [etk _ _ _ (by decide) (by decide) (by decide) (Or.inr (by decide))] at x1; rw [etk _ _ _ (by decide) (by decide) (by decide) (Or.inl (by decide)), etk _ _ _ (by decide) (by decide) (by decide) (Or.inl (by decide))]; exact hG x x0 x1) (by omega) (by rw [etk _ _ _ (by decide) (by decide) (by decide) (Or.inr (by decide))]; omega) (by omega)
      have eru : ruI (tkJ J hs) w.1 w.2 = rnF 20 w.1 (up (up (tkJ J hs) 30 0 w.2 ((J 30 0 w.2) + 10000)) 31 0 w.2 ((J 31 0 w.2) + 1)) := by
        unfold ruI
        rw [if_neg h, e30, e31]
      refine ⟨C2, fun {r} hr => ?_, by rw [eru]; exact hC2, ?_, fun k i j a b => ?_, fun i j a b => ?_⟩
      · have c8 := hC.1.ticks (t := w.2) (by omega) (by omega)
        have c10 := hC.1.time (t := w.2) (by omega) (by omega)
        have c4 := hC.1.group (t := w.2) (by omega) (by omega)
        rw [rr.2.2.2.2] at c4
        have hE' := hE
        rw [rf_n (i := -1) (by decide)] at hE'
        refine Ev.step (fun F => E0_tick F _ _) ?_
        simp (disch := omega) only [d_0 hA, Option.bind_some, up_s, up_k, up_j, up_i, xk_add, xk_sub, xk_mul, xk_neg, lk_add, lN_z, rf_none, rb1, rb0, rbp, xk_nI, zk_eq, zk_lt, zk_eq0, zk_lt0, zk_0lt, zk_long, lz_lt, lz_gt, zmax, zmin, ↓reduceIte, Int.reduceEq, Int.reduceLT, Int.reduceNeg, Int.reduceAdd, Int.reduceSub, Int.reduceMul, Int.ofNat_eq_natCast, Int.cast_ofNat_Int]
        refine Ev.kV hE' ?_
        try simp (disch := omega) only [d_0 hA, Option.bind_some, up_s, up_k, up_j, up_i, xk_add, xk_sub, xk_mul, xk_neg, lk_add, lN_z, rf_none, rb1, rb0, rbp, xk_nI, zk_eq, zk_lt, zk_eq0, zk_lt0, zk_0lt, zk_long, lz_lt, lz_gt, zmax, zmin, ↓reduceIte, Int.reduceEq, Int.reduceLT, Int.reduceNeg, Int.reduceAdd, Int.reduceSub, Int.reduceMul, Int.ofNat_eq_natCast, Int.cast_ofNat_Int]
        refine Ev.kR ch ?_
        try simp (disch := omega) only [d_0 hA, Option.bind_some, up_s, up_k, up_j, up_i, xk_add, xk_sub, xk_mul, xk_neg, lk_add, lN_z, rf_none, rb1, rb0, rbp, xk_nI, zk_eq, zk_lt, zk_eq0, zk_lt0, zk_0lt, zk_long, lz_lt, lz_gt, zmax, zmin, ↓reduceIte, Int.reduceEq, Int.reduceLT, Int.reduceNeg, Int.reduceAdd, Int.reduceSub, Int.reduceMul, Int.ofNat_eq_natCast, Int.cast_ofNat_Int]
        refine Ev.ite (fun q => absurd q h) (fun _ => ?_)
        refine Ev.kV (σ := HS e C2 I z) ?_ hr
        have tt := hK.1 w.2 (by omega) (by omega)
        refine Ev.step (fun F => E0_run F _ _ _) ?_
        simp (disch := omega) only [g_8_10 hA, g_8_4 hA, g_8_8 hA, p_8_10 hA, p_8_8 hA, Option.bind_some, up_s, up_k, up_j, up_i, xk_add, xk_sub, xk_mul, xk_neg, lk_add, lN_z, rf_none, rb1, rb0, rbp, xk_nI, zk_eq, zk_lt, zk_eq0, zk_lt0, zk_0lt, zk_long, lz_lt, lz_gt, zmax, zmin, ↓reduceIte, Int.reduceEq, Int.reduceLT, Int.reduceNeg, Int.reduceAdd, Int.reduceSub, Int.reduceMul, Int.ofNat_eq_natCast, Int.cast_ofNat_Int, l8, c8, c10, c4, ll_10000]
        exact hE2
      · rw [eru]
        have e12 : rnF 20 w.1 (up (up (tkJ J hs) 30 0 w.2 ((J 30 0 w.2) + 10000)) 31 0 w.2 ((J 31 0 w.2) + 1)) 12 0 1 = (J 12 0 1) := by rw [rn_f (J := J) ⟨by decide, by decide⟩, etk _ _ _ (by decide) (by decide) (by decide) (Or.inr (by decide))]
        refine ⟨e12.symm ▸ n8, fun x x0 x1 => ?_⟩
        rw [e12] at x1
        have q := hC.1.2 x x0 x1
        have fr8 : ∀ j, C2 8 x j = up (up (lkC J C ft fg) 8 w.2 8 ((J 31 0 w.2) + 1)) 8 w.2 10 ((J 30 0 w.2) + 10000) 8 x j := fun j => hf _ _ _ (Or.inl (by decide))
        have c8 : ∀ j, j ≠ 8 → j ≠ 10 → C2 8 x j = C 8 x j := fun j a b => by rw [fr8, up_j b, up_j a, l8]
        have rnj : ∀ k, k ≠ 44 → k ≠ 45 → k ≠ 30 → k ≠ 31 → k ≠ 59 → k ≠ 12 → rnF 20 w.1 (up (up (tkJ J hs) 30 0 w.2 ((J 30 0 w.2) + 10000)) 31 0 w.2 ((J 31 0 w.2) + 1)) k 0 x = J k 0 x := fun k a b c d f g => by rw [rn_f (J := J) ⟨a, b⟩, etk _ _ _ c d f (Or.inl g)]
        simp (disch := decide) only [c8, rnj]
        refine ⟨q.1, q.2.1, q.2.2.1, q.2.2.2.1, q.2.2.2.2.1, q.2.2.2.2.2.1, q.2.2.2.2.2.2.1, ?_, q.2.2.2.2.2.2.2.2.1, ?_⟩
        · rw [fr8, up_j (by decide), rn_f (J := J) ⟨by decide, by decide⟩]
          by_cases hx : x = w.2
          · rw [hx, up_s, up_s]
          · rw [up_i hx, up_j hx, l8, up_k (by decide), tkJ_f (Or.inl (by decide)) (by decide)]; exact q.2.2.2.2.2.2.2.1
        · rw [fr8, rn_f (J := J) ⟨by decide, by decide⟩, up_k (k' := 30) (k := 31) (by decide)]
          by_cases hx : x = w.2
          · rw [hx, up_s, up_s]
          · rw [up_i hx, up_i hx, l8, up_j hx, tkJ_f (Or.inl (by decide)) (by decide)]; exact q.2.2.2.2.2.2.2.2.2
      · rw [hf _ _ _ (Or.inl a), up_k b, up_k b, lk_f (Or.inl a)]
      · rw [hf _ _ _ (Or.inr ⟨a, b⟩), up_k (by decide), up_k (by decide)]
  obtain ⟨C2, pre, hg2, ht2, hf2, hf1⟩ := run
  have e12 : ∀ j, j ≠ 26 → ruI (tkJ J hs) w.1 w.2 12 0 j = J 12 0 j := fun j a => by rw [ru_f (by decide), tkJ_f (Or.inr a) (by decide)]
  have e26 : ruI (tkJ J hs) w.1 w.2 12 0 26 = (J 12 0 26) + 1 := by
    rw [ru_f (by decide)]
    unfold tkJ
    rw [fr_f (by decide), up_s]
  have ejr : ∀ k i j, k ≠ 44 → k ≠ 45 → k ≠ 30 → k ≠ 31 → k ≠ 59 → k ≠ 12 → ruI (tkJ J hs) w.1 w.2 k i j = J k i j := fun k i j a b c d f g => by rw [ru_f ⟨a, b, c, d⟩, tkJ_f (Or.inl g) f]
  have fin : ∀ C3, CG e C3 (tkI J hs ft fg) → (∀ k i j, k ≠ 1 → k ≠ 0 → C3 k i j = C2 k i j) → (∀ i j, j ≠ 10 → C3 1 i j = C2 1 i j) → C3 0 0 2 = (J 12 0 26) + 1 → Cpl e C3 (tkI J hs ft fg) := by
    intro C3 hg3 a3 b3 d3
    have et : tkI J hs ft fg = peI (ruI (tkJ J hs) w.1 w.2) := by unfold tkI; rw [hw]
    have e12' : ∀ j, j ≠ 26 → tkI J hs ft fg 12 0 j = J 12 0 j := fun j a => by rw [et, pe_f (by decide), e12 j a]
    have ejp : ∀ k i j, k ≠ 44 → k ≠ 45 → k ≠ 30 → k ≠ 31 → k ≠ 59 → k ≠ 12 → tkI J hs ft fg k i j = J k i j := fun k i j a b c d f g => by rw [et, pe_f a, ejr k i j a b c d f g]
    have hCT : CT e C3 (tkI J hs ft fg) := by
      rw [et]
      exact ht2.fr (fun i j => a3 _ _ _ (by decide) (by decide)) (pe_f (by decide)) (fun k j a b => pe_f (by omega))
    refine ⟨hCT, ?_, hg3, ?_, ?_, ?_⟩
    · exact hC.2.1.fr (fun i j => by rw [a3 _ _ _ (by decide) (by decide), hf2 _ _ _ (by decide) (by decide)]) (fun i j => by rw [a3 _ _ _ (by decide) (by decide), hf2 _ _ _ (by decide) (by decide)]) (e12' _ (by decide)) (fun j => ejp _ _ _ (by decide) (by decide) (by decide) (by decide) (by decide) (by decide)) (fun j => ejp _ _ _ (by decide) (by decide) (by decide) (by decide) (by decide) (by decide)) (fun j => ejp _ _ _ (by decide) (by decide) (by decide) (by decide) (by decide) (by decide)) (HoR_c (e12' _ (by decide)) (fun j => by rw [ejp _ _ _ (by decide) (by decide) (by decide) (by decide) (by decide) (by decide)]) (fun j => ejp _ _ _ (by decide) (by decide) (by decide) (by decide) (by decide) (by decide)))
    · exact hC1.2.2.2.1.fr (fun g => by rw [b3 _ _ (by decide), hf1 _ _ (by decide) (by decide)]) (fun g => by rw [b3 _ _ (by decide), hf1 _ _ (by decide) (by decide)]) (e12' _ (by decide)) (e12' _ (by decide))
    · exact hC.2.2.2.2.1.fr (fun k i j h => by rw [a3 _ _ _ (by omega) (by omega), hf2 _ _ _ (by omega) (by omega)]) (fun k i j a b => ejp _ _ _ (by omega) (by omega) (by omega) (by omega) (by omega) (by omega)) (e12' _ (by decide)) (e12' _ (by decide))
    · obtain ⟨q1, q2, q3⟩ := hC.2.2.2.2.2
      refine ⟨?_, ?_, ?_⟩
      · rw [d3, et, pe_f (by decide), e26]
      · rw [a3 _ _ _ (by decide) (by decide), hf2 _ _ _ (by decide) (by decide), e12' _ (by decide)]; exact q2
      · simp (disch := decide) only [a3, hf2]; exact q3
  have cn : C2 0 0 2 = (J 12 0 26) := by rw [hf2 _ _ _ (by decide) (by decide)]; exact hC.2.2.2.2.2.1
  have k0 := hK.2.2
  have hBr : RB (ruI (tkJ J hs) w.1 w.2) ∨ True := Or.inr trivial
  have hgN : CG e (up C2 0 0 2 ((J 12 0 26) + 1)) (ruI (tkJ J hs) w.1 w.2) := hg2.fr (fun i j _ => up_k (by decide)) rfl (fun _ _ _ _ => rfl) rfl rfl
  have egr : ruI (tkJ J hs) w.1 w.2 12 0 17 = (J 12 0 17) := e12 _ (by decide)
  by_cases hp : ((J 12 0 26) + 1) % 20 = 0
  · have ep : tkI J hs ft fg = rsI (ruI (tkJ J hs) w.1 w.2) := by
      unfold tkI peI
      rw [hw, e26, if_pos hp]
    have hg3 := hgN.rs rfl
    rw [← ep] at hg3
    refine ⟨_, hs, ft, fg, ?_, hX.r, hF, fin _ hg3 (fun k i j a b => ?_) (fun i j a => ?_) ?_⟩
    · refine pre ?_
      refine Ev.step (fun F => E0_tick_19 F _ _ _) ?_
      simp (disch := omega) only [d_0 hA, g_0_2 hA, p_0_2 hA, Option.bind_some, up_s, up_k, up_j, up_i, xk_add, xk_sub, xk_mul, xk_neg, lk_add, lN_z, rf_none, rb1, rb0, rbp, xk_nI, zk_eq, zk_lt, zk_eq0, zk_lt0, zk_0lt, zk_long, lz_lt, lz_gt, zmax, zmin, ↓reduceIte, Int.reduceEq, Int.reduceLT, Int.reduceNeg, Int.reduceAdd, Int.reduceSub, Int.reduceMul, Int.ofNat_eq_natCast, Int.cast_ofNat_Int, cn, zdiv]
      refine Ev.ite (fun _ => ?_) (fun q => absurd q (by omega))
      have := period_ev (I := I) (C := up C2 0 0 2 ((J 12 0 26) + 1)) hA n1 hB
      rw [egr]
      exact Ev.kV this (Ev.ret (by rw [hw]; rfl))
    · rw [if_neg (by omega), up_k b]
    · rw [if_neg (by omega), up_k (by decide)]
    · rw [if_neg (by omega), up_s]
  · have ep : tkI J hs ft fg = ruI (tkJ J hs) w.1 w.2 := by
      unfold tkI peI
      rw [hw, e26, if_neg hp]
    have hg3 := hgN
    rw [← ep] at hg3
    refine ⟨_, hs, ft, fg, ?_, hX.r, hF, fin _ hg3 (fun k i j a b => ?_) (fun i j a => ?_) ?_⟩
    · refine pre ?_
      refine Ev.step (fun F => E0_tick_19 F _ _ _) ?_
      simp (disch := omega) only [d_0 hA, g_0_2 hA, p_0_2 hA, Option.bind_some, up_s, up_k, up_j, up_i, xk_add, xk_sub, xk_mul, xk_neg, lk_add, lN_z, rf_none, rb1, rb0, rbp, xk_nI, zk_eq, zk_lt, zk_eq0, zk_lt0, zk_0lt, zk_long, lz_lt, lz_gt, zmax, zmin, ↓reduceIte, Int.reduceEq, Int.reduceLT, Int.reduceNeg, Int.reduceAdd, Int.reduceSub, Int.reduceMul, Int.ofNat_eq_natCast, Int.cast_ofNat_Int, cn, zdiv]
      refine Ev.ite (fun q => absurd q (by omega)) (fun _ => Ev.ret (by rw [hw]; rfl))
    · rw [up_k b]
    · rw [up_k (by decide)]
    · rw [up_s]
end CL
