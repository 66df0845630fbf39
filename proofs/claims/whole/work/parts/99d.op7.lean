/-! pairs: ticks -/
theorem rn_b : ∀ (n : Nat) (g : Int) (J : ST), RB J → GI J → g < (J 12 0 17) → -1 ≤ g → (∀ x, g < x → rnF n g J 44 0 x = J 44 0 x ∧ rnF n g J 45 0 x = J 45 0 x) ∧ (∀ x, (J 44 0 x ≤ rnF n g J 44 0 x ∧ rnF n g J 44 0 x ≤ J 44 0 x + 1) ∧ (J 45 0 x ≤ rnF n g J 45 0 x ∧ rnF n g J 45 0 x ≤ J 45 0 x + 1000000)) := by
  intro n
  induction n with
  | zero => intro g J hB hG g1 g0; exact ⟨fun x _ => ⟨rfl, rfl⟩, fun x => ⟨⟨Int.le_refl _, by show J 44 0 x ≤ J 44 0 x + 1; omega⟩, Int.le_refl _, by show J 45 0 x ≤ J 45 0 x + 1000000; omega⟩⟩
  | succ n ih =>
    intro g J hB hG g1 g0
    rw [rnF]
    by_cases h : g < 0
    · rw [if_pos h]
      exact ⟨fun x _ => ⟨rfl, rfl⟩, fun x => ⟨⟨Int.le_refl _, by omega⟩, Int.le_refl _, by omega⟩⟩
    · rw [if_neg h]
      have := RB.groups hB
      have w := RB.ww hB g (by omega) (by omega)
      have gi := hG g (by omega) g1
      have sf : ∀ k i j, k ≠ 44 → k ≠ 45 → rnS J g k i j = J k i j := fun k i j a b => by
        unfold rnS
        split
        · rw [up_k b, up_k a]
        · rw [up_k a]
      have sx : ∀ k x, x ≠ g → rnS J g k 0 x = J k 0 x := fun k x hx => by
        unfold rnS
        split
        · rw [up_j hx, up_j hx]
        · rw [up_j hx]
      have sg : (rnS J g 44 0 g = J 44 0 g + 1) ∧ J 45 0 g ≤ rnS J g 45 0 g ∧ rnS J g 45 0 g ≤ J 45 0 g + 1000000 := by
        have d0 : 0 ≤ 1000000 / (J 41 0 g) := Int.ediv_nonneg (by omega) (by omega)
        have d1 : 1000000 / (J 41 0 g) ≤ 1000000 := Int.ediv_le_self _ (by omega)
        unfold rnS
        split
        · rw [up_k (by decide), up_s, up_s]; omega
        · rw [up_s, up_k (by decide)]; omega
      have hB' : RB (rnS J g) := by
        unfold rnS
        split
        · exact RB.u_groupTime (RB.u_ranNow hB)
        · exact RB.u_ranNow hB
      have hG' : GI (rnS J g) := hG.c (sf _ _ _ (by decide) (by decide)) (fun j => sf _ _ _ (by decide) (by decide)) (fun j => sf _ _ _ (by decide) (by decide))
      have i := ih (J 38 0 g) (rnS J g) hB' hG' (by rw [sf _ _ _ (by decide) (by decide)]; omega) (by omega)
      refine ⟨fun x hx => ?_, fun x => ?_⟩
      · have a := i.1 x (by omega)
        rw [a.1, a.2, sx 44 x (by omega), sx 45 x (by omega)]
        exact ⟨rfl, rfl⟩
      · by_cases hx : x = g
        · subst hx
          have a := i.1 x (by omega)
          rw [a.1, a.2]
          omega
        · have a := i.2 x
          rw [sx 44 x hx, sx 45 x hx] at a
          exact a
/-- times of tasks and groups against the clock -/
def KT (J : ST) : Prop := 0 ≤ (J 12 0 26) ∧ (∀ t, 0 ≤ t → t < 150 → 0 ≤ (J 30 0 t) ∧ (J 30 0 t) ≤ 1000000 * (J 12 0 26)) ∧ (∀ g, 0 ≤ g → g < 20 → 0 ≤ (J 45 0 g) ∧ (J 45 0 g) ≤ 1000000 * (J 12 0 26) ∧ 0 ≤ (J 44 0 g) ∧ (J 44 0 g) ≤ (J 12 0 26))
theorem KT.kb {J : ST} (h : KT J) (hc : (J 12 0 26) < 1000000) : KB J := by
  obtain ⟨h1, h2, h3⟩ := h
  refine ⟨fun t a b => ?_, fun g a b => ?_, ?_⟩
  · have := h2 t a b; omega
  · have := h3 g a b; omega
  · omega
/-- what a tick leaves as it was -/
def TkF (J J' : ST) : Prop := (∀ k i j, k ≠ 30 ∧ k ≠ 31 ∧ k ≠ 44 ∧ k ≠ 45 ∧ k ≠ 59 → (k ≠ 12 ∨ j ≠ 26) → J' k i j = J k i j) ∧ (∀ g, (J 12 0 17) ≤ g → g < 20 → J' 44 0 g = J 44 0 g) ∧ (∀ t, (J 12 0 1) ≤ t → J' 31 0 t = J 31 0 t)
theorem TkF.r {J : ST} : TkF J J := ⟨fun _ _ _ _ _ => rfl, fun _ _ _ => rfl, fun _ _ => rfl⟩
theorem TkF.t {J J' J'' : ST} (h : TkF J J') (h' : TkF J' J'') : TkF J J'' := by
  have e17 := h.1 12 0 17 (by decide) (Or.inr (by decide))
  have e1 := h.1 12 0 1 (by decide) (Or.inr (by decide))
  exact ⟨fun k i j a b => (h'.1 k i j a b).trans (h.1 k i j a b), fun g a b => (h'.2.1 g (by omega) b).trans (h.2.1 g a b), fun t a => (h'.2.2 t (by omega)).trans (h.2.2 t a)⟩
theorem tk_inv {J : ST} {hs : Int → Bool} {ft fg : Int → Int} (hB : RB J) (hG : GI J) (hK : KT J) (hF : FtR hs J ft fg) : RB (tkI J hs ft fg) ∧ KT (tkI J hs ft fg) ∧ TkF J (tkI J hs ft fg) ∧ (tkI J hs ft fg 12 0 26) = (J 12 0 26) + 1 := by
  have := RB.groups hB
  have := RB.tasks hB
  have wb := wk_b hF hB 20 0 (by omega) (by omega)
  unfold tkI
  generalize wkF J ft fg 20 0 = w at *
  have hB1 : RB (tkJ J hs) := RB.fri (hB.uS (by omega) (by omega) (by omega) (by omega))
  have e1 : ∀ k i j, k ≠ 59 → (k ≠ 12 ∨ j ≠ 26) → tkJ J hs k i j = J k i j := fun k i j a b => tkJ_f b a
  have ec : tkJ J hs 12 0 26 = (J 12 0 26) + 1 := by unfold tkJ; rw [fr_f (by decide), up_s]
  have hru : RB (ruI (tkJ J hs) w.1 w.2) ∧ (∀ x, x ≠ w.2 → ruI (tkJ J hs) w.1 w.2 30 0 x = J 30 0 x ∧ ruI (tkJ J hs) w.1 w.2 31 0 x = J 31 0 x) ∧ (∀ x, J 30 0 x ≤ ruI (tkJ J hs) w.1 w.2 30 0 x ∧ ruI (tkJ J hs) w.1 w.2 30 0 x ≤ J 30 0 x + 10000) ∧ (∀ x, (J 12 0 17) ≤ x → ruI (tkJ J hs) w.1 w.2 44 0 x = J 44 0 x) ∧ (∀ x, (J 44 0 x ≤ ruI (tkJ J hs) w.1 w.2 44 0 x ∧ ruI (tkJ J hs) w.1 w.2 44 0 x ≤ J 44 0 x + 1) ∧ (J 45 0 x ≤ ruI (tkJ J hs) w.1 w.2 45 0 x ∧ ruI (tkJ J hs) w.1 w.2 45 0 x ≤ J 45 0 x + 1000000)) := by
    unfold ruI
    by_cases h : w.2 < 0
    · rw [if_pos h]
      refine ⟨hB1, fun x _ => ⟨e1 _ _ _ (by decide) (Or.inl (by decide)), e1 _ _ _ (by decide) (Or.inl (by decide))⟩, fun x => ?_, fun x _ => e1 _ _ _ (by decide) (Or.inl (by decide)), fun x => ?_⟩
      · rw [e1 30 _ _ (by decide) (Or.inl (by decide))]; omega
      · rw [e1 44 _ _ (by decide) (Or.inl (by decide)), e1 45 _ _ (by decide) (Or.inl (by decide))]; omega
    · rw [if_neg h, e1 30 _ _ (by decide) (Or.inl (by decide)), e1 31 _ _ (by decide) (Or.inl (by decide))]
      have ej : ∀ k i j, k ≠ 30 → k ≠ 31 → up (up (tkJ J hs) 30 0 w.2 ((J 30 0 w.2) + 10000)) 31 0 w.2 ((J 31 0 w.2) + 1) k i j = tkJ J hs k i j := fun k i j a b => by rw [up_k b, up_k a]
      have hB2 : RB (up (up (tkJ J hs) 30 0 w.2 ((J 30 0 w.2) + 10000)) 31 0 w.2 ((J 31 0 w.2) + 1)) := RB.u_ran (RB.u_time hB1)
      have hG2 : GI (up (up (tkJ J hs) 30 0 w.2 ((J 30 0 w.2) + 10000)) 31 0 w.2 ((J 31 0 w.2) + 1)) := hG.c (by rw [ej _ _ _ (by decide) (by decide), e1 _ _ _ (by decide) (Or.inr (by decide))]) (fun j => by rw [ej _ _ _ (by decide) (by decide), e1 _ _ _ (by decide) (Or.inl (by decide))]) (fun j => by rw [ej _ _ _ (by decide) (by decide), e1 _ _ _ (by decide) (Or.inl (by decide))])
      have g17 : up (up (tkJ J hs) 30 0 w.2 ((J 30 0 w.2) + 10000)) 31 0 w.2 ((J 31 0 w.2) + 1) 12 0 17 = (J 12 0 17) := by rw [ej _ _ _ (by decide) (by decide), e1 _ _ _ (by decide) (Or.inr (by decide))]
      have rb := rn_b 20 w.1 _ hB2 hG2 (by rw [g17]; omega) (by omega)
      have q44 : ∀ x, up (up (tkJ J hs) 30 0 w.2 ((J 30 0 w.2) + 10000)) 31 0 w.2 ((J 31 0 w.2) + 1) 44 0 x = J 44 0 x := fun x => by rw [ej _ _ _ (by decide) (by decide), e1 _ _ _ (by decide) (Or.inl (by decide))]
      have q45 : ∀ x, up (up (tkJ J hs) 30 0 w.2 ((J 30 0 w.2) + 10000)) 31 0 w.2 ((J 31 0 w.2) + 1) 45 0 x = J 45 0 x := fun x => by rw [ej _ _ _ (by decide) (by decide), e1 _ _ _ (by decide) (Or.inl (by decide))]
      have rbB : ∀ (n : Nat) (g : Int) (K : ST), RB K → RB (rnF n g K) := by
        intro n
        induction n with
        | zero => intro g K h; exact h
        | succ n ih =>
          intro g K h
          rw [rnF]
          split
          · exact h
          · refine ih _ _ ?_
            unfold rnS
            split
            · exact RB.u_groupTime (RB.u_ranNow h)
            · exact RB.u_ranNow h
      refine ⟨rbB _ _ _ hB2, fun x hx => ?_, fun x => ?_, fun x hx => ?_, fun x => ?_⟩
      · rw [rn_f (J := J) ⟨by decide, by decide⟩, rn_f (J := J) ⟨by decide, by decide⟩, up_k (k' := 30) (k := 31) (by decide), up_j hx, up_j hx, e1 _ _ _ (by decide) (Or.inl (by decide)), up_k (by decide), e1 _ _ _ (by decide) (Or.inl (by decide))]
        exact ⟨rfl, rfl⟩
      · rw [rn_f (J := J) ⟨by decide, by decide⟩, up_k (k' := 30) (k := 31) (by decide)]
        by_cases hx : x = w.2
        · rw [hx, up_s]; omega
        · rw [up_j hx, e1 _ _ _ (by decide) (Or.inl (by decide))]; omega
      · rw [(rb.1 x (by omega)).1, q44]
      · have := rb.2 x
        rw [q44, q45] at this
        exact this
  obtain ⟨r1, r2, r3, r4, r5⟩ := hru
  have ru12 : ∀ j, ruI (tkJ J hs) w.1 w.2 12 0 j = tkJ J hs 12 0 j := fun j => ru_f (by decide)
  have pe : ∀ k i j, k ≠ 44 → peI (ruI (tkJ J hs) w.1 w.2) k i j = ruI (tkJ J hs) w.1 w.2 k i j := fun k i j a => pe_f a
  have pe44 : ∀ x, peI (ruI (tkJ J hs) w.1 w.2) 44 0 x = ruI (tkJ J hs) w.1 w.2 44 0 x ∨ (peI (ruI (tkJ J hs) w.1 w.2) 44 0 x = 0 ∧ x < (J 12 0 17)) := by
    intro x
    unfold peI
    split
    · unfold rsI
      split
      · rename_i q
        right
        rw [ru12, e1 _ _ _ (by decide) (Or.inr (by decide))] at q
        exact ⟨rfl, q.2.2.2⟩
      · exact Or.inl rfl
    · exact Or.inl rfl
  have pB : RB (peI (ruI (tkJ J hs) w.1 w.2)) := by
    have hrs : ∀ K : ST, RB K → RB (rsI K) := by
      intro K h
      obtain ⟨g1, g2, g3, g4, g5, g6⟩ := h
      refine ⟨fun r hr a a0 a1 => ?_, fun g g0 g1 => ?_, ?_, ?_, ?_, ?_⟩
      · have n44 : ∀ r ∈ rbt, r.1 ≠ 44 := by decide
        rw [rs_f (n44 r hr)]
        exact g1 r hr a a0 a1
      · rw [rs_f (by decide), rs_f (by decide)]; exact g2 g g0 (by assumption)
      all_goals rw [rs_f (by decide)]; assumption
    unfold peI
    split
    · exact hrs _ r1
    · exact r1
  have ck : peI (ruI (tkJ J hs) w.1 w.2) 12 0 26 = (J 12 0 26) + 1 := by rw [pe _ _ _ (by decide), ru12, ec]
  refine ⟨pB, ⟨?_, fun t a b => ?_, fun g a b => ?_⟩, ⟨fun k i j a b => ?_, fun g a b => ?_, fun t a => ?_⟩, ck⟩
  · rw [ck]; have := hK.1; omega
  · rw [ck, pe _ _ _ (by decide)]
    have := r3 t
    have := hK.2.1 t a b
    omega
  · rw [ck, pe 45 _ _ (by decide)]
    have y := r5 g
    have z := hK.2.2 g a b
    have c0 := hK.1
    rcases pe44 g with q | q
    · rw [q]; omega
    · rw [q.1]; omega
  · rw [pe _ _ _ a.2.2.1, ru_f ⟨a.2.2.1, a.2.2.2.1, a.1, a.2.1⟩, e1 _ _ _ a.2.2.2.2 b]
  · rcases pe44 g with q | q
    · rw [q, r4 g a]
    · omega
  · rw [pe _ _ _ (by decide)]
    exact (r2 t (by omega)).2
def TkL : Nat → ST → Int → ST → Int → Prop
  | 0, J, l, J', l' => J' = J ∧ l' = l
  | m + 1, J, _, J', l' => ∃ hs ft fg, HsR J hs ∧ FtR hs J ft fg ∧ TkL m (tkI J hs ft fg) (wkF J ft fg 20 0).2 J' l'
section OPs
variable {e : EN} {C I J : ST} {z : Nat × Nat × Nat × Nat} {n : Int}
theorem TI.tk {J' : ST} (h : TI J) (hB : RB J') (hf : TkF J J') : TI J' := by
  refine ⟨hB, ?_⟩
  have ej : ∀ k, k ≠ 30 ∧ k ≠ 31 ∧ k ≠ 44 ∧ k ≠ 45 ∧ k ≠ 59 → k ≠ 12 → ∀ j, J' k 0 j = J k 0 j := fun k a b j => hf.1 k 0 j a (Or.inl b)
  have e12 : ∀ j, j ≠ 26 → J' 12 0 j = J 12 0 j := fun j a => hf.1 12 0 j (by decide) (Or.inr a)
  have el : lin J' = lin J := lin_c (fun j => ej _ (by decide) (by decide) j)
  simp (disch := decide) only [ej, e12, el]
  exact h.2
theorem ticks25_ev (hA : WA e z) {v : Int} : ∀ (m : Nat) (k l : Int) (C J : ST), k + m = v → 0 ≤ k → v ≤ 200 → Cpl e C J → TI J → GI J → KT J → (J 12 0 26) + m < 1000000 → -1 ≤ l → l < (J 12 0 1) → ∃ C' J' l', Ev (fun F => J11_ticks_25 F (rf e 11 0) (xk v) (rf e 8 l) (xk k) (HS e C I z)) (rI l' (HS e C' I z)) ∧ TkL m J l J' l' ∧ Cpl e C' J' ∧ TI J' ∧ KT J' ∧ TkF J J' ∧ (J' 12 0 26) = (J 12 0 26) + m ∧ (-1 ≤ l' ∧ l' < (J 12 0 1)) := by
  intro m
  induction m with
  | zero =>
    intro k l C J hk k0 hv hC hT hG hK hc l0 l1
    have n8 := hC.1.1
    refine ⟨C, J, l, ?_, ⟨rfl, rfl⟩, hC, hT, hK, TkF.r, by simp, l0, l1⟩
    refine Ev.step (fun F => E11_ticks_25 F _ _ _ _ _) ?_
    simp (disch := omega) only [d_0 hA, g_11_3 hA, g_8_0 hA, Option.bind_some, up_s, up_k, up_j, up_i, xk_add, xk_sub, xk_mul, xk_neg, lk_add, lN_z, rf_none, rb1, rb0, rbp, xk_nI, zk_eq, zk_lt, zk_eq0, zk_lt0, zk_0lt, zk_long, lz_lt, lz_gt, zmax, zmin, ↓reduceIte, Int.reduceEq, Int.reduceLT, Int.reduceNeg, Int.reduceAdd, Int.reduceSub, Int.reduceMul, Int.ofNat_eq_natCast, Int.cast_ofNat_Int]
    refine Ev.ite (fun q => absurd q (by omega)) (fun _ => ?_)
    refine Ev.ite (fun q => Ev.ret (by rw [show l = -1 by omega]; rfl)) (fun q => ?_)
    try simp (maxSteps := 2000000) (disch := omega) only [d_0 hA, g_11_3 hA, g_8_0 hA, Option.bind_some, up_s, up_k, up_j, up_i, xk_add, xk_sub, xk_mul, xk_neg, lk_add, lN_z, rf_none, rb1, rb0, rbp, xk_nI, zk_eq, zk_lt, zk_eq0, zk_lt0, zk_0lt, zk_long, lz_lt, lz_gt, zmax, zmin, ↓reduceIte, Int.reduceEq, Int.reduceLT, Int.reduceNeg, Int.reduceAdd, Int.reduceSub, Int.reduceMul, Int.ofNat_eq_natCast, Int.cast_ofNat_Int]
    exact Ev.ret rfl
  | succ m ih =>
    intro k l C J hk k0 hv hC hT hG hK hc l0 l1
    have tk := RB.tasks hT.1
    have gk := RB.groups hT.1
    obtain ⟨C1, hs, ft, fg, hE, hH, hF, hC1⟩ := tick_cl (I := I) hA hC hT (hK.kb (by omega)) (by omega) hG
    have ti := tk_inv hT.1 hG hK hF
    have wb := wk_b hF hT.1 20 0 (by omega) (by omega)
    have e1 := ti.2.2.1.1 12 0 1 (by decide) (Or.inr (by decide))
    have hG1 : GI (tkI J hs ft fg) := hG.c (ti.2.2.1.1 _ _ _ (by decide) (Or.inr (by decide))) (fun j => ti.2.2.1.1 _ _ _ (by decide) (Or.inl (by decide))) (fun j => ti.2.2.1.1 _ _ _ (by decide) (Or.inl (by decide)))
    obtain ⟨C2, J2, l2, hE2, hL, hC2, hT2, hK2, hf2, hc2, lb⟩ := ih (k + 1) (wkF J ft fg 20 0).2 C1 _ (by omega) (by omega) hv hC1 (hT.tk ti.1 ti.2.2.1) hG1 ti.2.1 (by rw [ti.2.2.2]; omega) wb.2.1.1 (by rw [e1]; exact wb.2.1.2)
    refine ⟨C2, J2, l2, ?_, ⟨hs, ft, fg, hH, hF, hL⟩, hC2, hT2, hK2, TkF.t ti.2.2.1 hf2, by rw [hc2, ti.2.2.2]; omega, by rw [e1] at lb; exact lb⟩
    refine Ev.step (fun F => E11_ticks_25 F _ _ _ _ _) ?_
    simp (disch := omega) only [d_0 hA, g_11_3 hA, g_8_0 hA, Option.bind_some, up_s, up_k, up_j, up_i, xk_add, xk_sub, xk_mul, xk_neg, lk_add, lN_z, rf_none, rb1, rb0, rbp, xk_nI, zk_eq, zk_lt, zk_eq0, zk_lt0, zk_0lt, zk_long, lz_lt, lz_gt, zmax, zmin, ↓reduceIte, Int.reduceEq, Int.reduceLT, Int.reduceNeg, Int.reduceAdd, Int.reduceSub, Int.reduceMul, Int.ofNat_eq_natCast, Int.cast_ofNat_Int]
    refine Ev.ite (fun _ => ?_) (fun q => absurd q (by omega))
    exact Ev.kR hE hE2
theorem ticks34_ev (hA : WA e z) (hR : WR e) {v : Int} : ∀ (m : Nat) (k l l' : Int) (J J' : ST), k + m = v → 0 ≤ k → v ≤ 200 → TI J → GI J → KT J → (J 12 0 26) + m < 1000000 → TkL m J l J' l' → Ev (fun F => J12_ticks_34 F (rf e 12 0) (xk v) (xk l) (xk k) (HS e C J z)) (rI l' (HS e C J' z)) := by
  intro m
  induction m with
  | zero =>
    intro k l l' J J' hk k0 hv hT hG hK hc hL
    rw [hL.1, hL.2]
    refine Ev.step (fun F => E12_ticks_34 F _ _ _ _ _) ?_
    simp (disch := omega) only [d_12 hA hR, Option.bind_some, up_s, up_k, up_j, up_i, xk_add, xk_sub, xk_mul, xk_neg, lk_add, lN_z, rf_none, rb1, rb0, rbp, xk_nI, zk_eq, zk_lt, zk_eq0, zk_lt0, zk_0lt, zk_long, lz_lt, lz_gt, zmax, zmin, ↓reduceIte, Int.reduceEq, Int.reduceLT, Int.reduceNeg, Int.reduceAdd, Int.reduceSub, Int.reduceMul, Int.ofNat_eq_natCast, Int.cast_ofNat_Int]
    exact Ev.ite (fun q => absurd q (by omega)) (fun _ => Ev.ret rfl)
  | succ m ih =>
    intro k l l' J J' hk k0 hv hT hG hK hc hL
    obtain ⟨hs, ft, fg, hH, hF, hL⟩ := hL
    have ti := tk_inv hT.1 hG hK hF
    have hG1 : GI (tkI J hs ft fg) := hG.c (ti.2.2.1.1 _ _ _ (by decide) (Or.inr (by decide))) (fun j => ti.2.2.1.1 _ _ _ (by decide) (Or.inl (by decide))) (fun j => ti.2.2.1.1 _ _ _ (by decide) (Or.inl (by decide)))
    refine Ev.step (fun F => E12_ticks_34 F _ _ _ _ _) ?_
    simp (disch := omega) only [d_12 hA hR, Option.bind_some, up_s, up_k, up_j, up_i, xk_add, xk_sub, xk_mul, xk_neg, lk_add, lN_z, rf_none, rb1, rb0, rbp, xk_nI, zk_eq, zk_lt, zk_eq0, zk_lt0, zk_0lt, zk_long, lz_lt, lz_gt, zmax, zmin, ↓reduceIte, Int.reduceEq, Int.reduceLT, Int.reduceNeg, Int.reduceAdd, Int.reduceSub, Int.reduceMul, Int.ofNat_eq_natCast, Int.cast_ofNat_Int]
    refine Ev.ite (fun _ => ?_) (fun q => absurd q (by omega))
    refine Ev.kI (tick_ev hA hR hT.1 (hK.kb (by omega)) (by omega) (fun g a b => (hG g a b).2) hH hF) ?_
    try simp (maxSteps := 2000000) (disch := omega) only [d_12 hA hR, Option.bind_some, up_s, up_k, up_j, up_i, xk_add, xk_sub, xk_mul, xk_neg, lk_add, lN_z, rf_none, rb1, rb0, rbp, xk_nI, zk_eq, zk_lt, zk_eq0, zk_lt0, zk_0lt, zk_long, lz_lt, lz_gt, zmax, zmin, ↓reduceIte, Int.reduceEq, Int.reduceLT, Int.reduceNeg, Int.reduceAdd, Int.reduceSub, Int.reduceMul, Int.ofNat_eq_natCast, Int.cast_ofNat_Int]
    exact ih (k + 1) _ l' _ J' (by omega) (by omega) hv (hT.tk ti.1 ti.2.2.1) hG1 ti.2.1 (by rw [ti.2.2.2]; omega) hL
theorem ticks_pr (hO : OK n e C I z) (hn : n ≤ 600) {v : Int} (v0 : -2147483648 ≤ v) (v1 : v < 2147483648) : PR n e C I z (fun F σ => J11_ticks F (rf e 11 0) (xk v) σ) (fun F σ => J12_ticks F (rf e 12 0) (xk v) σ) ∨ PT n e C I z 51 1 (fun F σ => J11_ticks F (rf e 11 0) (xk v) σ) (fun F σ => J12_ticks F (rf e 12 0) (xk v) σ) := by
  obtain ⟨hA, hR, hC0, hI0⟩ := hO
  have hO : OK n e C I z := ⟨hA, hR, hC0, hI0⟩
  have hC := hC0.th (v := 0)
  have hI := hI0.th (m := n) (v := 0) (by omega)
  have hT := hI.ti
  generalize hJ : th I 0 = J at *
  have n8 := hC.1.1
  have n7 := hC.2.1.1
  have n1 := hC.2.2.1.1
  have n10 := hC.2.2.2.2.1.1
  have hB := hT.1
  have := RB.tasks hB
  have := RB.spaces hB
  have := RB.groups hB
  have := RB.views hB
  have n4 := hA.2.2.2.1
  by_cases hv : 0 ≤ v ∧ v ≤ 200
  · left
    have hK : KT J := ⟨hI.ki.1.1, hI.ki.2⟩
    have c200 := hI.ki.1.2
    obtain ⟨C', J', l', hE, hL, hC', hT', hK', hf, hc, lb⟩ := ticks25_ev (I := I) hA (v := v) v.toNat 0 (-1) C J (by omega) (by omega) hv.2 hC hT hI.gi hK (by omega) (by omega) (by omega)
    rw [rf_n (i := -1) (by decide)] at hE
    have hr := ticks34_ev (C := C') hA hR (v := v) v.toNat 0 (-1) l' J J' (by omega) (by omega) hv.2 hT hI.gi hK (by omega) hL
    have ej : ∀ k i j, k ≠ 30 ∧ k ≠ 31 ∧ k ≠ 44 ∧ k ≠ 45 ∧ k ≠ 59 → (k ≠ 12 ∨ j ≠ 26) → J' k i j = J k i j := hf.1
    have hI' : Inv (n + 1) J' := by
      obtain ⟨h1, h2, h3, h4, h5, h6, h7, h8, h9⟩ := hI
      refine ⟨hT', h2.c (ej _ _ _ (by decide) (Or.inr (by decide))) (fun j => ej _ _ _ (by decide) (Or.inl (by decide))) (fun j => ej _ _ _ (by decide) (Or.inl (by decide))), h3.c (ej _ _ _ (by decide) (Or.inr (by decide))) (fun j => ej _ _ _ (by decide) (Or.inl (by decide))) (usF_c (ej _ _ _ (by decide) (Or.inr (by decide))) (ej _ _ _ (by decide) (Or.inr (by decide))) (fun j => by rw [ej _ _ _ (by decide) (Or.inl (by decide))]) (fun j => ej _ _ _ (by decide) (Or.inl (by decide))) (fun j => ej _ _ _ (by decide) (Or.inl (by decide))) (fun j => ej _ _ _ (by decide) (Or.inl (by decide))) (fun j => ej _ _ _ (by decide) (Or.inl (by decide)))), h4.c (ej _ _ _ (by decide) (Or.inr (by decide))) (fun j => ej _ _ _ (by decide) (Or.inl (by decide))) (fun j => ej _ _ _ (by decide) (Or.inl (by decide))), fun g a b => ?_, ⟨fun t a b => ?_, fun t s a b c d => ?_⟩, ⟨⟨hK'.1, by omega⟩, hK'.2⟩, h8.c (ej _ _ _ (by decide) (Or.inr (by decide))) (fun k j a b => ej _ _ _ (by omega) (Or.inl (by omega))), h9.c (by omega) (ej _ _ _ (by decide) (Or.inr (by decide))) (fun j => ej _ _ _ (by decide) (Or.inl (by decide)))⟩
      · rw [ej _ _ _ (by decide) (Or.inr (by decide))] at a
        rw [ej 42 _ _ (by decide) (Or.inl (by decide)), ej 43 _ _ (by decide) (Or.inl (by decide)), hf.2.1 g a b]
        exact h5 g a b
      · rw [ej _ _ _ (by decide) (Or.inr (by decide))] at a
        rw [ej 27 _ _ (by decide) (Or.inl (by decide)), ej 28 _ _ (by decide) (Or.inl (by decide)), ej 29 _ _ (by decide) (Or.inl (by decide)), hf.2.2 t a]
        have y := h6.1 t a b
        refine ⟨y.1, y.2.1, y.2.2.1, y.2.2.2.1, fun s a b => ?_⟩
        rw [ej 32 _ _ (by decide) (Or.inl (by decide))]
        exact y.2.2.2.2 s a b
      · rw [ej _ _ _ (by decide) (Or.inr (by decide))] at c
        rw [ej 32 _ _ (by decide) (Or.inl (by decide))]
        exact h6.2 t s a b c d
    refine ⟨e, C', J', z, l', ?_, ?_, ⟨hA, hR, hC', hI'⟩, NX.r (fun j => ?_), ⟨by omega, by omega⟩, ?_⟩
    · refine Ev.step (fun F => E11_ticks F _ _ _) ?_
      simp (disch := omega) only [Option.bind_some, up_s, up_k, up_j, up_i, xk_add, xk_sub, xk_mul, xk_neg, lk_add, lN_z, rf_none, rb1, rb0, rbp, xk_nI, zk_eq, zk_lt, zk_eq0, zk_lt0, zk_0lt, zk_long, lz_lt, lz_gt, zmax, zmin, ↓reduceIte, Int.reduceEq, Int.reduceLT, Int.reduceNeg, Int.reduceAdd, Int.reduceSub, Int.reduceMul, Int.ofNat_eq_natCast, Int.cast_ofNat_Int]
      refine Ev.ite (fun q => absurd q (by omega)) (fun _ => ?_)
      exact Ev.ite (fun q => absurd q (by omega)) (fun _ => hE)
    · refine Ev.step (fun F => E12_ticks F _ _ _) ?_
      rw [ll_200, lN_z, zk_long v0 v1]
      refine Ev.kB (in_ev ⟨by omega, by omega⟩ ⟨by decide, by decide⟩ ⟨by decide, by decide⟩) (fun _ => ?_) (fun q => absurd hv q)
      refine Ev.ite (fun q => absurd q k10) (fun _ => ?_)
      try simp (maxSteps := 2000000) (disch := omega) only [g_12_0 hA hR, p_12_0 hA hR, Option.bind_some, up_s, up_k, up_j, up_i, xk_add, xk_sub, xk_mul, xk_neg, lk_add, lN_z, rf_none, rb1, rb0, rbp, xk_nI, zk_eq, zk_lt, zk_eq0, zk_lt0, zk_0lt, zk_long, lz_lt, lz_gt, zmax, zmin, ↓reduceIte, Int.reduceEq, Int.reduceLT, Int.reduceNeg, Int.reduceAdd, Int.reduceSub, Int.reduceMul, Int.ofNat_eq_natCast, Int.cast_ofNat_Int]
      rw [show up I 12 0 0 0 = J from hJ]
      exact hr
    · rw [ej _ _ _ (by decide) (Or.inl (by decide)), ← hJ]
      exact th_f (Or.inl (by decide))
    · rw [ej _ _ _ (by decide) (Or.inr (by decide)), ← hJ]
      exact up_s
  · right
    refine ⟨⟨z.1, ?_⟩, 0, ?_⟩
    · refine Ev.step (fun F => E11_ticks F _ _ _) ?_
      simp (disch := omega) only [Option.bind_some, up_s, up_k, up_j, up_i, xk_add, xk_sub, xk_mul, xk_neg, lk_add, lN_z, rf_none, rb1, rb0, rbp, xk_nI, zk_eq, zk_lt, zk_eq0, zk_lt0, zk_0lt, zk_long, lz_lt, lz_gt, zmax, zmin, ↓reduceIte, Int.reduceEq, Int.reduceLT, Int.reduceNeg, Int.reduceAdd, Int.reduceSub, Int.reduceMul, Int.ofNat_eq_natCast, Int.cast_ofNat_Int, thr_HS]
      refine Ev.ite (fun _ => Ev.ret rfl) (fun q => ?_)
      exact Ev.ite (fun _ => Ev.ret rfl) (fun q' => absurd hv (by omega))
    · have hA' := hA.thr
      generalize (z.1 + 1, z.2.1 + 6, z.2.2) = z' at hA' ⊢
      have hA := hA'
      refine Ev.step (fun F => E12_ticks F _ _ _) ?_
      rw [ll_200, lN_z, zk_long v0 v1]
      refine Ev.kB (in_ev ⟨by omega, by omega⟩ ⟨by decide, by decide⟩ ⟨by decide, by decide⟩) (fun q => absurd q hv) (fun _ => ?_)
      refine Ev.ite (fun _ => ?_) (fun q => absurd k00 q)
      try simp (maxSteps := 2000000) (disch := omega) only [g_12_0 hA hR, p_12_0 hA hR, Option.bind_some, up_s, up_k, up_j, up_i, xk_add, xk_sub, xk_mul, xk_neg, lk_add, lN_z, rf_none, rb1, rb0, rbp, xk_nI, zk_eq, zk_lt, zk_eq0, zk_lt0, zk_0lt, zk_long, lz_lt, lz_gt, zmax, zmin, ↓reduceIte, Int.reduceEq, Int.reduceLT, Int.reduceNeg, Int.reduceAdd, Int.reduceSub, Int.reduceMul, Int.ofNat_eq_natCast, Int.cast_ofNat_Int]
      exact Ev.ret rfl
end OPs
