/-! the class: the clock's look -/
def rtx (J : ST) (x g t : Int) : Prop := rt J g t ∧ t ≠ x
def HsX (J : ST) (x : Int) (hs : Int → Bool) : Prop := ∀ g, 0 ≤ g → g < (J 12 0 17) → (hs g = true ↔ (∃ t, rtx J x g t) ∨ ∃ k, rg hs J g k)
theorem HsX.r {J : ST} {hs : Int → Bool} (h : HsX J (-1) hs) : HsR J hs := by
  intro g g0 g1
  rw [h g g0 g1]
  have : ∀ t, rtx J (-1) g t ↔ rt J g t := fun t => ⟨fun q => q.1, fun q => ⟨q, by have := q.1; omega⟩⟩
  simp only [this]
theorem HsX.ex {J : ST} (hB : RB J) {x : Int} : ∃ hs, HsX J x hs := by
  have key : ∀ n : Nat, ∃ hs : Int → Bool, ∀ g, (J 12 0 17) - n ≤ g → 0 ≤ g → g < (J 12 0 17) → (hs g = true ↔ (∃ t, rtx J x g t) ∨ ∃ k, rg hs J g k) := by
    intro n
    induction n with
    | zero => exact ⟨fun _ => false, fun g a b c => absurd c (by omega)⟩
    | succ n ih =>
      obtain ⟨hs, h⟩ := ih
      have exb : ∀ P : Prop, ∃ b : Bool, b = true ↔ P := fun P => (Classical.em P).elim (fun p => ⟨true, fun _ => p, fun _ => rfl⟩) (fun p => ⟨false, fun q => absurd q (by decide), fun q => absurd q p⟩)
      obtain ⟨bb, hbb⟩ := exb ((∃ t, rtx J x ((J 12 0 17) - (n + 1)) t) ∨ ∃ k, rg hs J ((J 12 0 17) - (n + 1)) k)
      refine ⟨fun x => if x = (J 12 0 17) - (n + 1) then bb else hs x, fun g a b c => ?_⟩
      have e : ∀ k, rg (fun x => if x = (J 12 0 17) - (n + 1) then bb else hs x) J g k ↔ rg hs J g k := by
        intro k
        unfold rg
        constructor
        · rintro ⟨q1, q2, q3, q4, q5⟩
          have := RB.groups hB
          have := RB.wiw hB (j := k) (by omega) (by omega)
          dsimp only at q4
          rw [if_neg (by omega)] at q4
          exact ⟨q1, q2, q3, q4, q5⟩
        · rintro ⟨q1, q2, q3, q4, q5⟩
          have := RB.groups hB
          have := RB.wiw hB (j := k) (by omega) (by omega)
          refine ⟨q1, q2, q3, ?_, q5⟩
          dsimp only
          rw [if_neg (by omega)]
          exact q4
      simp only [e]
      by_cases hg : g = (J 12 0 17) - (n + 1)
      · rw [if_pos hg, hg]; exact hbb
      · rw [if_neg hg]
        exact h g (by omega) b c
  obtain ⟨hs, h⟩ := key (J 12 0 17).toNat
  have := RB.groups hB
  exact ⟨hs, fun g a b => h g (by omega) a b⟩
/-- groups that don't lie around g see nothing of a task in g -/
theorem HsX.eq {J : ST} (hB : RB J) {hs hs' : Int → Bool} {t : Int} (h : HsR J hs) (h' : HsX J t hs') (t0 : 0 ≤ t) (t1 : t < 150) : ∀ (n : Nat) (k : Int), 0 ≤ k → k < (J 12 0 17) → (J 12 0 17) - k ≤ n → win J (J 25 0 t) k = false → hs k = hs' k := by
  have := RB.groups hB
  intro n
  induction n with
  | zero => intro k a b c; omega
  | succ n ih =>
    intro k k0 k1 kn hw
    have e1 : ∀ x, rt J k x ↔ rtx J t k x := fun x => ⟨fun q => ⟨q, fun w => by
      have := q.2.2.2.2
      rw [w] at this
      rw [this, win, chn_r] at hw
      exact absurd hw (by decide)⟩, fun q => q.1⟩
    have e2 : ∀ x, rg hs J k x ↔ rg hs' J k x := by
      intro x
      have key : 0 < x → x < (J 12 0 17) → (J 38 0 x) = k → hs x = hs' x := by
        intro a b c
        have := RB.wiw hB (j := x) (by omega) (by omega)
        refine ih x (by omega) b (by omega) ?_
        rw [← Bool.not_eq_true]
        intro w
        have gr := RB.group hB (j := t) t0 t1
        have := chn_o (RB.ww hB) gr.1 (by omega) w (by omega)
        rw [c] at this
        have hw2 : chn (fun k => J 38 0 k) (J 25 0 t) k = false := hw
        rw [this] at hw2
        exact absurd hw2 (by decide)
      unfold rg
      constructor
      · rintro ⟨a, b, c, d, f⟩; exact ⟨a, b, c, (key a b c) ▸ d, f⟩
      · rintro ⟨a, b, c, d, f⟩; exact ⟨a, b, c, (key a b c) ▸ d, f⟩
    have q1 := h k k0 k1
    have q2 := h' k k0 k1
    simp only [e1, e2] at q1
    rw [← q2] at q1
    cases hh : hs k <;> cases hh' : hs' k <;> simp_all
/-- those from lo on -/
def AMr (P : Int → Prop) (f : Int → Int) (lo n x : Int) : Prop := AM (fun t => lo ≤ t ∧ P t) f n x
section AMs
variable {P : Int → Prop} {f : Int → Int} {lo n x : Int}
theorem AMr.z : AMr P f n n (-1) := Or.inl ⟨rfl, fun t a b q => by omega⟩
theorem AMr.no (h : AMr P f (lo + 1) n x) (hp : ¬ P lo) : AMr P f lo n x := by
  refine AM.c h (fun t a b => ⟨fun q => ⟨by omega, q.2⟩, fun q => ⟨?_, q.2⟩⟩) (fun _ _ _ _ => rfl)
  by_cases e : t = lo
  · rw [e] at q; exact absurd q.2 hp
  · omega
theorem AMr.take (h : AMr P f (lo + 1) n x) (l0 : 0 ≤ lo) (ln : lo < n) (hp : P lo) (hx : x < 0 ∨ f lo ≤ f x) : AMr P f lo n lo := by
  refine Or.inr ⟨l0, ln, ⟨Int.le_refl _, hp⟩, fun t a b q => ?_⟩
  by_cases e : t = lo
  · subst e; omega
  · rcases h with h | h
    · exact absurd ⟨by omega, q.2⟩ (h.2 t a b)
    · have := h.2.2.2 t a b ⟨by omega, q.2⟩
      omega
theorem AMr.keep (h : AMr P f (lo + 1) n x) (hx : 0 ≤ x) (hf : f x < f lo) : AMr P f lo n x := by
  rcases h with h | h
  · omega
  · refine Or.inr ⟨h.1, h.2.1, ⟨by omega, h.2.2.1.2⟩, fun t a b q => ?_⟩
    by_cases e : t = lo
    · subst e; omega
    · exact h.2.2.2 t a b ⟨by omega, q.2⟩
end AMs
def lkC (J C : ST) (ft fg : Int → Int) : ST := fun k i j => if k = 1 ∧ j = 12 ∧ 0 ≤ i ∧ i < (J 12 0 17) then ft i else if k = 1 ∧ j = 13 ∧ 0 ≤ i ∧ i < (J 12 0 17) then fg i else C k i j
theorem lk_f {J C : ST} {ft fg : Int → Int} {k : Nat} {i j : Int} (h : k ≠ 1 ∨ (j ≠ 12 ∧ j ≠ 13)) : lkC J C ft fg k i j = C k i j := by
  unfold lkC
  rw [if_neg (by omega), if_neg (by omega)]
theorem lk_t {J C : ST} {ft fg : Int → Int} {i : Int} (h0 : 0 ≤ i) (h1 : i < (J 12 0 17)) : lkC J C ft fg 1 i 12 = ft i := by simp [lkC, h0, h1]
theorem lk_g {J C : ST} {ft fg : Int → Int} {i : Int} (h0 : 0 ≤ i) (h1 : i < (J 12 0 17)) : lkC J C ft fg 1 i 13 = fg i := by simp [lkC, h0, h1]
theorem Cpl.lk {e : EN} {C J : ST} (hC : Cpl e C J) {ft fg : Int → Int} (hf : ∀ g, 0 ≤ g → g < (J 12 0 17) → (-1 ≤ ft g ∧ ft g < (J 12 0 1)) ∧ (-1 ≤ fg g ∧ fg g < (J 12 0 17))) : Cpl e (lkC J C ft fg) J := by
  obtain ⟨h1, h2, h3, h4, h5, h6⟩ := hC
  refine ⟨h1.fr (fun i j => lk_f (Or.inl (by decide))) rfl (fun _ _ _ _ => rfl), h2.fr (fun i j => lk_f (Or.inl (by decide))) (fun i j => lk_f (Or.inl (by decide))) rfl (fun _ => rfl) (fun _ => rfl) (fun _ => rfl) rfl, h3.fr (fun i j q => lk_f (Or.inr (by omega))) rfl (fun _ _ _ _ => rfl) rfl rfl, fun g g0 g1 => ?_, h5.fr (fun k i j h => lk_f (Or.inl (by omega))) (fun _ _ _ _ _ => rfl) rfl rfl, h6.fr (lk_f (Or.inl (by decide))) (lk_f (Or.inl (by decide))) (fun j => lk_f (Or.inl (by decide))) (fun j => lk_f (Or.inl (by decide))) rfl rfl⟩
  rw [lk_t g0 g1, lk_g g0 g1]
  exact hf g g0 g1
def FtX (hs : Int → Bool) (J : ST) (x : Int) (ft fg : Int → Int) : Prop := ∀ g, 0 ≤ g → g < (J 12 0 17) → AM (rtx J x g) (fun k => (J 30 0 k)) (J 12 0 1) (ft g) ∧ AM (rg hs J g) (fun k => (J 45 0 k)) (J 12 0 17) (fg g)
section CL
variable {e : EN} {C I J : ST} {z : Nat × Nat × Nat × Nat}
theorem isReady_cl (hA : WA e z) (hC : Cpl e C J) (hT : TI J) (hK : KB J) {g : Int} (g0 : 0 ≤ g) (g1 : g < (J 12 0 17)) : Ev (fun F => J1_isReady F (rf e 1 g) (HS e C I z)) (rI (bI ((0 ≤ (C 1 g 12) ∨ 0 ≤ (C 1 g 13)) ∧ ((J 42 0 g) = 0 ∨ (J 44 0 g) < (J 42 0 g)))) (HS e C I z)) := by
  have n8 := hC.1.1
  have n7 := hC.2.1.1
  have n1 := hC.2.2.1.1
  have n10 := hC.2.2.2.2.1.1
  have hB := hT.1
  have := RB.tasks hB
  have := RB.spaces hB
  have := RB.groups hB
  have := RB.views hB
  have n4 := hA.2.2.2.1
  have hf := hC.2.2.2.1 g g0 g1
  have := RB.quota hB (j := g) (by omega) (by omega)
  have hk := hK.2.1 g g0 (by omega)
  have tail : (0 ≤ (C 1 g 12) ∨ 0 ≤ (C 1 g 13)) → Ev (fun F => J1_isReady_14 F (rf e 1 g) (HS e C I z)) (rI (bI ((0 ≤ (C 1 g 12) ∨ 0 ≤ (C 1 g 13)) ∧ ((J 42 0 g) = 0 ∨ (J 44 0 g) < (J 42 0 g)))) (HS e C I z)) := by
    intro h
    refine Ev.step (fun F => E1_isReady_14 F _ _) ?_
    simp (disch := omega) only [g_1_10 hA, g_1_6 hA, Option.bind_some, up_s, up_k, up_j, up_i, xk_add, xk_sub, xk_mul, xk_neg, lk_add, lN_z, rf_none, rb1, rb0, rbp, xk_nI, zk_eq, zk_lt, zk_eq0, zk_lt0, zk_0lt, zk_long, lz_lt, lz_gt, zmax, zmin, ↓reduceIte, Int.reduceEq, Int.reduceLT, Int.reduceNeg, Int.reduceAdd, Int.reduceSub, Int.reduceMul, Int.ofNat_eq_natCast, Int.cast_ofNat_Int, CT.space hC.1, CT.view hC.1, CT.parent hC.1, CT.group hC.1, CT.state hC.1, CT.pages hC.1, CT.points hC.1, CT.ticks hC.1, CT.asleep hC.1, CT.time hC.1, CP.outer hC.2.1, CP.depth hC.2.1, CP.init hC.2.1, CP.given hC.2.1, CG.outer hC.2.2.1, CG.depth hC.2.2.1, CG.max hC.2.2.1, CG.most hC.2.2.1, CG.weight hC.2.2.1, CG.quota hC.2.2.1, CG.cached hC.2.2.1, CG.ran hC.2.2.1, CG.time hC.2.2.1, CG.uses hC.2.2.1, CG.live hC.2.2.1, rf_eq hA]
    refine Ev.ite (fun q => Ev.ret (by rw [bI_t ⟨h, Or.inl q⟩]; rfl)) (fun q => ?_)
    refine Ev.ite (fun q' => Ev.ret (by rw [bI_t ⟨h, Or.inr q'⟩]; rfl)) (fun q' => Ev.ret ?_)
    rw [bI_f (fun w => by have := w.2; omega)]
    rfl
  refine Ev.step (fun F => E1_isReady F _ _) ?_
  simp (disch := omega) only [g_1_10 hA, g_1_12 hA, g_1_13 hA, g_1_6 hA, Option.bind_some, up_s, up_k, up_j, up_i, xk_add, xk_sub, xk_mul, xk_neg, lk_add, lN_z, rf_none, rb1, rb0, rbp, xk_nI, zk_eq, zk_lt, zk_eq0, zk_lt0, zk_0lt, zk_long, lz_lt, lz_gt, zmax, zmin, ↓reduceIte, Int.reduceEq, Int.reduceLT, Int.reduceNeg, Int.reduceAdd, Int.reduceSub, Int.reduceMul, Int.ofNat_eq_natCast, Int.cast_ofNat_Int, CT.space hC.1, CT.view hC.1, CT.parent hC.1, CT.group hC.1, CT.state hC.1, CT.pages hC.1, CT.points hC.1, CT.ticks hC.1, CT.asleep hC.1, CT.time hC.1, CP.outer hC.2.1, CP.depth hC.2.1, CP.init hC.2.1, CP.given hC.2.1, CG.outer hC.2.2.1, CG.depth hC.2.2.1, CG.max hC.2.2.1, CG.most hC.2.2.1, CG.weight hC.2.2.1, CG.quota hC.2.2.1, CG.cached hC.2.2.1, CG.ran hC.2.2.1, CG.time hC.2.2.1, CG.uses hC.2.2.1, CG.live hC.2.2.1, rf_eq hA]
  refine Ev.ite (fun h => ?_) (fun h => tail (Or.inl (by omega)))
  refine Ev.ite (fun h' => Ev.ret ?_) (fun h' => tail (Or.inr (by omega)))
  rw [bI_f (fun w => by have := w.1; omega)]
  rfl
theorem look101_ev (hA : WA e z) (hC : Cpl e C J) (hT : TI J) (hK : KB J) {hs : Int → Bool} {x : Int} (hH : HsX J x hs) {ft : Int → Int} (hft : ∀ g, 0 ≤ g → g < (J 12 0 17) → AM (rtx J x g) (fun k => (J 30 0 k)) (J 12 0 1) (ft g)) : ∀ (n : Nat) (i : Int) (fg : Int → Int), i = n → i < (J 12 0 17) → (∀ g, 0 ≤ g → g < (J 12 0 17) → AMr (rg hs J g) (fun k => (J 45 0 k)) (i + 1) (J 12 0 17) (fg g)) → ∃ fg', Ev (fun F => J0_look_101 F (rf e 0 0) (xk i) (HS e (lkC J C ft fg) I z)) (rV (HS e (lkC J C ft fg') I z)) ∧ FtX hs J x ft fg' := by
  have n8 := hC.1.1
  have n7 := hC.2.1.1
  have n1 := hC.2.2.1.1
  have n10 := hC.2.2.2.2.1.1
  have hB := hT.1
  have := RB.tasks hB
  have := RB.spaces hB
  have := RB.groups hB
  have := RB.views hB
  have n4 := hA.2.2.2.1
  intro n
  induction n with
  | zero =>
    intro i fg hi i1 hfg
    refine ⟨fg, ?_, fun g g0 g1 => ⟨hft g g0 g1, ?_⟩⟩
    · refine Ev.step (fun F => E0_look_101 F _ _ _) ?_
      simp (disch := omega) only [b_16 hA, d_0 hA, d_1 hA, g_0_1 hA, g_2_0 hA, Option.bind_some, up_s, up_k, up_j, up_i, xk_add, xk_sub, xk_mul, xk_neg, lk_add, lN_z, rf_none, rb1, rb0, rbp, xk_nI, zk_eq, zk_lt, zk_eq0, zk_lt0, zk_0lt, zk_long, lz_lt, lz_gt, zmax, zmin, ↓reduceIte, Int.reduceEq, Int.reduceLT, Int.reduceNeg, Int.reduceAdd, Int.reduceSub, Int.reduceMul, Int.ofNat_eq_natCast, Int.cast_ofNat_Int]
      exact Ev.ite (fun q => absurd q (by omega)) (fun _ => Ev.ret rfl)
    · refine AM.c (hfg g g0 g1) (fun t a b => ⟨fun q => q.2, fun q => ⟨?_, q⟩⟩) (fun _ _ _ _ => rfl)
      have := q.1
      omega
  | succ n ih =>
    intro i fg hi i1 hfg
    have hl : Cpl e (lkC J C ft fg) J := hC.lk (fun g g0 g1 => ⟨(hft g g0 g1).b (by omega), AM.b (hfg g g0 g1) (by omega)⟩)
    have hr := isReady_cl (I := I) hA hl hT hK (g := i) (by omega) i1
    rw [lk_t (by omega) i1, lk_g (by omega) i1] at hr
    have w := RB.ww hB i (by omega) (by omega)
    have hsi : (0 ≤ ft i ∨ 0 ≤ fg i) ↔ hs i = true := by
      rw [hH i (by omega) i1]
      have a := hft i (by omega) i1
      have b := hfg i (by omega) i1
      refine or_congr ⟨fun q => ⟨_, a.p q⟩, fun ⟨t, q⟩ => ?_⟩ ⟨fun q => ⟨_, (AM.p b q).2⟩, fun ⟨k, q⟩ => ?_⟩
      · rcases a with p | p
        · exact absurd q (p.2 t q.1.1 q.1.2.1)
        · exact p.1
      · rcases b with p | p
        · have a1 := q.1
          have a2 := q.2.1
          have a3 := q.2.2.1
          have := RB.wiw hB (j := k) (by omega) (by omega)
          exact absurd ⟨by omega, q⟩ (p.2 k (by omega) q.2.1)
        · exact p.1
    have wi : ∀ g, (J 38 0 i) ≠ g → ¬ rg hs J g i := fun g h q => h q.2.2.1
    by_cases hrd : hs i = true ∧ qok J i ∧ 0 ≤ (J 38 0 i)
    · have hp : rg hs J (J 38 0 i) i := ⟨by omega, i1, rfl, hrd.1, hrd.2.1⟩
      have fb := AM.b (hfg (J 38 0 i) (by omega) (by omega)) (by omega)
      have tk := hK.2.1 i (by omega) (by omega)
      have co := hC.2.2.1.outer (g := i) (by omega) i1
      have ct := fun g a b => hC.2.2.1.time (g := g) a b
      by_cases htk : fg (J 38 0 i) < 0 ∨ (J 45 0 i) ≤ (J 45 0 (fg (J 38 0 i)))
      · obtain ⟨fg', hE, hF⟩ := ih (i - 1) (fun g => if g = (J 38 0 i) then i else fg g) (by omega) (by omega) (fun g g0 g1 => by
          rw [show i - 1 + 1 = i by omega]
          by_cases hg : g = (J 38 0 i)
          · rw [if_pos hg, hg]
            exact (hfg _ (by omega) (by omega)).take (by omega) i1 hp htk
          · rw [if_neg hg]
            exact (hfg g g0 g1).no (wi g (fun q => hg q.symm)))
        refine ⟨fg', ?_, hF⟩
        have eu : up (lkC J C ft fg) 1 (J 38 0 i) 13 i = lkC J C ft (fun g => if g = (J 38 0 i) then i else fg g) := by
          funext k i' j
          simp only [up, lkC]
          clear hfg ih hE hF hft
          grind
        refine Ev.step (fun F => E0_look_101 F _ _ _) ?_
        simp (disch := omega) only [b_16 hA, d_0 hA, d_1 hA, g_0_1 hA, g_2_0 hA, Option.bind_some, up_s, up_k, up_j, up_i, xk_add, xk_sub, xk_mul, xk_neg, lk_add, lN_z, rf_none, rb1, rb0, rbp, xk_nI, zk_eq, zk_lt, zk_eq0, zk_lt0, zk_0lt, zk_long, lz_lt, lz_gt, zmax, zmin, ↓reduceIte, Int.reduceEq, Int.reduceLT, Int.reduceNeg, Int.reduceAdd, Int.reduceSub, Int.reduceMul, Int.ofNat_eq_natCast, Int.cast_ofNat_Int]
        refine Ev.ite (fun _ => ?_) (fun q => absurd q (by omega))
        try simp (disch := omega) only [b_16 hA, d_0 hA, d_1 hA, g_0_1 hA, g_2_0 hA, Option.bind_some, up_s, up_k, up_j, up_i, xk_add, xk_sub, xk_mul, xk_neg, lk_add, lN_z, rf_none, rb1, rb0, rbp, xk_nI, zk_eq, zk_lt, zk_eq0, zk_lt0, zk_0lt, zk_long, lz_lt, lz_gt, zmax, zmin, ↓reduceIte, Int.reduceEq, Int.reduceLT, Int.reduceNeg, Int.reduceAdd, Int.reduceSub, Int.reduceMul, Int.ofNat_eq_natCast, Int.cast_ofNat_Int]
        refine Ev.kB hr (fun _ => ?_) (fun q => absurd ⟨hsi.mpr hrd.1, hrd.2.1⟩ q)
        try simp (disch := omega) only [b_16 hA, d_0 hA, d_1 hA, g_0_1 hA, g_2_0 hA, Option.bind_some, up_s, up_k, up_j, up_i, xk_add, xk_sub, xk_mul, xk_neg, lk_add, lN_z, rf_none, rb1, rb0, rbp, xk_nI, zk_eq, zk_lt, zk_eq0, zk_lt0, zk_0lt, zk_long, lz_lt, lz_gt, zmax, zmin, ↓reduceIte, Int.reduceEq, Int.reduceLT, Int.reduceNeg, Int.reduceAdd, Int.reduceSub, Int.reduceMul, Int.ofNat_eq_natCast, Int.cast_ofNat_Int]
        refine Ev.kV (σ := HS e (up (lkC J C ft fg) 1 (J 38 0 i) 13 i) I z) ?_ (by rw [eu, ← Int.sub_eq_add_neg]; exact hE)
        have l1 : lkC J C ft fg 1 i 1 = (J 38 0 i) := (lk_f (Or.inr (by decide))).trans co
        have l2 : lkC J C ft fg 1 (J 38 0 i) 13 = fg (J 38 0 i) := lk_g (by omega) (by omega)
        have l3 : ∀ g, 0 ≤ g → g < (J 12 0 17) → lkC J C ft fg 1 g 11 = (J 45 0 g) := fun g a b => (lk_f (Or.inr (by decide))).trans (ct g a b)
        refine Ev.step (fun F => E0_offerGroup F _ _ _) ?_
        simp (disch := omega) only [g_1_1 hA, g_1_11 hA, g_1_13 hA, p_1_13 hA, pn_1_13 hA, Option.bind_some, up_s, up_k, up_j, up_i, xk_add, xk_sub, xk_mul, xk_neg, lk_add, lN_z, rf_none, rb1, rb0, rbp, xk_nI, zk_eq, zk_lt, zk_eq0, zk_lt0, zk_0lt, zk_long, lz_lt, lz_gt, zmax, zmin, ↓reduceIte, Int.reduceEq, Int.reduceLT, Int.reduceNeg, Int.reduceAdd, Int.reduceSub, Int.reduceMul, Int.ofNat_eq_natCast, Int.cast_ofNat_Int, l1, l2]
        refine Ev.ite (fun q => absurd q (by omega)) (fun _ => ?_)
        refine Ev.ite (fun q => Ev.ret rfl) (fun q => ?_)
        have tf := hK.2.1 (fg (J 38 0 i)) (by omega) (by omega)
        try simp (disch := omega) only [g_1_1 hA, g_1_11 hA, g_1_13 hA, p_1_13 hA, pn_1_13 hA, Option.bind_some, up_s, up_k, up_j, up_i, xk_add, xk_sub, xk_mul, xk_neg, lk_add, lN_z, rf_none, rb1, rb0, rbp, xk_nI, zk_eq, zk_lt, zk_eq0, zk_lt0, zk_0lt, zk_long, lz_lt, lz_gt, zmax, zmin, ↓reduceIte, Int.reduceEq, Int.reduceLT, Int.reduceNeg, Int.reduceAdd, Int.reduceSub, Int.reduceMul, Int.ofNat_eq_natCast, Int.cast_ofNat_Int, l1, l3]
        exact Ev.ite (fun q => absurd q (by omega)) (fun _ => Ev.ret rfl)
      · obtain ⟨fg', hE, hF⟩ := ih (i - 1) fg (by omega) (by omega) (fun g g0 g1 => by
          rw [show i - 1 + 1 = i by omega]
          by_cases hg : g = (J 38 0 i)
          · rw [hg]
            exact (hfg _ (by omega) (by omega)).keep (by omega) (by show (J 45 0 (fg (J 38 0 i))) < (J 45 0 i); omega)
          · exact (hfg g g0 g1).no (wi g (fun q => hg q.symm)))
        refine ⟨fg', ?_, hF⟩
        refine Ev.step (fun F => E0_look_101 F _ _ _) ?_
        simp (disch := omega) only [b_16 hA, d_0 hA, d_1 hA, g_0_1 hA, g_2_0 hA, Option.bind_some, up_s, up_k, up_j, up_i, xk_add, xk_sub, xk_mul, xk_neg, lk_add, lN_z, rf_none, rb1, rb0, rbp, xk_nI, zk_eq, zk_lt, zk_eq0, zk_lt0, zk_0lt, zk_long, lz_lt, lz_gt, zmax, zmin, ↓reduceIte, Int.reduceEq, Int.reduceLT, Int.reduceNeg, Int.reduceAdd, Int.reduceSub, Int.reduceMul, Int.ofNat_eq_natCast, Int.cast_ofNat_Int]
        refine Ev.ite (fun _ => ?_) (fun q => absurd q (by omega))
        try simp (disch := omega) only [b_16 hA, d_0 hA, d_1 hA, g_0_1 hA, g_2_0 hA, Option.bind_some, up_s, up_k, up_j, up_i, xk_add, xk_sub, xk_mul, xk_neg, lk_add, lN_z, rf_none, rb1, rb0, rbp, xk_nI, zk_eq, zk_lt, zk_eq0, zk_lt0, zk_0lt, zk_long, lz_lt, lz_gt, zmax, zmin, ↓reduceIte, Int.reduceEq, Int.reduceLT, Int.reduceNeg, Int.reduceAdd, Int.reduceSub, Int.reduceMul, Int.ofNat_eq_natCast, Int.cast_ofNat_Int]
        refine Ev.kB hr (fun _ => ?_) (fun q => absurd ⟨hsi.mpr hrd.1, hrd.2.1⟩ q)
        try simp (disch := omega) only [b_16 hA, d_0 hA, d_1 hA, g_0_1 hA, g_2_0 hA, Option.bind_some, up_s, up_k, up_j, up_i, xk_add, xk_sub, xk_mul, xk_neg, lk_add, lN_z, rf_none, rb1, rb0, rbp, xk_nI, zk_eq, zk_lt, zk_eq0, zk_lt0, zk_0lt, zk_long, lz_lt, lz_gt, zmax, zmin, ↓reduceIte, Int.reduceEq, Int.reduceLT, Int.reduceNeg, Int.reduceAdd, Int.reduceSub, Int.reduceMul, Int.ofNat_eq_natCast, Int.cast_ofNat_Int]
        refine Ev.kV (σ := HS e (lkC J C ft fg) I z) ?_ (by rw [← Int.sub_eq_add_neg]; exact hE)
        have l1 : lkC J C ft fg 1 i 1 = (J 38 0 i) := (lk_f (Or.inr (by decide))).trans co
        have l2 : lkC J C ft fg 1 (J 38 0 i) 13 = fg (J 38 0 i) := lk_g (by omega) (by omega)
        have l3 : ∀ g, 0 ≤ g → g < (J 12 0 17) → lkC J C ft fg 1 g 11 = (J 45 0 g) := fun g a b => (lk_f (Or.inr (by decide))).trans (ct g a b)
        refine Ev.step (fun F => E0_offerGroup F _ _ _) ?_
        simp (disch := omega) only [g_1_1 hA, g_1_11 hA, g_1_13 hA, p_1_13 hA, pn_1_13 hA, Option.bind_some, up_s, up_k, up_j, up_i, xk_add, xk_sub, xk_mul, xk_neg, lk_add, lN_z, rf_none, rb1, rb0, rbp, xk_nI, zk_eq, zk_lt, zk_eq0, zk_lt0, zk_0lt, zk_long, lz_lt, lz_gt, zmax, zmin, ↓reduceIte, Int.reduceEq, Int.reduceLT, Int.reduceNeg, Int.reduceAdd, Int.reduceSub, Int.reduceMul, Int.ofNat_eq_natCast, Int.cast_ofNat_Int, l1, l2]
        refine Ev.ite (fun q => absurd q (by omega)) (fun _ => ?_)
        refine Ev.ite (fun q => absurd q (by omega)) (fun q => ?_)
        have tf := hK.2.1 (fg (J 38 0 i)) (by omega) (by omega)
        try simp (disch := omega) only [g_1_1 hA, g_1_11 hA, g_1_13 hA, p_1_13 hA, pn_1_13 hA, Option.bind_some, up_s, up_k, up_j, up_i, xk_add, xk_sub, xk_mul, xk_neg, lk_add, lN_z, rf_none, rb1, rb0, rbp, xk_nI, zk_eq, zk_lt, zk_eq0, zk_lt0, zk_0lt, zk_long, lz_lt, lz_gt, zmax, zmin, ↓reduceIte, Int.reduceEq, Int.reduceLT, Int.reduceNeg, Int.reduceAdd, Int.reduceSub, Int.reduceMul, Int.ofNat_eq_natCast, Int.cast_ofNat_Int, l1, l3]
        exact Ev.ite (fun _ => Ev.ret rfl) (fun q => absurd q (by omega))
    · obtain ⟨fg', hE, hF⟩ := ih (i - 1) fg (by omega) (by omega) (fun g g0 g1 => by
        rw [show i - 1 + 1 = i by omega]
        refine (hfg g g0 g1).no (fun q => hrd ⟨q.2.2.2.1, q.2.2.2.2, ?_⟩)
        rw [q.2.2.1]; exact g0)
      refine ⟨fg', ?_, hF⟩
      refine Ev.step (fun F => E0_look_101 F _ _ _) ?_
      simp (disch := omega) only [b_16 hA, d_0 hA, d_1 hA, g_0_1 hA, g_2_0 hA, Option.bind_some, up_s, up_k, up_j, up_i, xk_add, xk_sub, xk_mul, xk_neg, lk_add, lN_z, rf_none, rb1, rb0, rbp, xk_nI, zk_eq, zk_lt, zk_eq0, zk_lt0, zk_0lt, zk_long, lz_lt, lz_gt, zmax, zmin, ↓reduceIte, Int.reduceEq, Int.reduceLT, Int.reduceNeg, Int.reduceAdd, Int.reduceSub, Int.reduceMul, Int.ofNat_eq_natCast, Int.cast_ofNat_Int]
      refine Ev.ite (fun _ => ?_) (fun q => absurd q (by omega))
      try simp (disch := omega) only [b_16 hA, d_0 hA, d_1 hA, g_0_1 hA, g_2_0 hA, Option.bind_some, up_s, up_k, up_j, up_i, xk_add, xk_sub, xk_mul, xk_neg, lk_add, lN_z, rf_none, rb1, rb0, rbp, xk_nI, zk_eq, zk_lt, zk_eq0, zk_lt0, zk_0lt, zk_long, lz_lt, lz_gt, zmax, zmin, ↓reduceIte, Int.reduceEq, Int.reduceLT, Int.reduceNeg, Int.reduceAdd, Int.reduceSub, Int.reduceMul, Int.ofNat_eq_natCast, Int.cast_ofNat_Int]
      refine Ev.kB hr (fun q => ?_) (fun q => ?_)
      · have hn : (J 38 0 i) < 0 := by
          by_cases y : 0 ≤ (J 38 0 i)
          · exact absurd ⟨hsi.mp q.1, q.2, y⟩ hrd
          · omega
        try simp (disch := omega) only [b_16 hA, d_0 hA, d_1 hA, g_0_1 hA, g_2_0 hA, Option.bind_some, up_s, up_k, up_j, up_i, xk_add, xk_sub, xk_mul, xk_neg, lk_add, lN_z, rf_none, rb1, rb0, rbp, xk_nI, zk_eq, zk_lt, zk_eq0, zk_lt0, zk_0lt, zk_long, lz_lt, lz_gt, zmax, zmin, ↓reduceIte, Int.reduceEq, Int.reduceLT, Int.reduceNeg, Int.reduceAdd, Int.reduceSub, Int.reduceMul, Int.ofNat_eq_natCast, Int.cast_ofNat_Int]
        refine Ev.kV (σ := HS e (lkC J C ft fg) I z) ?_ (by rw [← Int.sub_eq_add_neg]; exact hE)
        have l1 : lkC J C ft fg 1 i 1 = (J 38 0 i) := (lk_f (Or.inr (by decide))).trans (hC.2.2.1.outer (by omega) i1)
        refine Ev.step (fun F => E0_offerGroup F _ _ _) ?_
        simp (disch := omega) only [g_1_1 hA, g_1_11 hA, g_1_13 hA, p_1_13 hA, pn_1_13 hA, Option.bind_some, up_s, up_k, up_j, up_i, xk_add, xk_sub, xk_mul, xk_neg, lk_add, lN_z, rf_none, rb1, rb0, rbp, xk_nI, zk_eq, zk_lt, zk_eq0, zk_lt0, zk_0lt, zk_long, lz_lt, lz_gt, zmax, zmin, ↓reduceIte, Int.reduceEq, Int.reduceLT, Int.reduceNeg, Int.reduceAdd, Int.reduceSub, Int.reduceMul, Int.ofNat_eq_natCast, Int.cast_ofNat_Int, l1]
        exact Ev.ite (fun _ => Ev.ret rfl) (fun y => absurd hn y)
      · try simp (disch := omega) only [b_16 hA, d_0 hA, d_1 hA, g_0_1 hA, g_2_0 hA, Option.bind_some, up_s, up_k, up_j, up_i, xk_add, xk_sub, xk_mul, xk_neg, lk_add, lN_z, rf_none, rb1, rb0, rbp, xk_nI, zk_eq, zk_lt, zk_eq0, zk_lt0, zk_0lt, zk_long, lz_lt, lz_gt, zmax, zmin, ↓reduceIte, Int.reduceEq, Int.reduceLT, Int.reduceNeg, Int.reduceAdd, Int.reduceSub, Int.reduceMul, Int.ofNat_eq_natCast, Int.cast_ofNat_Int]
        rw [← Int.sub_eq_add_neg]
        exact hE
theorem look47_ev (hA : WA e z) (hC : Cpl e C J) (hT : TI J) (hK : KB J) {hs : Int → Bool} {x : Int} (xb : -1 ≤ x ∧ x < (J 12 0 1)) (hH : HsX J x hs) : ∀ t (ft : Int → Int), 0 ≤ t → t ≤ (J 12 0 1) → (∀ g, 0 ≤ g → g < (J 12 0 17) → AM (rtx J x g) (fun k => (J 30 0 k)) t (ft g)) → ∃ ft' fg', Ev (fun F => J0_look_47 F (rf e 0 0) (rf e 8 x) (xk t) (HS e (lkC J C ft (fun _ => -1)) I z)) (rV (HS e (lkC J C ft' fg') I z)) ∧ FtX hs J x ft' fg' := by
  have n8 := hC.1.1
  have n7 := hC.2.1.1
  have n1 := hC.2.2.1.1
  have n10 := hC.2.2.2.2.1.1
  have hB := hT.1
  have := RB.tasks hB
  have := RB.spaces hB
  have := RB.groups hB
  have := RB.views hB
  have n4 := hA.2.2.2.1
  intro t
  refine lpN (P := fun t => ∀ (ft : Int → Int), 0 ≤ t → t ≤ (J 12 0 1) → (∀ g, 0 ≤ g → g < (J 12 0 17) → AM (rtx J x g) (fun k => (J 30 0 k)) t (ft g)) → ∃ ft' fg', Ev (fun F => J0_look_47 F (rf e 0 0) (rf e 8 x) (xk t) (HS e (lkC J C ft (fun _ => -1)) I z)) (rV (HS e (lkC J C ft' fg') I z)) ∧ FtX hs J x ft' fg') (J 12 0 1) (fun t ih ft t0 t1 hft => ?_) t
  by_cases h : t < (J 12 0 1)
  · have ih := fun ft => ih h ft (by omega) (by omega)
    have b := hT.b t0 h
    have := RB.asleep hB (j := t) (by omega) (by omega)
    have l8 : ∀ i j, lkC J C ft (fun _ => -1) 8 i j = C 8 i j := fun i j => lk_f (Or.inl (by decide))
    have rd : Ev (fun F => J8_isReady F (rf e 8 t) (HS e (lkC J C ft (fun _ => -1)) I z)) (rI (bI ((J 22 0 t) = 0 ∧ (J 29 0 t) = 0)) (HS e (lkC J C ft (fun _ => -1)) I z)) := by
      refine Ev.step (fun F => E8_isReady F _ _) ?_
      simp (disch := omega) only [g_8_5 hA, g_8_9 hA, Option.bind_some, up_s, up_k, up_j, up_i, xk_add, xk_sub, xk_mul, xk_neg, lk_add, lN_z, rf_none, rb1, rb0, rbp, xk_nI, zk_eq, zk_lt, zk_eq0, zk_lt0, zk_0lt, zk_long, lz_lt, lz_gt, zmax, zmin, ↓reduceIte, Int.reduceEq, Int.reduceLT, Int.reduceNeg, Int.reduceAdd, Int.reduceSub, Int.reduceMul, Int.ofNat_eq_natCast, Int.cast_ofNat_Int, CT.space hC.1, CT.view hC.1, CT.parent hC.1, CT.group hC.1, CT.state hC.1, CT.pages hC.1, CT.points hC.1, CT.ticks hC.1, CT.asleep hC.1, CT.time hC.1, CP.outer hC.2.1, CP.depth hC.2.1, CP.init hC.2.1, CP.given hC.2.1, CG.outer hC.2.2.1, CG.depth hC.2.2.1, CG.max hC.2.2.1, CG.most hC.2.2.1, CG.weight hC.2.2.1, CG.quota hC.2.2.1, CG.cached hC.2.2.1, CG.ran hC.2.2.1, CG.time hC.2.2.1, CG.uses hC.2.2.1, CG.live hC.2.2.1, rf_eq hA, l8]
      refine Ev.ite (fun a => ?_) (fun a => Ev.ret (by rw [bI_f (by omega)]; rfl))
      exact Ev.ite (fun a => Ev.ret (by rw [bI_t (by omega)]; rfl)) (fun a => Ev.ret (by rw [bI_f (by omega)]; rfl))
    have ng : ∀ g, (J 25 0 t) ≠ g → ¬ rtx J x g t := fun g a q => a q.1.2.2.2.2
    by_cases hr : ((J 22 0 t) = 0 ∧ (J 29 0 t) = 0) ∧ t ≠ x
    · have hp : rtx J x (J 25 0 t) t := ⟨⟨t0, h, hr.1.1, hr.1.2, rfl⟩, hr.2⟩
      have fa := hft (J 25 0 t) (by omega) (by omega)
      have fb := fa.b t0
      have l12 : lkC J C ft (fun _ => -1) 1 (J 25 0 t) 12 = ft (J 25 0 t) := lk_t (by omega) (by omega)
      have tt := hK.1 t t0 (by omega)
      by_cases hk : ft (J 25 0 t) < 0 ∨ (J 30 0 t) < (J 30 0 (ft (J 25 0 t)))
      · obtain ⟨ft', fg', hE, hF⟩ := ih (fun g => if g = (J 25 0 t) then t else ft g) (fun g g0 g1 => by
          by_cases hg : g = (J 25 0 t)
          · rw [if_pos hg, hg]
            exact fa.take t0 hp hk
          · rw [if_neg hg]
            exact (hft g g0 g1).no (ng g (fun q => hg q.symm)))
        refine ⟨ft', fg', ?_, hF⟩
        have eu : up (lkC J C ft (fun _ => -1)) 1 (J 25 0 t) 12 t = lkC J C (fun g => if g = (J 25 0 t) then t else ft g) (fun _ => -1) := by
          funext k i' j
          simp only [up, lkC]
          clear hft ih hE hF rd l8
          grind
        refine Ev.step (fun F => E0_look_47 F _ _ _ _) ?_
        simp (disch := omega) only [b_13 hA, d_0 hA, d_8 hA, g_0_0 hA, g_0_1 hA, g_2_1 hA, g_9_0 hA, g_9_2 hA, Option.bind_some, up_s, up_k, up_j, up_i, xk_add, xk_sub, xk_mul, xk_neg, lk_add, lN_z, rf_none, rb1, rb0, rbp, xk_nI, zk_eq, zk_lt, zk_eq0, zk_lt0, zk_0lt, zk_long, lz_lt, lz_gt, zmax, zmin, ↓reduceIte, Int.reduceEq, Int.reduceLT, Int.reduceNeg, Int.reduceAdd, Int.reduceSub, Int.reduceMul, Int.ofNat_eq_natCast, Int.cast_ofNat_Int]
        refine Ev.ite (fun _ => ?_) (fun q => absurd q (by omega))
        try simp (disch := omega) only [b_13 hA, d_0 hA, d_8 hA, g_0_0 hA, g_0_1 hA, g_2_1 hA, g_9_0 hA, g_9_2 hA, Option.bind_some, up_s, up_k, up_j, up_i, xk_add, xk_sub, xk_mul, xk_neg, lk_add, lN_z, rf_none, rb1, rb0, rbp, xk_nI, zk_eq, zk_lt, zk_eq0, zk_lt0, zk_0lt, zk_long, lz_lt, lz_gt, zmax, zmin, ↓reduceIte, Int.reduceEq, Int.reduceLT, Int.reduceNeg, Int.reduceAdd, Int.reduceSub, Int.reduceMul, Int.ofNat_eq_natCast, Int.cast_ofNat_Int, rf_eq hA]
        refine Ev.ite (fun q => absurd q hr.2) (fun _ => ?_)
        refine Ev.kB rd (fun _ => ?_) (fun q => absurd hr.1 q)
        try simp (disch := omega) only [b_13 hA, d_0 hA, d_8 hA, g_0_0 hA, g_0_1 hA, g_2_1 hA, g_9_0 hA, g_9_2 hA, Option.bind_some, up_s, up_k, up_j, up_i, xk_add, xk_sub, xk_mul, xk_neg, lk_add, lN_z, rf_none, rb1, rb0, rbp, xk_nI, zk_eq, zk_lt, zk_eq0, zk_lt0, zk_0lt, zk_long, lz_lt, lz_gt, zmax, zmin, ↓reduceIte, Int.reduceEq, Int.reduceLT, Int.reduceNeg, Int.reduceAdd, Int.reduceSub, Int.reduceMul, Int.ofNat_eq_natCast, Int.cast_ofNat_Int]
        refine Ev.kV (σ := HS e (up (lkC J C ft (fun _ => -1)) 1 (J 25 0 t) 12 t) I z) ?_ (by rw [eu]; exact hE)
        refine Ev.step (fun F => E0_offerTask F _ _ _) ?_
        simp (disch := omega) only [g_1_12 hA, g_8_10 hA, g_8_4 hA, p_1_12 hA, pn_1_12 hA, Option.bind_some, up_s, up_k, up_j, up_i, xk_add, xk_sub, xk_mul, xk_neg, lk_add, lN_z, rf_none, rb1, rb0, rbp, xk_nI, zk_eq, zk_lt, zk_eq0, zk_lt0, zk_0lt, zk_long, lz_lt, lz_gt, zmax, zmin, ↓reduceIte, Int.reduceEq, Int.reduceLT, Int.reduceNeg, Int.reduceAdd, Int.reduceSub, Int.reduceMul, Int.ofNat_eq_natCast, Int.cast_ofNat_Int, CT.space hC.1, CT.view hC.1, CT.parent hC.1, CT.group hC.1, CT.state hC.1, CT.pages hC.1, CT.points hC.1, CT.ticks hC.1, CT.asleep hC.1, CT.time hC.1, CP.outer hC.2.1, CP.depth hC.2.1, CP.init hC.2.1, CP.given hC.2.1, CG.outer hC.2.2.1, CG.depth hC.2.2.1, CG.max hC.2.2.1, CG.most hC.2.2.1, CG.weight hC.2.2.1, CG.quota hC.2.2.1, CG.cached hC.2.2.1, CG.ran hC.2.2.1, CG.time hC.2.2.1, CG.uses hC.2.2.1, CG.live hC.2.2.1, rf_eq hA, l8, l12]
        refine Ev.ite (fun q => Ev.ret rfl) (fun q => ?_)
        have tf := hK.1 (ft (J 25 0 t)) (by omega) (by omega)
        try simp (disch := omega) only [g_1_12 hA, g_8_10 hA, g_8_4 hA, p_1_12 hA, pn_1_12 hA, Option.bind_some, up_s, up_k, up_j, up_i, xk_add, xk_sub, xk_mul, xk_neg, lk_add, lN_z, rf_none, rb1, rb0, rbp, xk_nI, zk_eq, zk_lt, zk_eq0, zk_lt0, zk_0lt, zk_long, lz_lt, lz_gt, zmax, zmin, ↓reduceIte, Int.reduceEq, Int.reduceLT, Int.reduceNeg, Int.reduceAdd, Int.reduceSub, Int.reduceMul, Int.ofNat_eq_natCast, Int.cast_ofNat_Int, CT.space hC.1, CT.view hC.1, CT.parent hC.1, CT.group hC.1, CT.state hC.1, CT.pages hC.1, CT.points hC.1, CT.ticks hC.1, CT.asleep hC.1, CT.time hC.1, CP.outer hC.2.1, CP.depth hC.2.1, CP.init hC.2.1, CP.given hC.2.1, CG.outer hC.2.2.1, CG.depth hC.2.2.1, CG.max hC.2.2.1, CG.most hC.2.2.1, CG.weight hC.2.2.1, CG.quota hC.2.2.1, CG.cached hC.2.2.1, CG.ran hC.2.2.1, CG.time hC.2.2.1, CG.uses hC.2.2.1, CG.live hC.2.2.1, rf_eq hA, l8]
        exact Ev.ite (fun _ => Ev.ret rfl) (fun q => absurd q (by omega))
      · obtain ⟨ft', fg', hE, hF⟩ := ih ft (fun g g0 g1 => by
          by_cases hg : g = (J 25 0 t)
          · rw [hg]
            exact fa.keep (by omega) (by show (J 30 0 (ft (J 25 0 t))) ≤ (J 30 0 t); omega)
          · exact (hft g g0 g1).no (ng g (fun q => hg q.symm)))
        refine ⟨ft', fg', ?_, hF⟩
        refine Ev.step (fun F => E0_look_47 F _ _ _ _) ?_
        simp (disch := omega) only [b_13 hA, d_0 hA, d_8 hA, g_0_0 hA, g_0_1 hA, g_2_1 hA, g_9_0 hA, g_9_2 hA, Option.bind_some, up_s, up_k, up_j, up_i, xk_add, xk_sub, xk_mul, xk_neg, lk_add, lN_z, rf_none, rb1, rb0, rbp, xk_nI, zk_eq, zk_lt, zk_eq0, zk_lt0, zk_0lt, zk_long, lz_lt, lz_gt, zmax, zmin, ↓reduceIte, Int.reduceEq, Int.reduceLT, Int.reduceNeg, Int.reduceAdd, Int.reduceSub, Int.reduceMul, Int.ofNat_eq_natCast, Int.cast_ofNat_Int]
        refine Ev.ite (fun _ => ?_) (fun q => absurd q (by omega))
        try simp (disch := omega) only [b_13 hA, d_0 hA, d_8 hA, g_0_0 hA, g_0_1 hA, g_2_1 hA, g_9_0 hA, g_9_2 hA, Option.bind_some, up_s, up_k, up_j, up_i, xk_add, xk_sub, xk_mul, xk_neg, lk_add, lN_z, rf_none, rb1, rb0, rbp, xk_nI, zk_eq, zk_lt, zk_eq0, zk_lt0, zk_0lt, zk_long, lz_lt, lz_gt, zmax, zmin, ↓reduceIte, Int.reduceEq, Int.reduceLT, Int.reduceNeg, Int.reduceAdd, Int.reduceSub, Int.reduceMul, Int.ofNat_eq_natCast, Int.cast_ofNat_Int, rf_eq hA]
        refine Ev.ite (fun q => absurd q hr.2) (fun _ => ?_)
        refine Ev.kB rd (fun _ => ?_) (fun q => absurd hr.1 q)
        try simp (disch := omega) only [b_13 hA, d_0 hA, d_8 hA, g_0_0 hA, g_0_1 hA, g_2_1 hA, g_9_0 hA, g_9_2 hA, Option.bind_some, up_s, up_k, up_j, up_i, xk_add, xk_sub, xk_mul, xk_neg, lk_add, lN_z, rf_none, rb1, rb0, rbp, xk_nI, zk_eq, zk_lt, zk_eq0, zk_lt0, zk_0lt, zk_long, lz_lt, lz_gt, zmax, zmin, ↓reduceIte, Int.reduceEq, Int.reduceLT, Int.reduceNeg, Int.reduceAdd, Int.reduceSub, Int.reduceMul, Int.ofNat_eq_natCast, Int.cast_ofNat_Int]
        refine Ev.kV (σ := HS e (lkC J C ft (fun _ => -1)) I z) ?_ hE
        refine Ev.step (fun F => E0_offerTask F _ _ _) ?_
        simp (disch := omega) only [g_1_12 hA, g_8_10 hA, g_8_4 hA, p_1_12 hA, pn_1_12 hA, Option.bind_some, up_s, up_k, up_j, up_i, xk_add, xk_sub, xk_mul, xk_neg, lk_add, lN_z, rf_none, rb1, rb0, rbp, xk_nI, zk_eq, zk_lt, zk_eq0, zk_lt0, zk_0lt, zk_long, lz_lt, lz_gt, zmax, zmin, ↓reduceIte, Int.reduceEq, Int.reduceLT, Int.reduceNeg, Int.reduceAdd, Int.reduceSub, Int.reduceMul, Int.ofNat_eq_natCast, Int.cast_ofNat_Int, CT.space hC.1, CT.view hC.1, CT.parent hC.1, CT.group hC.1, CT.state hC.1, CT.pages hC.1, CT.points hC.1, CT.ticks hC.1, CT.asleep hC.1, CT.time hC.1, CP.outer hC.2.1, CP.depth hC.2.1, CP.init hC.2.1, CP.given hC.2.1, CG.outer hC.2.2.1, CG.depth hC.2.2.1, CG.max hC.2.2.1, CG.most hC.2.2.1, CG.weight hC.2.2.1, CG.quota hC.2.2.1, CG.cached hC.2.2.1, CG.ran hC.2.2.1, CG.time hC.2.2.1, CG.uses hC.2.2.1, CG.live hC.2.2.1, rf_eq hA, l8, l12]
        refine Ev.ite (fun q => absurd q (by omega)) (fun q => ?_)
        have tf := hK.1 (ft (J 25 0 t)) (by omega) (by omega)
        try simp (disch := omega) only [g_1_12 hA, g_8_10 hA, g_8_4 hA, p_1_12 hA, pn_1_12 hA, Option.bind_some, up_s, up_k, up_j, up_i, xk_add, xk_sub, xk_mul, xk_neg, lk_add, lN_z, rf_none, rb1, rb0, rbp, xk_nI, zk_eq, zk_lt, zk_eq0, zk_lt0, zk_0lt, zk_long, lz_lt, lz_gt, zmax, zmin, ↓reduceIte, Int.reduceEq, Int.reduceLT, Int.reduceNeg, Int.reduceAdd, Int.reduceSub, Int.reduceMul, Int.ofNat_eq_natCast, Int.cast_ofNat_Int, CT.space hC.1, CT.view hC.1, CT.parent hC.1, CT.group hC.1, CT.state hC.1, CT.pages hC.1, CT.points hC.1, CT.ticks hC.1, CT.asleep hC.1, CT.time hC.1, CP.outer hC.2.1, CP.depth hC.2.1, CP.init hC.2.1, CP.given hC.2.1, CG.outer hC.2.2.1, CG.depth hC.2.2.1, CG.max hC.2.2.1, CG.most hC.2.2.1, CG.weight hC.2.2.1, CG.quota hC.2.2.1, CG.cached hC.2.2.1, CG.ran hC.2.2.1, CG.time hC.2.2.1, CG.uses hC.2.2.1, CG.live hC.2.2.1, rf_eq hA, l8]
        exact Ev.ite (fun q => absurd q (by omega)) (fun _ => Ev.ret rfl)
    · obtain ⟨ft', fg', hE, hF⟩ := ih ft (fun g g0 g1 => (hft g g0 g1).no (fun q => hr ⟨⟨q.1.2.2.1, q.1.2.2.2.1⟩, q.2⟩))
      refine ⟨ft', fg', ?_, hF⟩
      refine Ev.step (fun F => E0_look_47 F _ _ _ _) ?_
      simp (disch := omega) only [b_13 hA, d_0 hA, d_8 hA, g_0_0 hA, g_0_1 hA, g_2_1 hA, g_9_0 hA, g_9_2 hA, Option.bind_some, up_s, up_k, up_j, up_i, xk_add, xk_sub, xk_mul, xk_neg, lk_add, lN_z, rf_none, rb1, rb0, rbp, xk_nI, zk_eq, zk_lt, zk_eq0, zk_lt0, zk_0lt, zk_long, lz_lt, lz_gt, zmax, zmin, ↓reduceIte, Int.reduceEq, Int.reduceLT, Int.reduceNeg, Int.reduceAdd, Int.reduceSub, Int.reduceMul, Int.ofNat_eq_natCast, Int.cast_ofNat_Int]
      refine Ev.ite (fun _ => ?_) (fun q => absurd q (by omega))
      try simp (disch := omega) only [b_13 hA, d_0 hA, d_8 hA, g_0_0 hA, g_0_1 hA, g_2_1 hA, g_9_0 hA, g_9_2 hA, Option.bind_some, up_s, up_k, up_j, up_i, xk_add, xk_sub, xk_mul, xk_neg, lk_add, lN_z, rf_none, rb1, rb0, rbp, xk_nI, zk_eq, zk_lt, zk_eq0, zk_lt0, zk_0lt, zk_long, lz_lt, lz_gt, zmax, zmin, ↓reduceIte, Int.reduceEq, Int.reduceLT, Int.reduceNeg, Int.reduceAdd, Int.reduceSub, Int.reduceMul, Int.ofNat_eq_natCast, Int.cast_ofNat_Int, rf_eq hA]
      refine Ev.ite (fun _ => hE) (fun q1 => ?_)
      refine Ev.kB rd (fun q => absurd ⟨q, q1⟩ hr) (fun q => ?_)
      try simp (disch := omega) only [b_13 hA, d_0 hA, d_8 hA, g_0_0 hA, g_0_1 hA, g_2_1 hA, g_9_0 hA, g_9_2 hA, Option.bind_some, up_s, up_k, up_j, up_i, xk_add, xk_sub, xk_mul, xk_neg, lk_add, lN_z, rf_none, rb1, rb0, rbp, xk_nI, zk_eq, zk_lt, zk_eq0, zk_lt0, zk_0lt, zk_long, lz_lt, lz_gt, zmax, zmin, ↓reduceIte, Int.reduceEq, Int.reduceLT, Int.reduceNeg, Int.reduceAdd, Int.reduceSub, Int.reduceMul, Int.ofNat_eq_natCast, Int.cast_ofNat_Int]
      exact hE
  · have ht : t = (J 12 0 1) := by omega
    subst ht
    obtain ⟨fg', hE, hF⟩ := look101_ev (I := I) hA hC hT hK hH hft ((J 12 0 17) - 1).toNat ((J 12 0 17) - 1) (fun _ => -1) (by omega) (by omega) (fun g _ _ => by rw [show (J 12 0 17) - 1 + 1 = (J 12 0 17) by omega]; exact AMr.z)
    refine ⟨ft, fg', ?_, hF⟩
    refine Ev.step (fun F => E0_look_47 F _ _ _ _) ?_
    simp (disch := omega) only [b_13 hA, d_0 hA, d_8 hA, g_0_0 hA, g_0_1 hA, g_2_1 hA, g_9_0 hA, g_9_2 hA, Option.bind_some, up_s, up_k, up_j, up_i, xk_add, xk_sub, xk_mul, xk_neg, lk_add, lN_z, rf_none, rb1, rb0, rbp, xk_nI, zk_eq, zk_lt, zk_eq0, zk_lt0, zk_0lt, zk_long, lz_lt, lz_gt, zmax, zmin, ↓reduceIte, Int.reduceEq, Int.reduceLT, Int.reduceNeg, Int.reduceAdd, Int.reduceSub, Int.reduceMul, Int.ofNat_eq_natCast, Int.cast_ofNat_Int]
    refine Ev.ite (fun q => absurd q (by omega)) (fun _ => ?_)
    rw [n1]
    exact hE
theorem look_ev (hA : WA e z) (hC : Cpl e C J) (hT : TI J) (hK : KB J) {x : Int} (xb : -1 ≤ x ∧ x < (J 12 0 1)) : ∃ hs ft fg, Ev (fun F => J0_look F (rf e 0 0) (rf e 8 x) (HS e C I z)) (rV (HS e (lkC J C ft fg) I z)) ∧ FtX hs J x ft fg ∧ HsX J x hs := by
  have n8 := hC.1.1
  have n7 := hC.2.1.1
  have n1 := hC.2.2.1.1
  have n10 := hC.2.2.2.2.1.1
  have hB := hT.1
  have := RB.tasks hB
  have := RB.spaces hB
  have := RB.groups hB
  have := RB.views hB
  have n4 := hA.2.2.2.1
  obtain ⟨hs, hH⟩ := HsX.ex hB (x := x)
  obtain ⟨ft, fg, hE, hF⟩ := look47_ev (I := I) hA hC hT hK xb hH 0 (fun _ => -1) (by omega) (by omega) (fun g _ _ => AM.z)
  refine ⟨hs, ft, fg, Ev.step (fun F => E0_look F _ _ _) ?_, hF, hH⟩
  refine lpN (P := fun k => ∀ C', 0 ≤ k → k ≤ (J 12 0 17) → C' = (fun k' i j => if k' = 1 ∧ (j = 12 ∨ j = 13) ∧ 0 ≤ i ∧ i < k then -1 else C k' i j) → Ev (fun F => J0_look_2 F (rf e 0 0) (rf e 8 x) (xk k) (HS e C' I z)) (rV (HS e (lkC J C ft fg) I z))) (J 12 0 17) (fun k ih C' k0 k1 hC' => ?_) 0 C (by omega) (by omega) (by funext k i j; rw [if_neg (by omega)])
  refine Ev.step (fun F => E0_look_2 F _ _ _ _) ?_
  simp (disch := omega) only [b_16 hA, g_0_1 hA, g_2_0 hA, g_2_1 hA, p_1_12 hA, p_1_13 hA, pn_1_12 hA, pn_1_13 hA, Option.bind_some, up_s, up_k, up_j, up_i, xk_add, xk_sub, xk_mul, xk_neg, lk_add, lN_z, rf_none, rb1, rb0, rbp, xk_nI, zk_eq, zk_lt, zk_eq0, zk_lt0, zk_0lt, zk_long, lz_lt, lz_gt, zmax, zmin, ↓reduceIte, Int.reduceEq, Int.reduceLT, Int.reduceNeg, Int.reduceAdd, Int.reduceSub, Int.reduceMul, Int.ofNat_eq_natCast, Int.cast_ofNat_Int]
  refine Ev.ite (fun q => ?_) (fun q => ?_)
  · try simp (disch := omega) only [b_16 hA, g_0_1 hA, g_2_0 hA, g_2_1 hA, p_1_12 hA, p_1_13 hA, pn_1_12 hA, pn_1_13 hA, Option.bind_some, up_s, up_k, up_j, up_i, xk_add, xk_sub, xk_mul, xk_neg, lk_add, lN_z, rf_none, rb1, rb0, rbp, xk_nI, zk_eq, zk_lt, zk_eq0, zk_lt0, zk_0lt, zk_long, lz_lt, lz_gt, zmax, zmin, ↓reduceIte, Int.reduceEq, Int.reduceLT, Int.reduceNeg, Int.reduceAdd, Int.reduceSub, Int.reduceMul, Int.ofNat_eq_natCast, Int.cast_ofNat_Int]
    refine ih (by omega) _ (by omega) (by omega) ?_
    rw [hC']
    funext k' i j
    simp only [up]
    clear hE hF ih hC' hH
    grind
  · have hk : k = (J 12 0 17) := by omega
    subst hk
    have : C' = lkC J C (fun _ => -1) (fun _ => -1) := by
      rw [hC']
      funext k' i j
      simp only [lkC]
      clear hE hF ih hC' hH
      grind
    rw [this]
    exact hE
end CL
