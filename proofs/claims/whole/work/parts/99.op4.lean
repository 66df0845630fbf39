/-! pairs: badness, release, charge, cache -/
section OPs
variable {e : EN} {C I J : ST} {z : Nat × Nat × Nat × Nat} {n : Int}
/-- numbers are as they were, or gone -/
def NZ (J J' : ST) : Prop := ∀ j, J' 32 0 j = J 32 0 j ∨ J' 32 0 j = 0
theorem NZ.r : NZ J J := fun _ => Or.inl rfl
theorem NZ.t {J' J'' : ST} (h : NZ J J') (h' : NZ J' J'') : NZ J J'' := fun j => by
  rcases h' j with q | q
  · rw [q]; exact h j
  · exact Or.inr q
theorem NZ.tc {g : Int} : ∀ (m : Nat) (J : ST) (l : Int), NZ J (tcF g m J l) := by
  intro m
  induction m with
  | zero => intro J l; exact NZ.r
  | succ m ih =>
    intro J l
    rw [tcF]
    split
    · split
      · exact NZ.r
      · exact NZ.t (fun j => Or.inl (up_k (by decide))) (ih _ _)
    · exact NZ.r
theorem NZ.kv {t g p : Int} : ∀ (m : Nat) (J : ST), NZ J (kvF t g p m J).2 := by
  intro m
  induction m with
  | zero => intro J; exact NZ.r
  | succ m ih =>
    intro J
    have s1 : NZ J (lvI (up J 12 0 27 ((J 12 0 27) + 1)) (viF J g)) := NZ.t (fun j => Or.inl (up_k (by decide))) (fun j => lv_n)
    rw [kvF]
    split
    · split
      · exact NZ.r
      · split
        · exact NZ.t s1 (ih _)
        · exact s1
    · exact NZ.r
theorem NZ.mr {t p : Int} : ∀ (m : Nat) (J : ST) (g : Int), NZ J (mrF t p m J g).2 := by
  intro m
  induction m with
  | zero => intro J g; exact NZ.r
  | succ m ih =>
    intro J g
    rw [mrF]
    split
    · exact NZ.r
    · split
      · exact NZ.t (NZ.tc _ _ _) (NZ.kv _ _)
      · exact NZ.t (NZ.t (NZ.tc _ _ _) (NZ.kv _ _)) (ih _ _)
theorem Inv.le {J' : ST} (h : Inv n J) {m : Int} (hm : n ≤ m) (hl : LE J J') (hT : TI J') (hG : TG J') (hz : NZ J J') : Inv m J' := by
  obtain ⟨h1, h2, h3, h4, h5, h6, h7, h8, h9⟩ := h
  have hB := h1.1
  have tk := RB.tasks hB
  have gk := RB.groups hB
  have ej : ∀ k i j, k ≠ 22 ∧ k ≠ 23 ∧ k ≠ 27 ∧ k ≠ 32 ∧ k ≠ 43 → (k ≠ 12 ∨ j ≠ 27) → J' k i j = J k i j := fun k i j q q' => hl.1 k i j q.1 q.2.1 q.2.2.1 q.2.2.2.1 q.2.2.2.2 q'
  refine ⟨hT, hG, hl.gu hB h3, h4.c (ej _ _ _ (by decide) (Or.inr (by decide))) (fun j => ej _ _ _ (by decide) (Or.inl (by decide))) (fun j => ej _ _ _ (by decide) (Or.inl (by decide))), fun g a b => ?_, ⟨fun t a b => ?_, fun t s a b c d => ?_⟩, h7.c hm (ej _ _ _ (by decide) (Or.inr (by decide))) (fun j => ej _ _ _ (by decide) (Or.inl (by decide))) (fun j => ej _ _ _ (by decide) (Or.inl (by decide))) (fun j => ej _ _ _ (by decide) (Or.inl (by decide))), h8.c (ej _ _ _ (by decide) (Or.inr (by decide))) (fun k j a b => ej _ _ _ (by omega) (Or.inl (by omega))), h9.c hm (ej _ _ _ (by decide) (Or.inr (by decide))) (fun j => ej _ _ _ (by decide) (Or.inl (by decide)))⟩
  · rw [ej _ _ _ (by decide) (Or.inr (by decide))] at a
    rw [ej 42 _ _ (by decide) (Or.inl (by decide)), ej 44 _ _ (by decide) (Or.inl (by decide))]
    have y := h5 g a b
    have c1 := hl.2.2.2 g (by omega) b
    have c2 := RB.cached hT.1 (j := g) (by omega) b
    exact ⟨y.1, by omega, y.2.2⟩
  · rw [ej _ _ _ (by decide) (Or.inr (by decide))] at a
    rw [ej 28 _ _ (by decide) (Or.inl (by decide)), ej 29 _ _ (by decide) (Or.inl (by decide)), ej 31 _ _ (by decide) (Or.inl (by decide))]
    have y := h6.1 t a b
    have c1 := hl.2.2.1 t (by omega) b
    have c2 := RB.pages hT.1 (j := t) (by omega) b
    refine ⟨by omega, y.2.1, y.2.2.1, y.2.2.2.1, fun s s0 s1 => ?_⟩
    rcases hz (20 * t + s) with q | q
    · rw [q]; exact y.2.2.2.2 s s0 s1
    · exact q
  · rw [ej _ _ _ (by decide) (Or.inr (by decide))] at c
    rcases hz (20 * t + s) with q | q
    · rw [q]; exact h6.2 t s a b c d
    · exact q
/-- behind a good end there is room -/
theorem kv_nf {t g p : Int} : ∀ (m : Nat) (J : ST), TI J → (J 22 0 t) = 0 → kcF J < m → ¬ (kvF t g p m J).1 < 0 → usF (kvF t g p m J).2 g + p ≤ (J 40 0 g) := by
  intro m
  induction m with
  | zero =>
    intro J hT hs hc
    exfalso
    have : 0 ≤ kcF J := sm_nn (fun k => by unfold kcT; split <;> decide) _
    omega
  | succ m ih =>
    intro J hT hs hc hn
    rw [kvF] at hn ⊢
    by_cases h : (J 40 0 g) < usF J g + p
    · rw [if_pos h] at hn ⊢
      by_cases hv : viF J g < 0
      · rw [if_pos hv] at hn
        exact absurd (by show (-3 : Int) < 0; decide) hn
      · rw [if_neg hv] at hn ⊢
        have i := vi_inv (v := (J 12 0 27) + 1) hT hv
        have b := viF_b hT.1 (g := g)
        have pp := viF_p hT.1 (g := g) (by omega)
        by_cases hq : lvI (up J 12 0 27 ((J 12 0 27) + 1)) (viF J g) 22 0 t = 0
        · rw [if_pos hq] at hn ⊢
          have e1 : up J 12 0 27 ((J 12 0 27) + 1) 12 0 1 = (J 12 0 1) := up_j (by decide)
          have e2 : up J 12 0 27 ((J 12 0 27) + 1) 22 0 (viF J g) = (J 22 0 (viF J g)) := up_k (by decide)
          have k1 := kc_lv (hT.vi (v := (J 12 0 27) + 1)).1 (v := viF J g) (by omega) (by omega) (by omega)
          have ek : kcF (up J 12 0 27 ((J 12 0 27) + 1)) = kcF J := by
            unfold kcF
            rw [e1]
            exact sm_c (fun k _ _ => by unfold kcT; rw [up_k (by decide)])
          have := ih _ i.1 hq (by omega) hn
          rw [i.2.1 40 0 g (by decide) (by decide) (by decide) (by decide) (by decide) (Or.inl (by decide))] at this
          exact this
        · rw [if_neg hq] at hn
          exact absurd (by show (-5 : Int) < 0; decide) hn
    · rw [if_neg h]
      show usF J g + p ≤ _
      omega
theorem mr_nf {t p : Int} : ∀ (m : Nat) (J : ST) (g : Int), TI J → (J 22 0 t) = 0 → g < m → -1 ≤ g → g < (J 12 0 17) → ¬ (mrF t p m J g).1 < 0 → ∀ x, 0 ≤ x → win J g x = true → usF (mrF t p m J g).2 x + p ≤ (J 40 0 x) := by
  intro m
  induction m with
  | zero =>
    intro J g hT hs h0 h1 h2 hn x x0 hw
    exfalso
    rw [win_u hT.1 h1 (by have := RB.groups hT.1; omega), if_neg (by omega), if_pos (by omega)] at hw
    exact absurd hw (by decide)
  | succ m ih =>
    intro J g hT hs h0 h1 h2 hn x x0 hw
    have hB := hT.1
    have gk := RB.groups hB
    rw [mrF] at hn ⊢
    rw [win_u hB h1 (by omega)] at hw
    by_cases hg : g < 0
    · exfalso
      rw [if_neg (by omega), if_pos hg] at hw
      exact absurd hw (by decide)
    · rw [if_neg hg] at hn ⊢
      rw [if_neg hg] at hw
      have i := tc_inv (g := g) 20 J (usF J g + p - (J 40 0 g)) hT
      have s1 : tcI J g p 22 0 t = 0 := (i.2.2 t).trans hs
      have k := kv_inv (t := t) (g := g) (n := p) 150 (tcI J g p) i.1 s1
      by_cases hk : (kvF t g p 150 (tcI J g p)).1 < 0
      · rw [if_pos hk] at hn
        exact absurd hk hn
      · rw [if_neg hk] at hn ⊢
        have l2 := LE.t i.2.1 k.2.1
        have w := RB.ww hB g (by omega) (by omega)
        have e17 := l2.1 12 0 17 (by decide) (by decide) (by decide) (by decide) (by decide) (Or.inr (by decide))
        have ew : win (kvF t g p 150 (tcI J g p)).2 = win J := win_c (fun k => l2.1 _ _ _ (by decide) (by decide) (by decide) (by decide) (by decide) (Or.inl (by decide)))
        have em : (kvF t g p 150 (tcI J g p)).2 40 0 x = (J 40 0 x) := l2.1 _ _ _ (by decide) (by decide) (by decide) (by decide) (by decide) (Or.inl (by decide))
        by_cases hx : g = x
        · subst hx
          have nf := kv_nf (p := p) 150 (tcI J g p) i.1 s1 (kc_b i.1.1) hk
          rw [show tcI J g p 40 0 g = (J 40 0 g) from i.2.1.1 _ _ _ (by decide) (by decide) (by decide) (by decide) (by decide) (Or.inl (by decide))] at nf
          have mi := mr_inv (t := t) (n := p) m (kvF t g p 150 (tcI J g p)).2 (J 38 0 g) k.1 (k.2.2 hk).2
          have := mi.2.1.us k.1.1 (g := g)
          omega
        · rw [if_neg hx] at hw
          have := ih _ (J 38 0 g) k.1 (k.2.2 hk).2 (by omega) (by omega) (by omega) hn x x0 (by rw [ew]; exact hw)
          rw [em] at this
          exact this
theorem us_win (hT : TI J) {t : Int} (t0 : 0 ≤ t) (t1 : t < (J 12 0 1)) (hs : (J 22 0 t) = 0) : (J 27 0 t) ≤ usF J (J 25 0 t) := by
  have hB := hT.1
  have tk := RB.tasks hB
  have gk := RB.groups hB
  have a : (J 27 0 t) = usT J (J 25 0 t) t := by
    unfold usT
    rw [if_pos ⟨hs, chn_r⟩]
  have nn : ∀ k, 0 ≤ k → k < (J 12 0 1) → 0 ≤ usT J (J 25 0 t) k := fun k k0 k1 => by
    have := RB.pages hB (j := k) k0 (by omega)
    unfold usT
    split <;> omega
  have b : usT J (J 25 0 t) t ≤ sm (usT J (J 25 0 t)) (J 12 0 1) := by
    have := sm_u (f := fun k => if k = t then 0 else usT J (J 25 0 t) k) (f' := usT J (J 25 0 t)) (n := (J 12 0 1)) (x := t) t0 t1 (fun k _ _ hk => by rw [if_neg hk])
    rw [if_pos rfl] at this
    have := sm_n0 (f := fun k => if k = t then 0 else usT J (J 25 0 t) k) (n := (J 12 0 1)) (fun k a b => by
      split
      · omega
      · exact nn k a b)
    omega
  have c : 0 ≤ sm (usK J (J 25 0 t)) (J 12 0 17) := sm_n0 (fun k a b => by
    have := RB.cached hB (j := k) a (by omega)
    unfold usK
    split <;> omega)
  unfold usF
  omega
theorem us_cach (hT : TI J) {g : Int} (g0 : 0 ≤ g) (g1 : g < (J 12 0 17)) : (J 43 0 g) ≤ usF J g := by
  have hB := hT.1
  have tk := RB.tasks hB
  have gk := RB.groups hB
  have a : (J 43 0 g) = usK J g g := by
    unfold usK
    rw [if_pos (show win J g g = true from chn_r)]
  have nn : ∀ k, 0 ≤ k → k < (J 12 0 17) → 0 ≤ usK J g k := fun k k0 k1 => by
    have := RB.cached hB (j := k) k0 (by omega)
    unfold usK
    split <;> omega
  have b : usK J g g ≤ sm (usK J g) (J 12 0 17) := by
    have := sm_u (f := fun k => if k = g then 0 else usK J g k) (f' := usK J g) (n := (J 12 0 17)) (x := g) g0 g1 (fun k _ _ hk => by rw [if_neg hk])
    rw [if_pos rfl] at this
    have := sm_n0 (f := fun k => if k = g then 0 else usK J g k) (n := (J 12 0 17)) (fun k a b => by
      split
      · omega
      · exact nn k a b)
    omega
  have c : 0 ≤ sm (usT J g) (J 12 0 1) := sm_n0 (fun k a b => by
    have := RB.pages hB (j := k) a (by omega)
    unfold usT
    split <;> omega)
  unfold usF
  omega
end OPs
