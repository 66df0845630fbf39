/-! the class copies a view: the whole -/
section CV
variable {e : EN} {B C I J : ST} {z : Nat × Nat × Nat × Nat} {v o m x y : Int} {b c im ip im' ip' : Int → Int}
theorem RB.cv (hB : RB B) (v0 : 0 ≤ v) (v1 : v ≤ 9) (x0 : 0 ≤ x) (x1 : x ≤ 79) (hc : ∀ j, 0 ≤ j → j < 80 → -1 ≤ c j ∧ c j ≤ 79) (hb : ∀ j, 0 ≤ j → j < 80 → 0 ≤ b j → b j < 80 ∧ (-1 ≤ im j ∧ im j ≤ 79) ∧ 0 ≤ ip j ∧ ip j ≤ 14) : RB (cvS B v b c x im ip) := by
  obtain ⟨h1, h2, h3, h4, h5, h6⟩ := hB
  refine ⟨fun r hr a a0 a1 => ?_, fun g g0 g1 => ?_, ?_, ?_, ?_, ?_⟩
  · have q49 : ∀ r ∈ rbt, r.1 = 49 → r.2.1 = 0 ∧ r.2.2.1 = 79 ∧ r.2.2.2 = 10 := by decide
    have q50 : ∀ r ∈ rbt, r.1 = 50 → r.2.1 = 0 ∧ r.2.2.1 = 1 ∧ r.2.2.2 = 80 := by decide
    have q51 : ∀ r ∈ rbt, r.1 = 51 → r.2.1 = 0 ∧ r.2.2.1 = 9 ∧ r.2.2.2 = 80 := by decide
    have q52 : ∀ r ∈ rbt, r.1 = 52 → r.2.1 = -1 ∧ r.2.2.1 = 79 ∧ r.2.2.2 = 80 := by decide
    have q53 : ∀ r ∈ rbt, r.1 = 53 → r.2.1 = 0 ∧ r.2.2.1 = 14 ∧ r.2.2.2 = 80 := by decide
    have q54 : ∀ r ∈ rbt, r.1 = 54 → r.2.1 = 0 ∧ r.2.2.1 = 9 ∧ r.2.2.2 = 80 := by decide
    have q55 : ∀ r ∈ rbt, r.1 ≠ 55 := by decide
    have q60 : ∀ r ∈ rbt, r.1 = 60 → r.2.1 = -1 ∧ r.2.2.1 = 79 ∧ r.2.2.2 = 80 := by decide
    have hh := h1 r hr a a0 a1
    unfold cvS
    by_cases k49 : r.1 = 49 ∧ (0 : Int) = 0 ∧ a = v
    · rw [if_pos k49]
      have := q49 r hr k49.1
      omega
    rw [if_neg k49]
    by_cases k60 : (0 : Int) = 0 ∧ 0 ≤ a ∧ a < 80 ∧ r.1 = 60
    · rw [if_pos k60]
      have := q60 r hr k60.2.2.2
      have := hc a a0 (by omega)
      omega
    rw [if_neg k60]
    by_cases kb : (0 : Int) = 0 ∧ 0 ≤ a ∧ a < 80 ∧ 0 ≤ b a
    · rw [if_pos kb]
      have bb := hb a a0 kb.2.2.1 kb.2.2.2
      by_cases k50 : r.1 = 50
      · rw [if_pos k50]; have := q50 r hr k50; omega
      rw [if_neg k50]
      by_cases k51 : r.1 = 51
      · rw [if_pos k51]; have := q51 r hr k51; omega
      rw [if_neg k51]
      by_cases k52 : r.1 = 52
      · rw [if_pos k52]; have := q52 r hr k52; omega
      rw [if_neg k52]
      by_cases k53 : r.1 = 53
      · rw [if_pos k53]; have := q53 r hr k53; omega
      rw [if_neg k53]
      by_cases k54 : r.1 = 54
      · rw [if_pos k54]
        have q := q54 r hr k54
        have := h1 r hr (b a) kb.2.2.2 (by omega)
        rw [k54] at this
        exact this
      rw [if_neg k54, if_neg (q55 r hr)]
      exact hh
    · rw [if_neg kb]
      exact hh
  · rw [cv_f (by omega), cv_f (by omega)]; exact h2 g g0 g1
  all_goals
    rw [cv_f (by omega)]
    assumption
theorem cv_MI (hB : RB B) (hM : MV B v) (hP : MP B o 80 b c) (v0 : 0 ≤ v) (o0 : 0 ≤ o) (o1 : o < v) (h28 : (B 12 0 28) = v + 1) (hx : ∀ j, 0 ≤ j → j < 80 → inV B o j → (B 52 0 j) = -1 → x = c j) (v9 : v < 10) : MI (cvS B v b c x (imR B b c 80) (fun j => B 53 0 (b j))) ∧ 0 ≤ x ∧ x < 80 ∧ x = c (B 49 0 o) := by
  obtain ⟨h1, h2, r, T, h3⟩ := hM
  have ro := h2 o o0 o1
  have rb := RB.root hB (j := o) o0 (by omega)
  have xr := hx (B 49 0 o) (by omega) (by omega) ⟨ro.1, ro.2.1⟩ ro.2.2.1
  have cr := hP.1 (B 49 0 o) (by omega) (by omega) ⟨ro.1, ro.2.1⟩ (by omega)
  have imb : ∀ k, 0 ≤ k → k < 80 → 0 ≤ b k → (B 52 0 (b k) = -1 ∧ imR B b c 80 k = -1) ∨ (0 ≤ B 52 0 (b k) ∧ B 52 0 (b k) < 80 ∧ imR B b c 80 k = c (B 52 0 (b k)) ∧ 0 ≤ c (B 52 0 (b k)) ∧ c (B 52 0 (b k)) < 80 ∧ b (c (B 52 0 (b k))) = B 52 0 (b k)) := by
    intro k k0 k1 hb
    have pb := hP.bk k0 k1 hb
    have ib := RB.inMount hB (j := b k) hb pb.1
    unfold imR
    by_cases q : B 52 0 (b k) = -1
    · left; exact ⟨q, by rw [if_neg (fun y => y.2 q)]; exact q⟩
    · right
      have mm := (h1 (b k) hb pb.1 pb.2.1.1).2.2 (by omega)
      have cc := hP.1 (B 52 0 (b k)) (by omega) (by omega) ⟨mm.1, mm.2.trans pb.2.1.2⟩ (by omega)
      exact ⟨by omega, by omega, by rw [if_pos ⟨by omega, q⟩], cc⟩
  refine ⟨⟨fun k k0 k1 ht => ?_, fun u u0 u1 => ?_, fun k => if 0 ≤ b k then r (b k) else r k, T, fun k k0 k1 ht => ?_⟩, by omega, by omega, xr⟩
  · rw [cv50 k0 k1] at ht
    rw [cv51 k0 k1, cv52 k0 k1, cv_f (k := 12) (by omega), h28, cv49]
    by_cases hb : 0 ≤ b k
    · have pb := hP.bk k0 k1 hb
      simp only [if_pos hb, if_true]
      refine ⟨by omega, fun q => ?_, fun q => ?_⟩
      · rcases imb k k0 k1 hb with y | y
        · rw [hx (b k) hb pb.1 pb.2.1 y.1]; exact pb.2.2.1
        · omega
      · rcases imb k k0 k1 hb with y | y
        · omega
        · rw [y.2.2.1, cv50 y.2.2.2.1 y.2.2.2.2.1, cv51 y.2.2.2.1 y.2.2.2.2.1, y.2.2.2.2.2, if_pos y.1, if_pos y.1]
          exact ⟨rfl, rfl⟩
    · rw [if_neg hb] at ht
      simp only [if_neg hb]
      have y := h1 k k0 k1 ht
      refine ⟨by omega, fun q => ?_, fun q => ?_⟩
      · rw [if_neg (by omega)]; exact y.2.1 q
      · have yy := y.2.2 q
        have ib := RB.inMount hB (j := k) k0 k1
        have nb := hP.nb q (by omega) yy.1
        rw [cv50 q (by omega), cv51 q (by omega), if_neg nb, if_neg nb]
        exact yy
  · rw [cv_f (k := 12) (by omega), h28] at u1
    rw [cv49]
    by_cases hu : u = v
    · have bx : b x = (B 49 0 o) := by rw [xr]; exact cr.2.2
      rw [if_pos hu, cv50 (by omega) (by omega), cv51 (by omega) (by omega), cv52 (by omega) (by omega), cv53 (by omega) (by omega), bx, if_pos rb.1, if_pos rb.1, if_pos rb.1, if_pos rb.1]
      refine ⟨rfl, hu.symm, ?_, ro.2.2.2⟩
      unfold imR
      rw [bx, if_neg (fun q => q.2 ro.2.2.1)]
      exact ro.2.2.1
    · have y := h2 u u0 (by omega)
      have rb2 := RB.root hB (j := u) u0 (by omega)
      have nb := hP.nb rb2.1 (by omega) y.1
      rw [if_neg hu, cv50 (by omega) (by omega), cv51 (by omega) (by omega), cv52 (by omega) (by omega), cv53 (by omega) (by omega), if_neg nb, if_neg nb, if_neg nb, if_neg nb]
      exact y
  · rw [cv50 k0 k1] at ht
    rw [cv52 k0 k1]
    dsimp only
    by_cases hb : 0 ≤ b k
    · have pb := hP.bk k0 k1 hb
      have y := h3 (b k) hb pb.1 pb.2.1.1
      simp only [if_pos hb]
      refine ⟨y.1, fun q => ?_⟩
      rcases imb k k0 k1 hb with t | t
      · omega
      · rw [t.2.2.1, t.2.2.2.2.2, if_pos t.1]
        exact y.2 t.1
    · rw [if_neg hb] at ht
      simp only [if_neg hb]
      have y := h3 k k0 k1 ht
      refine ⟨y.1, fun q => ?_⟩
      have yy := (h1 k k0 k1 ht).2.2 q
      have ib := RB.inMount hB (j := k) k0 k1
      have nb := hP.nb q (by omega) yy.1
      rw [if_neg nb]
      exact y.2 q
theorem bd_cp {a : Nat} {C' : ST} (hA : WA e z) (hD : BD e (mx C I)) (hC : CM (exE e 10 a) C' J) (hB : RB J) (hM : MI J) (hf : ∀ k i j, k ≠ 4 → k ≠ 5 → k ≠ 10 → k ≠ 17 → C' k i j = C k i j) (tw : ∀ j, 0 ≤ j → j < 80 → (C' 4 j 8) < 80) : BD (exE e 10 a) (mx C' I) := by
  have n4 := hA.2.2.2.1
  have n10 := hC.1
  have en : ∀ k, (exE e 10 a).2.1 k = if k = 10 then e.2.1 10 + 1 else e.2.1 k := fun k => exE_n
  have c4 : (exE e 10 a).2.1 4 = 80 := by rw [en, if_neg (by decide)]; exact n4.1
  have c17 : (exE e 10 a).2.1 17 = 80 := by rw [en, if_neg (by decide)]; exact n4.2.1
  intro k i j hv hj q3 q2
  by_cases k4 : k = 4
  · subst k4
    have hv := hv.2
    rw [c4] at hv
    have y := hC.2.2.1 i hv.1 hv.2
    have hj : j < 9 := hj
    have hc : j = 0 ∨ j = 1 ∨ j = 2 ∨ j = 3 ∨ j = 4 ∨ j = 5 ∨ j = 6 ∨ j = 7 ∨ j = 8 := by omega
    rcases hc with rfl | rfl | rfl | rfl | rfl | rfl | rfl | rfl | rfl
    · exact absurd q3 (by decide)
    · exact absurd q2 (by decide)
    · show C' 4 i 2 < (exE e 10 a).2.1 10
      rw [y.2.2.1, n10]
      have := RB.views hB
      split
      · rename_i t; exact (hM.1 i hv.1 hv.2 t).1
      · omega
    · show C' 4 i 3 < (exE e 10 a).2.1 4
      rw [y.2.2.2.1, c4]
      have := RB.inMount hB (j := i) hv.1 hv.2
      split <;> omega
    · exact absurd q3 (by decide)
    · exact absurd q3 (by decide)
    · exact absurd q3 (by decide)
    · exact absurd q3 (by decide)
    · show C' 4 i 8 < (exE e 10 a).2.1 4
      rw [c4]
      exact tw i hv.1 hv.2
  by_cases k5 : k = 5
  · subst k5
    have hj : j < 6 := hj
    have hc : j = 0 ∨ j = 1 ∨ j = 2 ∨ j = 3 ∨ j = 4 ∨ j = 5 := by omega
    rcases hc with rfl | rfl | rfl | rfl | rfl | rfl
    · exact absurd q2 (by decide)
    · exact absurd q2 (by decide)
    · exact absurd q2 (by decide)
    · exact absurd q3 (by decide)
    · exact absurd q2 (by decide)
    · exact absurd q3 (by decide)
  by_cases k10 : k = 10
  · subst k10
    have hv := hv.2
    have hj : j < 2 := hj
    have hc : j = 0 ∨ j = 1 := by omega
    rcases hc with rfl | rfl
    · exact absurd q3 (by decide)
    · show C' 10 i 1 < (exE e 10 a).2.1 4
      have vw := RB.views hB
      rw [hC.2.1 i hv.1 (by omega), c4]
      have := RB.root hB (j := i) hv.1 (by omega)
      omega
  by_cases k17 : k = 17
  · subst k17
    have hv := hv.2
    rw [c17] at hv
    have hj : j < 15 := hj
    have y := ((hC.2.2.1 i hv.1 hv.2).2.2.2.2.2.2 j (by omega) (by omega)).1
    show C' 17 i j < (exE e 10 a).2.1 4
    rw [c4]
    exact y.2
  · have hv' : Va e k i := by
      have := hv.2
      rw [en, if_neg k10] at this
      exact ⟨hv.1, this⟩
    have := hD k i j hv' hj q3 q2
    have e1 : mx C' I k i j = mx C I k i j := by
      unfold mx
      rw [hf k i j k4 k5 k10 k17]
    rw [e1, en]
    split
    · rename_i t; rw [t] at this; omega
    · exact this
theorem copyC (hA : WA e z) (hD : BD e (mx C I)) (hC : CM e C J) (hB : RB J) (hM : MI J) (tw : ∀ j, 0 ≤ j → j < 80 → -1 ≤ (C 4 j 8) ∧ (C 4 j 8) < 80) (o0 : 0 ≤ o) (o1 : o < (J 12 0 28)) (v9 : (J 12 0 28) < 10) (hr : sm (fun k => (J 50 0 k)) 80 + sm (mvT J o) 80 ≤ 80) : ∃ C' J', Ev (fun F => J5_copyView F (rf e 5 0) (rf e 10 o) (HS e C I z)) (rR (rf (exE e 10 z.1) 10 (J 12 0 28)) (HS (exE e 10 z.1) C' I (z.1 + 1, z.2.1 + 2, z.2.2))) ∧ WA (exE e 10 z.1) (z.1 + 1, z.2.1 + 2, z.2.2) ∧ (∀ e2 C2 z2, WA e2 z2 → WR e2 → Ev (fun F => J12_copyView F (rf e2 12 0) (xk o) (HS e2 C2 J z2)) (rI (J 12 0 28) (HS e2 C2 J' z2))) ∧ CM (exE e 10 z.1) C' J' ∧ MI J' ∧ RB J' ∧ (∀ k i j, k < 49 ∨ (55 < k ∧ k ≠ 60) → k ≠ 12 ∨ j ≠ 28 → J' k i j = J k i j) ∧ (J' 12 0 28) = (J 12 0 28) + 1 ∧ (∀ k i j, k ≠ 4 → k ≠ 5 → k ≠ 10 → k ≠ 17 → C' k i j = C k i j) ∧ (∀ j, 0 ≤ j → j < 80 → -1 ≤ (C' 4 j 8) ∧ (C' 4 j 8) < 80) ∧ (∀ k, 0 ≤ k → k < 80 → ∃ k', 0 ≤ k' ∧ k' < 80 ∧ (J' 55 0 k) = (J 55 0 k')) ∧ BD (exE e 10 z.1) (mx C' I) := by
  have n4 := hA.2.2.2.1
  have n10 := hC.1
  have vw := RB.views hB
  obtain ⟨av, hA1⟩ := addView_ev hA hD (by omega) (by omega)
  have hC1 := hC.vn (a := z.1) (by omega)
  generalize hv : (J 12 0 28) = v at *
  generalize hBB : cpI (up J 12 0 28 (v + 1)) (fun _ => -1) = B at *
  have eB : ∀ k i j, k ≠ 12 → k ≠ 60 → B k i j = J k i j := fun k i j a b => by
    rw [← hBB]
    unfold cpI
    rw [if_neg (fun y => b y.1), up_k a]
  have eB' : ∀ j, j ≠ 28 → B 12 0 j = J 12 0 j := fun j a => by
    rw [← hBB]
    unfold cpI
    rw [if_neg (by omega), up_j a]
  have b28 : B 12 0 28 = v + 1 := by
    rw [← hBB]
    unfold cpI
    rw [if_neg (by omega), up_s]
  have hB1 : RB B := by
    rw [← hBB]
    exact RB.cp (hB.uS (by omega) (by omega) (by omega) (by omega)) (fun _ => by omega)
  have hMV : MV B v := by
    unfold MV
    have e1 : ∀ k, k ≠ 12 → k ≠ 60 → ∀ j, B k 0 j = J k 0 j := fun k a b j => eB k 0 j a b
    simp (disch := decide) only [e1]
    unfold MI at hM
    rw [hv] at hM
    exact hM
  have s0 : cvS B v (fun _ => -1) (fun _ => -1) (-1) (fun _ => -1) (fun _ => 0) = up B 49 0 v (-1) := by
    funext k i j
    rw [← hBB]
    simp only [cvS, up, cpI]
    grind
  have s1 : ∀ x, x = B 49 0 v → cvS B v (fun _ => -1) (fun _ => -1) x (fun j => B 52 0 (-1)) (fun j => B 53 0 (-1)) = B := by
    intro x hx
    funext k i j
    rw [hx, ← hBB]
    simp only [cvS, up, cpI]
    grind
  have hC2 : CM (exE e 10 z.1) (vnC C (e.2.1 10)) (cvS B v (fun _ => -1) (fun _ => -1) (-1) (fun _ => -1) (fun _ => 0)) := by
    rw [s0]
    refine hC1.fr (fun _ _ _ _ => rfl) (fun k i j a b => ?_) ?_ ?_
    · by_cases hk : k = 49
      · subst hk
        unfold up
        split
        · rfl
        · rw [eB _ _ _ (by decide) (by decide), if_neg (by omega)]
      · rw [up_k hk, up_k hk, eB _ _ _ (by omega) (by omega), up_k (by omega)]
    · rw [up_k (by decide), up_k (by decide), up_s, b28]
    · rw [up_k (by decide), up_k (by decide), up_j (by decide), eB' _ (by decide)]
  have hP0 : MP B o 0 (fun _ => -1) (fun _ => -1) := ⟨fun k a b c d => absurd d (by omega), fun k a b c => rfl, fun m a b => Or.inl rfl⟩
  have v1 : v < (exE e 10 z.1).2.1 10 := by rw [exE_n, if_pos rfl]; omega
  have rm : sm (fun j => cvS B v (fun _ => -1) (fun _ => -1) (-1) (fun _ => -1) (fun _ => 0) 50 0 j) 80 + (sm (vT B o) 80 - sm (vT B o) 0) ≤ 80 := by
    have a1 := sm_c (f := fun j => cvS B v (fun _ => -1) (fun _ => -1) (-1) (fun _ => -1) (fun _ => 0) 50 0 j) (f' := fun k => (J 50 0 k)) (n := 80) (fun j a b => by
      rw [cv50 a b, if_neg (by decide), eB _ _ _ (by decide) (by decide)])
    have a2 := sm_c (f := vT B o) (f' := mvT J o) (n := 80) (fun j a b => by
      unfold vT mvT inV
      rw [eB _ _ _ (by decide) (by decide), eB _ _ _ (by decide) (by decide)])
    rw [a1, a2, sm_0]
    omega
  obtain ⟨b, c, x, C1, p1, p2, p3, p4, p5, p6, p7⟩ := cvL1 (o := o) hA1 hB1 hMV (by omega) v1 o0 o1 80 0 (fun _ => -1) (fun _ => -1) (B 49 0 v) _ (by omega) (by omega) hP0 hC2 (fun j a b => ⟨fun q => absurd q (by decide), by
    have := tw j a b
    have e1 : vnC C (e.2.1 10) 4 j 8 = C 4 j 8 := by simp [vnC]
    rw [e1]
    exact this⟩) (fun j a b => absurd b (by omega)) rm
  have g0 : cvS B v b (fun _ => -1) (-1) (fun _ => -1) (fun _ => 0) = cvS B v b (fun _ => -1) (-1) (imG B b c 0) (ipG B b 0) := by
    refine cvS_im (fun j j0 j1 hb => ?_)
    unfold imG ipG
    rw [if_neg (by omega), if_neg (by omega)]
    exact ⟨rfl, rfl⟩
  rw [g0] at p3
  obtain ⟨C2, q1, q2, q3, q4⟩ := cvL2 (o := o) hA1 hB1 hMV (by omega) v1 o0 o1 p1 80 0 C1 (by omega) (by omega) p3 p4
  obtain ⟨hMI, x0, x1, xr⟩ := cv_MI hB1 hMV p1 (by omega) o0 o1 b28 p5 v9
  have ro := hMV.2.1 o o0 o1
  have rb := RB.root hB1 (j := o) o0 (by omega)
  have cr := p1.1 (B 49 0 o) (by omega) (by omega) ⟨ro.1, ro.2.1⟩ (by omega)
  have twr := (p4 (B 49 0 o) (by omega) (by omega)).1 cr.1
  have imb : ∀ j, 0 ≤ j → j < 80 → 0 ≤ b j → b j < 80 ∧ (-1 ≤ imR B b c 80 j ∧ imR B b c 80 j ≤ 79) ∧ 0 ≤ B 53 0 (b j) ∧ B 53 0 (b j) ≤ 14 := fun j j0 j1 hb => by
    have pb := p1.bk j0 j1 hb
    have := RB.inPlace hB1 (j := b j) hb pb.1
    have ib := RB.inMount hB1 (j := b j) hb pb.1
    refine ⟨pb.1, ?_, this⟩
    unfold imR
    by_cases q : B 52 0 (b j) = -1
    · rw [if_neg (fun y => y.2 q)]; omega
    · have mm := (hMV.1 (b j) hb pb.1 pb.2.1.1).2.2 (by omega)
      have cc := p1.1 (B 52 0 (b j)) (by omega) (by omega) ⟨mm.1, mm.2.trans pb.2.1.2⟩ (by omega)
      rw [if_pos ⟨by omega, q⟩]
      omega
  have hRB : RB (cvS B v b c x (imR B b c 80) (fun j => B 53 0 (b j))) := hB1.cv (by omega) (by omega) x0 (by omega) (fun j a b' => by
    by_cases hj : inV B o j
    · have := p1.1 j a b' hj b'; omega
    · have := p1.2.1 j a b' (fun q => hj q.1); omega) imb
  have hC3 : CM (exE e 10 z.1) (up C2 10 v 1 x) (cvS B v b c x (imR B b c 80) (fun j => B 53 0 (b j))) := by
    have h := q1.ro (v := v) (x := x)
    rw [cv_u49] at h
    have hh : cvS B v b (fun _ => -1) x (imG B b c 80) (ipG B b 80) = cvS B v b (fun _ => -1) x (imR B b c 80) (fun j => B 53 0 (b j)) := by
      refine cvS_im (fun j j0 j1 hb => ?_)
      have pb := p1.bk j0 j1 hb
      unfold imG ipG imR
      by_cases q : B 52 0 (b j) = -1
      · rw [if_neg (fun y => y.2 q), if_neg (fun y => y.2 q), if_neg (fun y => y.2 q)]
        refine ⟨q.symm, ?_⟩
        have mm := (hMV.1 (b j) hb pb.1 pb.2.1.1).2.1 (by omega)
        rw [pb.2.1.2] at mm
        rw [← mm]
        exact ro.2.2.2.symm
      · rw [if_pos ⟨by omega, q⟩, if_pos ⟨by omega, q⟩, if_pos ⟨by omega, q⟩]
        exact ⟨rfl, rfl⟩
    rw [hh] at h
    refine h.fr (fun _ _ _ _ => rfl) (fun k i j a b' => ?_) ?_ ?_
    · unfold cvS
      rw [if_neg (c := i = 0 ∧ 0 ≤ j ∧ j < 80 ∧ k = 60) (by omega), if_neg (c := i = 0 ∧ 0 ≤ j ∧ j < 80 ∧ k = 60) (by omega)]
    · rw [cv_f (by omega), cv_f (by omega)]
    · rw [cv_f (by omega), cv_f (by omega)]
  have frC : ∀ k i j, k ≠ 4 → k ≠ 5 → k ≠ 10 → k ≠ 17 → up C2 10 v 1 x k i j = C k i j := fun k i j a1 a2 a3 a4 => by
    rw [up_k a3, q3 k i j a1 a4, p6 k i j a1 a2]
    simp [vnC, a3]
  have twf : ∀ j, 0 ≤ j → j < 80 → -1 ≤ up C2 10 v 1 x 4 j 8 ∧ up C2 10 v 1 x 4 j 8 < 80 := fun j a b' => by
    rw [up_k (by decide), q2]
    exact (p4 j a b').2
  refine ⟨up C2 10 v 1 x, cvS B v b c x (imR B b c 80) (fun j => B 53 0 (b j)), ?_, hA1, fun e2 C3 z2 hA2 hR2 => ?_, hC3, hMI, hRB, fun k i j a b' => ?_, ?_, frC, twf, fun k a b' => ?_, bd_cp hA hD hC3 hRB hMI frC (fun j a b' => (twf j a b').2)⟩
  · refine Ev.step (fun F => E5_copyView F _ _ _) ?_
    refine Ev.xg (d_5 hA) ?_
    refine Ev.kR av ?_
    have r5 : rf e 5 0 = rf (exE e 10 z.1) 5 0 := (rf_ex (Or.inl (by decide))).symm
    have r10 : rf e 10 o = rf (exE e 10 z.1) 10 o := (rf_ex (Or.inr (by omega))).symm
    rw [r5, r10, n10]
    rw [n10] at p7
    refine p7 I _ (q4 I _ ?_)
    have hc1 : C2 10 o 1 = (B 49 0 o) := by
      have := q1.2.1 o o0 (by rw [cv_f (by omega), b28]; omega)
      rw [this, cv49, if_neg (by omega)]
    have hc2 : C2 4 (B 49 0 o) 8 = x := by rw [q2, twr, xr]
    have n4' := hA1.2.2.2.1
    generalize hE : exE e 10 z.1 = e' at *
    generalize (z.1 + 1, z.2.1 + 2, z.2.2) = z' at *
    have hA := hA1
    refine Ev.step (fun F => E5_copyView_66 F _ _ _ _ _) ?_
    refine Ev.ite (fun q => absurd q (by decide +kernel)) (fun _ => ?_)
    refine Ev.bs (g_10_1 hA o0 (by omega)) ?_
    rw [hc1]
    refine Ev.bs (g_4_8 hA rb.1 (by omega)) ?_
    rw [hc2]
    exact Ev.bs (p_10_1 hA (by omega) (by omega)) (Ev.ret rfl)
  · have := copyView_ev (C := C3) hA2 hR2 hB o0 (by omega) (by omega) (I := J) (I1 := cvS B v b c x (fun j => B 52 0 (b j)) (fun j => B 53 0 (b j))) (by
      rw [hv, hBB]
      have := s1 _ rfl
      rw [this] at p2
      exact p2)
    rw [hv] at this
    have e0 : cvS B v b c x (fun j => B 52 0 (b j)) (fun j => B 53 0 (b j)) = cvS B v b c x (imR B b c 0) (fun j => B 53 0 (b j)) := by
      refine cvS_im (fun j j0 j1 hb => ⟨?_, rfl⟩)
      unfold imR
      rw [if_neg (by omega)]
    rw [e0, cvR2 hB1 p1 80 0 (by omega) (by omega)] at this
    exact this
  · rw [cv_f a]
    by_cases hk : k = 12
    · subst hk
      rw [← hBB]
      unfold cpI
      rw [if_neg (by omega), up_j (by omega)]
    · exact eB k i j hk (by omega)
  · rw [cv_f (by omega), b28]
  · rw [cv55 a b']
    by_cases hb : 0 ≤ b k
    · rw [if_pos hb]
      exact ⟨b k, hb, (p1.bk a b' hb).1, eB _ _ _ (by decide) (by decide)⟩
    · rw [if_neg hb]
      exact ⟨k, a, b', eB _ _ _ (by decide) (by decide)⟩
end CV
