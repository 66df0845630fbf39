/-! the class copies a view: loop 1 -/
theorem FmR.ex2 {I : ST} (h01 : ∀ k, 0 ≤ k → k < 80 → (I 50 0 k) = 0 ∨ (I 50 0 k) = 1) (h : sm (fun k => (I 50 0 k)) 80 < 80) : ∃ m, FmR I m := by
  have key : ∀ n : Nat, n ≤ 80 → (∃ m, FmR I m) ∨ ∀ k : Int, 0 ≤ k → k < n → (I 50 0 k) = 1 := by
    intro n
    induction n with
    | zero => intro _; exact Or.inr (fun k a b => absurd b (by omega))
    | succ n ih =>
      intro hn
      rcases ih (by omega) with q | q
      · exact Or.inl q
      · have := h01 (n : Int) (by omega) (by omega)
        by_cases hz : (I 50 0 ((n : Int))) = 0
        · exact Or.inl ⟨n, ⟨by omega, by omega⟩, hz, fun k a b => q k a b⟩
        · refine Or.inr (fun k a b => ?_)
          by_cases hk : k = n
          · subst hk; omega
          · exact q k a (by omega)
  rcases key 80 (by omega) with q | q
  · exact q
  · exfalso
    have e := sm_c (f := fun k => (I 50 0 k)) (f' := fun _ => 1) (n := 80) (fun k a b => q k a (by omega))
    rw [e, sm_1 (by omega)] at h
    omega
theorem sm_mo {f : Int → Int} (h : ∀ k, 0 ≤ f k) {a : Int} (a0 : 0 ≤ a) : ∀ n : Nat, sm f a ≤ sm f (a + n) := by
  intro n
  induction n with
  | zero => simp
  | succ n ih =>
    rw [show a + ((n + 1 : Nat) : Int) = (a + n) + 1 by omega, sm_s (by omega)]
    have := h (a + n)
    omega
section CV
variable {e : EN} {B : ST} {z : Nat × Nat × Nat × Nat} {v o : Int}
theorem cvL1 (hA : WA e z) (hB : RB B) (hM : MV B v) (v0 : 0 ≤ v) (v1 : v < (e.2.1 10)) (o0 : 0 ≤ o) (o1 : o < v) : ∀ (n : Nat) (k : Int) (b c : Int → Int) (x : Int) (C : ST), 0 ≤ k → k + n = 80 → MP B o k b c → CM e C (cvS B v b (fun _ => -1) (-1) (fun _ => -1) (fun _ => 0)) → (∀ j, 0 ≤ j → j < 80 → (0 ≤ c j → (C 4 j 8) = c j) ∧ -1 ≤ (C 4 j 8) ∧ (C 4 j 8) < 80) → (∀ j, 0 ≤ j → j < k → inV B o j → (B 52 0 j) = -1 → x = c j) → sm (fun j => cvS B v b (fun _ => -1) (-1) (fun _ => -1) (fun _ => 0) 50 0 j) 80 + (sm (vT B o) 80 - sm (vT B o) k) ≤ 80 → ∃ b' c' x' C', MP B o 80 b' c' ∧ Cv1 v o n k (cvS B v b c x (fun j => B 52 0 (b j)) (fun j => B 53 0 (b j))) (cvS B v b' c' x' (fun j => B 52 0 (b' j)) (fun j => B 53 0 (b' j))) ∧ CM e C' (cvS B v b' (fun _ => -1) (-1) (fun _ => -1) (fun _ => 0)) ∧ (∀ j, 0 ≤ j → j < 80 → (0 ≤ c' j → (C' 4 j 8) = c' j) ∧ -1 ≤ (C' 4 j 8) ∧ (C' 4 j 8) < 80) ∧ (∀ j, 0 ≤ j → j < 80 → inV B o j → (B 52 0 j) = -1 → x' = c' j) ∧ (∀ k i j, k ≠ 4 → k ≠ 5 → C' k i j = C k i j) ∧ ∀ I r, Ev (fun F => J5_copyView_66 F (rf e 5 0) (rf e 10 o) (rf e 10 v) (xk 0) (HS e C' I z)) r → Ev (fun F => J5_copyView_7 F (rf e 5 0) (rf e 10 o) (rf e 10 v) (xk k) (HS e C I z)) r := by
  have n4 := hA.2.2.2.1
  intro n
  induction n with
  | zero =>
    intro k b c x C k0 kn hP hC hw hx hr
    have k80 : k = 80 := by omega
    subst k80
    refine ⟨b, c, x, C, hP, rfl, hC, hw, fun j a b => hx j a b, fun _ _ _ _ _ => rfl, fun I r hE => ?_⟩
    refine Ev.step (fun F => E5_copyView_7 F _ _ _ _ _) ?_
    simp (disch := omega) only [b_18 hA, d_5 hA, g_4_2 hA, g_4_6 hA, g_4_7 hA, g_5_0 hA, p_4_8 hA, pn_4_8 hA, Option.bind_some, up_s, up_k, up_j, up_i, xk_add, xk_sub, xk_mul, xk_neg, lk_add, lN_z, rf_none, rb1, rb0, rbp, xk_nI, zk_eq, zk_lt, zk_eq0, zk_lt0, zk_0lt, zk_long, lz_lt, lz_gt, zmax, zmin, ↓reduceIte, Int.reduceEq, Int.reduceLT, Int.reduceNeg, Int.reduceAdd, Int.reduceSub, Int.reduceMul, Int.ofNat_eq_natCast, Int.cast_ofNat_Int]
    exact hE
  | succ n ih =>
    intro k b c x C k0 kn hP hC hw hx hr
    have k1 : k < 80 := by omega
    have y := hC.2.2.1 k k0 k1
    have y2 := y.2.2.1
    rw [cv50 k0 k1, cv51 k0 k1] at y2
    have vb : ∀ j, 0 ≤ vT B o j := fun j => by unfold vT; split <;> decide
    have ss := sm_s (f := vT B o) k0
    by_cases hk : inV B o k
    · have bk := hP.nb k0 k1 hk.1
      have h01 : ∀ j, 0 ≤ j → j < 80 → cvS B v b (fun _ => -1) (-1) (fun _ => -1) (fun _ => 0) 50 0 j = 0 ∨ cvS B v b (fun _ => -1) (-1) (fun _ => -1) (fun _ => 0) 50 0 j = 1 := fun j a b' => by
        rw [cv50 a b']
        have := RB.there hB (j := j) (by omega) (by omega)
        split <;> omega
      have vk : vT B o k = 1 := by unfold vT; rw [if_pos hk]
      have mo := sm_mo vb (a := k + 1) (by omega) n
      rw [show k + 1 + (n : Int) = 80 by omega] at mo
      obtain ⟨m, hm⟩ := FmR.ex2 h01 (by omega)
      obtain ⟨⟨m0, m1⟩, hm0, hmk⟩ := id hm
      have hm0' := hm0
      rw [cv50 m0 m1] at hm0'
      have bm : ¬ 0 ≤ b m := fun q => by rw [if_pos q] at hm0'; omega
      rw [if_neg bm] at hm0'
      have km : k ≠ m := fun q => by have := hk.1; rw [q] at this; omega
      rw [if_neg bk, if_neg bk, if_pos hk.1, hk.2] at y2
      have y6 := y.1
      have y7 := y.2.1
      rw [cv54 k0 k1, if_neg bk] at y6
      rw [cv55 k0 k1, if_neg bk] at y7
      have hC1 := hC.oc (v := v) (w := B 54 0 k) (q := B 55 0 k) hm
      rw [cv_oc m0 m1 k0] at hC1
      have hC2 : CM e (up (ocC C v (B 54 0 k) (B 55 0 k) m ((C 5 0 3) + 1)) 4 k 8 m) (cvS B v (fun j => if j = m then k else b j) (fun _ => -1) (-1) (fun _ => -1) (fun _ => 0)) := hC1.fr (fun k' i j h => by unfold up; rw [if_neg (by omega)]) (fun _ _ _ _ _ => rfl) rfl rfl
      have tw : ∀ j, up (ocC C v (B 54 0 k) (B 55 0 k) m ((C 5 0 3) + 1)) 4 k 8 m 4 j 8 = if j = k then m else C 4 j 8 := fun j => by simp [up, ocC]
      have hw2 : ∀ j, 0 ≤ j → j < 80 → (0 ≤ (if j = k then m else c j) → up (ocC C v (B 54 0 k) (B 55 0 k) m ((C 5 0 3) + 1)) 4 k 8 m 4 j 8 = if j = k then m else c j) ∧ -1 ≤ up (ocC C v (B 54 0 k) (B 55 0 k) m ((C 5 0 3) + 1)) 4 k 8 m 4 j 8 ∧ up (ocC C v (B 54 0 k) (B 55 0 k) m ((C 5 0 3) + 1)) 4 k 8 m 4 j 8 < 80 := fun j a b' => by
        rw [tw]
        by_cases q : j = k
        · rw [if_pos q, if_pos q]; omega
        · rw [if_neg q, if_neg q]; exact hw j a b'
      have hx2 : ∀ j, 0 ≤ j → j < k + 1 → inV B o j → (B 52 0 j) = -1 → (if B 52 0 k = -1 then m else x) = if j = k then m else c j := fun j a b' hj hi => by
        by_cases q : j = k
        · rw [if_pos q, if_pos (by rw [← q]; exact hi)]
        · rw [if_neg q]
          by_cases q2 : B 52 0 k = -1
          · exfalso
            have u1 := (hM.1 k k0 k1 hk.1).2.1 (by omega)
            have u2 := (hM.1 j a (by omega) hj.1).2.1 (by omega)
            rw [hk.2] at u1
            rw [hj.2] at u2
            omega
          · rw [if_neg q2]
            exact hx j a (by omega) hj hi
      have su := sm_u (f := fun j => cvS B v b (fun _ => -1) (-1) (fun _ => -1) (fun _ => 0) 50 0 j) (f' := fun j => cvS B v (fun j => if j = m then k else b j) (fun _ => -1) (-1) (fun _ => -1) (fun _ => 0) 50 0 j) (n := 80) (x := m) m0 m1 (fun j a b' q => by
        rw [cv50 a b', cv50 a b', if_neg q])
      have s1 : cvS B v (fun j => if j = m then k else b j) (fun _ => -1) (-1) (fun _ => -1) (fun _ => 0) 50 0 m = 1 := by
        rw [cv50 m0 m1, if_pos (by rw [if_pos rfl]; exact k0)]
      rw [s1, hm0] at su
      obtain ⟨b', c', x', C', r1, r2, r3, r4, r5, r6, r7⟩ := ih (k + 1) (fun j => if j = m then k else b j) (fun j => if j = k then m else c j) (if B 52 0 k = -1 then m else x) _ (by omega) (by omega) (hP.st k0 k1 hk m0 m1 hm0' bm) hC2 hw2 hx2 (by omega)
      refine ⟨b', c', x', C', r1, ?_, r3, r4, r5, fun k' i j a b' => (r6 k' i j a b').trans (by simp [up, ocC, a, b']), fun I r hE => ?_⟩
      · rw [Cv1, cv50 k0 k1, cv51 k0 k1, cv52 k0 k1, cv53 k0 k1, cv54 k0 k1, cv55 k0 k1, if_neg bk, if_neg bk, if_neg bk, if_neg bk, if_neg bk, if_neg bk, if_pos ⟨hk.1, hk.2⟩]
        refine ⟨m, ⟨⟨m0, m1⟩, ?_, fun j a b' => ?_⟩, ?_⟩
        · rw [cv50 m0 m1, if_neg bm]; exact hm0'
        · have := hmk j a b'
          rw [cv50 a (by omega)] at this ⊢
          exact this
        · rw [cv_mk k0 k1 m0 m1 bk km]
          exact r2
      · have r7 := r7 I r hE
        have hv : ∀ j, 0 ≤ j → j < 80 → cvS B v b (fun _ => -1) (-1) (fun _ => -1) (fun _ => 0) 50 0 j = 1 → 0 ≤ cvS B v b (fun _ => -1) (-1) (fun _ => -1) (fun _ => 0) 51 0 j := fun j a b' _ => by
          rw [cv51 a b']
          have := RB.viewOf hB (j := j) (by omega) (by omega)
          split <;> omega
        have oc := occupyM_ev (I := I) (w := B 54 0 k) (q := B 55 0 k) hA hC hv v0 v1 hm
        refine Ev.step (fun F => E5_copyView_7 F _ _ _ _ _) ?_
        simp (disch := omega) only [b_18 hA, d_5 hA, g_4_2 hA, g_4_6 hA, g_4_7 hA, g_5_0 hA, p_4_8 hA, pn_4_8 hA, Option.bind_some, up_s, up_k, up_j, up_i, xk_add, xk_sub, xk_mul, xk_neg, lk_add, lN_z, rf_none, rb1, rb0, rbp, xk_nI, zk_eq, zk_lt, zk_eq0, zk_lt0, zk_0lt, zk_long, lz_lt, lz_gt, zmax, zmin, ↓reduceIte, Int.reduceEq, Int.reduceLT, Int.reduceNeg, Int.reduceAdd, Int.reduceSub, Int.reduceMul, Int.ofNat_eq_natCast, Int.cast_ofNat_Int, y2, y6, y7]
        refine Ev.ite (fun _ => ?_) (fun q => absurd q (by omega))
        refine Ev.kR oc ?_
        try simp (maxSteps := 2000000) (disch := omega) only [b_18 hA, d_5 hA, g_4_2 hA, g_4_6 hA, g_4_7 hA, g_5_0 hA, p_4_8 hA, pn_4_8 hA, Option.bind_some, up_s, up_k, up_j, up_i, xk_add, xk_sub, xk_mul, xk_neg, lk_add, lN_z, rf_none, rb1, rb0, rbp, xk_nI, zk_eq, zk_lt, zk_eq0, zk_lt0, zk_0lt, zk_long, lz_lt, lz_gt, zmax, zmin, ↓reduceIte, Int.reduceEq, Int.reduceLT, Int.reduceNeg, Int.reduceAdd, Int.reduceSub, Int.reduceMul, Int.ofNat_eq_natCast, Int.cast_ofNat_Int]
        exact r7
    · have vk : vT B o k = 0 := by unfold vT; rw [if_neg hk]
      obtain ⟨b', c', x', C', r1, r2, r3, r4, r5, r6, r7⟩ := ih (k + 1) b c x C (by omega) (by omega) (hP.sk hk) hC hw (fun j a b' hj hi => hx j a (by
        by_cases q : j = k
        · exact absurd (q ▸ hj) hk
        · omega) hj hi) (by omega)
      have nk : ¬ (cvS B v b c x (fun j => B 52 0 (b j)) (fun j => B 53 0 (b j)) 50 0 k = 1 ∧ cvS B v b c x (fun j => B 52 0 (b j)) (fun j => B 53 0 (b j)) 51 0 k = o) := by
        rw [cv50 k0 k1, cv51 k0 k1]
        by_cases q : 0 ≤ b k
        · rw [if_pos q, if_pos q]; omega
        · rw [if_neg q, if_neg q]; exact hk
      refine ⟨b', c', x', C', r1, ?_, r3, r4, r5, r6, fun I r hE => ?_⟩
      · rw [Cv1, if_neg nk]
        exact r2
      · have r7 := r7 I r hE
        have yb : -1 ≤ C 4 k 2 ∧ C 4 k 2 < (e.2.1 10) ∧ C 4 k 2 ≠ o := by
          rw [y2]
          by_cases q : 0 ≤ b k
          · simp only [if_pos q, if_true]; omega
          · simp only [if_neg q]
            have := RB.viewOf hB (j := k) (by omega) (by omega)
            by_cases t : B 50 0 k = 1
            · rw [if_pos t]
              have := (hM.1 k k0 k1 t).1
              exact ⟨by omega, by omega, fun u => hk ⟨t, u⟩⟩
            · rw [if_neg t]; omega
        refine Ev.step (fun F => E5_copyView_7 F _ _ _ _ _) ?_
        simp (disch := omega) only [b_18 hA, d_5 hA, g_4_2 hA, g_4_6 hA, g_4_7 hA, g_5_0 hA, p_4_8 hA, pn_4_8 hA, Option.bind_some, up_s, up_k, up_j, up_i, xk_add, xk_sub, xk_mul, xk_neg, lk_add, lN_z, rf_none, rb1, rb0, rbp, xk_nI, zk_eq, zk_lt, zk_eq0, zk_lt0, zk_0lt, zk_long, lz_lt, lz_gt, zmax, zmin, ↓reduceIte, Int.reduceEq, Int.reduceLT, Int.reduceNeg, Int.reduceAdd, Int.reduceSub, Int.reduceMul, Int.ofNat_eq_natCast, Int.cast_ofNat_Int, rf_eq hA]
        refine Ev.ite (fun _ => ?_) (fun q => absurd q (by omega))
        exact Ev.ite (fun q => absurd q (by omega)) (fun _ => r7)
end CV
