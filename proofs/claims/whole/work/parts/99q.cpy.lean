/-! the class copies a view: loop 2, the whole -/
def imG (B : ST) (b c : Int → Int) (k j : Int) : Int := if b j < k ∧ B 52 0 (b j) ≠ -1 then c (B 52 0 (b j)) else -1
def ipG (B : ST) (b : Int → Int) (k j : Int) : Int := if b j < k ∧ B 52 0 (b j) ≠ -1 then B 53 0 (b j) else 0
def imR (B : ST) (b c : Int → Int) (k j : Int) : Int := if b j < k ∧ B 52 0 (b j) ≠ -1 then c (B 52 0 (b j)) else B 52 0 (b j)
section CV
variable {e : EN} {B : ST} {z : Nat × Nat × Nat × Nat} {v o m x y : Int} {b c im ip im' ip' : Int → Int}
theorem cvS_im (h : ∀ j, 0 ≤ j → j < 80 → 0 ≤ b j → im j = im' j ∧ ip j = ip' j) : cvS B v b c x im ip = cvS B v b c x im' ip' := by
  funext k i j
  unfold cvS
  by_cases q : i = 0 ∧ 0 ≤ j ∧ j < 80 ∧ 0 ≤ b j
  · rw [(h j q.2.1 q.2.2.1 q.2.2.2).1, (h j q.2.1 q.2.2.1 q.2.2.2).2]
  · simp only [if_neg q]
theorem cv_u52 (m0 : 0 ≤ m) (m1 : m < 80) (hb : 0 ≤ b m) : up (cvS B v b c x im ip) 52 0 m y = cvS B v b c x (fun j => if j = m then y else im j) ip := by
  funext k i j
  simp only [up, cvS]
  by_cases hj : j = m
  · subst hj
    simp only [if_true]
    grind
  · simp only [if_neg hj]
    grind
theorem cv_u53 (m0 : 0 ≤ m) (m1 : m < 80) (hb : 0 ≤ b m) : up (cvS B v b c x im ip) 53 0 m y = cvS B v b c x im (fun j => if j = m then y else ip j) := by
  funext k i j
  simp only [up, cvS]
  by_cases hj : j = m
  · subst hj
    simp only [if_true]
    grind
  · simp only [if_neg hj]
    grind
theorem cv_u49 : up (cvS B v b c x im ip) 49 0 v y = cvS B v b c y im ip := by
  funext k i j
  simp only [up, cvS]
  by_cases hj : k = 49 ∧ i = 0 ∧ j = v
  · rw [if_pos hj, if_pos hj]
  · rw [if_neg hj, if_neg hj, if_neg hj]
theorem MP.bk {j : Int} (h : MP B o 80 b c) (j0 : 0 ≤ j) (j1 : j < 80) (hb : 0 ≤ b j) : b j < 80 ∧ inV B o (b j) ∧ c (b j) = j ∧ (B 50 0 j) = 0 := by
  rcases h.2.2 j j0 j1 with q | q
  · omega
  · exact ⟨q.2.2.1, q.2.2.2.1, q.2.2.2.2.1, q.2.2.2.2.2⟩
theorem cvR2 (hB : RB B) (hP : MP B o 80 b c) : ∀ (n : Nat) (k : Int), 0 ≤ k → k + n = 80 → c2F n k (cvS B v b c x (imR B b c k) ip) = cvS B v b c x (imR B b c 80) ip := by
  intro n
  induction n with
  | zero =>
    intro k k0 kn
    rw [show k = 80 by omega]
    rfl
  | succ n ih =>
    intro k k0 kn
    have k1 : k < 80 := by omega
    rw [c2F, cv60 k0 k1, cv52 k0 k1]
    by_cases hk : inV B o k
    · have ck := hP.1 k k0 k1 hk k1
      have bk := hP.nb k0 k1 hk.1
      rw [if_neg bk]
      by_cases hi : B 52 0 k = -1
      · rw [if_neg (fun q => q.2 hi), ← ih (k + 1) (by omega) (by omega)]
        congr 1
        refine cvS_im (fun j j0 j1 hb => ⟨?_, rfl⟩)
        unfold imR
        by_cases hj : b j = k
        · rw [hj, if_neg (fun q => q.2 hi), if_neg (fun q => q.2 hi)]
        · by_cases hl : b j < k ∧ B 52 0 (b j) ≠ -1
          · rw [if_pos hl, if_pos ⟨by omega, hl.2⟩]
          · rw [if_neg hl, if_neg (fun q => hl ⟨by omega, q.2⟩)]
      · have := RB.inMount hB (j := k) (by omega) (by omega)
        rw [if_pos ⟨by omega, hi⟩, cv60 (by omega) (by omega), cv_u52 (by omega) ck.2.1 (by omega), ← ih (k + 1) (by omega) (by omega)]
        congr 1
        refine cvS_im (fun j j0 j1 hb => ⟨?_, rfl⟩)
        unfold imR
        by_cases hj : j = c k
        · rw [if_pos hj, hj, ck.2.2, if_pos ⟨by omega, hi⟩]
        · have : b j ≠ k := fun q => hj (by rw [← q]; exact (hP.bk j0 j1 hb).2.2.1.symm)
          rw [if_neg hj]
          by_cases hl : b j < k ∧ B 52 0 (b j) ≠ -1
          · rw [if_pos hl, if_pos ⟨by omega, hl.2⟩]
          · rw [if_neg hl, if_neg (fun q => hl ⟨by omega, q.2⟩)]
    · have ck := hP.2.1 k k0 k1 (fun q => hk q.1)
      rw [if_neg (fun q => q.1 ck), ← ih (k + 1) (by omega) (by omega)]
      congr 1
      refine cvS_im (fun j j0 j1 hb => ⟨?_, rfl⟩)
      unfold imR
      have : b j ≠ k := fun q => hk (by rw [← q]; exact (hP.bk j0 j1 hb).2.1)
      by_cases hl : b j < k ∧ B 52 0 (b j) ≠ -1
      · rw [if_pos hl, if_pos ⟨by omega, hl.2⟩]
      · rw [if_neg hl, if_neg (fun q => hl ⟨by omega, q.2⟩)]
theorem cvL2 (hA : WA e z) (hB : RB B) (hM : MV B v) (v0 : 0 ≤ v) (v1 : v < (e.2.1 10)) (o0 : 0 ≤ o) (o1 : o < v) (hP : MP B o 80 b c) : ∀ (n : Nat) (k : Int) (C : ST), 0 ≤ k → k + n = 80 → CM e C (cvS B v b (fun _ => -1) (-1) (imG B b c k) (ipG B b k)) → (∀ j, 0 ≤ j → j < 80 → (0 ≤ c j → (C 4 j 8) = c j) ∧ -1 ≤ (C 4 j 8) ∧ (C 4 j 8) < 80) → ∃ C', CM e C' (cvS B v b (fun _ => -1) (-1) (imG B b c 80) (ipG B b 80)) ∧ (∀ i, C' 4 i 8 = C 4 i 8) ∧ (∀ k i j, k ≠ 4 → k ≠ 17 → C' k i j = C k i j) ∧ ∀ I r, Ev (fun F => J5_copyView_66 F (rf e 5 0) (rf e 10 o) (rf e 10 v) (xk 80) (HS e C' I z)) r → Ev (fun F => J5_copyView_66 F (rf e 5 0) (rf e 10 o) (rf e 10 v) (xk k) (HS e C I z)) r := by
  have n4 := hA.2.2.2.1
  intro n
  induction n with
  | zero =>
    intro k C k0 kn hC hw
    have k80 : k = 80 := by omega
    subst k80
    exact ⟨C, hC, fun _ => rfl, fun _ _ _ _ _ => rfl, fun I r h => h⟩
  | succ n ih =>
    intro k C k0 kn hC hw
    have k1 : k < 80 := by omega
    have y := hC.2.2.1 k k0 k1
    have y2 := y.2.2.1
    rw [cv50 k0 k1, cv51 k0 k1] at y2
    by_cases hk : inV B o k
    · have ck := hP.1 k k0 k1 hk k1
      have bk := hP.nb k0 k1 hk.1
      have tk := (hw k k0 k1).1 ck.1
      rw [if_neg bk, if_neg bk, if_pos hk.1, hk.2] at y2
      have y3 := y.2.2.2.1
      have y4 := y.2.2.2.2.1
      rw [cv50 k0 k1, cv52 k0 k1, if_neg bk, if_neg bk, if_pos hk.1] at y3
      rw [cv50 k0 k1, cv53 k0 k1, if_neg bk, if_neg bk, if_pos hk.1] at y4
      by_cases hi : B 52 0 k = -1
      · have hC2 : CM e C (cvS B v b (fun _ => -1) (-1) (imG B b c (k + 1)) (ipG B b (k + 1))) := by
          have : cvS B v b (fun _ => -1) (-1) (imG B b c (k + 1)) (ipG B b (k + 1)) = cvS B v b (fun _ => -1) (-1) (imG B b c k) (ipG B b k) := by
            refine cvS_im (fun j j0 j1 hb => ?_)
            unfold imG ipG
            by_cases hj : b j = k
            · rw [hj, if_neg (fun q => q.2 hi), if_neg (fun q => q.2 hi), if_neg (fun q => q.2 hi), if_neg (fun q => q.2 hi)]
              exact ⟨rfl, rfl⟩
            · by_cases hl : b j < k ∧ B 52 0 (b j) ≠ -1
              · rw [if_pos hl, if_pos hl, if_pos ⟨by omega, hl.2⟩, if_pos ⟨by omega, hl.2⟩]
                exact ⟨rfl, rfl⟩
              · rw [if_neg hl, if_neg hl, if_neg (fun q => hl ⟨by omega, q.2⟩), if_neg (fun q => hl ⟨by omega, q.2⟩)]
                exact ⟨rfl, rfl⟩
          rw [this]
          exact hC
        obtain ⟨C', r1, r2, r3, r4⟩ := ih (k + 1) C (by omega) (by omega) hC2 hw
        refine ⟨C', r1, r2, r3, fun I r hE => ?_⟩
        have r4 := r4 I r hE
        refine Ev.step (fun F => E5_copyView_66 F _ _ _ _ _) ?_
        simp (disch := omega) only [b_18 hA, g_10_1 hA, g_4_2 hA, g_4_8 hA, g_5_0 hA, p_10_1 hA, pn_10_1 hA, Option.bind_some, up_s, up_k, up_j, up_i, xk_add, xk_sub, xk_mul, xk_neg, lk_add, lN_z, rf_none, rb1, rb0, rbp, xk_nI, zk_eq, zk_lt, zk_eq0, zk_lt0, zk_0lt, zk_long, lz_lt, lz_gt, zmax, zmin, ↓reduceIte, Int.reduceEq, Int.reduceLT, Int.reduceNeg, Int.reduceAdd, Int.reduceSub, Int.reduceMul, Int.ofNat_eq_natCast, Int.cast_ofNat_Int, y2]
        refine Ev.ite (fun _ => ?_) (fun q => absurd q (by omega))
        refine Ev.kV (σ := HS e C I z) ?_ r4
        refine Ev.step (fun F => E5_placeTwin F _ _) ?_
        simp (disch := omega) only [d_4 hA, g_4_3 hA, g_4_4 hA, g_4_8 hA, Option.bind_some, up_s, up_k, up_j, up_i, xk_add, xk_sub, xk_mul, xk_neg, lk_add, lN_z, rf_none, rb1, rb0, rbp, xk_nI, zk_eq, zk_lt, zk_eq0, zk_lt0, zk_0lt, zk_long, lz_lt, lz_gt, zmax, zmin, ↓reduceIte, Int.reduceEq, Int.reduceLT, Int.reduceNeg, Int.reduceAdd, Int.reduceSub, Int.reduceMul, Int.ofNat_eq_natCast, Int.cast_ofNat_Int, tk, y3]
        refine Ev.ite (fun q => absurd q (by omega)) (fun _ => ?_)
        exact Ev.ite (fun _ => Ev.ret rfl) (fun q => absurd q (by omega))
      · have := RB.inMount hB (j := k) (by omega) (by omega)
        have := RB.inPlace hB (j := k) (by omega) (by omega)
        have mk := hM.1 k k0 k1 hk.1
        have mi := mk.2.2 (by omega)
        generalize hii : B 52 0 k = i at *
        have hiV : inV B o i := ⟨mi.1, by rw [mi.2]; exact hk.2⟩
        have ci := hP.1 i (by omega) (by omega) hiV (by omega)
        have ti := (hw i (by omega) (by omega)).1 ci.1
        have nik : c i ≠ c k := fun q => by
          have h1 := ci.2.2
          rw [q, ck.2.2] at h1
          obtain ⟨r, T, hr⟩ := hM.2.2
          have := (hr k k0 k1 hk.1).2 (by omega)
          rw [hii, ← h1] at this
          omega
        have tfree : C 17 (c i) (B 53 0 k) < 0 := by
          by_cases q : C 17 (c i) (B 53 0 k) < 0
          · exact q
          · exfalso
            have t := (hC.2.2.1 (c i) ci.1 ci.2.1).2.2.2.2.2.2 (B 53 0 k) (by omega) (by omega)
            generalize C 17 (c i) (B 53 0 k) = xx at *
            have x0 : 0 ≤ xx := by omega
            have x1 := t.1.2
            have tt := (t.2 xx x0 x1).mpr rfl
            rw [cv50 x0 x1, cv52 x0 x1, cv53 x0 x1] at tt
            by_cases bx : 0 ≤ b xx
            · rw [if_pos bx, if_pos bx, if_pos bx] at tt
              have pb := hP.bk x0 x1 bx
              have t2 := tt.2.1
              have t3 := tt.2.2
              unfold imG at t2
              unfold ipG at t3
              by_cases hl : b xx < k ∧ B 52 0 (b xx) ≠ -1
              · rw [if_pos hl] at t2 t3
                have mb := hM.1 (b xx) bx pb.1 pb.2.1.1
                have ib := RB.inMount hB (j := b xx) bx (by omega)
                have mbi := mb.2.2 (by omega)
                have cb := hP.1 (B 52 0 (b xx)) (by omega) (by omega) ⟨mbi.1, by rw [mbi.2]; exact pb.2.1.2⟩ (by omega)
                have e1 : B 52 0 (b xx) = i := by rw [← cb.2.2, t2, ci.2.2]
                have tk2 := (hC.2.2.1 i (by omega) (by omega)).2.2.2.2.2.2 (B 53 0 k) (by omega) (by omega)
                have nbx := hP.nb bx pb.1 pb.2.1.1
                have u1 := (tk2.2 k k0 k1).mp (by
                  rw [cv50 k0 k1, cv52 k0 k1, cv53 k0 k1, if_neg bk, if_neg bk, if_neg bk]
                  exact ⟨hk.1, hii, rfl⟩)
                have u2 := (tk2.2 (b xx) bx pb.1).mp (by
                  rw [cv50 bx pb.1, cv52 bx pb.1, cv53 bx pb.1, if_neg nbx, if_neg nbx, if_neg nbx]
                  exact ⟨pb.2.1.1, e1, t3⟩)
                omega
              · rw [if_neg hl] at t2
                omega
            · rw [if_neg bx, if_neg bx, if_neg bx] at tt
              have mx := (hM.1 xx x0 x1 tt.1).2.2 (by rw [tt.2.1]; exact ci.1)
              rw [tt.2.1] at mx
              have := (hP.bk ci.1 ci.2.1 (by omega)).2.2.2
              omega
        have hC1 := hC.po ck.1 ck.2.1 ci.1 ci.2.1 (d := B 53 0 k) (by omega) (by omega) (by rw [cv50 ck.1 ck.2.1, if_pos (by omega)]) (by rw [cv52 ck.1 ck.2.1, if_pos (by omega), imG, ck.2.2, if_neg (by omega)]) nik tfree
        rw [cv_u52 ck.1 ck.2.1 (by omega), cv_u53 ck.1 ck.2.1 (by omega)] at hC1
        have hC2 : CM e (poC C (c k) (c i) (B 53 0 k) ((C 4 (c i) 5) + 1)) (cvS B v b (fun _ => -1) (-1) (imG B b c (k + 1)) (ipG B b (k + 1))) := by
          have : cvS B v b (fun _ => -1) (-1) (imG B b c (k + 1)) (ipG B b (k + 1)) = cvS B v b (fun _ => -1) (-1) (fun j => if j = c k then c i else imG B b c k j) (fun j => if j = c k then B 53 0 k else ipG B b k j) := by
            refine cvS_im (fun j j0 j1 hb => ?_)
            unfold imG ipG
            by_cases hj : j = c k
            · rw [if_pos hj, if_pos hj, hj, ck.2.2, hii, if_pos ⟨by omega, hi⟩, if_pos ⟨by omega, hi⟩]
              exact ⟨rfl, rfl⟩
            · have : b j ≠ k := fun q => hj (by rw [← q]; exact (hP.bk j0 j1 hb).2.2.1.symm)
              rw [if_neg hj, if_neg hj]
              by_cases hl : b j < k ∧ B 52 0 (b j) ≠ -1
              · rw [if_pos hl, if_pos hl, if_pos ⟨by omega, hl.2⟩, if_pos ⟨by omega, hl.2⟩]
                exact ⟨rfl, rfl⟩
              · rw [if_neg hl, if_neg hl, if_neg (fun q => hl ⟨by omega, q.2⟩), if_neg (fun q => hl ⟨by omega, q.2⟩)]
                exact ⟨rfl, rfl⟩
          rw [this]
          exact hC1
        have tw : ∀ j, poC C (c k) (c i) (B 53 0 k) ((C 4 (c i) 5) + 1) 4 j 8 = C 4 j 8 := fun j => by simp [poC, up]
        obtain ⟨C', r1, r2, r3, r4⟩ := ih (k + 1) _ (by omega) (by omega) hC2 (fun j a b' => by rw [tw]; exact hw j a b')
        refine ⟨C', r1, fun i => (r2 i).trans (tw i), fun k' i' j a b' => (r3 k' i' j a b').trans (by simp [poC, up, a, b']), fun I r hE => ?_⟩
        have r4 := r4 I r hE
        have po := putOn_ev (C := C) (I := I) hA ck.1 ck.2.1 ci.1 ci.2.1 (d := B 53 0 k) (by omega) (by omega) nik
        refine Ev.step (fun F => E5_copyView_66 F _ _ _ _ _) ?_
        simp (disch := omega) only [b_18 hA, g_10_1 hA, g_4_2 hA, g_4_8 hA, g_5_0 hA, p_10_1 hA, pn_10_1 hA, Option.bind_some, up_s, up_k, up_j, up_i, xk_add, xk_sub, xk_mul, xk_neg, lk_add, lN_z, rf_none, rb1, rb0, rbp, xk_nI, zk_eq, zk_lt, zk_eq0, zk_lt0, zk_0lt, zk_long, lz_lt, lz_gt, zmax, zmin, ↓reduceIte, Int.reduceEq, Int.reduceLT, Int.reduceNeg, Int.reduceAdd, Int.reduceSub, Int.reduceMul, Int.ofNat_eq_natCast, Int.cast_ofNat_Int, y2]
        refine Ev.ite (fun _ => ?_) (fun q => absurd q (by omega))
        refine Ev.kV (σ := HS e (poC C (c k) (c i) (B 53 0 k) ((C 4 (c i) 5) + 1)) I z) ?_ r4
        refine Ev.step (fun F => E5_placeTwin F _ _) ?_
        simp (disch := omega) only [d_4 hA, g_4_3 hA, g_4_4 hA, g_4_8 hA, Option.bind_some, up_s, up_k, up_j, up_i, xk_add, xk_sub, xk_mul, xk_neg, lk_add, lN_z, rf_none, rb1, rb0, rbp, xk_nI, zk_eq, zk_lt, zk_eq0, zk_lt0, zk_0lt, zk_long, lz_lt, lz_gt, zmax, zmin, ↓reduceIte, Int.reduceEq, Int.reduceLT, Int.reduceNeg, Int.reduceAdd, Int.reduceSub, Int.reduceMul, Int.ofNat_eq_natCast, Int.cast_ofNat_Int, tk, y3, ti, y4]
        refine Ev.ite (fun q => absurd q (by omega)) (fun _ => ?_)
        refine Ev.ite (fun q => absurd q (by omega)) (fun _ => ?_)
        try simp (maxSteps := 2000000) (disch := omega) only [d_4 hA, g_4_3 hA, g_4_4 hA, g_4_8 hA, Option.bind_some, up_s, up_k, up_j, up_i, xk_add, xk_sub, xk_mul, xk_neg, lk_add, lN_z, rf_none, rb1, rb0, rbp, xk_nI, zk_eq, zk_lt, zk_eq0, zk_lt0, zk_0lt, zk_long, lz_lt, lz_gt, zmax, zmin, ↓reduceIte, Int.reduceEq, Int.reduceLT, Int.reduceNeg, Int.reduceAdd, Int.reduceSub, Int.reduceMul, Int.ofNat_eq_natCast, Int.cast_ofNat_Int, tk, y3, ti, y4]
        refine Ev.ite (fun q => absurd q (by omega)) (fun _ => ?_)
        exact Ev.kV po (Ev.ret rfl)
    · have hC2 : CM e C (cvS B v b (fun _ => -1) (-1) (imG B b c (k + 1)) (ipG B b (k + 1))) := by
        have : cvS B v b (fun _ => -1) (-1) (imG B b c (k + 1)) (ipG B b (k + 1)) = cvS B v b (fun _ => -1) (-1) (imG B b c k) (ipG B b k) := by
          refine cvS_im (fun j j0 j1 hb => ?_)
          unfold imG ipG
          have : b j ≠ k := fun q => hk (by rw [← q]; exact (hP.bk j0 j1 hb).2.1)
          by_cases hl : b j < k ∧ B 52 0 (b j) ≠ -1
          · rw [if_pos hl, if_pos hl, if_pos ⟨by omega, hl.2⟩, if_pos ⟨by omega, hl.2⟩]
            exact ⟨rfl, rfl⟩
          · rw [if_neg hl, if_neg hl, if_neg (fun q => hl ⟨by omega, q.2⟩), if_neg (fun q => hl ⟨by omega, q.2⟩)]
            exact ⟨rfl, rfl⟩
        rw [this]
        exact hC
      obtain ⟨C', r1, r2, r3, r4⟩ := ih (k + 1) C (by omega) (by omega) hC2 hw
      refine ⟨C', r1, r2, r3, fun I r hE => ?_⟩
      have r4 := r4 I r hE
      have yb : -1 ≤ C 4 k 2 ∧ C 4 k 2 < (e.2.1 10) ∧ C 4 k 2 ≠ o := by
        rw [y2]
        by_cases q : 0 ≤ b k
        · simp only [if_pos q, if_true]; omega
        · simp only [if_neg q]
          have := RB.viewOf hB (j := k) (by omega) (by omega)
          by_cases t : B 50 0 k = 1
          · rw [if_pos t]
            have := (hM.1 k k0 k1 t).1
            exact ⟨by omega, by omega, fun u => hk ⟨t, u⟩⟩
          · rw [if_neg t]; omega
      refine Ev.step (fun F => E5_copyView_66 F _ _ _ _ _) ?_
      simp (disch := omega) only [b_18 hA, g_10_1 hA, g_4_2 hA, g_4_8 hA, g_5_0 hA, p_10_1 hA, pn_10_1 hA, Option.bind_some, up_s, up_k, up_j, up_i, xk_add, xk_sub, xk_mul, xk_neg, lk_add, lN_z, rf_none, rb1, rb0, rbp, xk_nI, zk_eq, zk_lt, zk_eq0, zk_lt0, zk_0lt, zk_long, lz_lt, lz_gt, zmax, zmin, ↓reduceIte, Int.reduceEq, Int.reduceLT, Int.reduceNeg, Int.reduceAdd, Int.reduceSub, Int.reduceMul, Int.ofNat_eq_natCast, Int.cast_ofNat_Int, rf_eq hA]
      refine Ev.ite (fun _ => ?_) (fun q => absurd q (by omega))
      exact Ev.ite (fun q => absurd q (by omega)) (fun _ => r4)
end CV
