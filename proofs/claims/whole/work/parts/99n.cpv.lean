/-! the class copies a view: steps -/
def ocI (J : ST) (v w q m : Int) : ST := up (up (up (up (up (up J 50 0 m 1) 51 0 m v) 52 0 m (-1)) 53 0 m 0) 54 0 m w) 55 0 m q
def ocC (C : ST) (v w q m n : Int) : ST := up (up (up (up C 4 m 2 v) 4 m 6 w) 4 m 7 q) 5 0 3 n
def poC (C : ST) (m o d c : Int) : ST := up (up (up (up C 4 m 3 o) 4 m 4 d) 17 o d m) 4 o 5 c
section CV
variable {e : EN} {C I J : ST} {z : Nat × Nat × Nat × Nat} {v o p w q m d : Int}
theorem oc50 {j : Int} : ocI J v w q m 50 0 j = if j = m then 1 else J 50 0 j := by simp [ocI, up]
theorem oc51 {j : Int} : ocI J v w q m 51 0 j = if j = m then v else J 51 0 j := by simp [ocI, up]
theorem oc52 {j : Int} : ocI J v w q m 52 0 j = if j = m then -1 else J 52 0 j := by simp [ocI, up]
theorem oc53 {j : Int} : ocI J v w q m 53 0 j = if j = m then 0 else J 53 0 j := by simp [ocI, up]
theorem oc54 {j : Int} : ocI J v w q m 54 0 j = if j = m then w else J 54 0 j := by simp [ocI, up]
theorem oc55 {j : Int} : ocI J v w q m 55 0 j = if j = m then q else J 55 0 j := by simp [ocI, up]
theorem oc_f {k : Nat} {i j : Int} (h : k < 50 ∨ 55 < k) : ocI J v w q m k i j = J k i j := by
  unfold ocI
  repeat rw [up_k (by omega)]
theorem CM.oc (h : CM e C J) (hm : FmR J m) : CM e (ocC C v w q m ((C 5 0 3) + 1)) (ocI J v w q m) := by
  obtain ⟨⟨m0, m1⟩, hm0, hmk⟩ := hm
  obtain ⟨g1, g2, g3, g4, g5⟩ := h
  have f0 : ∀ k i j, k ≠ 4 → k ≠ 5 → ocC C v w q m ((C 5 0 3) + 1) k i j = C k i j := fun k i j a b => by simp [ocC, up, a, b]
  refine ⟨(oc_f (J := J) (k := 12) (i := 0) (j := 28) (by omega)).symm ▸ g1, fun u u0 u1 => ?_, fun k k0 k1 => ?_, ?_, ?_⟩
  · rw [oc_f (by omega)] at u1
    rw [f0 _ _ _ (by decide) (by decide), oc_f (by omega)]
    exact g2 u u0 u1
  · have y := g3 k k0 k1
    have c6 : ocC C v w q m ((C 5 0 3) + 1) 4 k 6 = if k = m then w else C 4 k 6 := by simp [ocC, up]
    have c7 : ocC C v w q m ((C 5 0 3) + 1) 4 k 7 = if k = m then q else C 4 k 7 := by simp [ocC, up]
    have c2 : ocC C v w q m ((C 5 0 3) + 1) 4 k 2 = if k = m then v else C 4 k 2 := by simp [ocC, up]
    have c3 : ocC C v w q m ((C 5 0 3) + 1) 4 k 3 = C 4 k 3 := by simp [ocC, up]
    have c4 : ocC C v w q m ((C 5 0 3) + 1) 4 k 4 = C 4 k 4 := by simp [ocC, up]
    have c5 : ocC C v w q m ((C 5 0 3) + 1) 4 k 5 = C 4 k 5 := by simp [ocC, up]
    have bz : sm (bzT (ocI J v w q m) k) 80 = sm (bzT J k) 80 := by
      refine sm_c (fun j _ _ => ?_)
      unfold bzT
      rw [oc50, oc52]
      by_cases hj : j = m
      · rw [if_pos hj, if_pos hj, hj, if_neg (by omega), if_neg (by omega)]
      · rw [if_neg hj, if_neg hj]
    rw [c6, c7, c2, c3, c4, c5, oc50, oc51, oc52, oc53, oc54, oc55, bz]
    refine ⟨?_, ?_, ?_, ?_, ?_, y.2.2.2.2.2.1, fun x x0 x1 => ?_⟩
    · rw [y.1]
    · rw [y.2.1]
    · by_cases hk : k = m
      · simp only [if_pos hk, if_true]
      · simp only [if_neg hk]; exact y.2.2.1
    · by_cases hk : k = m
      · simp only [if_pos hk, if_true]
        rw [y.2.2.2.1, if_neg (by rw [hk]; omega)]
      · simp only [if_neg hk]; exact y.2.2.2.1
    · by_cases hk : k = m
      · simp only [if_pos hk, if_true]
        rw [y.2.2.2.2.1, if_neg (by rw [hk]; omega)]
      · simp only [if_neg hk]; exact y.2.2.2.2.1
    · rw [f0 _ _ _ (by decide) (by decide)]
      have yt := y.2.2.2.2.2.2 x x0 x1
      refine ⟨yt.1, fun j j0 j1 => ?_⟩
      rw [oc50, oc52, oc53]
      by_cases hj : j = m
      · simp only [if_pos hj]
        refine ⟨fun z => absurd z.2.1 (by omega), fun z => ?_⟩
        have := (yt.2 m m0 m1).mpr (hj ▸ z)
        omega
      · simp only [if_neg hj]
        exact yt.2 j j0 j1
  · have : ocC C v w q m ((C 5 0 3) + 1) 5 0 3 = C 5 0 3 + 1 := by simp [ocC, up]
    rw [this, g4]
    have y := sm_u (f := fun k => (J 50 0 k)) (f' := fun k => ocI J v w q m 50 0 k) (n := 80) (x := m) m0 m1 (fun j _ _ hj => by rw [oc50, if_neg hj])
    rw [y, oc50, if_pos rfl, hm0]
    omega
  · rw [oc_f (by omega)]
    have : ocC C v w q m ((C 5 0 3) + 1) 5 0 5 = C 5 0 5 := by simp [ocC, up]
    rw [this]; exact g5
theorem CM.vn {a : Nat} (h : CM e C J) (v0 : 0 ≤ (J 12 0 28)) : CM (exE e 10 a) (vnC C (e.2.1 10)) (up (up J 12 0 28 ((J 12 0 28) + 1)) 49 0 (J 12 0 28) (-1)) := by
  have ej : ∀ k i j, k ≠ 49 → k ≠ 12 → up (up J 12 0 28 ((J 12 0 28) + 1)) 49 0 (J 12 0 28) (-1) k i j = J k i j := fun k i j a b => by rw [up_k a, up_k b]
  have g1 := h.1
  have e28 : up (up J 12 0 28 ((J 12 0 28) + 1)) 49 0 (J 12 0 28) (-1) 12 0 28 = (J 12 0 28) + 1 := by rw [up_k (by decide), up_s]
  have e36 : up (up J 12 0 28 ((J 12 0 28) + 1)) 49 0 (J 12 0 28) (-1) 12 0 36 = J 12 0 36 := by rw [up_k (by decide), up_j (by decide)]
  have f0 : ∀ k i j, k ≠ 10 → vnC C (e.2.1 10) k i j = C k i j := fun k i j a => by simp [vnC, a]
  have eT : ToR (up (up J 12 0 28 ((J 12 0 28) + 1)) 49 0 (J 12 0 28) (-1)) = ToR J := ToR_c (fun k => ej _ _ _ (by omega) (by omega)) (fun k => ej _ _ _ (by omega) (by omega)) (fun k => ej _ _ _ (by omega) (by omega))
  have eb : bzT (up (up J 12 0 28 ((J 12 0 28) + 1)) 49 0 (J 12 0 28) (-1)) = bzT J := by
    funext m k
    unfold bzT
    rw [ej _ _ _ (by omega) (by omega), ej _ _ _ (by omega) (by omega)]
  obtain ⟨a1, b, c, d, f⟩ := h
  refine ⟨?_, fun u u0 u1 => ?_, fun m m0 m1 => ?_, ?_, ?_⟩
  · rw [exE_n, if_pos rfl, e28, g1]
  · rw [e28] at u1
    by_cases hu : u = (J 12 0 28)
    · rw [hu, up_s]
      unfold vnC
      rw [if_pos ⟨rfl, g1.symm⟩, if_pos rfl]
    · rw [up_j hu, up_k (by decide)]
      unfold vnC
      rw [if_neg (fun y => hu (y.2.trans g1))]
      exact b u u0 (by omega)
  · have := c m m0 m1
    rw [f0 _ _ _ (by decide), f0 _ _ _ (by decide), f0 _ _ _ (by decide), f0 _ _ _ (by decide), f0 _ _ _ (by decide), f0 _ _ _ (by decide), ej 54 _ _ (by decide) (by decide), ej 55 _ _ (by decide) (by decide), ej 50 _ _ (by decide) (by decide), ej 51 _ _ (by decide) (by decide), ej 52 _ _ (by decide) (by decide), ej 53 _ _ (by decide) (by decide), eb, eT]
    refine ⟨this.1, this.2.1, this.2.2.1, this.2.2.2.1, this.2.2.2.2.1, this.2.2.2.2.2.1, fun d d0 d1 => ?_⟩
    rw [f0 _ _ _ (by decide)]
    exact this.2.2.2.2.2.2 d d0 d1
  · rw [f0 _ _ _ (by decide), d]
    congr 1
  · rw [f0 _ _ _ (by decide), e36]; exact f
theorem CM.po (h : CM e C J) (m0 : 0 ≤ m) (m1 : m < 80) (o0 : 0 ≤ o) (o1 : o < 80) (d0 : 0 ≤ d) (d1 : d < 15) (hm : (J 50 0 m) = 1) (hi : (J 52 0 m) = -1) (om : o ≠ m) (ht : (C 17 o d) < 0) : CM e (poC C m o d ((C 4 o 5) + 1)) (up (up J 52 0 m o) 53 0 m d) := by
  obtain ⟨g1, g2, g3, g4, g5⟩ := h
  have f0 : ∀ k i j, k ≠ 4 → k ≠ 17 → poC C m o d ((C 4 o 5) + 1) k i j = C k i j := fun k i j a b => by simp [poC, up, a, b]
  have ej : ∀ k i j, k ≠ 52 → k ≠ 53 → up (up J 52 0 m o) 53 0 m d k i j = J k i j := fun k i j a b => by rw [up_k b, up_k a]
  have e52 : ∀ j, up (up J 52 0 m o) 53 0 m d 52 0 j = if j = m then o else J 52 0 j := fun j => by simp [up]
  have e53 : ∀ j, up (up J 52 0 m o) 53 0 m d 53 0 j = if j = m then d else J 53 0 j := fun j => by simp [up]
  refine ⟨(ej 12 0 28 (by omega) (by omega)).symm ▸ g1, fun u u0 u1 => ?_, fun k k0 k1 => ?_, ?_, ?_⟩
  · rw [ej _ _ _ (by omega) (by omega)] at u1
    rw [f0 _ _ _ (by decide) (by decide), ej _ _ _ (by omega) (by omega)]
    exact g2 u u0 u1
  · have y := g3 k k0 k1
    have c6 : poC C m o d ((C 4 o 5) + 1) 4 k 6 = C 4 k 6 := by simp [poC, up]
    have c7 : poC C m o d ((C 4 o 5) + 1) 4 k 7 = C 4 k 7 := by simp [poC, up]
    have c2 : poC C m o d ((C 4 o 5) + 1) 4 k 2 = C 4 k 2 := by simp [poC, up]
    have c3 : poC C m o d ((C 4 o 5) + 1) 4 k 3 = if k = m then o else C 4 k 3 := by simp [poC, up]
    have c4 : poC C m o d ((C 4 o 5) + 1) 4 k 4 = if k = m then d else C 4 k 4 := by simp [poC, up]
    have c5 : poC C m o d ((C 4 o 5) + 1) 4 k 5 = if k = o then C 4 o 5 + 1 else C 4 k 5 := by simp [poC, up]
    have c17 : ∀ x, poC C m o d ((C 4 o 5) + 1) 17 k x = if k = o ∧ x = d then m else C 17 k x := fun x => by simp [poC, up]
    have bz : sm (bzT (up (up J 52 0 m o) 53 0 m d) k) 80 = sm (bzT J k) 80 + (if k = o then 1 else 0) := by
      have := sm_u (f := bzT J k) (f' := bzT (up (up J 52 0 m o) 53 0 m d) k) (n := 80) (x := m) m0 m1 (fun j _ _ hj => by unfold bzT; rw [ej _ _ _ (by decide) (by decide), e52, if_neg hj])
      rw [this]
      have a : bzT J k m = 0 := by rw [bzT, if_neg (by omega)]
      have b : bzT (up (up J 52 0 m o) 53 0 m d) k m = if k = o then 1 else 0 := by
        unfold bzT
        rw [ej _ _ _ (by decide) (by decide), e52, if_pos rfl]
        by_cases hx : k = o
        · rw [if_pos ⟨hm, hx.symm⟩, if_pos hx]
        · rw [if_neg (fun z => hx z.2.symm), if_neg hx]
      rw [a, b]
      omega
    rw [c6, c7, c2, c3, c4, c5, ej 50 _ _ (by decide) (by decide), ej 51 _ _ (by decide) (by decide), e52, e53, ej 54 _ _ (by decide) (by decide), ej 55 _ _ (by decide) (by decide), bz]
    refine ⟨y.1, y.2.1, y.2.2.1, ?_, ?_, ?_, fun x x0 x1 => ?_⟩
    · by_cases hk : k = m
      · rw [if_pos hk, if_pos hk, if_pos (by rw [hk]; exact hm)]
      · rw [if_neg hk, if_neg hk]; exact y.2.2.2.1
    · by_cases hk : k = m
      · rw [if_pos hk, if_pos hk, if_pos (by rw [hk]; exact hm)]
      · rw [if_neg hk, if_neg hk]; exact y.2.2.2.2.1
    · by_cases hk : k = o
      · rw [if_pos hk, if_pos hk, ← hk, y.2.2.2.2.2.1]
      · rw [if_neg hk, if_neg hk, y.2.2.2.2.2.1, Int.add_zero]
    · rw [c17]
      have yt := y.2.2.2.2.2.2 x x0 x1
      by_cases hk : k = o ∧ x = d
      · rw [if_pos hk]
        refine ⟨⟨by omega, m1⟩, fun j j0 j1 => ?_⟩
        rw [ej _ _ _ (by decide) (by decide), e52, e53]
        by_cases hj : j = m
        · rw [if_pos hj, if_pos hj]
          exact ⟨fun _ => hj, fun _ => ⟨hj ▸ hm, hk.1.symm, hk.2.symm⟩⟩
        · rw [if_neg hj, if_neg hj]
          refine ⟨fun z => ?_, fun z => absurd z hj⟩
          have := (yt.2 j j0 j1).mp z
          rw [hk.1, hk.2] at this
          omega
      · rw [if_neg hk]
        refine ⟨yt.1, fun j j0 j1 => ?_⟩
        rw [ej _ _ _ (by decide) (by decide), e52, e53]
        by_cases hj : j = m
        · rw [if_pos hj, if_pos hj]
          refine ⟨fun z => absurd ⟨z.2.1.symm, z.2.2.symm⟩ hk, fun z => ?_⟩
          have := (yt.2 m m0 m1).mpr (hj ▸ z)
          omega
        · rw [if_neg hj, if_neg hj]
          exact yt.2 j j0 j1
  · rw [f0 _ _ _ (by decide) (by decide), g4]
    congr 1
  · rw [ej _ _ _ (by omega) (by omega), f0 _ _ _ (by decide) (by decide)]; exact g5
theorem CM.ro (h : CM e C J) {x : Int} : CM e (up C 10 v 1 x) (up J 49 0 v x) := by
  obtain ⟨g1, g2, g3, g4, g5⟩ := h
  have ej : ∀ k i j, k ≠ 49 → up J 49 0 v x k i j = J k i j := fun k i j a => up_k a
  have f0 : ∀ k i j, k ≠ 10 → up C 10 v 1 x k i j = C k i j := fun k i j a => up_k a
  have eT : ToR (up J 49 0 v x) = ToR J := ToR_c (fun k => ej _ _ _ (by omega)) (fun k => ej _ _ _ (by omega)) (fun k => ej _ _ _ (by omega))
  have eb : bzT (up J 49 0 v x) = bzT J := by
    funext m k
    unfold bzT
    rw [ej _ _ _ (by omega), ej _ _ _ (by omega)]
  refine ⟨(ej 12 0 28 (by omega)).symm ▸ g1, fun u u0 u1 => ?_, fun k k0 k1 => ?_, ?_, ?_⟩
  · rw [ej _ _ _ (by omega)] at u1
    by_cases hu : u = v
    · rw [hu, up_s, up_s]
    · rw [up_i hu, up_j hu]; exact g2 u u0 u1
  · have y := g3 k k0 k1
    rw [f0 _ _ _ (by decide), f0 _ _ _ (by decide), f0 _ _ _ (by decide), f0 _ _ _ (by decide), f0 _ _ _ (by decide), f0 _ _ _ (by decide), ej 54 _ _ (by decide), ej 55 _ _ (by decide), ej 50 _ _ (by decide), ej 51 _ _ (by decide), ej 52 _ _ (by decide), ej 53 _ _ (by decide), eb, eT]
    refine ⟨y.1, y.2.1, y.2.2.1, y.2.2.2.1, y.2.2.2.2.1, y.2.2.2.2.2.1, fun d d0 d1 => ?_⟩
    rw [f0 _ _ _ (by decide)]
    exact y.2.2.2.2.2.2 d d0 d1
  · rw [f0 _ _ _ (by decide), g4]
    congr 1
  · rw [ej _ _ _ (by omega), f0 _ _ _ (by decide)]; exact g5
theorem occupyM_ev (hA : WA e z) (hC : CM e C J) (hv : ∀ k, 0 ≤ k → k < 80 → (J 50 0 k) = 1 → 0 ≤ (J 51 0 k)) (v0 : 0 ≤ v) (v1 : v < (e.2.1 10)) (hm : FmR J m) : Ev (fun F => J5_occupy F (rf e 5 0) (rf e 10 v) (xk w) (xk q) (HS e C I z)) (rR (rf e 4 m) (HS e (ocC C v w q m ((C 5 0 3) + 1)) I z)) := by
  have n4 := hA.2.2.2.1
  obtain ⟨⟨m0, m1⟩, hm0, hmk⟩ := hm
  refine Ev.step (fun F => E5_occupy F _ _ _ _ _) ?_
  refine lpN (P := fun k => 0 ≤ k → k ≤ m → Ev (fun F => J5_occupy_3 F (rf e 5 0) (rf e 10 v) (xk w) (xk q) (xk k) (HS e C I z)) (rR (rf e 4 m) (HS e (ocC C v w q m ((C 5 0 3) + 1)) I z))) m (fun k ih k0 k1 => ?_) 0 (by omega) m0
  have y := (hC.2.2.1 k k0 (by omega)).2.2.1
  refine Ev.step (fun F => E5_occupy_3 F _ _ _ _ _ _) ?_
  simp (disch := omega) only [b_18 hA, d_4 hA, g_4_2 hA, g_5_0 hA, g_5_3 hA, p_5_3 hA, Option.bind_some, up_s, up_k, up_j, up_i, xk_add, xk_sub, xk_mul, xk_neg, lk_add, lN_z, rf_none, rb1, rb0, rbp, xk_nI, zk_eq, zk_lt, zk_eq0, zk_lt0, zk_0lt, zk_long, lz_lt, lz_gt, zmax, zmin, ↓reduceIte, Int.reduceEq, Int.reduceLT, Int.reduceNeg, Int.reduceAdd, Int.reduceSub, Int.reduceMul, Int.ofNat_eq_natCast, Int.cast_ofNat_Int, y]
  refine Ev.ite (fun _ => ?_) (fun z => absurd z (by omega))
  by_cases h : k = m
  · subst h
    refine Ev.ite (fun _ => ?_) (fun z => absurd (by rw [if_neg (by omega)]; decide) z)
    have hb : Ev (fun F => J4_begin F (rf e 4 k) (rf e 10 v) (xk w) (xk q) (HS e C I z)) (rV (HS e (up (up (up C 4 k 2 v) 4 k 6 w) 4 k 7 q) I z)) := by
      refine Ev.step (fun F => E4_begin F _ _ _ _ _) ?_
      simp (disch := omega) only [p_4_2 hA, p_4_6 hA, p_4_7 hA, pn_4_2 hA, Option.bind_some, up_s, up_k, up_j, up_i, xk_add, xk_sub, xk_mul, xk_neg, lk_add, lN_z, rf_none, rb1, rb0, rbp, xk_nI, zk_eq, zk_lt, zk_eq0, zk_lt0, zk_0lt, zk_long, lz_lt, lz_gt, zmax, zmin, ↓reduceIte, Int.reduceEq, Int.reduceLT, Int.reduceNeg, Int.reduceAdd, Int.reduceSub, Int.reduceMul, Int.ofNat_eq_natCast, Int.cast_ofNat_Int]
      exact Ev.ret rfl
    refine Ev.kV hb ?_
    try simp (maxSteps := 2000000) (disch := omega) only [b_18 hA, d_4 hA, g_4_2 hA, g_5_0 hA, g_5_3 hA, p_5_3 hA, Option.bind_some, up_s, up_k, up_j, up_i, xk_add, xk_sub, xk_mul, xk_neg, lk_add, lN_z, rf_none, rb1, rb0, rbp, xk_nI, zk_eq, zk_lt, zk_eq0, zk_lt0, zk_0lt, zk_long, lz_lt, lz_gt, zmax, zmin, ↓reduceIte, Int.reduceEq, Int.reduceLT, Int.reduceNeg, Int.reduceAdd, Int.reduceSub, Int.reduceMul, Int.ofNat_eq_natCast, Int.cast_ofNat_Int]
    exact Ev.ret rfl
  · have := hmk k k0 (by omega)
    have := hv k k0 (by omega) this
    refine Ev.ite (fun z => absurd z (by rw [if_pos (hmk k k0 (by omega))]; omega)) (fun _ => ih (by omega) (by omega) (by omega))
end CV
