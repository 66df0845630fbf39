/-! mounts: one is added, one is taken away -/
def MI (J : ST) : Prop := (∀ k, 0 ≤ k → k < 80 → (J 50 0 k) = 1 → (J 51 0 k) < (J 12 0 28) ∧ ((J 52 0 k) < 0 → (J 49 0 ((J 51 0 k))) = k) ∧ (0 ≤ (J 52 0 k) → (J 50 0 ((J 52 0 k))) = 1 ∧ (J 51 0 ((J 52 0 k))) = (J 51 0 k))) ∧ (∀ v, 0 ≤ v → v < (J 12 0 28) → (J 50 0 ((J 49 0 v))) = 1 ∧ (J 51 0 ((J 49 0 v))) = v ∧ (J 52 0 ((J 49 0 v))) = -1 ∧ (J 53 0 ((J 49 0 v))) = 0) ∧ ∃ (r : Int → Int) (B : Int), ∀ k, 0 ≤ k → k < 80 → (J 50 0 k) = 1 → (0 ≤ r k ∧ r k ≤ B) ∧ (0 ≤ (J 52 0 k) → r (J 52 0 k) < r k)
section MK
variable {J : ST} {v o p w q m : Int}
theorem mk50 (ho : o ≠ -1) {j : Int} : mkI J v o p w q m 50 0 j = if j = m then 1 else J 50 0 j := by simp [mkI, ho, up]
theorem mk51 (ho : o ≠ -1) {j : Int} : mkI J v o p w q m 51 0 j = if j = m then v else J 51 0 j := by simp [mkI, ho, up]
theorem mk52 (ho : o ≠ -1) {j : Int} : mkI J v o p w q m 52 0 j = if j = m then o else J 52 0 j := by simp [mkI, ho, up]
theorem mk53 (ho : o ≠ -1) {j : Int} : mkI J v o p w q m 53 0 j = if j = m then p else J 53 0 j := by simp [mkI, ho, up]
theorem mk54 (ho : o ≠ -1) {j : Int} : mkI J v o p w q m 54 0 j = if j = m then w else J 54 0 j := by simp [mkI, ho, up]
theorem mk55 (ho : o ≠ -1) {j : Int} : mkI J v o p w q m 55 0 j = if j = m then q else J 55 0 j := by simp [mkI, ho, up]
theorem mk49 (ho : o ≠ -1) {j : Int} : mkI J v o p w q m 49 0 j = J 49 0 j := by simp [mkI, ho, up]
theorem MI.mk (h : MI J) (hB : RB J) (hm : FmR J m) (o0 : 0 ≤ o) (o1 : o < 80) (ho : (J 50 0 o) = 1) : MI (mkI J (J 51 0 o) o p w q m) := by
  obtain ⟨h1, h2, r, B, h3⟩ := h
  have on : o ≠ -1 := by omega
  obtain ⟨⟨m0, m1⟩, hm0, hmk⟩ := hm
  have om : o ≠ m := fun y => by rw [y] at ho; omega
  have qo := h1 o o0 o1 ho
  have q3 := h3 o o0 o1 ho
  refine ⟨fun k k0 k1 ht => ?_, fun v v0 v1 => ?_, fun k => if k = m then r o + 1 else r k, B + 1, fun k k0 k1 ht => ?_⟩
  · rw [mk50 on] at ht
    rw [mk51 on, mk52 on, mk49 on, mkI_f (by omega)]
    by_cases hk : k = m
    · rw [if_pos hk, if_pos hk]
      refine ⟨qo.1, fun y => absurd y (by omega), fun _ => ?_⟩
      rw [mk50 on, mk51 on, if_neg om, if_neg om]
      exact ⟨ho, rfl⟩
    · rw [if_neg hk] at ht
      rw [if_neg hk, if_neg hk]
      have y := h1 k k0 k1 ht
      refine ⟨y.1, y.2.1, fun y0 => ?_⟩
      have z := y.2.2 y0
      have zm : (J 52 0 k) ≠ m := fun x => by rw [x] at z; omega
      rw [mk50 on, mk51 on, if_neg zm, if_neg zm]
      exact z
  · rw [mkI_f (by omega)] at v1
    have y := h2 v v0 v1
    rw [mk49 on, mk50 on, mk51 on, mk52 on, mk53 on]
    have ym : (J 49 0 v) ≠ m := fun x => by rw [x] at y; omega
    rw [if_neg ym, if_neg ym, if_neg ym, if_neg ym]
    exact y
  · rw [mk50 on] at ht
    rw [mk52 on]
    dsimp only
    by_cases hk : k = m
    · simp only [if_pos hk, if_neg om]
      omega
    · rw [if_neg hk] at ht
      simp only [if_neg hk]
      have y := h3 k k0 k1 ht
      refine ⟨by omega, fun y0 => ?_⟩
      have z := (h1 k k0 k1 ht).2.2 y0
      have zm : (J 52 0 k) ≠ m := fun x => by rw [x] at z; omega
      rw [if_neg zm]
      exact y.2 y0
theorem bz_0 (h : sm (bzT J m) 80 ≤ 0) {k : Int} (k0 : 0 ≤ k) (k1 : k < 80) (ht : (J 50 0 k) = 1) : (J 52 0 k) ≠ m := by
  intro y
  have := sm_ge (f := bzT J m) (fun k => by unfold bzT; split <;> decide) k0 k1
  rw [show bzT J m k = 1 by rw [bzT, if_pos ⟨ht, y⟩]] at this
  omega
theorem MI.um (h : MI J) (m0 : 0 ≤ m) (m1 : m < 80) (hi : 0 ≤ (J 52 0 m)) (hz : sm (bzT J m) 80 ≤ 0) : MI (up J 50 0 m 0) := by
  obtain ⟨h1, h2, r, B, h3⟩ := h
  have e : ∀ k i j, k ≠ 50 → up J 50 0 m 0 k i j = J k i j := fun k i j a => up_k a
  have et : ∀ k, up J 50 0 m 0 50 0 k = if k = m then 0 else J 50 0 k := fun k => by simp [up]
  have nt : ∀ k, 0 ≤ k → k < 80 → up J 50 0 m 0 50 0 k = 1 → J 50 0 k = 1 ∧ k ≠ m := by
    intro k _ _ ht
    rw [et] at ht
    split at ht
    · omega
    · rename_i y; exact ⟨ht, y⟩
  refine ⟨fun k k0 k1 ht => ?_, fun v v0 v1 => ?_, r, B, fun k k0 k1 ht => ?_⟩
  · have y := nt k k0 k1 ht
    have q := h1 k k0 k1 y.1
    have nb := bz_0 hz k0 k1 y.1
    simp (disch := decide) only [e, et]
    rw [if_neg nb]
    exact q
  · rw [e _ _ _ (by decide)] at v1
    have q := h2 v v0 v1
    have : (J 49 0 v) ≠ m := fun y => by rw [y] at q; omega
    simp (disch := decide) only [e, et]
    rw [if_neg this]
    exact q
  · have y := nt k k0 k1 ht
    rw [e _ _ _ (by decide)]
    exact h3 k k0 k1 y.1
theorem MI.rin (h : MI J) {tp : Int → Int → Int} (hT : ToA J tp) : ∃ N, RiN tp N := by
  obtain ⟨h1, h2, r, B, h3⟩ := h
  have step : ∀ m d, 0 ≤ m → m < 80 → 0 ≤ d → d < 15 → 0 ≤ tp m d → (J 50 0 (tp m d)) = 1 ∧ (J 52 0 (tp m d)) = m := fun m d a b c f y => by
    have q := hT m d a b c f
    have := (q.2 (tp m d) y q.1.2).mpr rfl
    exact ⟨this.1, this.2.1⟩
  have key : ∀ (n : Nat) (m d : Int), 0 ≤ m → m < 80 → 0 ≤ d → d < 15 → (J 50 0 m) = 1 → B - r m < n → tp (riF tp n m d).1 (riF tp n m d).2 < 0 := by
    intro n
    induction n with
    | zero =>
      intro m d a b c f ht hr
      have := h3 m a b ht
      omega
    | succ n ih =>
      intro m d a b c f ht hr
      rw [riF]
      split
      · assumption
      · rename_i y
        have s := step m d a b c f (by omega)
        have tb := (hT m d a b c f).1
        have := h3 (tp m d) (by omega) tb.2 s.1
        rw [s.2] at this
        exact ih _ _ (by omega) tb.2 (by omega) (by omega) s.1 (by omega)
  refine ⟨(B + 2).toNat, fun m d a b c f => ?_⟩
  by_cases ht : (J 50 0 m) = 1
  · have := h3 m a b ht
    exact key _ m d a b c f ht (by omega)
  · have hn : tp m d < 0 := by
      by_cases y : tp m d < 0
      · exact y
      · exfalso
        have s := step m d a b c f (by omega)
        have tb := (hT m d a b c f).1
        have := (h1 (tp m d) (by omega) tb.2 s.1).2.2 (by omega)
        rw [s.2] at this
        exact ht this.1
    cases hq : (B + 2).toNat with
    | zero => exact hn
    | succ n => rw [riF, if_pos hn]; exact hn
end MK
section CL
variable {e : EN} {C I J : ST} {z : Nat × Nat × Nat × Nat}
/-- the class's row m is put on place d of row o -/
def adC (C : ST) (v o d w q m n c : Int) : ST := up (up (up (up (up (up (up (up C 4 m 2 v) 4 m 6 w) 4 m 7 q) 5 0 3 n) 4 m 3 o) 4 m 4 d) 17 o d m) 4 o 5 c
theorem Cpl.mk (hC : Cpl e C J) (hB : RB J) (hM : MI J) {o d w q m : Int} (o0 : 0 ≤ o) (o1 : o < 80) (d0 : 0 ≤ d) (d1 : d < 15) (ho : (J 50 0 o) = 1) (hm : FmR J m) (ht : (C 17 o d) < 0) : Cpl e (adC C (J 51 0 o) o d w q m ((C 5 0 3) + 1) ((C 4 o 5) + 1)) (mkI J (J 51 0 o) o d w q m) := by
  have hmm := hm
  obtain ⟨⟨m0, m1⟩, hm0, hmk⟩ := hm
  obtain ⟨h1, h2, h3, h4, h5, h6⟩ := hC
  have on : o ≠ -1 := by omega
  have om : o ≠ m := fun y => by rw [y] at ho; omega
  have f0 : ∀ k i j, k ≠ 4 → k ≠ 5 → k ≠ 17 → adC C (J 51 0 o) o d w q m ((C 5 0 3) + 1) ((C 4 o 5) + 1) k i j = C k i j := fun k i j a b c => by simp [adC, up, a, b, c]
  have ej : ∀ k i j, k < 49 ∨ 55 < k → mkI J (J 51 0 o) o d w q m k i j = J k i j := fun k i j a => mkI_f a
  refine ⟨h1.fr (fun i j => f0 _ _ _ (by decide) (by decide) (by decide)) (ej _ _ _ (by omega)) (fun k j a b => ej _ _ _ (by omega)), h2.fr (fun i j => f0 _ _ _ (by decide) (by decide) (by decide)) (fun i j => f0 _ _ _ (by decide) (by decide) (by decide)) (ej _ _ _ (by omega)) (fun j => ej _ _ _ (by omega)) (fun j => ej _ _ _ (by omega)) (fun j => ej _ _ _ (by omega)) (HoR_c (ej _ _ _ (by omega)) (fun j => by rw [ej _ _ _ (by omega)]) (fun j => ej _ _ _ (by omega))), h3.fr (fun i j _ => f0 _ _ _ (by decide) (by decide) (by decide)) (ej _ _ _ (by omega)) (fun k j a b => ej _ _ _ (by omega)) (usF_c (ej _ _ _ (by omega)) (ej _ _ _ (by omega)) (fun j => by rw [ej _ _ _ (by omega)]) (fun j => ej _ _ _ (by omega)) (fun j => ej _ _ _ (by omega)) (fun j => ej _ _ _ (by omega)) (fun j => ej _ _ _ (by omega))) (lvF_c (ej _ _ _ (by omega)) (fun j => by rw [ej _ _ _ (by omega)]) (fun j => ej _ _ _ (by omega)) (fun j => ej _ _ _ (by omega))), h4.fr (fun g => f0 _ _ _ (by decide) (by decide) (by decide)) (fun g => f0 _ _ _ (by decide) (by decide) (by decide)) (ej _ _ _ (by omega)) (ej _ _ _ (by omega)), ?_, h6.fr (f0 _ _ _ (by decide) (by decide) (by decide)) (f0 _ _ _ (by decide) (by decide) (by decide)) (fun j => f0 _ _ _ (by decide) (by decide) (by decide)) (fun i => by simp [adC, up]) (ej _ _ _ (by omega)) (ej _ _ _ (by omega))⟩
  obtain ⟨g1, g2, g3, g4, g5⟩ := h5
  refine ⟨(ej 12 0 28 (by omega)).symm ▸ g1, fun v v0 v1 => ?_, fun k k0 k1 => ?_, ?_, ?_⟩
  · rw [ej _ _ _ (by omega)] at v1
    rw [f0 _ _ _ (by decide) (by decide) (by decide), mk49 on]
    exact g2 v v0 v1
  · have y := g3 k k0 k1
    have c6 : adC C (J 51 0 o) o d w q m ((C 5 0 3) + 1) ((C 4 o 5) + 1) 4 k 6 = if k = m then w else C 4 k 6 := by simp [adC, up]
    have c7 : adC C (J 51 0 o) o d w q m ((C 5 0 3) + 1) ((C 4 o 5) + 1) 4 k 7 = if k = m then q else C 4 k 7 := by simp [adC, up]
    have c2 : adC C (J 51 0 o) o d w q m ((C 5 0 3) + 1) ((C 4 o 5) + 1) 4 k 2 = if k = m then (J 51 0 o) else C 4 k 2 := by simp [adC, up]
    have c3 : adC C (J 51 0 o) o d w q m ((C 5 0 3) + 1) ((C 4 o 5) + 1) 4 k 3 = if k = m then o else C 4 k 3 := by simp [adC, up]
    have c4 : adC C (J 51 0 o) o d w q m ((C 5 0 3) + 1) ((C 4 o 5) + 1) 4 k 4 = if k = m then d else C 4 k 4 := by simp [adC, up]
    have c5 : adC C (J 51 0 o) o d w q m ((C 5 0 3) + 1) ((C 4 o 5) + 1) 4 k 5 = if k = o then C 4 o 5 + 1 else C 4 k 5 := by simp [adC, up]
    have c17 : ∀ x, adC C (J 51 0 o) o d w q m ((C 5 0 3) + 1) ((C 4 o 5) + 1) 17 k x = if k = o ∧ x = d then m else C 17 k x := fun x => by simp [adC, up]
    rw [c6, c7, c2, c3, c4, c5, mk50 on, mk51 on, mk52 on, mk53 on, mk54 on, mk55 on]
    have bz : ∀ x, sm (bzT (mkI J (J 51 0 o) o d w q m) x) 80 = sm (bzT J x) 80 + (if x = o then 1 else 0) := by
      intro x
      have := sm_u (f := bzT J x) (f' := bzT (mkI J (J 51 0 o) o d w q m) x) (n := 80) (x := m) m0 m1 (fun j _ _ hj => by unfold bzT; rw [mk50 on, mk52 on, if_neg hj, if_neg hj])
      rw [this]
      have a : bzT J x m = 0 := by rw [bzT, if_neg (by omega)]
      have b : bzT (mkI J (J 51 0 o) o d w q m) x m = if x = o then 1 else 0 := by
        unfold bzT
        rw [mk50 on, mk52 on, if_pos rfl, if_pos rfl]
        by_cases hx : x = o
        · rw [if_pos ⟨rfl, hx.symm⟩, if_pos hx]
        · rw [if_neg (fun z => hx z.2.symm), if_neg hx]
      rw [a, b]
      omega
    refine ⟨?_, ?_, ?_, ?_, ?_, ?_, fun x x0 x1 => ?_⟩
    · rw [y.1]
    · rw [y.2.1]
    · by_cases hk : k = m
      · rw [if_pos hk, if_pos hk, if_pos rfl, if_pos hk]
      · rw [if_neg hk, if_neg hk, if_neg hk]; exact y.2.2.1
    · by_cases hk : k = m
      · rw [if_pos hk, if_pos hk, if_pos rfl, if_pos hk]
      · rw [if_neg hk, if_neg hk, if_neg hk]; exact y.2.2.2.1
    · by_cases hk : k = m
      · rw [if_pos hk, if_pos hk, if_pos rfl, if_pos hk]
      · rw [if_neg hk, if_neg hk, if_neg hk]; exact y.2.2.2.2.1
    · rw [bz k]
      by_cases hk : k = o
      · rw [if_pos hk, if_pos hk, ← hk, y.2.2.2.2.2.1]
      · rw [if_neg hk, if_neg hk, y.2.2.2.2.2.1, Int.add_zero]
    · rw [c17]
      have yt := y.2.2.2.2.2.2 x x0 x1
      by_cases hk : k = o ∧ x = d
      · rw [if_pos hk]
        refine ⟨⟨by omega, m1⟩, fun j j0 j1 => ?_⟩
        rw [mk50 on, mk52 on, mk53 on]
        by_cases hj : j = m
        · rw [if_pos hj, if_pos hj, if_pos hj]
          exact ⟨fun _ => hj, fun _ => ⟨rfl, hk.1.symm, hk.2.symm⟩⟩
        · rw [if_neg hj, if_neg hj, if_neg hj]
          refine ⟨fun z => ?_, fun z => absurd z hj⟩
          have := (yt.2 j j0 j1).mp z
          rw [hk.1, hk.2] at this
          omega
      · rw [if_neg hk]
        refine ⟨yt.1, fun j j0 j1 => ?_⟩
        rw [mk50 on, mk52 on, mk53 on]
        by_cases hj : j = m
        · rw [if_pos hj, if_pos hj, if_pos hj]
          refine ⟨fun z => absurd ⟨z.2.1.symm, z.2.2.symm⟩ hk, fun z => ?_⟩
          have := (yt.2 m m0 m1).mpr (hj ▸ z)
          omega
        · rw [if_neg hj, if_neg hj, if_neg hj]
          exact yt.2 j j0 j1
  · have : adC C (J 51 0 o) o d w q m ((C 5 0 3) + 1) ((C 4 o 5) + 1) 5 0 3 = C 5 0 3 + 1 := by simp [adC, up]
    rw [this, g4]
    have y := sm_u (f := fun k => (J 50 0 k)) (f' := fun k => mkI J (J 51 0 o) o d w q m 50 0 k) (n := 80) (x := m) m0 m1 (fun j _ _ hj => by rw [mk50 on, if_neg hj])
    rw [y, mk50 on, if_pos rfl, hm0]
    omega
  · rw [ej _ _ _ (by omega)]
    have : adC C (J 51 0 o) o d w q m ((C 5 0 3) + 1) ((C 4 o 5) + 1) 5 0 5 = C 5 0 5 := by simp [adC, up]
    rw [this]; exact g5
theorem occupy_ev (hA : WA e z) (hC : Cpl e C J) (hB : RB J) {v w q m : Int} (v0 : 0 ≤ v) (v1 : v < (e.2.1 10)) (hm : FmR J m) : Ev (fun F => J5_occupy F (rf e 5 0) (rf e 10 v) (xk w) (xk q) (HS e C I z)) (rR (rf e 4 m) (HS e (up (up (up (up C 4 m 2 v) 4 m 6 w) 4 m 7 q) 5 0 3 ((C 5 0 3) + 1)) I z)) := by
  have n4 := hA.2.2.2.1
  obtain ⟨⟨m0, m1⟩, hm0, hmk⟩ := hm
  refine Ev.step (fun F => E5_occupy F _ _ _ _ _) ?_
  refine lpN (P := fun k => 0 ≤ k → k ≤ m → Ev (fun F => J5_occupy_3 F (rf e 5 0) (rf e 10 v) (xk w) (xk q) (xk k) (HS e C I z)) (rR (rf e 4 m) (HS e (up (up (up (up C 4 m 2 v) 4 m 6 w) 4 m 7 q) 5 0 3 ((C 5 0 3) + 1)) I z))) m (fun k ih k0 k1 => ?_) 0 (by omega) m0
  have y := (hC.2.2.2.2.1.2.2.1 k k0 (by omega)).2.2.1
  have := RB.viewOf hB (j := k) (by omega) (by omega)
  refine Ev.step (fun F => E5_occupy_3 F _ _ _ _ _ _) ?_
  simp (disch := omega) only [b_18 hA, d_4 hA, g_4_2 hA, g_5_0 hA, g_5_3 hA, p_5_3 hA, Option.bind_some, up_s, up_k, up_j, up_i, xk_add, xk_sub, xk_mul, xk_neg, lk_add, lN_z, rf_none, rb1, rb0, rbp, xk_nI, zk_eq, zk_lt, zk_eq0, zk_lt0, zk_0lt, zk_long, lz_lt, lz_gt, zmax, zmin, ↓reduceIte, Int.reduceEq, Int.reduceLT, Int.reduceNeg, Int.reduceAdd, Int.reduceSub, Int.reduceMul, Int.ofNat_eq_natCast, Int.cast_ofNat_Int, y]
  refine Ev.ite (fun _ => ?_) (fun z => absurd z (by omega))
  by_cases h : k = m
  · subst h
    refine Ev.ite (fun _ => ?_) (fun z => absurd (by rw [if_neg (by omega)]; decide) z)
    have hb : Ev (fun F => J4_begin F (rf e 4 k) (rf e 10 v) (xk w) (xk q) (HS e C I z)) (rV (HS e (up (up (up C 4 k 2 v) 4 k 6 w) 4 k 7 q) I z)) := by
      refine Ev.step (fun F => E4_begin F _ _ _ _ _) ?_
      simp (disch := omega) only [p_4_2 hA, p_4_6 hA, p_4_7 hA, pn_4_2 hA, Option.bind_some, up_s, up_k, up_j, up_i, xk_add, xk_sub, xk_mul, xk_neg, lk_add, lN_z, rf_none, rb1, rb0, rbp, xk_nI, zk_eq, zk_lt, zk_eq0, zk_lt0, zk_0lt, zk_long, lz_lt, lz_gt, zmax, zmin, ↓reduceIte, Int.reduceEq, Int.reduceLT, Int.reduceNeg, Int.reduceAdd, Int.reduceSub, Int.reduceMul, Int.ofNat_eq_natCast, Int.cast_ofNat_Int]
      exact Ev.ret rfl
    refine Ev.kV hb ?_
    try simp (maxSteps := 2000000) (disch := omega) only [b_18 hA, d_4 hA, g_4_2 hA, g_5_0 hA, g_5_3 hA, p_5_3 hA, Option.bind_some, up_s, up_k, up_j, up_i, xk_add, xk_sub, xk_mul, xk_neg, lk_add, lN_z, rf_none, rb1, rb0, rbp, xk_nI, zk_eq, zk_lt, zk_eq0, zk_lt0, zk_0lt, zk_long, lz_lt, lz_gt, zmax, zmin, ↓reduceIte, Int.reduceEq, Int.reduceLT, Int.reduceNeg, Int.reduceAdd, Int.reduceSub, Int.reduceMul, Int.ofNat_eq_natCast, Int.cast_ofNat_Int]
    exact Ev.ret rfl
  · have := hmk k k0 (by omega)
    refine Ev.ite (fun z => absurd z (by rw [if_pos this]; omega)) (fun _ => ih (by omega) (by omega) (by omega))
theorem putOn_ev (hA : WA e z) {m o d : Int} (m0 : 0 ≤ m) (m1 : m < 80) (o0 : 0 ≤ o) (o1 : o < 80) (d0 : 0 ≤ d) (d1 : d < 15) (om : o ≠ m) : Ev (fun F => J4_putOn F (rf e 4 m) (rf e 4 o) (xk d) (HS e C I z)) (rV (HS e (up (up (up (up C 4 m 3 o) 4 m 4 d) 17 o d m) 4 o 5 ((C 4 o 5) + 1)) I z)) := by
  have n4 := hA.2.2.2.1
  refine Ev.step (fun F => E4_putOn F _ _ _ _) ?_
  simp (disch := omega) only [d_4 hA, p_4_3 hA, p_4_4 hA, pn_4_3 hA, Option.bind_some, up_s, up_k, up_j, up_i, xk_add, xk_sub, xk_mul, xk_neg, lk_add, lN_z, rf_none, rb1, rb0, rbp, xk_nI, zk_eq, zk_lt, zk_eq0, zk_lt0, zk_0lt, zk_long, lz_lt, lz_gt, zmax, zmin, ↓reduceIte, Int.reduceEq, Int.reduceLT, Int.reduceNeg, Int.reduceAdd, Int.reduceSub, Int.reduceMul, Int.ofNat_eq_natCast, Int.cast_ofNat_Int]
  refine Ev.kV (σ := HS e (up (up (up (up C 4 m 3 o) 4 m 4 d) 17 o d m) 4 o 5 ((C 4 o 5) + 1)) I z) ?_ (Ev.ret rfl)
  refine Ev.step (fun F => E4_cover F _ _ _ _) ?_
  simp (disch := omega) only [g_4_1 hA, g_4_5 hA, p_4_5 hA, s_17 hA, sn_17 hA, Option.bind_some, up_s, up_k, up_j, up_i, xk_add, xk_sub, xk_mul, xk_neg, lk_add, lN_z, rf_none, rb1, rb0, rbp, xk_nI, zk_eq, zk_lt, zk_eq0, zk_lt0, zk_0lt, zk_long, lz_lt, lz_gt, zmax, zmin, ↓reduceIte, Int.reduceEq, Int.reduceLT, Int.reduceNeg, Int.reduceAdd, Int.reduceSub, Int.reduceMul, Int.ofNat_eq_natCast, Int.cast_ofNat_Int]
  refine Ev.ite (fun q => absurd q (by omega)) (fun _ => ?_)
  refine Ev.ite (fun _ => ?_) (fun q => absurd q (by omega))
  refine Ev.ite (fun q => absurd q (by omega)) (fun _ => Ev.ret rfl)
theorem addOne_ev (hA : WA e z) (hC : Cpl e C J) (hT : TI J) (hM : MI J) {o d w q m : Int} (o0 : 0 ≤ o) (o1 : o < 80) (d0 : 0 ≤ d) (d1 : d < 15) (ho : (J 50 0 o) = 1) (hm : FmR J m) : Ev (fun F => J5_addOne F (rf e 5 0) (rf e 4 o) (xk d) (xk w) (xk q) (HS e C I z)) (rI m (HS e (adC C (J 51 0 o) o d w q m ((C 5 0 3) + 1) ((C 4 o 5) + 1)) I z)) := by
  have n8 := hC.1.1
  have n7 := hC.2.1.1
  have n1 := hC.2.2.1.1
  have n10 := hC.2.2.2.2.1.1
  have hB := hT.1
  have := RB.tasks hB
  have := RB.spaces hB
  have := RB.groups hB
  have := RB.views hB
  have n4 := hA.2.2.2.1
  have om : o ≠ m := fun y => by have := hm.2.1; rw [y] at ho; omega
  have mb := hm.1
  have y := (hC.2.2.2.2.1.2.2.1 o o0 o1).2.2.1
  rw [if_pos ho] at y
  have vb := (hM.1 o o0 o1 ho).1
  have := RB.viewOf hB (j := o) (by omega) (by omega)
  refine Ev.step (fun F => E5_addOne F _ _ _ _ _ _) ?_
  simp (disch := omega) only [d_4 hA, d_5 hA, g_4_0 hA, g_4_2 hA, Option.bind_some, up_s, up_k, up_j, up_i, xk_add, xk_sub, xk_mul, xk_neg, lk_add, lN_z, rf_none, rb1, rb0, rbp, xk_nI, zk_eq, zk_lt, zk_eq0, zk_lt0, zk_0lt, zk_long, lz_lt, lz_gt, zmax, zmin, ↓reduceIte, Int.reduceEq, Int.reduceLT, Int.reduceNeg, Int.reduceAdd, Int.reduceSub, Int.reduceMul, Int.ofNat_eq_natCast, Int.cast_ofNat_Int, y]
  refine Ev.kR (occupy_ev hA hC hB (by omega) (by omega) hm) ?_
  try simp (maxSteps := 2000000) (disch := omega) only [d_4 hA, d_5 hA, g_4_0 hA, g_4_2 hA, Option.bind_some, up_s, up_k, up_j, up_i, xk_add, xk_sub, xk_mul, xk_neg, lk_add, lN_z, rf_none, rb1, rb0, rbp, xk_nI, zk_eq, zk_lt, zk_eq0, zk_lt0, zk_0lt, zk_long, lz_lt, lz_gt, zmax, zmin, ↓reduceIte, Int.reduceEq, Int.reduceLT, Int.reduceNeg, Int.reduceAdd, Int.reduceSub, Int.reduceMul, Int.ofNat_eq_natCast, Int.cast_ofNat_Int]
  refine Ev.ite (fun q => absurd q (by omega)) (fun _ => ?_)
  refine Ev.kV (putOn_ev hA (by omega) (by omega) o0 o1 d0 d1 om) ?_
  try simp (maxSteps := 2000000) (disch := omega) only [d_4 hA, d_5 hA, g_4_0 hA, g_4_2 hA, Option.bind_some, up_s, up_k, up_j, up_i, xk_add, xk_sub, xk_mul, xk_neg, lk_add, lN_z, rf_none, rb1, rb0, rbp, xk_nI, zk_eq, zk_lt, zk_eq0, zk_lt0, zk_0lt, zk_long, lz_lt, lz_gt, zmax, zmin, ↓reduceIte, Int.reduceEq, Int.reduceLT, Int.reduceNeg, Int.reduceAdd, Int.reduceSub, Int.reduceMul, Int.ofNat_eq_natCast, Int.cast_ofNat_Int]
  refine Ev.ret ?_
  unfold adC
  rfl
end CL
