/-! the reference: mount, unmount, copyView -/
/-- k is a peer of m with nothing on place d -/
def pkT (I : ST) (tp : Int → Int → Int) (m q d k : Int) : Int := if (k ≠ m ∧ (I 50 0 k) = 1 ∧ 0 < q ∧ (I 55 0 k) = q) ∧ tp k d < 0 then 1 else 0
def cpI (I : ST) (c : Int → Int) : ST := fun k i j => if k = 60 ∧ i = 0 ∧ 0 ≤ j ∧ j < 80 then c j else I k i j
/-- mounts on all marked ones from k on, one after the other -/
def MtR (d w q : Int) : Nat → Int → ST → ST → Prop
  | 0, _, I, I' => I' = I
  | n + 1, k, I, I' => if (I 60 0 k) = 0 then MtR d w q n (k + 1) I I' else ∃ m, FmR I m ∧ MtR d w q n (k + 1) (mkI I (I 51 0 k) k d w q m) I'
def PB (I : ST) : Prop := (∀ k, 0 ≤ k → k < 80 → 0 ≤ (I 55 0 k) ∧ (I 55 0 k) ≤ (I 12 0 36)) ∧ (I 12 0 36) < 1000000
theorem pk_b {I : ST} {tp : Int → Int → Int} {m q d k : Int} : 0 ≤ pkT I tp m q d k ∧ pkT I tp m q d k ≤ 1 := by
  unfold pkT
  split <;> omega
theorem th_b {I : ST} (hB : RB I) : 0 ≤ sm (fun k => (I 50 0 k)) 80 ∧ sm (fun k => (I 50 0 k)) 80 ≤ 80 := by
  refine ⟨sm_n0 (fun k a b => (RB.there hB a b).1), ?_⟩
  have := sm_le (f := fun k => (I 50 0 k)) (f' := fun _ => 1) (n := 80) (fun k a b => (RB.there hB a b).2)
  rw [sm_1 (by omega)] at this
  exact this
theorem sm_b1 {f : Int → Int} {n : Int} (h0 : ∀ k, 0 ≤ f k ∧ f k ≤ 1) (hn : 0 ≤ n) : 0 ≤ sm f n ∧ sm f n ≤ n := by
  refine ⟨sm_nn (fun k => (h0 k).1) _, ?_⟩
  have := sm_le (f := f) (f' := fun _ => 1) (n := n) (fun k _ _ => (h0 k).2)
  rw [sm_1 hn] at this
  exact this
section RA
variable {e : EN} {C I : ST} {z : Nat × Nat × Nat × Nat}
theorem mount228_ev (hA : WA e z) (hR : WR e) {d w q f : Int} (d0 : 0 ≤ d) (d1 : d < 15) (w0 : 0 ≤ w) (w1 : w ≤ 9) : ∀ (n : Nat) (k : Int) (I I' : ST), RB I → 0 ≤ k → k + n = 80 → MtR d w q n k I I' → Ev (fun F => J12_mount_228 F (rf e 12 0) (xk w) (xk d) (xk q) (xk f) (xk k) (HS e C I z)) (rI f (HS e C I' z)) := by
  intro n
  induction n with
  | zero =>
    intro k I I' hB k0 k1 h
    refine Ev.step (fun F => E12_mount_228 F _ _ _ _ _ _ _) ?_
    simp (disch := omega) only [a_51 hA hR, a_60 hA hR, d_12 hA hR, g_12_31 hA hR, g_12_40 hA hR, Option.bind_some, up_s, up_k, up_j, up_i, xk_add, xk_sub, xk_mul, xk_neg, lk_add, lN_z, rf_none, rb1, rb0, rbp, xk_nI, zk_eq, zk_lt, zk_eq0, zk_lt0, zk_0lt, zk_long, lz_lt, lz_gt, zmax, zmin, ↓reduceIte, Int.reduceEq, Int.reduceLT, Int.reduceNeg, Int.reduceAdd, Int.reduceSub, Int.reduceMul, Int.ofNat_eq_natCast, Int.cast_ofNat_Int]
    refine Ev.ite (fun q => absurd q (by omega)) (fun _ => Ev.ret (by rw [show I' = I from h]; rfl))
  | succ n ih =>
    intro k I I' hB k0 k1 h
    rw [MtR] at h
    have := RB.copies hB (j := k) (by omega) (by omega)
    have := RB.viewOf hB (j := k) (by omega) (by omega)
    refine Ev.step (fun F => E12_mount_228 F _ _ _ _ _ _ _) ?_
    simp (disch := omega) only [a_51 hA hR, a_60 hA hR, d_12 hA hR, g_12_31 hA hR, g_12_40 hA hR, Option.bind_some, up_s, up_k, up_j, up_i, xk_add, xk_sub, xk_mul, xk_neg, lk_add, lN_z, rf_none, rb1, rb0, rbp, xk_nI, zk_eq, zk_lt, zk_eq0, zk_lt0, zk_0lt, zk_long, lz_lt, lz_gt, zmax, zmin, ↓reduceIte, Int.reduceEq, Int.reduceLT, Int.reduceNeg, Int.reduceAdd, Int.reduceSub, Int.reduceMul, Int.ofNat_eq_natCast, Int.cast_ofNat_Int]
    refine Ev.ite (fun _ => ?_) (fun q => absurd q (by omega))
    refine Ev.ite (fun hc => ?_) (fun hc => ?_)
    · rw [if_pos hc] at h
      exact ih _ _ _ hB (by omega) (by omega) h
    · rw [if_neg hc] at h
      obtain ⟨m, hm, h⟩ := h
      refine Ev.kI (make_ev hA hR hB (by omega) (by omega) (by omega) (by omega) hm) ?_
      exact ih _ _ _ (hB.mk (by omega) (by omega) (by omega) (by omega) (by omega) (by omega) w0 w1 (by have := hm.1; omega) (by have := hm.1; omega)) (by omega) (by omega) h
theorem RB.cp {I : ST} (hB : RB I) {c : Int → Int} (hc : ∀ k, -1 ≤ c k ∧ c k ≤ 79) : RB (cpI I c) := by
  obtain ⟨h1, h2, h3, h4, h5, h6⟩ := hB
  refine ⟨fun r hr a a0 a1 => ?_, fun g g0 g1 => ?_, ?_, ?_, ?_, ?_⟩
  · have := h1 r hr a a0 a1
    have e1 : ∀ r ∈ rbt, r.1 = 60 → r.2.1 = -1 ∧ r.2.2.1 = 79 := by decide
    unfold cpI
    split
    · rename_i hh; have := e1 r hr hh.1; have := hc a; omega
    · exact this
  · have := h2 g g0 g1
    simpa [cpI] using this
  all_goals simpa [cpI]
theorem mount155_ev (hA : WA e z) (hR : WR e) (hB : RB I) (hP : PB I) {tp : Int → Int → Int} (hT : ToA I tp) {m d w q f p : Int} (m0 : 0 ≤ m) (m1 : m < 80) (d0 : 0 ≤ d) (d1 : d < 15) (w0 : 0 ≤ w) (w1 : w ≤ 9) (p0 : 0 ≤ p) (p1 : p < 2147483648) {I2 : ST} (hm : FmR I f) (h2 : MtR d w q 80 0 (mkI (cpI I (pkT I tp m p d)) (I 51 0 m) m d w q f) I2) : Ev (fun F => J12_mount_155 F (rf e 12 0) (xk w) (xk m) (xk d) (xk p) (xk q) (xk 0) (HS e C I z)) (rI f (HS e C I2 z)) := by
  refine lpN (P := fun k => ∀ I', 0 ≤ k → k ≤ 80 → I' = (fun k' i j => if k' = 60 ∧ i = 0 ∧ 0 ≤ j ∧ j < k then pkT I tp m p d j else I k' i j) → Ev (fun F => J12_mount_155 F (rf e 12 0) (xk w) (xk m) (xk d) (xk p) (xk q) (xk k) (HS e C I' z)) (rI f (HS e C I2 z))) 80 (fun k ih I' k0 k1 hI => ?_) 0 I (by omega) (by omega) (by funext k i j; rw [if_neg (by omega)])
  have hf : ∀ k' i j, k' ≠ 60 → I' k' i j = I k' i j := fun k' i j h => by rw [hI]; simp [h]
  have hB' : RB I' := by
    have : I' = cpI I (fun j => if 0 ≤ j ∧ j < k then pkT I tp m p d j else if 0 ≤ j ∧ j < 80 then (I 60 0 j) else 0) := by
      rw [hI]
      funext k' i j
      simp only [cpI]
      grind
    rw [this]
    refine hB.cp (fun j => ?_)
    have := pk_b (I := I) (tp := tp) (m := m) (q := p) (d := d) (k := j)
    split
    · omega
    · split
      · have := RB.copies hB (j := j) (by omega) (by omega)
        omega
      · omega
  have e1 := fun j => hf 51 0 j (by decide)
  refine Ev.step (fun F => E12_mount_155 F _ _ _ _ _ _ _ _) ?_
  simp (disch := omega) only [a_51 hA hR, a_60 hA hR, d_12 hA hR, g_12_31 hA hR, g_12_40 hA hR, s_51 hA hR, s_60 hA hR, Option.bind_some, up_s, up_k, up_j, up_i, xk_add, xk_sub, xk_mul, xk_neg, lk_add, lN_z, rf_none, rb1, rb0, rbp, xk_nI, zk_eq, zk_lt, zk_eq0, zk_lt0, zk_0lt, zk_long, lz_lt, lz_gt, zmax, zmin, ↓reduceIte, Int.reduceEq, Int.reduceLT, Int.reduceNeg, Int.reduceAdd, Int.reduceSub, Int.reduceMul, Int.ofNat_eq_natCast, Int.cast_ofNat_Int, e1]
  refine Ev.ite (fun h => ?_) (fun h => ?_)
  · have ih := fun I' => ih h I' (by omega) (by omega)
    have pk := hP.1 k k0 h
    have pl := hP.2
    have nx : ∀ b, b = pkT I tp m p d k → up I' 60 0 k b = (fun k' i j => if k' = 60 ∧ i = 0 ∧ 0 ≤ j ∧ j < k + 1 then pkT I tp m p d j else I k' i j) := by
      intro b hb
      rw [hI, hb]
      funext k' i j
      simp only [up]
      by_cases hj : j = k
      · subst hj
        repeat' split
        all_goals first | rfl | (exfalso; omega)
      · repeat' split
        all_goals first | rfl | (exfalso; omega)
    refine Ev.kB (isPeer_ev hA hR hB' k0 h m0 m1 p0 p1 (by rw [hf _ _ _ (by decide)]; omega) (by rw [hf _ _ _ (by decide)]; omega)) (fun hi => ?_) (fun hi => ?_)
    · rw [hf _ _ _ (by decide), hf _ _ _ (by decide)] at hi
      have hx := hT k d k0 h d0 d1
      try simp (disch := omega) only [a_51 hA hR, a_60 hA hR, d_12 hA hR, g_12_31 hA hR, g_12_40 hA hR, s_51 hA hR, s_60 hA hR, Option.bind_some, up_s, up_k, up_j, up_i, xk_add, xk_sub, xk_mul, xk_neg, lk_add, lN_z, rf_none, rb1, rb0, rbp, xk_nI, zk_eq, zk_lt, zk_eq0, zk_lt0, zk_0lt, zk_long, lz_lt, lz_gt, zmax, zmin, ↓reduceIte, Int.reduceEq, Int.reduceLT, Int.reduceNeg, Int.reduceAdd, Int.reduceSub, Int.reduceMul, Int.ofNat_eq_natCast, Int.cast_ofNat_Int]
      refine Ev.kI (mountAt_ev hA hR hB' (by omega) (by omega) (by omega) (by omega) (x := tp k d) (by rw [ToR_c (I' := I') (I := I) (fun _ => hf _ _ _ (by decide)) (fun _ => hf _ _ _ (by decide)) (fun _ => hf _ _ _ (by decide))]; exact hx)) ?_
      have := hx.1
      try simp (disch := omega) only [a_51 hA hR, a_60 hA hR, d_12 hA hR, g_12_31 hA hR, g_12_40 hA hR, s_51 hA hR, s_60 hA hR, Option.bind_some, up_s, up_k, up_j, up_i, xk_add, xk_sub, xk_mul, xk_neg, lk_add, lN_z, rf_none, rb1, rb0, rbp, xk_nI, zk_eq, zk_lt, zk_eq0, zk_lt0, zk_0lt, zk_long, lz_lt, lz_gt, zmax, zmin, ↓reduceIte, Int.reduceEq, Int.reduceLT, Int.reduceNeg, Int.reduceAdd, Int.reduceSub, Int.reduceMul, Int.ofNat_eq_natCast, Int.cast_ofNat_Int]
      refine Ev.ite (fun hq => ih _ (nx _ ?_)) (fun hq => ih _ (nx _ ?_))
      · rw [pkT, if_pos ⟨hi, by omega⟩]
      · rw [pkT, if_neg (fun y => by have := y.2; omega)]
    · rw [hf _ _ _ (by decide), hf _ _ _ (by decide)] at hi
      try simp (disch := omega) only [a_51 hA hR, a_60 hA hR, d_12 hA hR, g_12_31 hA hR, g_12_40 hA hR, s_51 hA hR, s_60 hA hR, Option.bind_some, up_s, up_k, up_j, up_i, xk_add, xk_sub, xk_mul, xk_neg, lk_add, lN_z, rf_none, rb1, rb0, rbp, xk_nI, zk_eq, zk_lt, zk_eq0, zk_lt0, zk_0lt, zk_long, lz_lt, lz_gt, zmax, zmin, ↓reduceIte, Int.reduceEq, Int.reduceLT, Int.reduceNeg, Int.reduceAdd, Int.reduceSub, Int.reduceMul, Int.ofNat_eq_natCast, Int.cast_ofNat_Int]
      refine ih _ (nx _ ?_)
      rw [pkT, if_neg (fun y => hi y.1)]
  · have : k = 80 := by omega
    subst this
    have hI : I' = cpI I (pkT I tp m p d) := hI
    have := RB.viewOf hB (j := m) (by omega) (by omega)
    try simp (disch := omega) only [a_51 hA hR, a_60 hA hR, d_12 hA hR, g_12_31 hA hR, g_12_40 hA hR, s_51 hA hR, s_60 hA hR, Option.bind_some, up_s, up_k, up_j, up_i, xk_add, xk_sub, xk_mul, xk_neg, lk_add, lN_z, rf_none, rb1, rb0, rbp, xk_nI, zk_eq, zk_lt, zk_eq0, zk_lt0, zk_0lt, zk_long, lz_lt, lz_gt, zmax, zmin, ↓reduceIte, Int.reduceEq, Int.reduceLT, Int.reduceNeg, Int.reduceAdd, Int.reduceSub, Int.reduceMul, Int.ofNat_eq_natCast, Int.cast_ofNat_Int, e1]
    have hm' : FmR I' f := ⟨hm.1, by rw [hf _ _ _ (by decide)]; exact hm.2.1, fun k a b => by rw [hf _ _ _ (by decide)]; exact hm.2.2 k a b⟩
    refine Ev.kI (make_ev hA hR hB' (by omega) (by omega) (by omega) (by omega) hm') ?_
    refine mount228_ev hA hR d0 d1 w0 w1 80 0 _ I2 (hB'.mk (by omega) (by omega) (by omega) (by omega) (by omega) (by omega) w0 w1 (by have := hm.1; omega) (by have := hm.1; omega)) (by omega) (by omega) ?_
    rw [hI]
    exact h2
theorem mount68_ev (hA : WA e z) (hR : WR e) (hB : RB I) (hP : PB I) {tp : Int → Int → Int} (hT : ToA I tp) {m d w sh p : Int} (m0 : 0 ≤ m) (m1 : m < 80) (d0 : 0 ≤ d) (d1 : d < 15) (w0 : 0 ≤ w) (w1 : w ≤ 9) (p0 : 0 ≤ p) (p1 : p < 2147483648) (s0 : 0 ≤ sh) (s1 : sh ≤ 1) {r : XV × XH} (hf : 80 < sm (fun k => (I 50 0 k)) 80 + (1 + sm (pkT I tp m p d) 80) → r = rI (-2) (HS e C I z)) (hg : sm (fun k => (I 50 0 k)) 80 + (1 + sm (pkT I tp m p d) 80) ≤ 80 → Ev (fun F => J12_mount_155 F (rf e 12 0) (xk w) (xk m) (xk d) (xk p) (xk (if sh = 0 then 0 else (I 12 0 36) + 1)) (xk 0) (HS e C (if sh = 0 then I else up I 12 0 36 ((I 12 0 36) + 1)) z)) r) : Ev (fun F => J12_mount_68 F (rf e 12 0) (xk w) (xk sh) (xk m) (xk d) (xk p) (xk 1) (xk 0) (HS e C I z)) r := by
  refine lpN (P := fun k => ∀ n, 0 ≤ k → k ≤ 80 → n = 1 + sm (pkT I tp m p d) k → Ev (fun F => J12_mount_68 F (rf e 12 0) (xk w) (xk sh) (xk m) (xk d) (xk p) (xk n) (xk k) (HS e C I z)) r) 80 (fun k ih n k0 k1 hn => ?_) 0 1 (by omega) (by omega) rfl
  refine Ev.step (fun F => E12_mount_68 F _ _ _ _ _ _ _ _ _) ?_
  simp (disch := omega) only [d_12 hA hR, g_12_36 hA hR, p_12_36 hA hR, Option.bind_some, up_s, up_k, up_j, up_i, xk_add, xk_sub, xk_mul, xk_neg, lk_add, lN_z, rf_none, rb1, rb0, rbp, xk_nI, zk_eq, zk_lt, zk_eq0, zk_lt0, zk_0lt, zk_long, lz_lt, lz_gt, zmax, zmin, ↓reduceIte, Int.reduceEq, Int.reduceLT, Int.reduceNeg, Int.reduceAdd, Int.reduceSub, Int.reduceMul, Int.ofNat_eq_natCast, Int.cast_ofNat_Int]
  refine Ev.ite (fun h => ?_) (fun h => ?_)
  · have ih := fun n => ih h n (by omega) (by omega)
    rw [sm_s k0] at ih
    have pk := hP.1 k k0 h
    have pl := hP.2
    refine Ev.kB (isPeer_ev hA hR hB k0 h m0 m1 p0 p1 (by omega) (by omega)) (fun hi => ?_) (fun hi => ?_)
    · have hx := hT k d k0 h d0 d1
      try simp (disch := omega) only [d_12 hA hR, g_12_36 hA hR, p_12_36 hA hR, Option.bind_some, up_s, up_k, up_j, up_i, xk_add, xk_sub, xk_mul, xk_neg, lk_add, lN_z, rf_none, rb1, rb0, rbp, xk_nI, zk_eq, zk_lt, zk_eq0, zk_lt0, zk_0lt, zk_long, lz_lt, lz_gt, zmax, zmin, ↓reduceIte, Int.reduceEq, Int.reduceLT, Int.reduceNeg, Int.reduceAdd, Int.reduceSub, Int.reduceMul, Int.ofNat_eq_natCast, Int.cast_ofNat_Int]
      refine Ev.kI (mountAt_ev hA hR hB (by omega) (by omega) (by omega) (by omega) (x := tp k d) hx) ?_
      have := hx.1
      try simp (disch := omega) only [d_12 hA hR, g_12_36 hA hR, p_12_36 hA hR, Option.bind_some, up_s, up_k, up_j, up_i, xk_add, xk_sub, xk_mul, xk_neg, lk_add, lN_z, rf_none, rb1, rb0, rbp, xk_nI, zk_eq, zk_lt, zk_eq0, zk_lt0, zk_0lt, zk_long, lz_lt, lz_gt, zmax, zmin, ↓reduceIte, Int.reduceEq, Int.reduceLT, Int.reduceNeg, Int.reduceAdd, Int.reduceSub, Int.reduceMul, Int.ofNat_eq_natCast, Int.cast_ofNat_Int]
      refine Ev.ite (fun hq => ih _ ?_) (fun hq => ih _ ?_)
      · rw [pkT, if_pos ⟨hi, by omega⟩]; omega
      · rw [pkT, if_neg (fun y => by have := y.2; omega)]; omega
    · try simp (disch := omega) only [d_12 hA hR, g_12_36 hA hR, p_12_36 hA hR, Option.bind_some, up_s, up_k, up_j, up_i, xk_add, xk_sub, xk_mul, xk_neg, lk_add, lN_z, rf_none, rb1, rb0, rbp, xk_nI, zk_eq, zk_lt, zk_eq0, zk_lt0, zk_0lt, zk_long, lz_lt, lz_gt, zmax, zmin, ↓reduceIte, Int.reduceEq, Int.reduceLT, Int.reduceNeg, Int.reduceAdd, Int.reduceSub, Int.reduceMul, Int.ofNat_eq_natCast, Int.cast_ofNat_Int]
      refine ih _ ?_
      rw [pkT, if_neg (fun y => hi y.1)]; omega
  · have : k = 80 := by omega
    subst this
    have tb := th_b hB
    have sb := sm_b1 (f := pkT I tp m p d) (n := 80) (fun k => pk_b) (by omega)
    refine Ev.kI (freeMounts_ev hA hR hB) ?_
    try simp (disch := omega) only [d_12 hA hR, g_12_36 hA hR, p_12_36 hA hR, Option.bind_some, up_s, up_k, up_j, up_i, xk_add, xk_sub, xk_mul, xk_neg, lk_add, lN_z, rf_none, rb1, rb0, rbp, xk_nI, zk_eq, zk_lt, zk_eq0, zk_lt0, zk_0lt, zk_long, lz_lt, lz_gt, zmax, zmin, ↓reduceIte, Int.reduceEq, Int.reduceLT, Int.reduceNeg, Int.reduceAdd, Int.reduceSub, Int.reduceMul, Int.ofNat_eq_natCast, Int.cast_ofNat_Int]
    refine Ev.ite (fun hq => Ev.ret (hf (by omega)).symm) (fun hq => ?_)
    have hg := hg (by omega)
    refine Ev.ite (fun hs => ?_) (fun hs => ?_)
    · rw [if_pos hs, if_pos hs] at hg
      exact hg
    · rw [if_neg hs, if_neg hs] at hg
      exact hg
/-- same mounts are taken away, from k on -/
def UmR (m o q : Int) : Nat → Int → ST → ST → Int → Prop
  | 0, _, I, I', c => I' = I ∧ c = 0
  | n + 1, k, I, I', c => if k ≠ o ∧ (I 50 0 k) = 1 ∧ 0 < q ∧ (I 55 0 k) = q then (∃ x, ToR I k (I 53 0 m) x ∧ if 0 ≤ x ∧ (I 54 0 x) = (I 54 0 m) ∧ sm (bzT I x) 80 ≤ 0 then UmR m o q n (k + 1) (up I 50 0 x 0) I' (c - 1) else UmR m o q n (k + 1) I I' c) else UmR m o q n (k + 1) I I' c
theorem unmount82_ev (hA : WA e z) (hR : WR e) {m o q : Int} (m0 : 0 ≤ m) (m1 : m < 80) (o0 : 0 ≤ o) (o1 : o < 80) (q0 : 0 ≤ q) (q1 : q < 2147483648) : ∀ (n : Nat) (k : Int) (I I' : ST) (c a : Int), RB I → PB I → 0 ≤ k → k + n = 80 → UmR m o q n k I I' c → Ev (fun F => J12_unmount_82 F (rf e 12 0) (xk m) (xk o) (xk a) (xk q) (xk k) (HS e C I z)) (rI (a + c) (HS e C I' z)) := by
  intro n
  induction n with
  | zero =>
    intro k I I' c a hB hP k0 k1 h
    refine Ev.step (fun F => E12_unmount_82 F _ _ _ _ _ _ _) ?_
    simp (disch := omega) only [a_50 hA hR, a_53 hA hR, a_54 hA hR, d_12 hA hR, g_12_30 hA hR, g_12_33 hA hR, g_12_34 hA hR, s_50 hA hR, s_53 hA hR, s_54 hA hR, Option.bind_some, up_s, up_k, up_j, up_i, xk_add, xk_sub, xk_mul, xk_neg, lk_add, lN_z, rf_none, rb1, rb0, rbp, xk_nI, zk_eq, zk_lt, zk_eq0, zk_lt0, zk_0lt, zk_long, lz_lt, lz_gt, zmax, zmin, ↓reduceIte, Int.reduceEq, Int.reduceLT, Int.reduceNeg, Int.reduceAdd, Int.reduceSub, Int.reduceMul, Int.ofNat_eq_natCast, Int.cast_ofNat_Int]
    refine Ev.ite (fun q => absurd q (by omega)) (fun _ => Ev.ret (by rw [h.1, h.2, Int.add_zero]; rfl))
  | succ n ih =>
    intro k I I' c a hB hP k0 k1 h
    rw [UmR] at h
    have pk := hP.1 k k0 (by omega)
    have pl := hP.2
    refine Ev.step (fun F => E12_unmount_82 F _ _ _ _ _ _ _) ?_
    simp (disch := omega) only [a_50 hA hR, a_53 hA hR, a_54 hA hR, d_12 hA hR, g_12_30 hA hR, g_12_33 hA hR, g_12_34 hA hR, s_50 hA hR, s_53 hA hR, s_54 hA hR, Option.bind_some, up_s, up_k, up_j, up_i, xk_add, xk_sub, xk_mul, xk_neg, lk_add, lN_z, rf_none, rb1, rb0, rbp, xk_nI, zk_eq, zk_lt, zk_eq0, zk_lt0, zk_0lt, zk_long, lz_lt, lz_gt, zmax, zmin, ↓reduceIte, Int.reduceEq, Int.reduceLT, Int.reduceNeg, Int.reduceAdd, Int.reduceSub, Int.reduceMul, Int.ofNat_eq_natCast, Int.cast_ofNat_Int]
    refine Ev.ite (fun _ => ?_) (fun q => absurd q (by omega))
    refine Ev.kB (isPeer_ev hA hR hB k0 (by omega) o0 o1 q0 q1 (by omega) (by omega)) (fun hi => ?_) (fun hi => ?_)
    · rw [if_pos hi] at h
      obtain ⟨x, hx, h⟩ := h
      have := RB.inPlace hB (j := m) (by omega) (by omega)
      try simp (disch := omega) only [a_50 hA hR, a_53 hA hR, a_54 hA hR, d_12 hA hR, g_12_30 hA hR, g_12_33 hA hR, g_12_34 hA hR, s_50 hA hR, s_53 hA hR, s_54 hA hR, Option.bind_some, up_s, up_k, up_j, up_i, xk_add, xk_sub, xk_mul, xk_neg, lk_add, lN_z, rf_none, rb1, rb0, rbp, xk_nI, zk_eq, zk_lt, zk_eq0, zk_lt0, zk_0lt, zk_long, lz_lt, lz_gt, zmax, zmin, ↓reduceIte, Int.reduceEq, Int.reduceLT, Int.reduceNeg, Int.reduceAdd, Int.reduceSub, Int.reduceMul, Int.ofNat_eq_natCast, Int.cast_ofNat_Int]
      refine Ev.kI (mountAt_ev hA hR hB (by omega) (by omega) (by omega) (by omega) hx) ?_
      have xb := hx.1
      try simp (disch := omega) only [a_50 hA hR, a_53 hA hR, a_54 hA hR, d_12 hA hR, g_12_30 hA hR, g_12_33 hA hR, g_12_34 hA hR, s_50 hA hR, s_53 hA hR, s_54 hA hR, Option.bind_some, up_s, up_k, up_j, up_i, xk_add, xk_sub, xk_mul, xk_neg, lk_add, lN_z, rf_none, rb1, rb0, rbp, xk_nI, zk_eq, zk_lt, zk_eq0, zk_lt0, zk_0lt, zk_long, lz_lt, lz_gt, zmax, zmin, ↓reduceIte, Int.reduceEq, Int.reduceLT, Int.reduceNeg, Int.reduceAdd, Int.reduceSub, Int.reduceMul, Int.ofNat_eq_natCast, Int.cast_ofNat_Int]
      refine Ev.ite (fun hq => ?_) (fun hq => ?_)
      · rw [if_neg (by omega)] at h
        exact ih _ _ _ _ _ hB hP (by omega) (by omega) h
      · have := RB.volumes hB (j := x) (by omega) (by omega)
        have := RB.volumes hB (j := m) (by omega) (by omega)
        try simp (disch := omega) only [a_50 hA hR, a_53 hA hR, a_54 hA hR, d_12 hA hR, g_12_30 hA hR, g_12_33 hA hR, g_12_34 hA hR, s_50 hA hR, s_53 hA hR, s_54 hA hR, Option.bind_some, up_s, up_k, up_j, up_i, xk_add, xk_sub, xk_mul, xk_neg, lk_add, lN_z, rf_none, rb1, rb0, rbp, xk_nI, zk_eq, zk_lt, zk_eq0, zk_lt0, zk_0lt, zk_long, lz_lt, lz_gt, zmax, zmin, ↓reduceIte, Int.reduceEq, Int.reduceLT, Int.reduceNeg, Int.reduceAdd, Int.reduceSub, Int.reduceMul, Int.ofNat_eq_natCast, Int.cast_ofNat_Int]
        refine Ev.ite (fun hv => ?_) (fun hv => ?_)
        · refine Ev.kB (isBusy_ev hA hR hB (by omega) (by omega)) (fun hb => ?_) (fun hb => ?_)
          · try simp (disch := omega) only [a_50 hA hR, a_53 hA hR, a_54 hA hR, d_12 hA hR, g_12_30 hA hR, g_12_33 hA hR, g_12_34 hA hR, s_50 hA hR, s_53 hA hR, s_54 hA hR, Option.bind_some, up_s, up_k, up_j, up_i, xk_add, xk_sub, xk_mul, xk_neg, lk_add, lN_z, rf_none, rb1, rb0, rbp, xk_nI, zk_eq, zk_lt, zk_eq0, zk_lt0, zk_0lt, zk_long, lz_lt, lz_gt, zmax, zmin, ↓reduceIte, Int.reduceEq, Int.reduceLT, Int.reduceNeg, Int.reduceAdd, Int.reduceSub, Int.reduceMul, Int.ofNat_eq_natCast, Int.cast_ofNat_Int]
            rw [if_neg (by omega)] at h
            exact ih _ _ _ _ _ hB hP (by omega) (by omega) h
          · try simp (disch := omega) only [a_50 hA hR, a_53 hA hR, a_54 hA hR, d_12 hA hR, g_12_30 hA hR, g_12_33 hA hR, g_12_34 hA hR, s_50 hA hR, s_53 hA hR, s_54 hA hR, Option.bind_some, up_s, up_k, up_j, up_i, xk_add, xk_sub, xk_mul, xk_neg, lk_add, lN_z, rf_none, rb1, rb0, rbp, xk_nI, zk_eq, zk_lt, zk_eq0, zk_lt0, zk_0lt, zk_long, lz_lt, lz_gt, zmax, zmin, ↓reduceIte, Int.reduceEq, Int.reduceLT, Int.reduceNeg, Int.reduceAdd, Int.reduceSub, Int.reduceMul, Int.ofNat_eq_natCast, Int.cast_ofNat_Int]
            rw [if_pos ⟨by omega, hv, by omega⟩] at h
            have := ih (k + 1) (up I 50 0 x 0) I' (c - 1) (a + 1) (RB.u_there hB (by omega) (by omega)) ⟨fun k => by rw [up_k (by decide), up_k (by decide)]; exact hP.1 k, by rw [up_k (by decide)]; exact hP.2⟩ (by omega) (by omega) h
            rw [show a + 1 + (c - 1) = a + c by omega] at this
            exact this
        · rw [if_neg (fun y => hv y.2.1)] at h
          exact ih _ _ _ _ _ hB hP (by omega) (by omega) h
    · rw [if_neg hi] at h
      try simp (disch := omega) only [a_50 hA hR, a_53 hA hR, a_54 hA hR, d_12 hA hR, g_12_30 hA hR, g_12_33 hA hR, g_12_34 hA hR, s_50 hA hR, s_53 hA hR, s_54 hA hR, Option.bind_some, up_s, up_k, up_j, up_i, xk_add, xk_sub, xk_mul, xk_neg, lk_add, lN_z, rf_none, rb1, rb0, rbp, xk_nI, zk_eq, zk_lt, zk_eq0, zk_lt0, zk_0lt, zk_long, lz_lt, lz_gt, zmax, zmin, ↓reduceIte, Int.reduceEq, Int.reduceLT, Int.reduceNeg, Int.reduceAdd, Int.reduceSub, Int.reduceMul, Int.ofNat_eq_natCast, Int.cast_ofNat_Int]
      exact ih _ _ _ _ _ hB hP (by omega) (by omega) h
def Cv1 (v o : Int) : Nat → Int → ST → ST → Prop
  | 0, _, I, I' => I' = I
  | n + 1, k, I, I' => if (I 50 0 k) = 1 ∧ (I 51 0 k) = o then ∃ m, FmR I m ∧ Cv1 v o n (k + 1) (up (mkI I v (I 52 0 k) (I 53 0 k) (I 54 0 k) (I 55 0 k) m) 60 0 k m) I' else Cv1 v o n (k + 1) I I'
def c2F : Nat → Int → ST → ST
  | 0, _, I => I
  | n + 1, k, I => if (I 60 0 k) ≠ -1 ∧ (I 52 0 k) ≠ -1 then c2F n (k + 1) (up I 52 0 (I 60 0 k) (I 60 0 ((I 52 0 k)))) else c2F n (k + 1) I
theorem copyView121_ev (hA : WA e z) (hR : WR e) {v : Int} : ∀ (n : Nat) (k : Int) (I : ST), RB I → 0 ≤ k → k + n = 80 → Ev (fun F => J12_copyView_121 F (rf e 12 0) (xk v) (xk k) (HS e C I z)) (rI v (HS e C (c2F n k I) z)) := by
  intro n
  induction n with
  | zero =>
    intro k I hB k0 k1
    refine Ev.step (fun F => E12_copyView_121 F _ _ _ _) ?_
    simp (disch := omega) only [a_52 hA hR, a_60 hA hR, g_12_32 hA hR, g_12_40 hA hR, s_52 hA hR, s_60 hA hR, Option.bind_some, up_s, up_k, up_j, up_i, xk_add, xk_sub, xk_mul, xk_neg, lk_add, lN_z, rf_none, rb1, rb0, rbp, xk_nI, zk_eq, zk_lt, zk_eq0, zk_lt0, zk_0lt, zk_long, lz_lt, lz_gt, zmax, zmin, ↓reduceIte, Int.reduceEq, Int.reduceLT, Int.reduceNeg, Int.reduceAdd, Int.reduceSub, Int.reduceMul, Int.ofNat_eq_natCast, Int.cast_ofNat_Int]
    refine Ev.ite (fun q => absurd q (by omega)) (fun _ => Ev.ret rfl)
  | succ n ih =>
    intro k I hB k0 k1
    rw [c2F]
    have := RB.copies hB (j := k) (by omega) (by omega)
    have := RB.inMount hB (j := k) (by omega) (by omega)
    refine Ev.step (fun F => E12_copyView_121 F _ _ _ _) ?_
    simp (disch := omega) only [a_52 hA hR, a_60 hA hR, g_12_32 hA hR, g_12_40 hA hR, s_52 hA hR, s_60 hA hR, Option.bind_some, up_s, up_k, up_j, up_i, xk_add, xk_sub, xk_mul, xk_neg, lk_add, lN_z, rf_none, rb1, rb0, rbp, xk_nI, zk_eq, zk_lt, zk_eq0, zk_lt0, zk_0lt, zk_long, lz_lt, lz_gt, zmax, zmin, ↓reduceIte, Int.reduceEq, Int.reduceLT, Int.reduceNeg, Int.reduceAdd, Int.reduceSub, Int.reduceMul, Int.ofNat_eq_natCast, Int.cast_ofNat_Int]
    refine Ev.ite (fun _ => ?_) (fun q => absurd q (by omega))
    refine Ev.ite (fun hc => ?_) (fun hc => ?_)
    · rw [if_neg (fun y => y.1 hc)]
      exact ih _ _ hB (by omega) (by omega)
    · refine Ev.ite (fun hm => ?_) (fun hm => ?_)
      · rw [if_neg (fun y => y.2 hm)]
        exact ih _ _ hB (by omega) (by omega)
      · rw [if_pos ⟨hc, hm⟩]
        have := RB.copies hB (j := ((I 52 0 k))) (by omega) (by omega)
        try simp (disch := omega) only [a_52 hA hR, a_60 hA hR, g_12_32 hA hR, g_12_40 hA hR, s_52 hA hR, s_60 hA hR, Option.bind_some, up_s, up_k, up_j, up_i, xk_add, xk_sub, xk_mul, xk_neg, lk_add, lN_z, rf_none, rb1, rb0, rbp, xk_nI, zk_eq, zk_lt, zk_eq0, zk_lt0, zk_0lt, zk_long, lz_lt, lz_gt, zmax, zmin, ↓reduceIte, Int.reduceEq, Int.reduceLT, Int.reduceNeg, Int.reduceAdd, Int.reduceSub, Int.reduceMul, Int.ofNat_eq_natCast, Int.cast_ofNat_Int]
        exact ih _ _ (RB.u_inMount hB (by omega) (by omega)) (by omega) (by omega)
theorem copyView42_ev (hA : WA e z) (hR : WR e) {v o : Int} (v0 : 0 ≤ v) (v1 : v < 10) (o0 : 0 ≤ o) (o1 : o < 10) : ∀ (n : Nat) (k : Int) (I I' : ST), RB I → 0 ≤ k → k + n = 80 → Cv1 v o n k I I' → Ev (fun F => J12_copyView_42 F (rf e 12 0) (xk o) (xk v) (xk 80) (xk k) (HS e C I z)) (rI v (HS e C (c2F 80 0 I') z)) := by
  intro n
  induction n with
  | zero =>
    intro k I I' hB k0 k1 h
    refine Ev.step (fun F => E12_copyView_42 F _ _ _ _ _ _) ?_
    simp (disch := omega) only [a_50 hA hR, a_51 hA hR, a_52 hA hR, a_53 hA hR, a_54 hA hR, a_55 hA hR, a_60 hA hR, d_12 hA hR, g_12_30 hA hR, g_12_31 hA hR, g_12_32 hA hR, g_12_33 hA hR, g_12_34 hA hR, g_12_35 hA hR, g_12_40 hA hR, s_50 hA hR, s_51 hA hR, s_52 hA hR, s_53 hA hR, s_54 hA hR, s_55 hA hR, s_60 hA hR, Option.bind_some, up_s, up_k, up_j, up_i, xk_add, xk_sub, xk_mul, xk_neg, lk_add, lN_z, rf_none, rb1, rb0, rbp, xk_nI, zk_eq, zk_lt, zk_eq0, zk_lt0, zk_0lt, zk_long, lz_lt, lz_gt, zmax, zmin, ↓reduceIte, Int.reduceEq, Int.reduceLT, Int.reduceNeg, Int.reduceAdd, Int.reduceSub, Int.reduceMul, Int.ofNat_eq_natCast, Int.cast_ofNat_Int]
    refine Ev.ite (fun q => absurd q (by omega)) (fun _ => ?_)
    rw [show I' = I from h]
    exact copyView121_ev hA hR 80 0 I hB (by omega) (by omega)
  | succ n ih =>
    intro k I I' hB k0 k1 h
    rw [Cv1] at h
    have := RB.there hB (j := k) (by omega) (by omega)
    have := RB.viewOf hB (j := k) (by omega) (by omega)
    have := RB.inMount hB (j := k) (by omega) (by omega)
    have := RB.inPlace hB (j := k) (by omega) (by omega)
    have := RB.volumes hB (j := k) (by omega) (by omega)
    refine Ev.step (fun F => E12_copyView_42 F _ _ _ _ _ _) ?_
    simp (disch := omega) only [a_50 hA hR, a_51 hA hR, a_52 hA hR, a_53 hA hR, a_54 hA hR, a_55 hA hR, a_60 hA hR, d_12 hA hR, g_12_30 hA hR, g_12_31 hA hR, g_12_32 hA hR, g_12_33 hA hR, g_12_34 hA hR, g_12_35 hA hR, g_12_40 hA hR, s_50 hA hR, s_51 hA hR, s_52 hA hR, s_53 hA hR, s_54 hA hR, s_55 hA hR, s_60 hA hR, Option.bind_some, up_s, up_k, up_j, up_i, xk_add, xk_sub, xk_mul, xk_neg, lk_add, lN_z, rf_none, rb1, rb0, rbp, xk_nI, zk_eq, zk_lt, zk_eq0, zk_lt0, zk_0lt, zk_long, lz_lt, lz_gt, zmax, zmin, ↓reduceIte, Int.reduceEq, Int.reduceLT, Int.reduceNeg, Int.reduceAdd, Int.reduceSub, Int.reduceMul, Int.ofNat_eq_natCast, Int.cast_ofNat_Int]
    refine Ev.ite (fun _ => ?_) (fun q => absurd q (by omega))
    refine Ev.ite (fun hc => ?_) (fun hc => ?_)
    · rw [if_neg (by omega)] at h
      exact ih _ _ _ hB (by omega) (by omega) h
    · refine Ev.ite (fun hm => ?_) (fun hm => ?_)
      · rw [if_pos (by omega)] at h
        obtain ⟨m, hf, h⟩ := h
        have hB2 := hB.mk (v := v) (o := (I 52 0 k)) (p := (I 53 0 k)) (w := (I 54 0 k)) (q := (I 55 0 k)) (m := m) (by omega) (by omega) (by omega) (by omega) (by omega) (by omega) (by omega) (by omega) (by have := hf.1; omega) (by have := hf.1; omega)
        refine Ev.kI (make_ev hA hR hB v0 v1 (by omega) (by omega) hf) ?_
        try simp (disch := omega) only [a_50 hA hR, a_51 hA hR, a_52 hA hR, a_53 hA hR, a_54 hA hR, a_55 hA hR, a_60 hA hR, d_12 hA hR, g_12_30 hA hR, g_12_31 hA hR, g_12_32 hA hR, g_12_33 hA hR, g_12_34 hA hR, g_12_35 hA hR, g_12_40 hA hR, s_50 hA hR, s_51 hA hR, s_52 hA hR, s_53 hA hR, s_54 hA hR, s_55 hA hR, s_60 hA hR, Option.bind_some, up_s, up_k, up_j, up_i, xk_add, xk_sub, xk_mul, xk_neg, lk_add, lN_z, rf_none, rb1, rb0, rbp, xk_nI, zk_eq, zk_lt, zk_eq0, zk_lt0, zk_0lt, zk_long, lz_lt, lz_gt, zmax, zmin, ↓reduceIte, Int.reduceEq, Int.reduceLT, Int.reduceNeg, Int.reduceAdd, Int.reduceSub, Int.reduceMul, Int.ofNat_eq_natCast, Int.cast_ofNat_Int]
        exact ih _ _ _ (RB.u_copies hB2 (by have := hf.1; omega) (by have := hf.1; omega)) (by omega) (by omega) h
      · rw [if_neg (by omega)] at h
        exact ih _ _ _ hB (by omega) (by omega) h
theorem copyView_ev (hA : WA e z) (hR : WR e) (hB : RB I) {o : Int} (o0 : 0 ≤ o) (o1 : o < 10) (hv : (I 12 0 28) < 10) {I1 : ST} (h1 : Cv1 (I 12 0 28) o 80 0 (cpI (up I 12 0 28 ((I 12 0 28) + 1)) (fun _ => -1)) I1) : Ev (fun F => J12_copyView F (rf e 12 0) (xk o) (HS e C I z)) (rI (I 12 0 28) (HS e C (c2F 80 0 I1) z)) := by
  have := RB.views hB
  have hB1 : RB (up I 12 0 28 ((I 12 0 28) + 1)) := hB.uS (by omega) (by omega) (by omega) (by omega)
  refine Ev.step (fun F => E12_copyView F _ _ _) ?_
  simp (disch := omega) only [g_12_28 hA hR, p_12_28 hA hR, Option.bind_some, up_s, up_k, up_j, up_i, xk_add, xk_sub, xk_mul, xk_neg, lk_add, lN_z, rf_none, rb1, rb0, rbp, xk_nI, zk_eq, zk_lt, zk_eq0, zk_lt0, zk_0lt, zk_long, lz_lt, lz_gt, zmax, zmin, ↓reduceIte, Int.reduceEq, Int.reduceLT, Int.reduceNeg, Int.reduceAdd, Int.reduceSub, Int.reduceMul, Int.ofNat_eq_natCast, Int.cast_ofNat_Int]
  refine lpN (P := fun k => ∀ I', 0 ≤ k → k ≤ 80 → I' = (fun k' i j => if k' = 60 ∧ i = 0 ∧ 0 ≤ j ∧ j < k then -1 else up I 12 0 28 ((I 12 0 28) + 1) k' i j) → Ev (fun F => J12_copyView_18 F (rf e 12 0) (xk o) (xk (I 12 0 28)) (xk 80) (xk k) (HS e C I' z)) (rI (I 12 0 28) (HS e C (c2F 80 0 I1) z))) 80 (fun k ih I' k0 k1 hI => ?_) 0 _ (by omega) (by omega) (by funext k i j; rw [if_neg (by omega)])
  refine Ev.step (fun F => E12_copyView_18 F _ _ _ _ _ _) ?_
  simp (disch := omega) only [g_12_40 hA hR, s_60 hA hR, Option.bind_some, up_s, up_k, up_j, up_i, xk_add, xk_sub, xk_mul, xk_neg, lk_add, lN_z, rf_none, rb1, rb0, rbp, xk_nI, zk_eq, zk_lt, zk_eq0, zk_lt0, zk_0lt, zk_long, lz_lt, lz_gt, zmax, zmin, ↓reduceIte, Int.reduceEq, Int.reduceLT, Int.reduceNeg, Int.reduceAdd, Int.reduceSub, Int.reduceMul, Int.ofNat_eq_natCast, Int.cast_ofNat_Int]
  refine Ev.ite (fun h => ?_) (fun h => ?_)
  · refine ih h _ (by omega) (by omega) ?_
    rw [hI]
    funext k i j
    simp only [up]
    repeat' split
    all_goals first | rfl | (exfalso; omega)
  · have : k = 80 := by omega
    subst this
    have hI : I' = cpI (up I 12 0 28 ((I 12 0 28) + 1)) (fun _ => -1) := hI
    rw [hI]
    exact copyView42_ev hA hR (by omega) hv o0 o1 80 0 _ I1 (hB1.cp (fun _ => by omega)) (by omega) (by omega) h1
end RA
