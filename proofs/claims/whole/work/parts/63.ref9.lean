/-! the reference: makeRoom -/
section LV
variable {J : ST} {v : Int}
theorem lv_f {k : Nat} {i j : Int} (h : k ≠ 22 ∧ k ≠ 23 ∧ k ≠ 27 ∧ k ≠ 32) : lvI J v k i j = J k i j := by
  unfold lvI lzI
  split <;> simp [fgA, emI, emP, enI, enN, h]
theorem lv_s {j : Int} (h : lvI J v 22 0 j = 0) : J 22 0 j = 0 ∧ j ≠ v := by
  unfold lvI lzI at h
  split at h
  · simp only [fgA, emI, emP, enI, enN] at h
    grind
  · simp only [fgA, enI, enN] at h
    grind
theorem lv_p {j : Int} (h : 0 ≤ J 27 0 j) : lvI J v 27 0 j ≤ J 27 0 j := by
  unfold lvI lzI
  split
  · simp only [fgA, emI, emP, enI, enN]
    grind
  · simp only [fgA, enI, enN]
    grind
end LV
theorem sm_n0 {f : Int → Int} {n : Int} (h : ∀ k, 0 ≤ k → k < n → 0 ≤ f k) : 0 ≤ sm f n := by
  have := sm_le (f := fun _ => 0) (f' := f) (n := n) h
  have z : sm (fun _ => 0) n = 0 := by
    unfold sm
    generalize n.toNat = m
    induction m with
    | zero => rfl
    | succ m ih => rw [smN, ih]; rfl
  omega
theorem usF_n {J : ST} (hB : RB J) {g : Int} : 0 ≤ usF J g := by
  have := RB.tasks hB
  have := RB.groups hB
  have h1 : 0 ≤ sm (usT J g) (J 12 0 1) := sm_n0 (fun k k0 k1 => by
    have := RB.pages hB (j := k) (by omega) (by omega)
    unfold usT
    split <;> omega)
  have h2 : 0 ≤ sm (usK J g) (J 12 0 17) := sm_n0 (fun k k0 k1 => by
    have := RB.cached hB (j := k) (by omega) (by omega)
    unfold usK
    split <;> omega)
  unfold usF
  omega
/-- no group uses more than it may -/
def GU (J : ST) : Prop := ∀ g, 0 ≤ g → g < (J 12 0 17) → usF J g ≤ (J 40 0 g)
/-- J' has fewer live tasks, pages and caches than J, all else that groups show is the same -/
def LE (J J' : ST) : Prop := (∀ k i j, k ≠ 22 → k ≠ 23 → k ≠ 27 → k ≠ 32 → k ≠ 43 → (k ≠ 12 ∨ j ≠ 27) → J' k i j = J k i j) ∧ (∀ j, J' 22 0 j = 0 → J 22 0 j = 0) ∧ (∀ j, 0 ≤ j → j < 150 → J' 27 0 j ≤ J 27 0 j) ∧ ∀ j, 0 ≤ j → j < 20 → J' 43 0 j ≤ J 43 0 j
theorem LE.r {J : ST} : LE J J := ⟨fun _ _ _ _ _ _ _ _ _ => rfl, fun _ h => h, fun _ _ _ => Int.le_refl _, fun _ _ _ => Int.le_refl _⟩
theorem LE.t {J J' J'' : ST} (h : LE J J') (h' : LE J' J'') : LE J J'' := by
  refine ⟨fun k i j a b c d e f => (h'.1 k i j a b c d e f).trans (h.1 k i j a b c d e f), fun j q => h.2.1 j (h'.2.1 j q), fun j a b => Int.le_trans (h'.2.2.1 j a b) (h.2.2.1 j a b), fun j a b => Int.le_trans (h'.2.2.2 j a b) (h.2.2.2 j a b)⟩
theorem LE.us {J J' : ST} (h : LE J J') (hB : RB J) {g : Int} : usF J' g ≤ usF J g := by
  obtain ⟨h1, h2, h3, h4⟩ := h
  have ew : win J' = win J := win_c (fun k => h1 _ _ _ (by omega) (by omega) (by omega) (by omega) (by omega) (by omega))
  have et : J' 12 0 1 = J 12 0 1 := h1 _ _ _ (by omega) (by omega) (by omega) (by omega) (by omega) (by omega)
  have eg : J' 12 0 17 = J 12 0 17 := h1 _ _ _ (by omega) (by omega) (by omega) (by omega) (by omega) (by omega)
  have := RB.tasks hB
  have := RB.groups hB
  have a1 : sm (usT J' g) (J 12 0 1) ≤ sm (usT J g) (J 12 0 1) := sm_le (fun k k0 k1 => by
    have := RB.pages hB (j := k) (by omega) (by omega)
    have := h3 k k0 (by omega)
    have e := h1 25 0 k (by omega) (by omega) (by omega) (by omega) (by omega) (by omega)
    unfold usT
    rw [ew, e]
    by_cases q : J' 22 0 k = 0 ∧ win J (J 25 0 k) g = true
    · rw [if_pos q, if_pos ⟨h2 k q.1, q.2⟩]; omega
    · rw [if_neg q]; split <;> omega)
  have a2 : sm (usK J' g) (J 12 0 17) ≤ sm (usK J g) (J 12 0 17) := sm_le (fun k k0 k1 => by
    have := RB.cached hB (j := k) (by omega) (by omega)
    have := h4 k k0 (by omega)
    unfold usK
    rw [ew]
    split <;> omega)
  unfold usF
  rw [et, eg]
  omega
theorem LE.gu {J J' : ST} (h : LE J J') (hB : RB J) (hU : GU J) : GU J' := by
  intro g g0 g1
  have e1 := h.1 12 0 17 (by omega) (by omega) (by omega) (by omega) (by omega) (by omega)
  have e2 := h.1 40 0 g (by omega) (by omega) (by omega) (by omega) (by omega) (by omega)
  have := hU g g0 (by omega)
  have := h.us hB (g := g)
  rw [e2]
  omega
theorem LE.lv {J : ST} (hB : RB J) {v : Int} : LE J (lvI J v) := by
  refine ⟨fun k i j a b c d _ _ => lv_f ⟨a, b, c, d⟩, fun j h => (lv_s h).1, fun j a b => ?_, fun j _ _ => ?_⟩
  · have := RB.pages hB (j := j) (by omega) (by omega)
    exact lv_p (by omega)
  · rw [lv_f (by decide)]; exact Int.le_refl _
theorem LE.vi {J : ST} {v : Int} : LE J (up J 12 0 27 v) := by
  refine ⟨fun k i j a b c d e f => ?_, fun j h => ?_, fun j a b => ?_, fun j _ _ => ?_⟩
  · unfold up; rw [if_neg (by omega)]
  · rwa [up_k (by decide)] at h
  · rw [up_k (by decide)]; exact Int.le_refl _
  · rw [up_k (by decide)]; exact Int.le_refl _
theorem RB.vi {J : ST} (hB : RB J) {v : Int} : RB (up J 12 0 27 v) := hB.uS (by omega) (by omega) (by omega) (by omega)
theorem TI.vi {J : ST} (h : TI J) {v : Int} : TI (up J 12 0 27 v) := h.pg h.1.vi (fun k i j a b c => by unfold up; rw [if_neg (by omega)])
theorem tc_inv {g : Int} : ∀ (n : Nat) (J : ST) (l : Int), TI J → TI (tcF g n J l) ∧ LE J (tcF g n J l) ∧ ∀ j, tcF g n J l 22 0 j = J 22 0 j := by
  intro n
  induction n with
  | zero => intro J l h; exact ⟨h, LE.r, fun _ => rfl⟩
  | succ n ih =>
    intro J l h
    rw [tcF]
    split
    · split
      · exact ⟨h, LE.r, fun _ => rfl⟩
      · have hB := h.1
        have b := rcF_b hB (g := g)
        have := RB.groups hB
        have := RB.cached hB (j := (rcF J g)) (by omega) (by omega)
        have q : RB (up J 43 0 (rcF J g) ((J 43 0 (rcF J g)) - min (J 43 0 (rcF J g)) l)) := RB.u_cached hB (by omega) (by omega)
        have h' : TI (up J 43 0 (rcF J g) ((J 43 0 (rcF J g)) - min (J 43 0 (rcF J g)) l)) := h.pg q (fun k i j a b c => by rw [up_k b])
        have := ih _ (l - min (J 43 0 (rcF J g)) l) h'
        refine ⟨this.1, LE.t ⟨fun k i j a b c d e f => up_k e, fun j q => ?_, fun j a b => ?_, fun j a b => ?_⟩ this.2.1, fun j => ?_⟩
        · rwa [up_k (by decide)] at q
        · rw [up_k (by decide)]; exact Int.le_refl _
        · by_cases hj : j = rcF J g
          · rw [hj, up_s]; omega
          · rw [up_j hj]; exact Int.le_refl _
        · rw [this.2.2 j, up_k (by decide)]
    · exact ⟨h, LE.r, fun _ => rfl⟩
/-- victims are killed, m at most -/
def kvF (t g n : Int) : Nat → ST → Int × ST
  | 0, J => (0, J)
  | m + 1, J => if (J 40 0 g) < usF J g + n then (if viF J g < 0 then (-3, J) else (if lvI (up J 12 0 27 ((J 12 0 27) + 1)) (viF J g) 22 0 t = 0 then kvF t g n m (lvI (up J 12 0 27 ((J 12 0 27) + 1)) (viF J g)) else (-5, lvI (up J 12 0 27 ((J 12 0 27) + 1)) (viF J g)))) else (0, J)
theorem vi_inv {J : ST} {g v : Int} (h : TI J) (q : ¬ viF J g < 0) : TI (lvI (up J 12 0 27 v) (viF J g)) ∧ LE J (lvI (up J 12 0 27 v) (viF J g)) := by
  have hB := h.1
  have b := viF_b hB (g := g)
  have p := viF_p hB (g := g) (by omega)
  refine ⟨TI.lv h.vi (by omega) ?_ ?_, LE.t LE.vi (LE.lv hB.vi)⟩
  · rw [up_j (by decide)]; exact b.2
  · rw [up_k (by decide)]; omega
theorem kv_inv {t g n : Int} : ∀ (m : Nat) (J : ST), TI J → (J 22 0 t) = 0 → TI (kvF t g n m J).2 ∧ LE J (kvF t g n m J).2 ∧ (¬ (kvF t g n m J).1 < 0 → (kvF t g n m J).1 = 0 ∧ (kvF t g n m J).2 22 0 t = 0) := by
  intro m
  induction m with
  | zero => intro J h ht; exact ⟨h, LE.r, fun _ => ⟨rfl, ht⟩⟩
  | succ m ih =>
    intro J h ht
    rw [kvF]
    split
    · split
      · exact ⟨h, LE.r, fun q => absurd (by show (-3 : Int) < 0; decide) q⟩
      · rename_i q
        have := vi_inv (v := (J 12 0 27) + 1) h q
        split
        · rename_i hs
          have i := ih _ this.1 hs
          exact ⟨i.1, LE.t this.2 i.2.1, i.2.2⟩
        · exact ⟨this.1, this.2, fun q => absurd (by show (-5 : Int) < 0; decide) q⟩
    · exact ⟨h, LE.r, fun _ => ⟨rfl, ht⟩⟩
/-- how many may be killed -/
def kcT (J : ST) (k : Int) : Int := if k ≠ 0 ∧ (J 22 0 k) = 0 then 1 else 0
def kcF (J : ST) : Int := sm (kcT J) (J 12 0 1)
theorem kc_lv {J : ST} (hB : RB J) {v : Int} (v0 : 0 < v) (v1 : v < (J 12 0 1)) (hv : (J 22 0 v) = 0) : kcF (lvI J v) < kcF J := by
  unfold kcF
  rw [lv_f (by decide)]
  have : sm (kcT (lvI J v)) (J 12 0 1) ≤ sm (fun k => if k = v then 0 else kcT J k) (J 12 0 1) := sm_le (fun k k0 k1 => by
    unfold kcT
    by_cases q : k ≠ 0 ∧ lvI J v 22 0 k = 0
    · have := lv_s q.2
      rw [if_pos q, if_neg this.2, if_pos ⟨q.1, this.1⟩]; exact Int.le_refl _
    · rw [if_neg q]; split
      · decide
      · split <;> decide)
  have e := sm_u (f := kcT J) (f' := fun k => if k = v then 0 else kcT J k) (n := (J 12 0 1)) (x := v) (by omega) v1 (fun k _ _ hk => by rw [if_neg hk])
  rw [if_pos rfl, show kcT J v = 1 by rw [kcT, if_pos ⟨by omega, hv⟩]] at e
  omega
theorem kc_b {J : ST} (hB : RB J) : kcF J < 150 := by
  have := RB.tasks hB
  have h : ∀ m : Nat, smN (kcT J) (m + 1) ≤ m := by
    intro m
    induction m with
    | zero => rw [smN, smN, kcT, if_neg (by omega)]; decide
    | succ m ih =>
      rw [smN]
      have : kcT J ((m + 1 : Nat) : Int) ≤ 1 := by unfold kcT; split <;> decide
      omega
  have := h ((J 12 0 1) - 1).toNat
  unfold kcF sm
  rw [show (J 12 0 1).toNat = ((J 12 0 1) - 1).toNat + 1 by omega]
  omega
theorem kc_0 {J : ST} (hB : RB J) {g : Int} (h : kcF J ≤ 0) : viF J g < 0 := by
  by_cases q : viF J g < 0
  · exact q
  · exfalso
    have b := viF_b hB (g := g)
    have p := viF_p hB (g := g) (by omega)
    have := sm_ge (f := kcT J) (fun k => by unfold kcT; split <;> decide) (t := viF J g) (by omega) b.2
    rw [show kcT J (viF J g) = 1 by rw [kcT, if_pos ⟨p.1, p.2.1⟩]] at this
    unfold kcF at h
    omega
section RA
variable {e : EN} {C : ST} {z : Nat × Nat × Nat × Nat}
theorem makeRoom28_ev (hA : WA e z) (hR : WR e) {t n f g : Int} (n0 : 0 ≤ n) (n1 : n ≤ 1000000) (t0 : 0 ≤ t) (g0 : 0 ≤ g) (g1 : g < 20) : ∀ (m : Nat) (I : ST), TI I → GU I → t < (I 12 0 1) → g < (I 12 0 17) → (I 22 0 t) = 0 → kcF I < m → ∀ r, ((kvF t g n m I).1 < 0 → r = rI (kvF t g n m I).1 (HS e C (kvF t g n m I).2 z)) → (¬ (kvF t g n m I).1 < 0 → usF (kvF t g n m I).2 g + n ≤ (I 40 0 g) → Ev (fun F => xci (J12_tooFull F (rf e 12 0) (xk f) (xk n) (HS e C (kvF t g n m I).2 z)) fun v14 s13 => J12_makeRoom_15 F (rf e 12 0) (xk t) (xk n) (xk f) v14 s13) r) → Ev (fun F => J12_makeRoom_28 F (rf e 12 0) (xk t) (xk n) (xk f) (xk g) (HS e C I z)) r := by
  intro m
  induction m with
  | zero =>
    intro I hT hU t1 g1 ht hc r hz hk
    have hB := hT.1
    exfalso
    have : 0 ≤ kcF I := sm_nn (fun k => by unfold kcT; split <;> decide) _
    omega
  | succ m ih =>
    intro I hT hU t1 g1 ht hc r hz hk
    have hB := hT.1
    have u0 := usF_n hB (g := g)
    have u1 := hU g g0 g1
    have := RB.max hB (j := g) (by omega) (by omega)
    have := RB.tasks hB
    rw [kvF] at hz hk
    refine Ev.step (fun F => E12_makeRoom_28 F _ _ _ _ _ _) ?_
    simp (disch := omega) only [a_22 hA hR, a_40 hA hR, d_12 hA hR, g_12_2 hA hR, g_12_20 hA hR, g_12_27 hA hR, p_12_27 hA hR, Option.bind_some, up_s, up_k, up_j, up_i, xk_add, xk_sub, xk_mul, xk_neg, lk_add, lN_z, rf_none, rb1, rb0, rbp, xk_nI, zk_eq, zk_lt, zk_eq0, zk_lt0, zk_0lt, zk_long, lz_lt, lz_gt, zmax, zmin, ↓reduceIte, Int.reduceEq, Int.reduceLT, Int.reduceNeg, Int.reduceAdd, Int.reduceSub, Int.reduceMul, Int.ofNat_eq_natCast, Int.cast_ofNat_Int]
    refine Ev.kI (uses_ev hA hR hB (by omega) (by omega)) ?_
    try simp (disch := omega) only [a_22 hA hR, a_40 hA hR, d_12 hA hR, g_12_2 hA hR, g_12_20 hA hR, g_12_27 hA hR, p_12_27 hA hR, Option.bind_some, up_s, up_k, up_j, up_i, xk_add, xk_sub, xk_mul, xk_neg, lk_add, lN_z, rf_none, rb1, rb0, rbp, xk_nI, zk_eq, zk_lt, zk_eq0, zk_lt0, zk_0lt, zk_long, lz_lt, lz_gt, zmax, zmin, ↓reduceIte, Int.reduceEq, Int.reduceLT, Int.reduceNeg, Int.reduceAdd, Int.reduceSub, Int.reduceMul, Int.ofNat_eq_natCast, Int.cast_ofNat_Int]
    refine Ev.ite (fun h => ?_) (fun h => ?_)
    · rw [if_pos h] at hz hk
      refine Ev.kI (victim_ev hA hR hB (by omega) (by omega)) ?_
      have b := viF_b hB (g := g)
      try simp (disch := omega) only [a_22 hA hR, a_40 hA hR, d_12 hA hR, g_12_2 hA hR, g_12_20 hA hR, g_12_27 hA hR, p_12_27 hA hR, Option.bind_some, up_s, up_k, up_j, up_i, xk_add, xk_sub, xk_mul, xk_neg, lk_add, lN_z, rf_none, rb1, rb0, rbp, xk_nI, zk_eq, zk_lt, zk_eq0, zk_lt0, zk_0lt, zk_long, lz_lt, lz_gt, zmax, zmin, ↓reduceIte, Int.reduceEq, Int.reduceLT, Int.reduceNeg, Int.reduceAdd, Int.reduceSub, Int.reduceMul, Int.ofNat_eq_natCast, Int.cast_ofNat_Int]
      refine Ev.ite (fun hv => ?_) (fun hv => ?_)
      · rw [if_pos (by omega)] at hz
        exact Ev.ret (hz (by show (-3 : Int) < 0; decide)).symm
      · have hv' : ¬ viF I g < 0 := by omega
        rw [if_neg hv'] at hz hk
        have p := viF_p hB (g := g) (by omega)
        have hV := hT.vi (v := (I 12 0 27) + 1)
        have e1 : up I 12 0 27 ((I 12 0 27) + 1) 12 0 1 = (I 12 0 1) := up_j (by decide)
        have e2 : up I 12 0 27 ((I 12 0 27) + 1) 22 0 (viF I g) = (I 22 0 (viF I g)) := up_k (by decide)
        have hL := leave_ev (C := C) hA hR hV.1 (t := viF I g) (by omega) (by omega) (by omega) (fun q => hV.sp0 (by omega) (by omega) q) (fun q => hV.leave (by omega) (by omega) (by omega) q)
        refine Ev.kI hL ?_
        have i := vi_inv (v := (I 12 0 27) + 1) hT hv'
        have bs := RB.state i.1.1 (j := t) t0 (by omega)
        try simp (disch := omega) only [a_22 hA hR, a_40 hA hR, d_12 hA hR, g_12_2 hA hR, g_12_20 hA hR, g_12_27 hA hR, p_12_27 hA hR, Option.bind_some, up_s, up_k, up_j, up_i, xk_add, xk_sub, xk_mul, xk_neg, lk_add, lN_z, rf_none, rb1, rb0, rbp, xk_nI, zk_eq, zk_lt, zk_eq0, zk_lt0, zk_0lt, zk_long, lz_lt, lz_gt, zmax, zmin, ↓reduceIte, Int.reduceEq, Int.reduceLT, Int.reduceNeg, Int.reduceAdd, Int.reduceSub, Int.reduceMul, Int.ofNat_eq_natCast, Int.cast_ofNat_Int]
        have et : lvI (up I 12 0 27 ((I 12 0 27) + 1)) (viF I g) 12 0 1 = (I 12 0 1) := (lv_f (by decide)).trans e1
        have eg : lvI (up I 12 0 27 ((I 12 0 27) + 1)) (viF I g) 12 0 17 = (I 12 0 17) := (lv_f (by decide)).trans (up_j (by decide))
        have em : lvI (up I 12 0 27 ((I 12 0 27) + 1)) (viF I g) 40 0 g = (I 40 0 g) := (lv_f (by decide)).trans (up_k (by decide))
        refine Ev.ite (fun hs => ?_) (fun hs => ?_)
        · rw [if_pos hs] at hz hk
          refine ih _ i.1 (i.2.gu hB hU) (by omega) (by omega) hs ?_ r hz (by rw [em]; exact hk)
          have := kc_lv hV.1 (v := viF I g) (by omega) (by omega) (by omega)
          have ek : kcF (up I 12 0 27 ((I 12 0 27) + 1)) = kcF I := by
            unfold kcF
            rw [e1]
            exact sm_c (fun k _ _ => by unfold kcT; rw [up_k (by decide)])
          omega
        · rw [if_neg hs] at hz
          exact Ev.ret (hz (by show (-5 : Int) < 0; decide)).symm
    · rw [if_neg h] at hk
      exact hk (by show ¬ (0 : Int) < 0; decide) (by show usF I g + n ≤ _; omega)
end RA
/-! the whole of makeRoom -/
theorem win_n1 {J : ST} (hB : RB J) : ∀ k, -1 ≤ k → k < 20 → win J k (-1) = true := by
  intro k hk
  refine lpD (P := fun k => k < 20 → win J k (-1) = true) (fun k k0 ih k1 => ?_) k hk
  rw [win_u hB k0 k1]
  by_cases h : k = -1
  · rw [if_pos h]
  · have := RB.ww hB k (by omega) k1
    rw [if_neg h, if_neg (by omega)]
    exact ih _ (by omega) (by omega) (by omega)
def tfS (J : ST) (n g : Int) : Int := tfF J n 20 g
theorem tfF_m {J : ST} (hB : RB J) {n : Int} : ∀ (m : Nat) (g : Int), g < m → g < 20 → tfF J n m g = tfF J n (m + 1) g
  | 0, g, h, _ => by rw [tfF, tfF, if_pos (by omega)]
  | m + 1, g, h, h' => by
    rw [tfF, tfF]
    by_cases q : g < 0
    · rw [if_pos q, if_pos q]
    · have := RB.ww hB g (by omega) h'
      rw [if_neg q, if_neg q, tfF_m hB m _ (by omega) (by omega)]
theorem tf_u {J : ST} (hB : RB J) {n g : Int} (g1 : g < 20) : tfS J n g = if g < 0 then g else if (J 40 0 g) < usF J g + n then g else tfS J n (J 38 0 g) := by
  unfold tfS
  rw [tfF_m hB 20 g (by omega) g1, tfF]
theorem tf_b {J : ST} (hB : RB J) {n : Int} : ∀ g, -1 ≤ g → g < 20 → -1 ≤ tfS J n g ∧ tfS J n g ≤ g := by
  intro g hg
  refine lpD (P := fun g => g < 20 → -1 ≤ tfS J n g ∧ tfS J n g ≤ g) (fun g g0 ih g1 => ?_) g hg
  rw [tf_u hB g1]
  split
  · omega
  · split
    · omega
    · have := RB.ww hB g (by omega) g1
      have := ih (J 38 0 g) (by omega) (by omega) (by omega)
      omega
/-- of the groups from f on all before g have room -/
def Bf (J : ST) (n f g : Int) : Prop := ∀ k, 0 ≤ k → k < (J 12 0 17) → win J f k = true → win J g k = false → usF J k + n ≤ (J 40 0 k)
theorem Bf.tf {J : ST} (hB : RB J) {n g : Int} (g0 : -1 ≤ g) : ∀ f, -1 ≤ f → f < (J 12 0 17) → f < 20 → win J f g = true → Bf J n f g → tfS J n f = tfS J n g := by
  have := RB.groups hB
  intro f hf
  refine lpD (P := fun f => f < (J 12 0 17) → f < 20 → win J f g = true → Bf J n f g → tfS J n f = tfS J n g) (fun f f0 ih f1 f2 hw hb => ?_) f hf
  by_cases h : f = g
  · rw [h]
  · have q := chn_w (RB.ww hB) f0 f2 hw h
    have ge := chn_le (RB.ww hB) f f0 f2 hw
    have hn : win J g f = false := by
      rw [← Bool.not_eq_true]
      intro w
      have := chn_le (RB.ww hB) g g0 (by omega) w
      omega
    have hr := hb f q.1 f1 chn_r hn
    have := RB.ww hB f q.1 f2
    rw [tf_u hB f2, if_neg (by omega), if_neg (by omega)]
    refine ih _ (by omega) (by omega) (by omega) (by omega) q.2 (fun k k0 k1 a b => hb k k0 k1 ?_ b)
    rw [win_u hB f0 f2, if_neg (by omega : ¬ f < 0)]
    split
    · rfl
    · exact a
def mrF (t n : Int) : Nat → ST → Int → Int × ST
  | 0, J, _ => (0, J)
  | m + 1, J, g => if g < 0 then (0, J) else if (kvF t g n 150 (tcI J g n)).1 < 0 then kvF t g n 150 (tcI J g n) else mrF t n m (kvF t g n 150 (tcI J g n)).2 (J 38 0 g)
theorem mr_inv {t n : Int} : ∀ (m : Nat) (J : ST) (g : Int), TI J → (J 22 0 t) = 0 → TI (mrF t n m J g).2 ∧ LE J (mrF t n m J g).2 ∧ (¬ (mrF t n m J g).1 < 0 → (mrF t n m J g).1 = 0 ∧ (mrF t n m J g).2 22 0 t = 0) := by
  intro m
  induction m with
  | zero => intro J g h ht; exact ⟨h, LE.r, fun _ => ⟨rfl, ht⟩⟩
  | succ m ih =>
    intro J g h ht
    rw [mrF]
    split
    · exact ⟨h, LE.r, fun _ => ⟨rfl, ht⟩⟩
    · have i := tc_inv (g := g) 20 J (usF J g + n - (J 40 0 g)) h
      have k := kv_inv (t := t) (g := g) (n := n) 150 (tcI J g n) i.1 ((i.2.2 t).trans ht)
      split
      · rename_i q
        exact ⟨k.1, LE.t i.2.1 k.2.1, fun q' => absurd q q'⟩
      · rename_i q
        have := ih (kvF t g n 150 (tcI J g n)).2 (J 38 0 g) k.1 (k.2.2 q).2
        exact ⟨this.1, LE.t (LE.t i.2.1 k.2.1) this.2.1, this.2.2⟩
section RA
variable {e : EN} {C : ST} {z : Nat × Nat × Nat × Nat}
theorem makeRoom15_ev (hA : WA e z) (hR : WR e) {t n f : Int} (n0 : 0 ≤ n) (n1 : n ≤ 1000000) (t0 : 0 ≤ t) : ∀ g, -1 ≤ g → ∀ (I : ST) (m : Nat), TI I → GU I → t < (I 12 0 1) → g < (I 12 0 17) → 0 ≤ f → f < (I 12 0 17) → (I 22 0 t) = 0 → win I f g = true → Bf I n f g → g < m → Ev (fun F => J12_makeRoom_15 F (rf e 12 0) (xk t) (xk n) (xk f) (xk (tfS I n g)) (HS e C I z)) (rI (mrF t n m I g).1 (HS e C (mrF t n m I g).2 z)) := by
  intro g hg
  refine lpD (P := fun g => ∀ (I : ST) (m : Nat), TI I → GU I → t < (I 12 0 1) → g < (I 12 0 17) → 0 ≤ f → f < (I 12 0 17) → (I 22 0 t) = 0 → win I f g = true → Bf I n f g → g < m → Ev (fun F => J12_makeRoom_15 F (rf e 12 0) (xk t) (xk n) (xk f) (xk (tfS I n g)) (HS e C I z)) (rI (mrF t n m I g).1 (HS e C (mrF t n m I g).2 z))) (fun g g0 ih I m hT hU t1 g1 f0 f1 ht hw hb hm => ?_) g hg
  have hB := hT.1
  have := RB.groups hB
  have := RB.tasks hB
  by_cases hn : g < 0
  · rw [tf_u hB (by omega), if_pos hn, show g = -1 by omega]
    refine Ev.step (fun F => E12_makeRoom_15 F _ _ _ _ _ _) ?_
    simp (disch := omega) only [d_12 hA hR, Option.bind_some, up_s, up_k, up_j, up_i, xk_add, xk_sub, xk_mul, xk_neg, lk_add, lN_z, rf_none, rb1, rb0, rbp, xk_nI, zk_eq, zk_lt, zk_eq0, zk_lt0, zk_0lt, zk_long, lz_lt, lz_gt, zmax, zmin, ↓reduceIte, Int.reduceEq, Int.reduceLT, Int.reduceNeg, Int.reduceAdd, Int.reduceSub, Int.reduceMul, Int.ofNat_eq_natCast, Int.cast_ofNat_Int]
    refine Ev.ret ?_
    cases m with
    | zero => rfl
    | succ m => rw [mrF, if_pos (by omega)]; rfl
  · obtain ⟨m, rfl⟩ : ∃ m' : Nat, m = m' + 1 := ⟨m - 1, by omega⟩
    have w := RB.ww hB g (by omega) (by omega)
    have hw' : win I f (I 38 0 g) = true := chn_o (RB.ww hB) f0 (by omega) hw (by omega)
    have u0 := usF_n hB (g := g)
    have u1 := hU g (by omega) g1
    have bm := RB.max hB (j := g) (by omega) (by omega)
    have wk : ∀ k, win I f k = true → win I (I 38 0 g) k = false → win I g k = true → k = g := by
      intro k _ a b
      rw [win_u hB g0 (by omega)] at b
      by_cases h : g = k
      · exact h.symm
      · rw [if_neg h, if_neg hn, a] at b
        exact absurd b (by decide)
    rw [mrF, if_neg hn]
    by_cases hf : (I 40 0 g) < usF I g + n
    · rw [tf_u hB (by omega), if_neg hn, if_pos hf]
      refine Ev.step (fun F => E12_makeRoom_15 F _ _ _ _ _ _) ?_
      simp (disch := omega) only [d_12 hA hR, Option.bind_some, up_s, up_k, up_j, up_i, xk_add, xk_sub, xk_mul, xk_neg, lk_add, lN_z, rf_none, rb1, rb0, rbp, xk_nI, zk_eq, zk_lt, zk_eq0, zk_lt0, zk_0lt, zk_long, lz_lt, lz_gt, zmax, zmin, ↓reduceIte, Int.reduceEq, Int.reduceLT, Int.reduceNeg, Int.reduceAdd, Int.reduceSub, Int.reduceMul, Int.ofNat_eq_natCast, Int.cast_ofNat_Int]
      have i := tc_inv (g := g) 20 I (usF I g + n - (I 40 0 g)) hT
      have le : ∀ {I' : ST}, LE I I' → I' 12 0 1 = (I 12 0 1) ∧ I' 12 0 17 = (I 12 0 17) ∧ (∀ k, I' 40 0 k = (I 40 0 k)) ∧ win I' = win I ∧ (∀ k, I' 38 0 k = (I 38 0 k)) := fun h => ⟨h.1 _ _ _ (by omega) (by omega) (by omega) (by omega) (by omega) (by omega), h.1 _ _ _ (by omega) (by omega) (by omega) (by omega) (by omega) (by omega), fun k => h.1 _ _ _ (by omega) (by omega) (by omega) (by omega) (by omega) (by omega), win_c (fun k => h.1 _ _ _ (by omega) (by omega) (by omega) (by omega) (by omega) (by omega)), fun k => h.1 _ _ _ (by omega) (by omega) (by omega) (by omega) (by omega) (by omega)⟩
      refine Ev.ite (fun q => absurd q (by omega)) (fun _ => ?_)
      refine Ev.kV (σ := HS e C (tcI I g n) z) ?_ ?_
      · refine Ev.step (fun F => E12_takeCache F _ _ _ _) ?_
        simp (disch := omega) only [a_40 hA hR, d_12 hA hR, g_12_20 hA hR, Option.bind_some, up_s, up_k, up_j, up_i, xk_add, xk_sub, xk_mul, xk_neg, lk_add, lN_z, rf_none, rb1, rb0, rbp, xk_nI, zk_eq, zk_lt, zk_eq0, zk_lt0, zk_0lt, zk_long, lz_lt, lz_gt, zmax, zmin, ↓reduceIte, Int.reduceEq, Int.reduceLT, Int.reduceNeg, Int.reduceAdd, Int.reduceSub, Int.reduceMul, Int.ofNat_eq_natCast, Int.cast_ofNat_Int]
        refine Ev.kI (uses_ev hA hR hB (by omega) (by omega)) ?_
        try simp (disch := omega) only [a_40 hA hR, d_12 hA hR, g_12_20 hA hR, Option.bind_some, up_s, up_k, up_j, up_i, xk_add, xk_sub, xk_mul, xk_neg, lk_add, lN_z, rf_none, rb1, rb0, rbp, xk_nI, zk_eq, zk_lt, zk_eq0, zk_lt0, zk_0lt, zk_long, lz_lt, lz_gt, zmax, zmin, ↓reduceIte, Int.reduceEq, Int.reduceLT, Int.reduceNeg, Int.reduceAdd, Int.reduceSub, Int.reduceMul, Int.ofNat_eq_natCast, Int.cast_ofNat_Int]
        refine takeCache15_ev hA hR (by omega) (by omega) 20 I _ hB (by omega) (by omega) ?_
        have := sm_le (f := pcT I g) (f' := fun _ => 1) (n := (I 12 0 17)) (fun k _ _ => by unfold pcT; split <;> decide)
        have s1 : ∀ m : Nat, smN (fun _ => 1) m = m := by
          intro m
          induction m with
          | zero => rfl
          | succ m ih => rw [smN, ih]; rfl
        have := s1 (I 12 0 17).toNat
        unfold sm at *
        omega
      · have l1 := le i.2.1
        have hs : tcI I g n 22 0 t = 0 := (i.2.2 t).trans ht
        have k := kv_inv (t := t) (g := g) (n := n) 150 (tcI I g n) i.1 hs
        have l2 := le (LE.t i.2.1 k.2.1)
        refine makeRoom28_ev hA hR n0 n1 t0 (by omega) (by omega) 150 (tcI I g n) i.1 (i.2.1.gu hB hU) (by rw [show tcI I g n 12 0 1 = (I 12 0 1) from l1.1]; exact t1) (by rw [show tcI I g n 12 0 17 = (I 12 0 17) from l1.2.1]; exact g1) hs (kc_b i.1.1) _ (fun q => by rw [if_pos q]) (fun q hr => ?_)
        rw [if_neg q]
        rw [show tcI I g n 40 0 g = (I 40 0 g) from l1.2.2.1 g] at hr
        have hB2 := k.1.1
        have hU2 := (LE.t i.2.1 k.2.1).gu hB hU
        have hb2 : Bf (kvF t g n 150 (tcI I g n)).2 n f (I 38 0 g) := by
          intro x x0 x1 a b
          rw [l2.2.1] at x1
          rw [l2.2.2.2.1] at a b
          rw [l2.2.2.1]
          by_cases h : win I g x = true
          · rw [wk x a b h]; exact hr
          · rw [Bool.not_eq_true] at h
            have := hb x x0 x1 a h
            have := (LE.t i.2.1 k.2.1).us hB (g := x)
            omega
        refine Ev.kI (σ := HS e C (kvF t g n 150 (tcI I g n)).2 z) (x := tfS (kvF t g n 150 (tcI I g n)).2 n f) ?_ ?_
        · refine Ev.step (fun F => E12_tooFull F _ _ _ _) ?_
          refine tooFull_ev hA hR hB2 n0 n1 (fun g a b => ⟨usF_n hB2, ?_⟩) (fun g a b => ?_) 20 f (by omega) (by omega) (by omega)
          · have := hU2 g a b
            have := RB.groups hB
            have := RB.groups hB2
            have := RB.max hB2 (j := g) (by omega) (by omega)
            omega
          · have := RB.groups hB2
            have := RB.ww hB2 g (by omega) (by omega)
            omega
        · rw [Bf.tf hB2 (by omega) f (by omega) (by omega) (by omega) (by rw [l2.2.2.2.1]; exact hw') hb2]
          refine ih (I 38 0 g) (by omega) (by omega) _ m k.1 hU2 (by omega) (by omega) f0 (by omega) (k.2.2 q).2 (by rw [l2.2.2.2.1]; exact hw') hb2 (by omega)
    · have e1 : tcI I g n = I := tcF_0 (by omega)
      have e2 : kvF t g n 150 I = (0, I) := by rw [kvF, if_neg hf]
      rw [tf_u hB (by omega), if_neg hn, if_neg hf, e1, e2, if_neg (by show ¬ (0 : Int) < 0; decide)]
      refine ih (I 38 0 g) (by omega) (by omega) I m hT hU t1 (by omega) f0 f1 ht hw' (fun k k0 k1 a b => ?_) (by omega)
      by_cases h : win I g k = true
      · rw [wk k a b h]; omega
      · rw [Bool.not_eq_true] at h
        exact hb k k0 k1 a h
def mrI (J : ST) (t n : Int) : Int × ST := mrF t n 20 J (J 25 0 t)
theorem makeRoom_ev {I : ST} (hA : WA e z) (hR : WR e) {t n : Int} (n0 : 0 ≤ n) (n1 : n ≤ 1000000) (t0 : 0 ≤ t) (hT : TI I) (hU : GU I) (t1 : t < (I 12 0 1)) (ht : (I 22 0 t) = 0) : Ev (fun F => J12_makeRoom F (rf e 12 0) (xk t) (xk n) (HS e C I z)) (rI (mrI I t n).1 (HS e C (mrI I t n).2 z)) := by
  have hB := hT.1
  have := RB.tasks hB
  have := RB.groups hB
  have := RB.group hB (j := t) (by omega) (by omega)
  have hg := (hT.2.2.2.2.1 t t0 t1).2.2.1
  refine Ev.step (fun F => E12_makeRoom F _ _ _ _) ?_
  simp (disch := omega) only [a_25 hA hR, d_12 hA hR, g_12_5 hA hR, Option.bind_some, up_s, up_k, up_j, up_i, xk_add, xk_sub, xk_mul, xk_neg, lk_add, lN_z, rf_none, rb1, rb0, rbp, xk_nI, zk_eq, zk_lt, zk_eq0, zk_lt0, zk_0lt, zk_long, lz_lt, lz_gt, zmax, zmin, ↓reduceIte, Int.reduceEq, Int.reduceLT, Int.reduceNeg, Int.reduceAdd, Int.reduceSub, Int.reduceMul, Int.ofNat_eq_natCast, Int.cast_ofNat_Int]
  refine Ev.kI (σ := HS e C I z) (x := tfS I n (I 25 0 t)) ?_ ?_
  · refine Ev.step (fun F => E12_tooFull F _ _ _ _) ?_
    refine tooFull_ev hA hR hB n0 n1 (fun g a b => ⟨usF_n hB, ?_⟩) (fun g a b => ?_) 20 _ (by omega) (by omega) (by omega)
    · have := hU g a b
      have := RB.max hB (j := g) (by omega) (by omega)
      omega
    · have := RB.ww hB g (by omega) (by omega)
      omega
  · exact makeRoom15_ev hA hR n0 n1 t0 _ (by omega) I 20 hT hU t1 hg (by omega) hg ht chn_r (fun k k0 k1 a b => by rw [a] at b; exact absurd b (by decide)) (by omega)
end RA
