/-! the reference: mounts: the first free one, what lies on a place, rising -/
theorem ToR_c {I I' : ST} (h1 : ∀ k, I' 50 0 k = I 50 0 k) (h2 : ∀ k, I' 52 0 k = I 52 0 k) (h3 : ∀ k, I' 53 0 k = I 53 0 k) : ToR I' = ToR I := by
  funext m d x
  unfold ToR
  simp only [h1, h2, h3]
def FmR (I : ST) (m : Int) : Prop := (0 ≤ m ∧ m < 80) ∧ (I 50 0 m) = 0 ∧ ∀ k, 0 ≤ k → k < m → (I 50 0 k) = 1
def mkI (I : ST) (v o p w q m : Int) : ST := if o = -1 then up (up (up (up (up (up (up I 50 0 m 1) 51 0 m v) 52 0 m o) 53 0 m p) 54 0 m w) 55 0 m q) 49 0 v m else up (up (up (up (up (up I 50 0 m 1) 51 0 m v) 52 0 m o) 53 0 m p) 54 0 m w) 55 0 m q
theorem sm_1 {n : Int} (h : 0 ≤ n) : sm (fun _ => 1) n = n := by
  have s1 : ∀ m : Nat, smN (fun _ => 1) m = m := by
    intro m
    induction m with
    | zero => rfl
    | succ m ih => rw [smN, ih]; rfl
  have := s1 n.toNat
  unfold sm
  omega
theorem FmR.ex {I : ST} (hB : RB I) (h : sm (fun k => (I 50 0 k)) 80 < 80) : ∃ m, FmR I m := by
  have key : ∀ n : Nat, n ≤ 80 → (∃ m, FmR I m) ∨ ∀ k : Int, 0 ≤ k → k < n → (I 50 0 k) = 1 := by
    intro n
    induction n with
    | zero => intro _; exact Or.inr (fun k a b => absurd b (by omega))
    | succ n ih =>
      intro hn
      rcases ih (by omega) with q | q
      · exact Or.inl q
      · have := RB.there hB (j := (n : Int)) (by omega) (by omega)
        by_cases hz : (I 50 0 ((n : Int))) = 0
        · exact Or.inl ⟨n, ⟨by omega, by omega⟩, hz, fun k a b => q k a b⟩
        · refine Or.inr (fun k a b => ?_)
          by_cases hk : k = n
          · subst hk; omega
          · exact q k a (by omega)
  rcases key 80 (by omega) with q | q
  · exact q
  · exfalso
    have e := sm_c (f := fun k => (I 50 0 k)) (f' := fun _ => 1) (n := 80) (fun k a b => q k a (by omega))
    rw [e, sm_1 (by omega)] at h
    omega
theorem FmR.uq {I : ST} {m m' : Int} (h : FmR I m) (h' : FmR I m') : m = m' := by
  obtain ⟨a, b, c⟩ := h
  obtain ⟨a', b', c'⟩ := h'
  by_cases q : m < m'
  · have := c' m (by omega) q; omega
  · by_cases q' : m' < m
    · have := c m' (by omega) q'; omega
    · omega
theorem mkI_f {I : ST} {v o p w q m : Int} {k : Nat} {i j : Int} (h : k < 49 ∨ 55 < k) : mkI I v o p w q m k i j = I k i j := by
  unfold mkI
  split
  · repeat rw [up_k (by omega)]
  · repeat rw [up_k (by omega)]
theorem RB.mk {I : ST} (hB : RB I) {v o p w q m : Int} (v0 : 0 ≤ v) (v1 : v ≤ 9) (o0 : -1 ≤ o) (o1 : o ≤ 79) (p0 : 0 ≤ p) (p1 : p ≤ 14) (w0 : 0 ≤ w) (w1 : w ≤ 9) (m0 : 0 ≤ m) (m1 : m ≤ 79) : RB (mkI I v o p w q m) := by
  have : RB (up (up (up (up (up (up I 50 0 m 1) 51 0 m v) 52 0 m o) 53 0 m p) 54 0 m w) 55 0 m q) := RB.u_peers (RB.u_volumes (RB.u_inPlace (RB.u_inMount (RB.u_viewOf (RB.u_there hB (by omega) (by omega)) v0 v1) o0 o1) p0 p1) w0 w1)
  unfold mkI
  split
  · exact RB.u_root this m0 m1
  · exact this
section RA
variable {e : EN} {C I : ST} {z : Nat × Nat × Nat × Nat}
theorem make_ev (hA : WA e z) (hR : WR e) (hB : RB I) {v o p w q m : Int} (v0 : 0 ≤ v) (v1 : v < 10) (o0 : -1 ≤ o) (o1 : o < 80) (hm : FmR I m) : Ev (fun F => J12_make F (rf e 12 0) (xk v) (xk o) (xk p) (xk w) (xk q) (HS e C I z)) (rI m (HS e C (mkI I v o p w q m) z)) := by
  obtain ⟨⟨m0, m1⟩, hm, hk⟩ := hm
  refine Ev.step (fun F => E12_make F _ _ _ _ _ _ _) ?_
  refine lpN (P := fun k => 0 ≤ k → k ≤ m → Ev (fun F => J12_make_3 F (rf e 12 0) (xk v) (xk o) (xk p) (xk w) (xk q) (xk k) (HS e C I z)) (rI m (HS e C (mkI I v o p w q m) z))) m (fun k ih k0 k1 => ?_) 0 (by omega) m0
  have := RB.there hB (j := k) (by omega) (by omega)
  refine Ev.step (fun F => E12_make_3 F _ _ _ _ _ _ _ _) ?_
  simp (disch := omega) only [a_49 hA hR, a_50 hA hR, a_51 hA hR, a_52 hA hR, a_53 hA hR, a_54 hA hR, a_55 hA hR, g_12_29 hA hR, g_12_30 hA hR, g_12_31 hA hR, g_12_32 hA hR, g_12_33 hA hR, g_12_34 hA hR, g_12_35 hA hR, s_49 hA hR, s_50 hA hR, s_51 hA hR, s_52 hA hR, s_53 hA hR, s_54 hA hR, s_55 hA hR, Option.bind_some, up_s, up_k, up_j, up_i, xk_add, xk_sub, xk_mul, xk_neg, lk_add, lN_z, rf_none, rb1, rb0, rbp, xk_nI, zk_eq, zk_lt, zk_eq0, zk_lt0, zk_0lt, zk_long, lz_lt, lz_gt, zmax, zmin, ↓reduceIte, Int.reduceEq, Int.reduceLT, Int.reduceNeg, Int.reduceAdd, Int.reduceSub, Int.reduceMul, Int.ofNat_eq_natCast, Int.cast_ofNat_Int]
  by_cases h : k = m
  · subst h
    refine Ev.ite (fun _ => ?_) (fun q => absurd hm q)
    unfold mkI
    refine Ev.ite (fun ho => Ev.ret ?_) (fun ho => Ev.ret ?_)
    · rw [if_pos ho]; rfl
    · rw [if_neg ho]; rfl
  · have := hk k k0 (by omega)
    refine Ev.ite (fun q => absurd q (by omega)) (fun _ => ih (by omega) (by omega) (by omega))
def pl (I : ST) (m d : Int) : ST := up (up I 12 0 37 m) 12 0 38 d
theorem pl_u {m d m' d' : Int} : up (up (pl I m d) 12 0 37 m') 12 0 38 d' = pl I m' d' := by
  funext k i j
  simp only [up, pl]
  repeat' split
  all_goals first | rfl | (exfalso; omega)
theorem pl_d {m d d' : Int} : up (pl I m d) 12 0 38 d' = pl I m d' := by
  funext k i j
  simp only [up, pl]
  repeat' split
  all_goals first | rfl | (exfalso; omega)
theorem pl_p {m d m' d' : Int} : pl (pl I m d) m' d' = pl I m' d' := pl_u
theorem pl_f {m d : Int} {k : Nat} {i j : Int} (h : k ≠ 12 ∨ (j ≠ 37 ∧ j ≠ 38)) : pl I m d k i j = I k i j := by
  unfold pl up
  rw [if_neg (by omega), if_neg (by omega)]
theorem pl_m {m d : Int} : pl I m d 12 0 37 = m := by unfold pl; rw [up_j (by decide), up_s]
theorem pl_e {m d : Int} : pl I m d 12 0 38 = d := up_s
theorem RB.pl {I : ST} (hB : RB I) {m d : Int} : RB (pl I m d) := RB.uS (RB.uS hB (by omega) (by omega) (by omega) (by omega)) (by omega) (by omega) (by omega) (by omega)
theorem ToR_pl {m d : Int} : ToR (pl I m d) = ToR I := ToR_c (fun _ => pl_f (Or.inl (by decide))) (fun _ => pl_f (Or.inl (by decide))) (fun _ => pl_f (Or.inl (by decide)))
/-- from a place up to the topmost mount -/
def riF (tp : Int → Int → Int) : Nat → Int → Int → Int × Int
  | 0, m, d => (m, d)
  | n + 1, m, d => if tp m d < 0 then (m, d) else riF tp n (tp m d) 0
def ToA (I : ST) (tp : Int → Int → Int) : Prop := ∀ m d, 0 ≤ m → m < 80 → 0 ≤ d → d < 15 → ToR I m d (tp m d)
theorem ToA.b {tp : Int → Int → Int} (h : ToA I tp) {m d : Int} (m0 : 0 ≤ m) (m1 : m < 80) (d0 : 0 ≤ d) (d1 : d < 15) : -1 ≤ tp m d ∧ tp m d < 80 := (h m d m0 m1 d0 d1).1
theorem ri_b {tp : Int → Int → Int} (h : ToA I tp) : ∀ (n : Nat) (m d : Int), 0 ≤ m → m < 80 → 0 ≤ d → d < 15 → (0 ≤ (riF tp n m d).1 ∧ (riF tp n m d).1 < 80) ∧ 0 ≤ (riF tp n m d).2 ∧ (riF tp n m d).2 < 15 := by
  intro n
  induction n with
  | zero => intro m d a b c f; exact ⟨⟨a, b⟩, c, f⟩
  | succ n ih =>
    intro m d a b c f
    rw [riF]
    have := h.b a b c f
    split
    · exact ⟨⟨a, b⟩, c, f⟩
    · exact ih _ _ (by omega) (by omega) (by omega) (by omega)
theorem rise13_ev (hA : WA e z) (hR : WR e) (hB : RB I) {tp : Int → Int → Int} (hT : ToA I tp) : ∀ (n : Nat) (m d : Int), 0 ≤ m → m < 80 → 0 ≤ d → d < 15 → tp (riF tp n m d).1 (riF tp n m d).2 < 0 → Ev (fun F => J12_rise_13 F (rf e 12 0) (xk (tp m d)) (HS e C (pl I m d) z)) (rV (HS e C (pl I (riF tp n m d).1 (riF tp n m d).2) z)) := by
  intro n
  induction n with
  | zero =>
    intro m d a b c f h
    have := hT.b a b c f
    rw [show tp m d = -1 by have : tp m d < 0 := h; omega]
    refine Ev.step (fun F => E12_rise_13 F _ _ _) ?_
    simp (disch := omega) only [d_12 hA hR, g_12_37 hA hR, g_12_38 hA hR, p_12_37 hA hR, p_12_38 hA hR, Option.bind_some, up_s, up_k, up_j, up_i, xk_add, xk_sub, xk_mul, xk_neg, lk_add, lN_z, rf_none, rb1, rb0, rbp, xk_nI, zk_eq, zk_lt, zk_eq0, zk_lt0, zk_0lt, zk_long, lz_lt, lz_gt, zmax, zmin, ↓reduceIte, Int.reduceEq, Int.reduceLT, Int.reduceNeg, Int.reduceAdd, Int.reduceSub, Int.reduceMul, Int.ofNat_eq_natCast, Int.cast_ofNat_Int]
    exact Ev.ret rfl
  | succ n ih =>
    intro m d a b c f h
    have hb := hT.b a b c f
    rw [riF] at h ⊢
    refine Ev.step (fun F => E12_rise_13 F _ _ _) ?_
    simp (disch := omega) only [d_12 hA hR, g_12_37 hA hR, g_12_38 hA hR, p_12_37 hA hR, p_12_38 hA hR, Option.bind_some, up_s, up_k, up_j, up_i, xk_add, xk_sub, xk_mul, xk_neg, lk_add, lN_z, rf_none, rb1, rb0, rbp, xk_nI, zk_eq, zk_lt, zk_eq0, zk_lt0, zk_0lt, zk_long, lz_lt, lz_gt, zmax, zmin, ↓reduceIte, Int.reduceEq, Int.reduceLT, Int.reduceNeg, Int.reduceAdd, Int.reduceSub, Int.reduceMul, Int.ofNat_eq_natCast, Int.cast_ofNat_Int, pl_u, pl_m, pl_e]
    refine Ev.ite (fun q => Ev.ret ?_) (fun q => ?_)
    · rw [if_pos (by omega)]; rfl
    · rw [if_neg (by omega)] at h ⊢
      refine Ev.kI (mountAt_ev hA hR hB.pl (by omega) (by omega) (by omega) (by omega) (x := tp (tp m d) 0) (by rw [ToR_pl]; exact hT _ _ (by omega) (by omega) (by omega) (by omega))) ?_
      exact ih _ _ (by omega) (by omega) (by omega) (by omega) h
theorem rise_ev (hA : WA e z) (hR : WR e) (hB : RB I) {tp : Int → Int → Int} (hT : ToA I tp) {n : Nat} {m d : Int} (m0 : 0 ≤ m) (m1 : m < 80) (d0 : 0 ≤ d) (d1 : d < 15) (hn : tp (riF tp n m d).1 (riF tp n m d).2 < 0) : Ev (fun F => J12_rise F (rf e 12 0) (HS e C (pl I m d) z)) (rV (HS e C (pl I (riF tp n m d).1 (riF tp n m d).2) z)) := by
  refine Ev.step (fun F => E12_rise F _ _) ?_
  simp (disch := omega) only [d_12 hA hR, g_12_37 hA hR, g_12_38 hA hR, Option.bind_some, up_s, up_k, up_j, up_i, xk_add, xk_sub, xk_mul, xk_neg, lk_add, lN_z, rf_none, rb1, rb0, rbp, xk_nI, zk_eq, zk_lt, zk_eq0, zk_lt0, zk_0lt, zk_long, lz_lt, lz_gt, zmax, zmin, ↓reduceIte, Int.reduceEq, Int.reduceLT, Int.reduceNeg, Int.reduceAdd, Int.reduceSub, Int.reduceMul, Int.ofNat_eq_natCast, Int.cast_ofNat_Int, pl_m, pl_e]
  refine Ev.kI (mountAt_ev hA hR hB.pl (by omega) (by omega) (by omega) (by omega) (x := tp m d) (by rw [ToR_pl]; exact hT _ _ m0 m1 d0 d1)) ?_
  exact rise13_ev hA hR hB hT n m d m0 m1 d0 d1 hn
end RA
