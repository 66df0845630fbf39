/-! the reference: bits of a path, walking -/
theorem shb : ∀ b : Fin 31, ((xk (b.val : Int) &&& 31).toBitVec.smod (BitVec.ofNat 32 32)).toNat = b.val := by decide +kernel
theorem shr {p : Int} {b : Nat} (p0 : 0 ≤ p) (p1 : p < 2147483648) (b1 : b ≤ 30) : xk p >>> (xk (b : Int) &&& 31) = xk (p / 2 ^ b) := by
  have hd : 0 ≤ p / 2 ^ b := Int.ediv_nonneg p0 (Int.le_of_lt (Int.pow_pos (by decide)))
  have hd2 : p / 2 ^ b ≤ p := Int.ediv_le_self _ p0
  apply Int32.toInt_inj.mp
  rw [xk_toInt (a := p / 2 ^ b) ⟨by omega, by omega⟩]
  show ((xk p).toBitVec.sshiftRight' ((xk (b : Int) &&& 31).toBitVec.smod (BitVec.ofNat 32 32))).toInt = _
  rw [BitVec.sshiftRight_eq', shb ⟨b, by omega⟩, BitVec.toInt_sshiftRight]
  show (xk p).toInt >>> b = _
  rw [xk_toInt ⟨by omega, by omega⟩, Int.shiftRight_eq_div_pow]
  norm_cast
theorem and1 {x : Int} (x0 : 0 ≤ x) (x1 : x < 2147483648) : xk x &&& xk 1 = xk (x % 2) := by
  apply Int32.toBitVec_inj.mp
  apply BitVec.eq_of_toNat_eq
  show ((xk x).toBitVec &&& (xk 1).toBitVec).toNat = (xk (x % 2)).toBitVec.toNat
  have e : ∀ y : Int, 0 ≤ y → y < 2147483648 → (xk y).toBitVec.toNat = y.toNat := by
    intro y y0 y1
    show (BitVec.ofInt 32 y).toNat = y.toNat
    rw [BitVec.toNat_ofInt]
    omega
  rw [BitVec.toNat_and, e x x0 x1, e 1 (by omega) (by omega), e (x % 2) (by omega) (by omega)]
  rw [show (1 : Int).toNat = 1 from rfl, Nat.and_one_is_mod]
  omega
def wlF (tp : Int → Int → Int) (N : Nat) (p : Int) : Nat → Int → Int → Int × Int × Int
  | 0, m, d => (1, m, d)
  | b + 1, m, d => if d < 7 then wlF tp N p b (riF tp N m (2 * d + 1 + p / 2 ^ b % 2)).1 (riF tp N m (2 * d + 1 + p / 2 ^ b % 2)).2 else (0, m, d)
/-- N steps are enough to rise -/
def RiN (tp : Int → Int → Int) (N : Nat) : Prop := ∀ m d, 0 ≤ m → m < 80 → 0 ≤ d → d < 15 → tp (riF tp N m d).1 (riF tp N m d).2 < 0
def hbP (p : Int) (h : Nat) : Prop := h ≤ 30 ∧ 2 ^ h ≤ p ∧ p < 2 ^ (h + 1)
theorem hb_ex {p : Int} (p0 : 1 ≤ p) (p1 : p < 2147483648) : ∃ h, hbP p h := by
  have key : ∀ n : Nat, n ≤ 31 → p < 2 ^ n → ∃ h, hbP p h := by
    intro n
    induction n with
    | zero => intro _ h; omega
    | succ n ih =>
      intro hn h
      by_cases q : p < 2 ^ n
      · exact ih (by omega) q
      · exact ⟨n, by omega, by omega, h⟩
  exact key 31 (by omega) (by omega)
theorem hb_hi {p : Int} {h b : Nat} (hh : hbP p h) (p0 : 0 ≤ p) (hb : h < b) : p / 2 ^ b = 0 := by
  apply Int.ediv_eq_zero_of_lt p0
  have : (2 : Int) ^ (h + 1) ≤ 2 ^ b := by
    have : (2 : Nat) ^ (h + 1) ≤ 2 ^ b := Nat.pow_le_pow_right (by omega) hb
    exact_mod_cast this
  have := hh.2.2
  omega
theorem hb_at {p : Int} {h : Nat} (hh : hbP p h) : p / 2 ^ h = 1 := by
  have p2 : (0 : Int) < 2 ^ h := Int.pow_pos (by decide)
  have h1 := hh.2.1
  have h2 := hh.2.2
  rw [Int.pow_succ] at h2
  have a := Int.le_ediv_of_mul_le p2 (show 1 * 2 ^ h ≤ p by omega)
  have b := Int.ediv_lt_of_lt_mul p2 (show p < 2 * 2 ^ h by omega)
  omega
section RA
variable {e : EN} {C I : ST} {z : Nat × Nat × Nat × Nat}
theorem walk59_ev (hA : WA e z) (hR : WR e) (hB : RB I) {tp : Int → Int → Int} (hT : ToA I tp) {N : Nat} (hN : RiN tp N) {p : Int} (p0 : 0 ≤ p) (p1 : p < 2147483648) : ∀ (b : Nat) (m d : Int), b ≤ 31 → 0 ≤ m → m < 80 → 0 ≤ d → d < 15 → Ev (fun F => J12_walk_59 F (rf e 12 0) (xk p) (xk ((b : Int) - 1)) (HS e C (pl I m d) z)) (rI (wlF tp N p b m d).1 (HS e C (pl I (wlF tp N p b m d).2.1 (wlF tp N p b m d).2.2) z)) := by
  intro b
  induction b with
  | zero =>
    intro m d hb m0 m1 d0 d1
    rw [show ((0 : Nat) : Int) - 1 = -1 from rfl]
    refine Ev.step (fun F => E12_walk_59 F _ _ _ _) ?_
    simp (disch := omega) only [d_12 hA hR, g_12_38 hA hR, p_12_38 hA hR, Option.bind_some, up_s, up_k, up_j, up_i, xk_add, xk_sub, xk_mul, xk_neg, lk_add, lN_z, rf_none, rb1, rb0, rbp, xk_nI, zk_eq, zk_lt, zk_eq0, zk_lt0, zk_0lt, zk_long, lz_lt, lz_gt, zmax, zmin, ↓reduceIte, Int.reduceEq, Int.reduceLT, Int.reduceNeg, Int.reduceAdd, Int.reduceSub, Int.reduceMul, Int.ofNat_eq_natCast, Int.cast_ofNat_Int]
    exact Ev.ret rfl
  | succ b ih =>
    intro m d hb m0 m1 d0 d1
    have hm : 0 ≤ p / 2 ^ b := Int.ediv_nonneg p0 (Int.le_of_lt (Int.pow_pos (by decide)))
    have hm2 : p / 2 ^ b ≤ p := Int.ediv_le_self _ p0
    have es : xk p >>> (xk (b : Int) &&& 31) = xk (p / 2 ^ b) := shr p0 p1 (by omega)
    rw [show ((b + 1 : Nat) : Int) - 1 = b by omega, wlF]
    refine Ev.step (fun F => E12_walk_59 F _ _ _ _) ?_
    simp (disch := omega) only [d_12 hA hR, g_12_38 hA hR, p_12_38 hA hR, Option.bind_some, up_s, up_k, up_j, up_i, xk_add, xk_sub, xk_mul, xk_neg, lk_add, lN_z, rf_none, rb1, rb0, rbp, xk_nI, zk_eq, zk_lt, zk_eq0, zk_lt0, zk_0lt, zk_long, lz_lt, lz_gt, zmax, zmin, ↓reduceIte, Int.reduceEq, Int.reduceLT, Int.reduceNeg, Int.reduceAdd, Int.reduceSub, Int.reduceMul, Int.ofNat_eq_natCast, Int.cast_ofNat_Int, pl_e]
    refine Ev.ite (fun q => absurd q (by omega)) (fun _ => ?_)
    refine Ev.ite (fun q => ?_) (fun q => Ev.ret (by rw [if_neg q]; rfl))
    rw [if_pos q, es, and1 hm (by omega)]
    try simp (disch := omega) only [d_12 hA hR, g_12_38 hA hR, p_12_38 hA hR, Option.bind_some, up_s, up_k, up_j, up_i, xk_add, xk_sub, xk_mul, xk_neg, lk_add, lN_z, rf_none, rb1, rb0, rbp, xk_nI, zk_eq, zk_lt, zk_eq0, zk_lt0, zk_0lt, zk_long, lz_lt, lz_gt, zmax, zmin, ↓reduceIte, Int.reduceEq, Int.reduceLT, Int.reduceNeg, Int.reduceAdd, Int.reduceSub, Int.reduceMul, Int.ofNat_eq_natCast, Int.cast_ofNat_Int, pl_d]
    have rb := ri_b hT N m (2 * d + 1 + p / 2 ^ b % 2) m0 m1 (by omega) (by omega)
    refine Ev.kV (rise_ev hA hR hB hT m0 m1 (by omega) (by omega) (hN _ _ m0 m1 (by omega) (by omega))) ?_
    exact ih _ _ (by omega) rb.1.1 rb.1.2 rb.2.1 rb.2.2
theorem walk42_ev (hA : WA e z) (hR : WR e) {p : Int} {h : Nat} (p0 : 1 ≤ p) (p1 : p < 2147483648) (hh : hbP p h) {r : XV × XH} (hr : Ev (fun F => J12_walk_59 F (rf e 12 0) (xk p) (xk ((h : Int) - 1)) (HS e C I z)) r) : ∀ (n b : Nat), b = h + n → b ≤ 30 → Ev (fun F => J12_walk_42 F (rf e 12 0) (xk p) (xk (b : Int)) (HS e C I z)) r := by
  intro n
  induction n with
  | zero =>
    intro b hb b1
    rw [hb, Nat.add_zero]
    refine Ev.step (fun F => E12_walk_42 F _ _ _ _) ?_
    rw [shr (by omega) p1 hh.1, hb_at hh, and1 (by omega) (by omega)]
    simp (disch := omega) only [Option.bind_some, up_s, up_k, up_j, up_i, xk_add, xk_sub, xk_mul, xk_neg, lk_add, lN_z, rf_none, rb1, rb0, rbp, xk_nI, zk_eq, zk_lt, zk_eq0, zk_lt0, zk_0lt, zk_long, lz_lt, lz_gt, zmax, zmin, ↓reduceIte, Int.reduceEq, Int.reduceLT, Int.reduceNeg, Int.reduceAdd, Int.reduceSub, Int.reduceMul, Int.ofNat_eq_natCast, Int.cast_ofNat_Int]
    exact hr
  | succ n ih =>
    intro b hb b1
    refine Ev.step (fun F => E12_walk_42 F _ _ _ _) ?_
    rw [shr (by omega) p1 (by omega), hb_hi hh (by omega) (by omega), and1 (by omega) (by omega)]
    simp (disch := omega) only [Option.bind_some, up_s, up_k, up_j, up_i, xk_add, xk_sub, xk_mul, xk_neg, lk_add, lN_z, rf_none, rb1, rb0, rbp, xk_nI, zk_eq, zk_lt, zk_eq0, zk_lt0, zk_0lt, zk_long, lz_lt, lz_gt, zmax, zmin, ↓reduceIte, Int.reduceEq, Int.reduceLT, Int.reduceNeg, Int.reduceAdd, Int.reduceSub, Int.reduceMul, Int.ofNat_eq_natCast, Int.cast_ofNat_Int]
    have := ih (b - 1) (by omega) (by omega)
    rw [show ((b - 1 : Nat) : Int) = b + -1 by omega] at this
    exact this
/-- 0 and no place, or 1 and the place -/
def waF (I : ST) (tp : Int → Int → Int) (N h : Nat) (t p : Int) : Int × ST := if 0 ≤ t ∧ t < (I 12 0 1) ∧ (I 22 0 t) = 0 ∧ 1 ≤ p then ((wlF tp N p h (riF tp N (I 49 0 ((I 26 0 t))) 0).1 (riF tp N (I 49 0 ((I 26 0 t))) 0).2).1, pl I (wlF tp N p h (riF tp N (I 49 0 ((I 26 0 t))) 0).1 (riF tp N (I 49 0 ((I 26 0 t))) 0).2).2.1 (wlF tp N p h (riF tp N (I 49 0 ((I 26 0 t))) 0).1 (riF tp N (I 49 0 ((I 26 0 t))) 0).2).2.2) else (0, I)
theorem walk_ev (hA : WA e z) (hR : WR e) (hB : RB I) {tp : Int → Int → Int} (hT : ToA I tp) {N : Nat} (hN : RiN tp N) {t p : Int} {h : Nat} (t0 : -2147483648 ≤ t) (t1 : t < 2147483648) (p0 : -2147483648 ≤ p) (p1 : p < 2147483648) (hh : 1 ≤ p → hbP p h) : Ev (fun F => J12_walk F (rf e 12 0) (xk t) (xk p) (HS e C I z)) (rI (waF I tp N h t p).1 (HS e C (waF I tp N h t p).2 z)) := by
  have := RB.tasks hB
  unfold waF
  refine Ev.step (fun F => E12_walk F _ _ _ _) ?_
  simp (disch := omega) only [a_26 hA hR, a_49 hA hR, d_12 hA hR, g_12_29 hA hR, g_12_6 hA hR, p_12_37 hA hR, p_12_38 hA hR, Option.bind_some, up_s, up_k, up_j, up_i, xk_add, xk_sub, xk_mul, xk_neg, lk_add, lN_z, rf_none, rb1, rb0, rbp, xk_nI, zk_eq, zk_lt, zk_eq0, zk_lt0, zk_0lt, zk_long, lz_lt, lz_gt, zmax, zmin, ↓reduceIte, Int.reduceEq, Int.reduceLT, Int.reduceNeg, Int.reduceAdd, Int.reduceSub, Int.reduceMul, Int.ofNat_eq_natCast, Int.cast_ofNat_Int]
  refine Ev.kB (isLive_ev hA hR t0 t1 (by omega) (by omega) (fun t a b => RB.state hB a b)) (fun hl => ?_) (fun hl => ?_)
  · have := RB.view hB (j := t) (by omega) (by omega)
    have := RB.root hB (j := ((I 26 0 t))) (by omega) (by omega)
    try simp (disch := omega) only [a_26 hA hR, a_49 hA hR, d_12 hA hR, g_12_29 hA hR, g_12_6 hA hR, p_12_37 hA hR, p_12_38 hA hR, Option.bind_some, up_s, up_k, up_j, up_i, xk_add, xk_sub, xk_mul, xk_neg, lk_add, lN_z, rf_none, rb1, rb0, rbp, xk_nI, zk_eq, zk_lt, zk_eq0, zk_lt0, zk_0lt, zk_long, lz_lt, lz_gt, zmax, zmin, ↓reduceIte, Int.reduceEq, Int.reduceLT, Int.reduceNeg, Int.reduceAdd, Int.reduceSub, Int.reduceMul, Int.ofNat_eq_natCast, Int.cast_ofNat_Int]
    refine Ev.ite (fun q => Ev.ret (by rw [if_neg (by omega)]; rfl)) (fun q => ?_)
    rw [if_pos ⟨hl.1, hl.2.1, hl.2.2, by omega⟩]
    have rb := ri_b hT N (I 49 0 ((I 26 0 t))) 0 (by omega) (by omega) (by omega) (by omega)
    refine Ev.kV (rise_ev (m := (I 49 0 ((I 26 0 t)))) (d := 0) hA hR hB hT (by omega) (by omega) (by omega) (by omega) (hN _ _ (by omega) (by omega) (by omega) (by omega))) ?_
    have h1 := hh (by omega)
    have := walk59_ev (C := C) hA hR hB hT hN (p := p) (by omega) p1 h _ _ (by have := h1.1; omega) rb.1.1 rb.1.2 rb.2.1 rb.2.2
    exact walk42_ev hA hR (by omega) p1 h1 this (30 - h) 30 (by have := h1.1; omega) (by omega)
  · try simp (disch := omega) only [a_26 hA hR, a_49 hA hR, d_12 hA hR, g_12_29 hA hR, g_12_6 hA hR, p_12_37 hA hR, p_12_38 hA hR, Option.bind_some, up_s, up_k, up_j, up_i, xk_add, xk_sub, xk_mul, xk_neg, lk_add, lN_z, rf_none, rb1, rb0, rbp, xk_nI, zk_eq, zk_lt, zk_eq0, zk_lt0, zk_0lt, zk_long, lz_lt, lz_gt, zmax, zmin, ↓reduceIte, Int.reduceEq, Int.reduceLT, Int.reduceNeg, Int.reduceAdd, Int.reduceSub, Int.reduceMul, Int.ofNat_eq_natCast, Int.cast_ofNat_Int]
    exact Ev.ret (by rw [if_neg (by omega)]; rfl)
theorem wl_b {tp : Int → Int → Int} (h : ToA I tp) {N : Nat} {p : Int} (p0 : 0 ≤ p) : ∀ (b : Nat) (m d : Int), 0 ≤ m → m < 80 → 0 ≤ d → d < 15 → ((wlF tp N p b m d).1 = 0 ∨ (wlF tp N p b m d).1 = 1) ∧ (0 ≤ (wlF tp N p b m d).2.1 ∧ (wlF tp N p b m d).2.1 < 80) ∧ 0 ≤ (wlF tp N p b m d).2.2 ∧ (wlF tp N p b m d).2.2 < 15 := by
  intro b
  induction b with
  | zero => intro m d a b c f; exact ⟨Or.inr rfl, ⟨a, b⟩, c, f⟩
  | succ n ih =>
    intro m d a b c f
    rw [wlF]
    split
    · have rb := ri_b h N m (2 * d + 1 + p / 2 ^ n % 2) a b (by omega) (by omega)
      exact ih _ _ rb.1.1 rb.1.2 rb.2.1 rb.2.2
    · exact ⟨Or.inl rfl, ⟨a, b⟩, c, f⟩
end RA
