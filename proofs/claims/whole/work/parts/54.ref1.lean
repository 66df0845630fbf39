/-! the reference's small methods -/
section RA
variable {e : EN} {C I : ST} {z : Nat × Nat × Nat × Nat}
theorem in_ev {a b c : Int} {σ : XH} (ha : i64 a) (hb : i64 b) (hc : i64 c) : Ev (fun F => J12_in F (Int64.ofInt a) (Int64.ofInt b) (Int64.ofInt c) σ) (rI (bI (b ≤ a ∧ a ≤ c)) σ) := by
  obtain ⟨a0, a1⟩ := ha
  obtain ⟨b0, b1⟩ := hb
  obtain ⟨c0, c1⟩ := hc
  refine Ev.step (fun F => E12_in F _ _ _ _) ?_
  simp (disch := omega) only [Option.bind_some, xk_add, xk_sub, xk_mul, xk_neg, lk_add, lN_z, rf_none, rb1, rb0, rbp, xk_nI, zk_eq, zk_lt, zk_eq0, zk_lt0, zk_0lt, zk_long, lz_lt, lz_gt, zmax, zmin, ↓reduceIte, Int.reduceEq, Int.reduceLT, Int.reduceNeg, Int.reduceAdd, Int.reduceSub, Int.reduceMul, Int.ofNat_eq_natCast, Int.cast_ofNat_Int]
  refine Ev.ite (fun h => ?_) (fun h => ?_)
  · exact Ev.ret (by rw [bI_f (by omega)]; rfl)
  · refine Ev.ite (fun h => ?_) (fun h => ?_)
    · exact Ev.ret (by rw [bI_f (by omega)]; rfl)
    · exact Ev.ret (by rw [bI_t (by omega)]; rfl)
theorem isTask_ev (hA : WA e z) (hR : WR e) {t : Int} (t0 : -2147483648 ≤ t) (t1 : t < 2147483648) (n0 : 0 ≤ (I 12 0 1)) (n1 : (I 12 0 1) ≤ 150) : Ev (fun F => J12_isTask F (rf e 12 0) (xk t) (HS e C I z)) (rI (bI (0 ≤ t ∧ t < (I 12 0 1))) (HS e C I z)) := by
  refine Ev.step (fun F => E12_isTask F _ _ _) ?_
  simp (disch := omega) only [g_12_1 hA hR, Option.bind_some, xk_add, xk_sub, xk_mul, xk_neg, lk_add, lN_z, rf_none, rb1, rb0, rbp, xk_nI, zk_eq, zk_lt, zk_eq0, zk_lt0, zk_0lt, zk_long, lz_lt, lz_gt, zmax, zmin, ↓reduceIte, Int.reduceEq, Int.reduceLT, Int.reduceNeg, Int.reduceAdd, Int.reduceSub, Int.reduceMul, Int.ofNat_eq_natCast, Int.cast_ofNat_Int]
  refine Ev.kB (in_ev ⟨by omega, by omega⟩ ⟨by decide, by decide⟩ ⟨by omega, by omega⟩) (fun h => ?_) (fun h => ?_)
  · simp only [rb1]; exact Ev.ret (by rw [bI_t (by omega)]; rfl)
  · simp only [rb0]; exact Ev.ret (by rw [bI_f (by omega)]; rfl)
theorem isLive_ev (hA : WA e z) (hR : WR e) {t : Int} (t0 : -2147483648 ≤ t) (t1 : t < 2147483648) (n0 : 0 ≤ (I 12 0 1)) (n1 : (I 12 0 1) ≤ 150) (hs : ∀ t, 0 ≤ t → t < 150 → 0 ≤ (I 22 0 t) ∧ (I 22 0 t) ≤ 2) : Ev (fun F => J12_isLive F (rf e 12 0) (xk t) (HS e C I z)) (rI (bI (0 ≤ t ∧ t < (I 12 0 1) ∧ (I 22 0 t) = 0)) (HS e C I z)) := by
  refine Ev.step (fun F => E12_isLive F _ _ _) ?_
  simp (disch := omega) only [a_22 hA hR, d_12 hA hR, g_12_2 hA hR, Option.bind_some, xk_add, xk_sub, xk_mul, xk_neg, lk_add, lN_z, rf_none, rb1, rb0, rbp, xk_nI, zk_eq, zk_lt, zk_eq0, zk_lt0, zk_0lt, zk_long, lz_lt, lz_gt, zmax, zmin, ↓reduceIte, Int.reduceEq, Int.reduceLT, Int.reduceNeg, Int.reduceAdd, Int.reduceSub, Int.reduceMul, Int.ofNat_eq_natCast, Int.cast_ofNat_Int]
  refine Ev.kB (isTask_ev hA hR t0 t1 n0 n1) (fun h => ?_) (fun h => ?_)
  · have := hs t (by omega) (by omega)
    simp (disch := omega) only [Option.bind_some, xk_add, xk_sub, xk_mul, xk_neg, lk_add, lN_z, rf_none, rb1, rb0, rbp, xk_nI, zk_eq, zk_lt, zk_eq0, zk_lt0, zk_0lt, zk_long, lz_lt, lz_gt, zmax, zmin, ↓reduceIte, Int.reduceEq, Int.reduceLT, Int.reduceNeg, Int.reduceAdd, Int.reduceSub, Int.reduceMul, Int.ofNat_eq_natCast, Int.cast_ofNat_Int, a_22 hA hR, d_12 hA hR, g_12_2 hA hR]
    refine Ev.ite (fun h => ?_) (fun h => ?_)
    · exact Ev.ret (by rw [bI_t (by omega)]; rfl)
    · exact Ev.ret (by rw [bI_f (by omega)]; rfl)
  · simp (disch := omega) only [Option.bind_some, xk_add, xk_sub, xk_mul, xk_neg, lk_add, lN_z, rf_none, rb1, rb0, rbp, xk_nI, zk_eq, zk_lt, zk_eq0, zk_lt0, zk_0lt, zk_long, lz_lt, lz_gt, zmax, zmin, ↓reduceIte, Int.reduceEq, Int.reduceLT, Int.reduceNeg, Int.reduceAdd, Int.reduceSub, Int.reduceMul, Int.ofNat_eq_natCast, Int.cast_ofNat_Int]
    exact Ev.ret (by rw [bI_f (by omega)]; rfl)
end RA
