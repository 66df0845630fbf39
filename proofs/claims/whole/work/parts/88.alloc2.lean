/-! the class makes views and tasks (printed by genal.py) -/
section AL
variable {e : EN} {X : RS} {C I : ST} {z : Nat × Nat × Nat × Nat}
def vnC (C : ST) (g : Int) : ST := fun k i j => if k = 10 ∧ i = g then (if j = 1 then -1 else 0) else C k i j
theorem addView_ev (hA : WA e z) (hD : BD e (mx C I)) (g0 : 0 ≤ (e.2.1 10)) (g1 : (e.2.1 10) < 10) : Ev (fun F => J5_addView F (rf e 5 0) (HS e C I z)) (rR (rf (exE e 10 z.1) 10 (e.2.1 10)) (HS (exE e 10 z.1) (vnC C (e.2.1 10)) I (z.1 + 1, z.2.1 + 2, z.2.2))) ∧ WA (exE e 10 z.1) (z.1 + 1, z.2.1 + 2, z.2.2) := by
  obtain ⟨hp, hW⟩ := ex_push (X := rwX e (mx C I)) (L := xdf 10) hA.wx (κ := 10) (by decide) g0 rfl
  have hW : WX (exE e 10 z.1) (z.1 + 1, z.2.1 + 2, z.2.2) := hW
  have hWA := hA.ex (κ := 10) (by decide) hW
  refine ⟨?_, hWA⟩
  have v2 : Va e 5 0 := ⟨by decide, by decide, hA.s rfl⟩
  have vr : Va e 19 0 := ⟨by decide, by decide, hA.s rfl⟩
  have w2 : Va (exE e 10 z.1) 5 0 := (exE_v (by decide) g0).mpr (Or.inl v2)
  have wr : Va (exE e 10 z.1) 19 0 := (exE_v (by decide) g0).mpr (Or.inl vr)
  have w1 : Va (exE e 10 z.1) 10 (e.2.1 10) := (exE_v (by decide) g0).mpr (Or.inr ⟨rfl, rfl⟩)
  have a1 : (exE e 10 z.1).1 10 (e.2.1 10) = z.1 := by rw [exE_a, if_pos ⟨rfl, rfl⟩]
  have hn : (e.2.1 10) < 2147483648 := by omega
  have h21 : (HX e (rwX e (mx C I)) z).2.1 = z.1 := rfl
  have hp' : xpush (HX e (rwX e (mx C I)) z) (10, xdf 10) = HX (exE e 10 z.1) (nwX (rwX e (mx C I)) 10 (e.2.1 10) (xdf 10)) (z.1 + 1, z.2.1 + 2, z.2.2) := hp
  have gi := fun (X : RS) (hx : X 5 0 4 = .inl (xk (e.2.1 10))) => rx_gi (X := X) hW w2 (t := 5) (f := 4) (x := xk (e.2.1 10)) rfl (by show 4 < 6; decide) hx
  have gr := fun (X : RS) (hx : X 5 0 1 = .inr (.inr (some ((exE e 10 z.1).1 19 0)))) => rx_gr (X := X) hW w2 (t := 5) (f := 1) (x := some ((exE e 10 z.1).1 19 0)) rfl (by show 1 < 6; decide) hx
  have x1 : nwX (rwX e (mx C I)) 10 (e.2.1 10) (xdf 10) 5 0 4 = .inl (xk (e.2.1 10)) := by
    simp only [nwX]
    rw [if_neg (by omega)]
    rfl
  refine Ev.step (fun F => E5_addView F _ _) ?_
  rw [HS_HX]
  simp only [xnw, h21, hp', rf_old (κ := 10) (a := z.1) v2, gi _ x1, Option.bind_some]
  have hi : Ev (fun F => J10_init F (some z.1) (xk (e.2.1 10)) (HX (exE e 10 z.1) (nwX (rwX e (mx C I)) 10 (e.2.1 10) (xdf 10)) (z.1 + 1, z.2.1 + 2, z.2.2))) (rV (HX (exE e 10 z.1) (upX (nwX (rwX e (mx C I)) 10 (e.2.1 10) (xdf 10)) 10 (e.2.1 10) 0 (.inl (xk (e.2.1 10)))) (z.1 + 1, z.2.1 + 2, z.2.2))) := by
    refine Ev.step (fun F => E10_init F _ _ _) ?_
    have pt := fun (X : RS) (f : Nat) (hf : f < 2) (x : XE) => rx_pt (X := X) (x := x) hW w1 (t := 10) (f := f) rfl hf
    rw [a1] at pt
    simp only [reduceCtorEq, if_false, pt _ 0 (by decide), Option.bind_some]
    exact Ev.ret rfl
  refine Ev.kV hi ?_
  generalize hX2 : upX (nwX (rwX e (mx C I)) 10 (e.2.1 10) (xdf 10)) 10 (e.2.1 10) 0 (.inl (xk (e.2.1 10))) = X2
  have y : ∀ k i j, ¬ (k = 10 ∧ i = (e.2.1 10)) → X2 k i j = rwX e (mx C I) k i j := by
    intro k i j h
    rw [← hX2]
    simp only [upX, nwX]
    rw [if_neg (by omega), if_neg h]
  have x1' : X2 5 0 4 = .inl (xk (e.2.1 10)) := by rw [y _ _ _ (by omega)]; rfl
  have x0' : X2 5 0 1 = .inr (.inr (some ((exE e 10 z.1).1 19 0))) := by
    rw [y _ _ _ (by omega), exE_old vr, ← rf_v (e := e) (by decide)]
    rfl
  have sr := rx_sr (X := X2) hW wr w1 (a := (e.2.1 10)) ⟨by decide, by decide⟩ rfl g0 (by show (e.2.1 10) < ((10 : Nat) : Int); omega) (by show 10 ≤ 2147483647; decide)
  rw [a1] at sr
  have x1'' : upX X2 19 0 (e.2.1 10) (.inr (.inr (some z.1))) 5 0 4 = .inl (xk (e.2.1 10)) := by
    simp only [upX]
    rw [if_neg (by omega)]
    exact x1'
  have pt := fun (X : RS) (x : XE) => rx_pt (X := X) (x := x) hW w2 (t := 5) (f := 4) rfl (by show 4 < 6; decide)
  simp only [gi _ x1', gr _ x0', Option.bind_some, zk_lt (show -2147483648 ≤ (e.2.1 10) by omega) hn (show -2147483648 ≤ (10 : Int) by decide) (show (10 : Int) < 2147483648 by decide), sr, gi _ x1'', pt, xk_add]
  refine Ev.ite (fun _ => Ev.ret ?_) (fun q => absurd g1 q)
  rw [rf_nw g0, HS_HX]
  unfold rR
  congr 1
  refine HX_c hW (fun k i hv j hj => ?_)
  have hk : k < 65 := hv.1
  by_cases h1 : k = 10 ∧ i = (e.2.1 10)
  · obtain ⟨rfl, rfl⟩ := h1
    have hj : j < 2 := hj
    rw [← hX2]
    simp only [upX, nwX]
    have hc : j = 0 ∨ j = 1 := by omega
    rcases hc with rfl | rfl
    all_goals simp [rwX, mx, cf, vnC, cv, ky, tyT, xdf, xk_zero, rf]
    all_goals rfl
  · have hve : Va e k i := ((exE_v (by decide) g0).mp hv).resolve_right h1
    have hS : mx (vnC C (e.2.1 10)) I k i j = mx C I k i j := by
      unfold mx vnC
      rw [if_neg h1]
    by_cases h2 : k = 5 ∧ j = 4
    · obtain ⟨rfl, rfl⟩ := h2
      have i0 : i = 0 := by have := hve.2; have := hA.2.2.1 5 rfl; omega
      subst i0
      unfold upX
      rw [if_pos ⟨rfl, rfl, rfl⟩]
      rfl
    · by_cases h3 : k = 19
      · subst h3
        have i0 : i = 0 := by have := hve.2; have := hA.2.2.1 19 rfl; omega
        subst i0
        simp only [upX]
        rw [if_neg (by omega)]
        have ec : rwX (exE e 10 z.1) (mx (vnC C (e.2.1 10)) I) 19 0 j = .inr (.inr (rf (exE e 10 z.1) 10 (if (j : Int) < (e.2.1 10) + 1 then (j : Int) else -1))) := by
          unfold rwX
          rw [show ky 19 (((j : Nat) : Int).toNat) = 610 from rfl, cv6 (k := 10) rfl (by decide), exE_n, if_pos rfl]
        rw [ec]
        by_cases hq : (j : Int) = (e.2.1 10)
        · rw [if_pos ⟨trivial, trivial, hq⟩, if_pos (by omega), hq, rf_nw g0]
        · rw [if_neg (fun w => hq w.2.2), y _ _ _ (by omega)]
          unfold rwX
          rw [show ky 19 (((j : Nat) : Int).toNat) = 610 from rfl, cv6 (k := 10) rfl (by decide)]
          by_cases hl : (j : Int) < (e.2.1 10)
          · rw [if_pos hl, if_pos (by omega), rf_ex (Or.inr (by omega))]
          · rw [if_neg hl, if_neg (by omega), rf_n (by decide), rf_n (by decide)]
      · simp only [upX]
        rw [if_neg (by omega), if_neg (by omega), y _ _ _ h1]
        show cv e (ky k j) i j (mx C I k i j) = cv (exE e 10 z.1) (ky k j) i j _
        rw [hS]
        refine (cv_ex (by decide) hk (fun q => h3 (ky610 hk q)) (fun q => ?_) (fun a b => hD k i j hve hj a b) (by omega)).symm
        have k2 := ky810 hk q
        subst k2
        have hj : j < 6 := hj
        have : ∀ x : Fin 6, x.val ≠ 4 → ky 5 x.val ≠ 810 := by decide
        exact absurd q (this ⟨j, hj⟩ (fun w => h2 ⟨rfl, w⟩))
def tnC (C : ST) (g p s h v : Int) : ST := fun k i j => if k = 8 ∧ i = g then (if j = 1 then s else if j = 2 then v else if j = 3 then p else if j = 4 then h else 0) else C k i j
/-- a task is there; its numbers come then -/
theorem bear_ev (hA : WA e z) (hD : BD e (mx C I)) {p s h v : Int} {r : XV × XH} (g0 : 0 ≤ (e.2.1 8)) (g1 : (e.2.1 8) < 150) (p1 : p < (e.2.1 8)) (hr : Ev (fun F => J9_bear_52 F (rf e 1 h) (rf (exE e 8 z.1) 8 (e.2.1 8)) (rf e 7 s) (HS (exE e 8 z.1) (tnC C (e.2.1 8) p s h v) I (z.1 + 1, z.2.1 + 11, z.2.2))) r) : Ev (fun F => J9_bear F (rf e 9 0) (rf e 8 p) (rf e 7 s) (rf e 1 h) (rf e 10 v) (HS e C I z)) r ∧ WA (exE e 8 z.1) (z.1 + 1, z.2.1 + 11, z.2.2) := by
  obtain ⟨hp, hW⟩ := ex_push (X := rwX e (mx C I)) (L := xdf 8) hA.wx (κ := 8) (by decide) g0 rfl
  have hW : WX (exE e 8 z.1) (z.1 + 1, z.2.1 + 11, z.2.2) := hW
  have hWA := hA.ex (κ := 8) (by decide) hW
  refine ⟨?_, hWA⟩
  have v2 : Va e 9 0 := ⟨by decide, by decide, hA.s rfl⟩
  have vr : Va e 13 0 := ⟨by decide, by decide, hA.s rfl⟩
  have w2 : Va (exE e 8 z.1) 9 0 := (exE_v (by decide) g0).mpr (Or.inl v2)
  have wr : Va (exE e 8 z.1) 13 0 := (exE_v (by decide) g0).mpr (Or.inl vr)
  have w1 : Va (exE e 8 z.1) 8 (e.2.1 8) := (exE_v (by decide) g0).mpr (Or.inr ⟨rfl, rfl⟩)
  have a1 : (exE e 8 z.1).1 8 (e.2.1 8) = z.1 := by rw [exE_a, if_pos ⟨rfl, rfl⟩]
  have hn : (e.2.1 8) < 2147483648 := by omega
  have h21 : (HX e (rwX e (mx C I)) z).2.1 = z.1 := rfl
  have hp' : xpush (HX e (rwX e (mx C I)) z) (8, xdf 8) = HX (exE e 8 z.1) (nwX (rwX e (mx C I)) 8 (e.2.1 8) (xdf 8)) (z.1 + 1, z.2.1 + 11, z.2.2) := hp
  have gi := fun (X : RS) (hx : X 9 0 2 = .inl (xk (e.2.1 8))) => rx_gi (X := X) hW w2 (t := 9) (f := 2) (x := xk (e.2.1 8)) rfl (by show 2 < 4; decide) hx
  have gr := fun (X : RS) (hx : X 9 0 0 = .inr (.inr (some ((exE e 8 z.1).1 13 0)))) => rx_gr (X := X) hW w2 (t := 9) (f := 0) (x := some ((exE e 8 z.1).1 13 0)) rfl (by show 0 < 4; decide) hx
  have x1 : nwX (rwX e (mx C I)) 8 (e.2.1 8) (xdf 8) 9 0 2 = .inl (xk (e.2.1 8)) := by
    simp only [nwX]
    rw [if_neg (by omega)]
    rfl
  refine Ev.step (fun F => E9_bear F _ _ _ _ _ _) ?_
  rw [HS_HX]
  simp only [xnw, h21, hp', rf_old (κ := 8) (a := z.1) v2, gi _ x1, Option.bind_some]
  have hi : Ev (fun F => J8_init F (some z.1) (xk (e.2.1 8)) (rf e 8 p) (rf e 7 s) (rf e 1 h) (rf e 10 v) (HX (exE e 8 z.1) (nwX (rwX e (mx C I)) 8 (e.2.1 8) (xdf 8)) (z.1 + 1, z.2.1 + 11, z.2.2))) (rV (HX (exE e 8 z.1) (upX (upX (upX (upX (upX (nwX (rwX e (mx C I)) 8 (e.2.1 8) (xdf 8)) 8 (e.2.1 8) 0 (.inl (xk (e.2.1 8)))) 8 (e.2.1 8) 3 (.inr (.inr (rf e 8 p)))) 8 (e.2.1 8) 1 (.inr (.inr (rf e 7 s)))) 8 (e.2.1 8) 4 (.inr (.inr (rf e 1 h)))) 8 (e.2.1 8) 2 (.inr (.inr (rf e 10 v)))) (z.1 + 1, z.2.1 + 11, z.2.2))) := by
    refine Ev.step (fun F => E8_init F _ _ _ _ _ _ _) ?_
    have pt := fun (X : RS) (f : Nat) (hf : f < 11) (x : XE) => rx_pt (X := X) (x := x) hW w1 (t := 8) (f := f) rfl hf
    rw [a1] at pt
    simp only [reduceCtorEq, if_false, pt _ 0 (by decide), pt _ 1 (by decide), pt _ 2 (by decide), pt _ 3 (by decide), pt _ 4 (by decide), Option.bind_some]
    exact Ev.ret rfl
  refine Ev.kV hi ?_
  generalize hX2 : upX (upX (upX (upX (upX (nwX (rwX e (mx C I)) 8 (e.2.1 8) (xdf 8)) 8 (e.2.1 8) 0 (.inl (xk (e.2.1 8)))) 8 (e.2.1 8) 3 (.inr (.inr (rf e 8 p)))) 8 (e.2.1 8) 1 (.inr (.inr (rf e 7 s)))) 8 (e.2.1 8) 4 (.inr (.inr (rf e 1 h)))) 8 (e.2.1 8) 2 (.inr (.inr (rf e 10 v))) = X2
  have y : ∀ k i j, ¬ (k = 8 ∧ i = (e.2.1 8)) → X2 k i j = rwX e (mx C I) k i j := by
    intro k i j h
    rw [← hX2]
    simp only [upX, nwX]
    rw [if_neg (by omega), if_neg (by omega), if_neg (by omega), if_neg (by omega), if_neg (by omega), if_neg h]
  have x1' : X2 9 0 2 = .inl (xk (e.2.1 8)) := by rw [y _ _ _ (by omega)]; rfl
  have x0' : X2 9 0 0 = .inr (.inr (some ((exE e 8 z.1).1 13 0))) := by
    rw [y _ _ _ (by omega), exE_old vr, ← rf_v (e := e) (by decide)]
    rfl
  have sr := rx_sr (X := X2) hW wr w1 (a := (e.2.1 8)) ⟨by decide, by decide⟩ rfl g0 (by show (e.2.1 8) < ((150 : Nat) : Int); omega) (by show 150 ≤ 2147483647; decide)
  rw [a1] at sr
  have x1'' : upX X2 13 0 (e.2.1 8) (.inr (.inr (some z.1))) 9 0 2 = .inl (xk (e.2.1 8)) := by
    simp only [upX]
    rw [if_neg (by omega)]
    exact x1'
  have pt := fun (X : RS) (x : XE) => rx_pt (X := X) (x := x) hW w2 (t := 9) (f := 2) rfl (by show 2 < 4; decide)
  simp only [gi _ x1', gr _ x0', Option.bind_some, zk_lt (show -2147483648 ≤ (e.2.1 8) by omega) hn (show -2147483648 ≤ (150 : Int) by decide) (show (150 : Int) < 2147483648 by decide), sr, gi _ x1'', pt, xk_add]
  refine Ev.ite (fun _ => ?_) (fun q => absurd g1 q)
  rw [rf_nw g0] at hr
  refine Eq.mp (congrArg (fun σ => Ev (fun F => J9_bear_52 F (rf e 1 h) (some z.1) (rf e 7 s) σ) r) ?_) hr
  rw [HS_HX]
  symm
  have rp : rf e 8 p = rf (exE e 8 z.1) 8 p := (rf_ex (Or.inr (by omega))).symm
  refine HX_c hW (fun k i hv j hj => ?_)
  have hk : k < 65 := hv.1
  by_cases h1 : k = 8 ∧ i = (e.2.1 8)
  · obtain ⟨rfl, rfl⟩ := h1
    have hj : j < 11 := hj
    rw [← hX2]
    simp only [upX, nwX]
    have hc : j = 0 ∨ j = 1 ∨ j = 2 ∨ j = 3 ∨ j = 4 ∨ j = 5 ∨ j = 6 ∨ j = 7 ∨ j = 8 ∨ j = 9 ∨ j = 10 := by omega
    rcases hc with rfl | rfl | rfl | rfl | rfl | rfl | rfl | rfl | rfl | rfl | rfl
    all_goals simp [rwX, mx, cf, tnC, cv, ky, tyT, xdf, xk_zero]
    all_goals first | rfl | exact rp | exact (rf_ex (Or.inl (by decide))).symm
  · have hve : Va e k i := ((exE_v (by decide) g0).mp hv).resolve_right h1
    have hS : mx (tnC C (e.2.1 8) p s h v) I k i j = mx C I k i j := by
      unfold mx tnC
      rw [if_neg h1]
    by_cases h2 : k = 9 ∧ j = 2
    · obtain ⟨rfl, rfl⟩ := h2
      have i0 : i = 0 := by have := hve.2; have := hA.2.2.1 9 rfl; omega
      subst i0
      unfold upX
      rw [if_pos ⟨rfl, rfl, rfl⟩]
      rfl
    · by_cases h3 : k = 13
      · subst h3
        have i0 : i = 0 := by have := hve.2; have := hA.2.2.1 13 rfl; omega
        subst i0
        simp only [upX]
        rw [if_neg (by omega)]
        have ec : rwX (exE e 8 z.1) (mx (tnC C (e.2.1 8) p s h v) I) 13 0 j = .inr (.inr (rf (exE e 8 z.1) 8 (if (j : Int) < (e.2.1 8) + 1 then (j : Int) else -1))) := by
          unfold rwX
          rw [show ky 13 (((j : Nat) : Int).toNat) = 608 from rfl, cv6 (k := 8) rfl (by decide), exE_n, if_pos rfl]
        rw [ec]
        by_cases hq : (j : Int) = (e.2.1 8)
        · rw [if_pos ⟨trivial, trivial, hq⟩, if_pos (by omega), hq, rf_nw g0]
        · rw [if_neg (fun w => hq w.2.2), y _ _ _ (by omega)]
          unfold rwX
          rw [show ky 13 (((j : Nat) : Int).toNat) = 608 from rfl, cv6 (k := 8) rfl (by decide)]
          by_cases hl : (j : Int) < (e.2.1 8)
          · rw [if_pos hl, if_pos (by omega), rf_ex (Or.inr (by omega))]
          · rw [if_neg hl, if_neg (by omega), rf_n (by decide), rf_n (by decide)]
      · simp only [upX]
        rw [if_neg (by omega), if_neg (by omega), y _ _ _ h1]
        show cv e (ky k j) i j (mx C I k i j) = cv (exE e 8 z.1) (ky k j) i j _
        rw [hS]
        refine (cv_ex (by decide) hk (fun q => h3 (ky608 hk q)) (fun q => ?_) (fun a b => hD k i j hve hj a b) (by omega)).symm
        have k2 := ky808 hk q
        subst k2
        have hj : j < 4 := hj
        have : ∀ x : Fin 4, x.val ≠ 2 → ky 9 x.val ≠ 808 := by decide
        exact absurd q (this ⟨j, hj⟩ (fun w => h2 ⟨rfl, w⟩))
end AL
