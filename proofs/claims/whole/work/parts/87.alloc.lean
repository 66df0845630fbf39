/-! the class makes groups, views, tasks, spaces -/
section AL
variable {e : EN} {X : RS} {C I : ST} {z : Nat × Nat × Nat × Nat}
theorem WA.wx (h : WA e z) : WX e z := ⟨h.1, h.2.1⟩
theorem WA.ex (h : WA e z) {κ s : Nat} (hκ : κ = 1 ∨ κ = 8 ∨ κ = 10) (hW : WX (exE e κ z.1) (z.1 + 1, s, z.2.2)) : WA (exE e κ z.1) (z.1 + 1, s, z.2.2) := by
  refine ⟨hW.1, hW.2, fun k hk => ?_, ?_, ?_⟩
  · rw [exE_n, if_neg]
    · exact h.2.2.1 k hk
    · rintro rfl
      rcases hκ with rfl | rfl | rfl <;> exact absurd hk (by decide)
  · have := h.2.2.2.1
    simp only [exE_n]
    rw [if_neg (by omega), if_neg (by omega), if_neg (by omega), if_neg (by omega)]
    exact this
  · have := h.2.2.2.2
    simp only [exE_a]
    rw [if_neg (by omega), if_neg (by omega)]
    exact this
theorem exE_old {κ a k : Nat} {i : Int} (h : Va e k i) : (exE e κ a).1 k i = e.1 k i := by
  rw [exE_a, if_neg]
  rintro ⟨rfl, rfl⟩
  have := h.2.2
  omega
theorem rf_old {κ a k : Nat} {i : Int} (h : Va e k i) : rf e k i = some ((exE e κ a).1 k i) := by
  rw [exE_old h, rf_v h.2.1]
theorem init1_ev (hW : WX e z) {i o d n : Int} (hv : Va e 1 i) (ho : 0 ≤ o → Va e 1 o ∧ o ≠ i ∧ X 1 o 2 = .inl (xk d)) : Ev (fun F => J1_init F (some (e.1 1 i)) (xk n) (rf e 1 o) (HX e X z)) (rV (HX e (upX (upX (upX (upX (upX (upX X 1 i 3 (.inl (xk 1000000))) 1 i 4 (.inl (xk 150))) 1 i 5 (.inl (xk 100))) 1 i 0 (.inl (xk n))) 1 i 1 (.inr (.inr (rf e 1 o)))) 1 i 2 (.inl (xk (if o < 0 then 0 else d + 1)))) z)) := by
  refine Ev.step (fun F => E1_init F _ _ _ _) ?_
  have pt := fun (X : RS) (f : Nat) (hf : f < 14) (x : XE) => rx_pt (X := X) (x := x) hW hv (t := 1) (f := f) rfl hf
  simp only [reduceCtorEq, if_false, pt _ 3 (by decide), pt _ 4 (by decide), pt _ 5 (by decide), pt _ 0 (by decide), pt _ 1 (by decide), Option.bind_some, rf_none, i32_m]
  refine Ev.ite (fun h => ?_) (fun h => ?_)
  · simp only [pt _ 2 (by decide), Option.bind_some]
    exact Ev.ret (by rw [if_pos h]; rfl)
  · have q := ho (by omega)
    rw [rf_v (by omega)]
    rw [rx_gi hW q.1 (t := 1) (f := 2) (x := xk d) rfl (by show 2 < 14; decide) (by
      simp only [upX]
      rw [if_neg (by omega), if_neg (by omega), if_neg (by omega), if_neg (by omega), if_neg (by omega)]
      exact q.2.2)]
    simp only [pt _ 2 (by decide), Option.bind_some, xk_add]
    exact Ev.ret (by rw [if_neg h]; rfl)
def gnC (C : ST) (g o d : Int) : ST := fun k i j => if k = 1 ∧ i = g then (if j = 1 then o else if j = 2 then d else if j = 3 then 1000000 else if j = 4 then 150 else if j = 5 then 100 else if j = 12 ∨ j = 13 then -1 else 0) else C k i j
theorem open_ev (hA : WA e z) (hD : BD e (mx C I)) {o : Int} (o0 : -1 ≤ o) (o1 : o < (e.2.1 1)) (g0 : 0 ≤ (e.2.1 1)) (g1 : (e.2.1 1) < 20) : Ev (fun F => J2_open F (rf e 2 0) (rf e 1 o) (HS e C I z)) (rR (rf (exE e 1 z.1) 1 (e.2.1 1)) (HS (exE e 1 z.1) (gnC C (e.2.1 1) o (if o < 0 then 0 else (C 1 o 2) + 1)) I (z.1 + 1, z.2.1 + 14, z.2.2))) ∧ WA (exE e 1 z.1) (z.1 + 1, z.2.1 + 14, z.2.2) := by
  obtain ⟨hp, hW⟩ := ex_push (X := rwX e (mx C I)) (L := xdf 1) hA.wx (κ := 1) (by decide) g0 rfl
  have hWA := hA.ex (κ := 1) (Or.inl rfl) hW
  refine ⟨?_, hWA⟩
  have v2 : Va e 2 0 := ⟨by decide, by decide, hA.s rfl⟩
  have v16 : Va e 16 0 := ⟨by decide, by decide, hA.s rfl⟩
  have w2 : Va (exE e 1 z.1) 2 0 := (exE_v (by decide) g0).mpr (Or.inl v2)
  have w16 : Va (exE e 1 z.1) 16 0 := (exE_v (by decide) g0).mpr (Or.inl v16)
  have w1 : Va (exE e 1 z.1) 1 (e.2.1 1) := (exE_v (by decide) g0).mpr (Or.inr ⟨rfl, rfl⟩)
  have a1 : (exE e 1 z.1).1 1 (e.2.1 1) = z.1 := by rw [exE_a, if_pos ⟨rfl, rfl⟩]
  have hn : (e.2.1 1) < 2147483648 := by omega
  have h21 : (HX e (rwX e (mx C I)) z).2.1 = z.1 := rfl
  have hp' : xpush (HX e (rwX e (mx C I)) z) (1, xdf 1) = _ := hp
  have gi := fun (X : RS) (hx : X 2 0 1 = .inl (xk (e.2.1 1))) => rx_gi (X := X) hW w2 (t := 2) (f := 1) (x := xk (e.2.1 1)) rfl (by show 1 < 2; decide) hx
  have gr := fun (X : RS) (hx : X 2 0 0 = .inr (.inr (some ((exE e 1 z.1).1 16 0)))) => rx_gr (X := X) hW w2 (t := 2) (f := 0) (x := some ((exE e 1 z.1).1 16 0)) rfl (by show 0 < 2; decide) hx
  have x1 : nwX (rwX e (mx C I)) 1 (e.2.1 1) (xdf 1) 2 0 1 = .inl (xk (e.2.1 1)) := by
    simp only [nwX]
    rw [if_neg (by omega)]
    rfl
  have x0 : nwX (rwX e (mx C I)) 1 (e.2.1 1) (xdf 1) 2 0 0 = .inr (.inr (some ((exE e 1 z.1).1 16 0))) := by
    simp only [nwX]
    rw [if_neg (by omega), exE_old v16, ← rf_v (e := e) (by decide)]
    rfl
  refine Ev.step (fun F => E2_open F _ _ _) ?_
  rw [HS_HX]
  simp only [xnw, h21, hp', rf_old (κ := 1) (a := z.1) v2, gi _ x1, Option.bind_some]
  rw [← rf_ex (κ := 1) (a := z.1) (k := 1) (v := o) (Or.inr (by omega))]
  have hi := init1_ev (X := nwX (rwX e (mx C I)) 1 (e.2.1 1) (xdf 1)) (n := (e.2.1 1)) (o := o) hW w1 (d := (C 1 o 2)) (fun h => ⟨(exE_v (by decide) g0).mpr (Or.inl ⟨by decide, h, o1⟩), by omega, by
    simp only [nwX]
    rw [if_neg (by omega)]
    rfl⟩)
  rw [a1] at hi
  refine Ev.kV hi ?_
  generalize hX2 : upX (upX (upX (upX (upX (upX (nwX (rwX e (mx C I)) 1 (e.2.1 1) (xdf 1)) 1 (e.2.1 1) 3 (.inl (xk 1000000))) 1 (e.2.1 1) 4 (.inl (xk 150))) 1 (e.2.1 1) 5 (.inl (xk 100))) 1 (e.2.1 1) 0 (.inl (xk (e.2.1 1)))) 1 (e.2.1 1) 1 (.inr (.inr (rf (exE e 1 z.1) 1 o)))) 1 (e.2.1 1) 2 (.inl (xk (if o < 0 then 0 else (C 1 o 2) + 1))) = X2
  have y : ∀ k i j, ¬ (k = 1 ∧ i = (e.2.1 1)) → X2 k i j = rwX e (mx C I) k i j := by
    intro k i j h
    rw [← hX2]
    simp only [upX, nwX]
    rw [if_neg (by omega), if_neg (by omega), if_neg (by omega), if_neg (by omega), if_neg (by omega), if_neg (by omega), if_neg h]
  have x1' : X2 2 0 1 = .inl (xk (e.2.1 1)) := by rw [y _ _ _ (by omega)]; rfl
  have x0' : X2 2 0 0 = .inr (.inr (some ((exE e 1 z.1).1 16 0))) := by
    rw [y _ _ _ (by omega), exE_old v16, ← rf_v (e := e) (by decide)]
    rfl
  have sr := rx_sr (X := X2) hW w16 w1 (a := (e.2.1 1)) ⟨by decide, by decide⟩ rfl g0 (by show (e.2.1 1) < ((20 : Nat) : Int); omega) (by show 20 ≤ 2147483647; decide)
  rw [a1] at sr
  have x1'' : upX X2 16 0 (e.2.1 1) (.inr (.inr (some z.1))) 2 0 1 = .inl (xk (e.2.1 1)) := by
    simp only [upX]
    rw [if_neg (by omega)]
    exact x1'
  have pt := fun (X : RS) (x : XE) => rx_pt (X := X) (x := x) hW w2 (t := 2) (f := 1) rfl (by show 1 < 2; decide)
  simp only [gi _ x1', gr _ x0', Option.bind_some, zk_lt (show -2147483648 ≤ (e.2.1 1) by omega) hn (show -2147483648 ≤ (20 : Int) by decide) (show (20 : Int) < 2147483648 by decide), sr, gi _ x1'', pt, xk_add]
  refine Ev.ite (fun _ => Ev.ret ?_) (fun q => absurd g1 q)
  rw [rf_nw g0, HS_HX]
  unfold rR
  congr 1
  refine HX_c hW (fun k i hv j hj => ?_)
  have hk : k < 65 := hv.1
  by_cases h1 : k = 1 ∧ i = (e.2.1 1)
  · obtain ⟨rfl, rfl⟩ := h1
    have hj : j < 14 := hj
    rw [← hX2]
    simp only [upX, nwX]
    have hc : j = 0 ∨ j = 1 ∨ j = 2 ∨ j = 3 ∨ j = 4 ∨ j = 5 ∨ j = 6 ∨ j = 7 ∨ j = 8 ∨ j = 9 ∨ j = 10 ∨ j = 11 ∨ j = 12 ∨ j = 13 := by omega
    rcases hc with rfl | rfl | rfl | rfl | rfl | rfl | rfl | rfl | rfl | rfl | rfl | rfl | rfl | rfl
    all_goals simp [rwX, mx, cf, gnC, cv, ky, tyT, xdf, xk_zero, rf]
    all_goals rfl
  · have hve : Va e k i := ((exE_v (by decide) g0).mp hv).resolve_right h1
    have hS : mx (gnC C (e.2.1 1) o (if o < 0 then 0 else (C 1 o 2) + 1)) I k i j = mx C I k i j := by
      unfold mx gnC
      rw [if_neg h1]
    by_cases h2 : k = 2 ∧ j = 1
    · obtain ⟨rfl, rfl⟩ := h2
      have i0 : i = 0 := by have := hve.2; have := hA.2.2.1 2 rfl; omega
      subst i0
      unfold upX
      rw [if_pos ⟨rfl, rfl, rfl⟩]
      rfl
    · by_cases h3 : k = 16
      · subst h3
        have i0 : i = 0 := by have := hve.2; have := hA.2.2.1 16 rfl; omega
        subst i0
        simp only [upX]
        rw [if_neg (by omega)]
        have ec : rwX (exE e 1 z.1) (mx (gnC C (e.2.1 1) o (if o < 0 then 0 else (C 1 o 2) + 1)) I) 16 0 j = .inr (.inr (rf (exE e 1 z.1) 1 (if (j : Int) < (e.2.1 1) + 1 then (j : Int) else -1))) := by
          unfold rwX
          rw [show ky 16 (((j : Nat) : Int).toNat) = 601 from rfl, cv6 (k := 1) rfl (by decide), exE_n, if_pos rfl]
        rw [ec]
        by_cases hq : (j : Int) = (e.2.1 1)
        · rw [if_pos ⟨trivial, trivial, hq⟩, if_pos (by omega), hq, rf_nw g0]
        · rw [if_neg (fun w => hq w.2.2), y _ _ _ (by omega)]
          unfold rwX
          rw [show ky 16 (((j : Nat) : Int).toNat) = 601 from rfl, cv6 (k := 1) rfl (by decide)]
          by_cases hl : (j : Int) < (e.2.1 1)
          · rw [if_pos hl, if_pos (by omega), rf_ex (Or.inr (by omega))]
          · rw [if_neg hl, if_neg (by omega), rf_n (by decide), rf_n (by decide)]
      · simp only [upX]
        rw [if_neg (by omega), if_neg (by omega), y _ _ _ h1]
        show cv e (ky k j) i j (mx C I k i j) = cv (exE e 1 z.1) (ky k j) i j _
        rw [hS]
        refine (cv_ex (Or.inl rfl) hk (fun q => h3 (ky601 hk q)) (fun q => ?_) (fun a b => hD k i j hve hj a b) (by omega)).symm
        have k2 := ky801 hk q
        subst k2
        have hj : j < 2 := hj
        have : j = 0 := by omega
        subst this
        exact absurd q (by decide)
end AL
