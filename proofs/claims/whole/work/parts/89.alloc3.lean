/-! the class makes a space -/
section AL
variable {e : EN} {X : RS} {C I : ST} {z : Nat × Nat × Nat × Nat}
def spE (e : EN) (a : Nat) : EN := exE (exE e 7 a) 15 (a + 1)
def snC (C : ST) (g o d : Int) : ST := fun k i j => if k = 7 ∧ i = g then (if j = 1 then o else if j = 2 then d else if j = 4 then -1 else 0) else if k = 15 ∧ i = g then -1 else C k i j
theorem openSpace_ev (hA : WA e z) (hD : BD e (mx C I)) {o : Int} (o0 : -1 ≤ o) (o1 : o < (e.2.1 7)) (g0 : 0 ≤ (e.2.1 7)) (g1 : (e.2.1 7) < 20) : Ev (fun F => J9_openSpace F (rf e 9 0) (rf e 7 o) (HS e C I z)) (rR (rf (spE e z.1) 7 (e.2.1 7)) (HS (spE e z.1) (snC C (e.2.1 7) o (if o < 0 then 0 else (C 7 o 2) + 1)) I (z.1 + 2, z.2.1 + 47, z.2.2))) ∧ WA (spE e z.1) (z.1 + 2, z.2.1 + 47, z.2.2) := by
  have n15 := hA.2.2.2.1.2.2
  obtain ⟨hp, hW1⟩ := ex_push (X := rwX e (mx C I)) (L := xdf 7) hA.wx (κ := 7) (by decide) g0 rfl
  have hW1 : WX (exE e 7 z.1) (z.1 + 1, z.2.1 + 6, z.2.2) := hW1
  have hp' : xpush (HX e (rwX e (mx C I)) z) (7, xdf 7) = HX (exE e 7 z.1) (nwX (rwX e (mx C I)) 7 (e.2.1 7) (xdf 7)) (z.1 + 1, z.2.1 + 6, z.2.2) := hp
  have c15 : (exE e 7 z.1).2.1 15 = (e.2.1 7) := by rw [exE_n, if_neg (by decide), n15]
  obtain ⟨hq, hW⟩ := ex_push (X := nwX (rwX e (mx C I)) 7 (e.2.1 7) (xdf 7)) (L := List.replicate 41 (.inr (.inr none))) hW1 (κ := 15) (by decide) (by rw [c15]; exact g0) rfl
  have hW : WX (spE e z.1) (z.1 + 2, z.2.1 + 47, z.2.2) := hW
  rw [c15] at hq
  have hq' : xpush (HX (exE e 7 z.1) (nwX (rwX e (mx C I)) 7 (e.2.1 7) (xdf 7)) (z.1 + 1, z.2.1 + 6, z.2.2)) (103, List.replicate 41 (.inr (.inr none))) = HX (spE e z.1) (nwX (nwX (rwX e (mx C I)) 7 (e.2.1 7) (xdf 7)) 15 (e.2.1 7) (List.replicate 41 (.inr (.inr none)))) (z.1 + 2, z.2.1 + 47, z.2.2) := hq
  have vv : ∀ {k i}, Va (spE e z.1) k i ↔ Va e k i ∨ (k = 7 ∧ i = (e.2.1 7)) ∨ (k = 15 ∧ i = (e.2.1 7)) := by
    intro k i
    unfold spE
    rw [exE_v (by decide) (by rw [c15]; exact g0), exE_v (by decide) g0, c15, or_assoc]
  have ea : ∀ k i, (spE e z.1).1 k i = if k = 15 ∧ i = (e.2.1 7) then z.1 + 1 else if k = 7 ∧ i = (e.2.1 7) then z.1 else e.1 k i := by
    intro k i
    unfold spE
    rw [exE_a, c15, exE_a]
  have en : ∀ k, (spE e z.1).2.1 k = if k = 15 then (e.2.1 7) + 1 else if k = 7 then (e.2.1 7) + 1 else e.2.1 k := by
    intro k
    unfold spE
    rw [exE_n, c15, exE_n]
  have en7 : (spE e z.1).2.1 7 = (e.2.1 7) + 1 := by rw [en, if_neg (by decide), if_pos rfl]
  have eo : ∀ {k i}, Va e k i → (spE e z.1).1 k i = e.1 k i := by
    intro k i h
    rw [ea, if_neg, if_neg]
    · rintro ⟨rfl, rfl⟩; have := h.2.2; omega
    · rintro ⟨rfl, rfl⟩; have := h.2.2; omega
  have hWA : WA (spE e z.1) (z.1 + 2, z.2.1 + 47, z.2.2) := by
    refine ⟨hW.1, hW.2, fun k hk => ?_, ?_, ?_⟩
    · rw [en, if_neg (by rintro rfl; exact absurd hk (by decide)), if_neg (by rintro rfl; exact absurd hk (by decide))]
      exact hA.2.2.1 k hk
    · have := hA.2.2.2.1
      rw [en, en, en, en, if_neg (by decide), if_neg (by decide), if_neg (by decide), if_neg (by decide), if_pos rfl, if_neg (by decide), if_pos rfl]
      exact ⟨this.1, this.2.1, rfl⟩
    · have := hA.2.2.2.2
      rw [ea, ea, if_neg (by omega), if_neg (by omega), if_neg (by omega), if_neg (by omega)]
      exact this
  refine ⟨?_, hWA⟩
  have v2 : Va e 9 0 := ⟨by decide, by decide, hA.s rfl⟩
  have vr : Va e 14 0 := ⟨by decide, by decide, hA.s rfl⟩
  have w2 : Va (spE e z.1) 9 0 := vv.mpr (Or.inl v2)
  have wr : Va (spE e z.1) 14 0 := vv.mpr (Or.inl vr)
  have w1 : Va (spE e z.1) 7 (e.2.1 7) := vv.mpr (Or.inr (Or.inl ⟨rfl, rfl⟩))
  have u2 : Va (exE e 7 z.1) 9 0 := (exE_v (by decide) g0).mpr (Or.inl v2)
  have a1 : (spE e z.1).1 7 (e.2.1 7) = z.1 := by rw [ea, if_neg (by omega), if_pos ⟨rfl, rfl⟩]
  have hn : (e.2.1 7) < 2147483648 := by omega
  have h21 : (HX e (rwX e (mx C I)) z).2.1 = z.1 := rfl
  have r9 : rf e 9 0 = some ((spE e z.1).1 9 0) := by rw [eo v2, rf_v (by decide)]
  have r9' : rf e 9 0 = some ((exE e 7 z.1).1 9 0) := rf_old v2
  have rx : ∀ v, v ≠ (e.2.1 7) → ∀ k, rf (spE e z.1) k v = rf e k v := fun v hv k => by
    unfold spE
    rw [rf_ex (by rw [c15]; exact Or.inr hv), rf_ex (Or.inr hv)]
  have gi := fun (X : RS) (hx : X 9 0 3 = .inl (xk (e.2.1 7))) => rx_gi (X := X) hW w2 (t := 9) (f := 3) (x := xk (e.2.1 7)) rfl (by show 3 < 4; decide) hx
  have gr := fun (X : RS) (hx : X 9 0 1 = .inr (.inr (some ((spE e z.1).1 14 0)))) => rx_gr (X := X) hW w2 (t := 9) (f := 1) (x := some ((spE e z.1).1 14 0)) rfl (by show 1 < 4; decide) hx
  have g1' := rx_gi (X := nwX (rwX e (mx C I)) 7 (e.2.1 7) (xdf 7)) hW1 u2 (t := 9) (f := 3) (x := xk (e.2.1 7)) rfl (by show 3 < 4; decide) (by
    simp only [nwX]
    rw [if_neg (by omega)]
    rfl)
  rw [← r9'] at g1'
  have hi : Ev (fun F => J7_init F (some z.1) (xk (e.2.1 7)) (rf e 7 o) (HX (exE e 7 z.1) (nwX (rwX e (mx C I)) 7 (e.2.1 7) (xdf 7)) (z.1 + 1, z.2.1 + 6, z.2.2))) (rV (HX (spE e z.1) (upX (upX (upX (upX (nwX (nwX (rwX e (mx C I)) 7 (e.2.1 7) (xdf 7)) 15 (e.2.1 7) (List.replicate 41 (.inr (.inr none)))) 7 (e.2.1 7) 3 (.inr (.inr (some (z.1 + 1))))) 7 (e.2.1 7) 0 (.inl (xk (e.2.1 7)))) 7 (e.2.1 7) 1 (.inr (.inr (rf e 7 o)))) 7 (e.2.1 7) 2 (.inl (xk (if o < 0 then 0 else (C 7 o 2) + 1)))) (z.1 + 2, z.2.1 + 47, z.2.2))) := by
    refine Ev.step (fun F => E7_init F _ _ _ _) ?_
    have pt := fun (X : RS) (f : Nat) (hf : f < 6) (x : XE) => rx_pt (X := X) (x := x) hW w1 (t := 7) (f := f) rfl hf
    rw [a1] at pt
    have h41 : (xk 41).toNatClampNeg = 41 := by decide +kernel
    have h410 : ¬ (xk 41 < 0) := by decide +kernel
    have h22 : (HX (exE e 7 z.1) (nwX (rwX e (mx C I)) 7 (e.2.1 7) (xdf 7)) (z.1 + 1, z.2.1 + 6, z.2.2)).2.1 = z.1 + 1 := rfl
    have hlt : ¬ (100000 < 41) := by decide
    simp only [reduceCtorEq, if_false, xnwa, h41, h410, hlt, h22, hq', pt _ 3 (by decide), pt _ 0 (by decide), pt _ 1 (by decide), Option.bind_some, rf_none]
    refine Ev.ite (fun h => ?_) (fun h => ?_)
    · simp only [pt _ 2 (by decide), Option.bind_some]
      exact Ev.ret (by rw [if_pos h]; rfl)
    · have vo : Va e 7 o := ⟨by decide, by omega, o1⟩
      rw [rf_v (by omega), ← eo vo]
      rw [rx_gi hW (vv.mpr (Or.inl vo)) (t := 7) (f := 2) (x := xk (C 7 o 2)) rfl (by show 2 < 6; decide) (by
        simp only [upX, nwX]
        rw [if_neg (by omega), if_neg (by omega), if_neg (by omega), if_neg (by omega), if_neg (by omega)]
        rfl)]
      simp only [pt _ 2 (by decide), Option.bind_some, xk_add]
      exact Ev.ret (by rw [if_neg h]; rfl)
  refine Ev.step (fun F => E9_openSpace F _ _ _) ?_
  rw [HS_HX]
  simp only [xnw, h21, hp', g1', Option.bind_some]
  refine Ev.kV hi ?_
  rw [r9]
  generalize hX2 : upX (upX (upX (upX (nwX (nwX (rwX e (mx C I)) 7 (e.2.1 7) (xdf 7)) 15 (e.2.1 7) (List.replicate 41 (.inr (.inr none)))) 7 (e.2.1 7) 3 (.inr (.inr (some (z.1 + 1))))) 7 (e.2.1 7) 0 (.inl (xk (e.2.1 7)))) 7 (e.2.1 7) 1 (.inr (.inr (rf e 7 o)))) 7 (e.2.1 7) 2 (.inl (xk (if o < 0 then 0 else (C 7 o 2) + 1))) = X2
  have y : ∀ k i j, ¬ (k = 7 ∧ i = (e.2.1 7)) → ¬ (k = 15 ∧ i = (e.2.1 7)) → X2 k i j = rwX e (mx C I) k i j := by
    intro k i j h h'
    rw [← hX2]
    simp only [upX, nwX]
    rw [if_neg (by omega), if_neg (by omega), if_neg (by omega), if_neg (by omega), if_neg h', if_neg h]
  have x1' : X2 9 0 3 = .inl (xk (e.2.1 7)) := by rw [y _ _ _ (by omega) (by omega)]; rfl
  have x0' : X2 9 0 1 = .inr (.inr (some ((spE e z.1).1 14 0))) := by
    rw [y _ _ _ (by omega) (by omega), eo vr, ← rf_v (e := e) (by decide)]
    rfl
  have sr := rx_sr (X := X2) hW wr w1 (a := (e.2.1 7)) ⟨by decide, by decide⟩ rfl g0 (by show (e.2.1 7) < ((20 : Nat) : Int); omega) (by show 20 ≤ 2147483647; decide)
  rw [a1] at sr
  have x1'' : upX X2 14 0 (e.2.1 7) (.inr (.inr (some z.1))) 9 0 3 = .inl (xk (e.2.1 7)) := by
    simp only [upX]
    rw [if_neg (by omega)]
    exact x1'
  have pt := fun (X : RS) (x : XE) => rx_pt (X := X) (x := x) hW w2 (t := 9) (f := 3) rfl (by show 3 < 4; decide)
  simp only [gi _ x1', gr _ x0', Option.bind_some, zk_lt (show -2147483648 ≤ (e.2.1 7) by omega) hn (show -2147483648 ≤ (20 : Int) by decide) (show (20 : Int) < 2147483648 by decide), sr, gi _ x1'', pt, xk_add]
  refine Ev.ite (fun _ => Ev.ret ?_) (fun q => absurd g1 q)
  have rn : rf (spE e z.1) 7 (e.2.1 7) = some z.1 := by rw [rf_v g0, a1]
  rw [rn, HS_HX]
  unfold rR
  congr 1
  refine HX_c hW (fun k i hv j hj => ?_)
  have hk : k < 65 := hv.1
  by_cases h1 : k = 7 ∧ i = (e.2.1 7)
  · obtain ⟨rfl, rfl⟩ := h1
    have hj : j < 6 := hj
    have r15 : rf (spE e z.1) 15 (e.2.1 7) = some (z.1 + 1) := by rw [rf_v g0, ea, if_pos ⟨rfl, rfl⟩]
    have ro := rx o (by omega) 7
    rw [← hX2]
    simp only [upX, nwX]
    have hc : j = 0 ∨ j = 1 ∨ j = 2 ∨ j = 3 ∨ j = 4 ∨ j = 5 := by omega
    rcases hc with rfl | rfl | rfl | rfl | rfl | rfl
    all_goals simp [rwX, mx, cf, snC, cv, ky, tyT, xdf, xk_zero, r15, ro]
    all_goals first | rfl | exact ro.symm | exact r15.symm
  by_cases h1' : k = 15 ∧ i = (e.2.1 7)
  · obtain ⟨rfl, rfl⟩ := h1'
    have hj : j < 41 := hj
    rw [← hX2]
    simp only [upX, nwX]
    rw [if_neg (by omega), if_neg (by omega), if_neg (by omega), if_neg (by omega), if_neg (by omega), if_neg (by omega), if_pos ⟨trivial, trivial⟩]
    rw [Int.toNat_natCast, List.getElem?_replicate, if_pos hj]
    have e1 : rwX (spE e z.1) (mx (snC C (e.2.1 7) o (if o < 0 then 0 else (C 7 o 2) + 1)) I) 15 (e.2.1 7) j = .inr (.inr (rf (spE e z.1) 8 (mx (snC C (e.2.1 7) o (if o < 0 then 0 else (C 7 o 2) + 1)) I 15 (e.2.1 7) j))) := by
      unfold rwX
      rw [show ky 15 (((j : Nat) : Int).toNat) = 11 from rfl]
      rfl
    have e2 : mx (snC C (e.2.1 7) o (if o < 0 then 0 else (C 7 o 2) + 1)) I 15 (e.2.1 7) j = -1 := by
      show snC C (e.2.1 7) o (if o < 0 then 0 else (C 7 o 2) + 1) 15 (e.2.1 7) j = -1
      unfold snC
      rw [if_neg (by omega), if_pos ⟨rfl, rfl⟩]
    rw [e1, e2, rf_n (by decide)]
    rfl
  · have hve : Va e k i := (vv.mp hv).resolve_right (by omega)
    have hS : mx (snC C (e.2.1 7) o (if o < 0 then 0 else (C 7 o 2) + 1)) I k i j = mx C I k i j := by
      unfold mx snC
      rw [if_neg h1, if_neg h1']
    by_cases h2 : k = 9 ∧ j = 3
    · obtain ⟨rfl, rfl⟩ := h2
      have i0 : i = 0 := by have := hve.2; have := hA.2.2.1 9 rfl; omega
      subst i0
      unfold upX
      rw [if_pos ⟨rfl, rfl, rfl⟩]
      unfold rwX
      rw [show ky 9 (((3 : Nat) : Int).toNat) = 807 from rfl]
      show _ = Sum.inl (xk ((spE e z.1).2.1 7))
      rw [en, if_neg (by decide), if_pos rfl]
    · by_cases h3 : k = 14
      · subst h3
        have i0 : i = 0 := by have := hve.2; have := hA.2.2.1 14 rfl; omega
        subst i0
        simp only [upX]
        rw [if_neg (by omega)]
        have ec : rwX (spE e z.1) (mx (snC C (e.2.1 7) o (if o < 0 then 0 else (C 7 o 2) + 1)) I) 14 0 j = .inr (.inr (rf (spE e z.1) 7 (if (j : Int) < (e.2.1 7) + 1 then (j : Int) else -1))) := by
          unfold rwX
          rw [show ky 14 (((j : Nat) : Int).toNat) = 607 from rfl, cv6 (k := 7) rfl (by decide), en7]
        rw [ec]
        by_cases hq : (j : Int) = (e.2.1 7)
        · rw [if_pos ⟨trivial, trivial, hq⟩, if_pos (by omega), hq, rn]
        · rw [if_neg (fun w => hq w.2.2), y _ _ _ (by omega) (by omega)]
          unfold rwX
          rw [show ky 14 (((j : Nat) : Int).toNat) = 607 from rfl, cv6 (k := 7) rfl (by decide)]
          by_cases hl : (j : Int) < (e.2.1 7)
          · rw [if_pos hl, if_pos (by omega), rx _ (by omega)]
          · rw [if_neg hl, if_neg (by omega), rf_n (by decide), rf_n (by decide)]
      · simp only [upX]
        rw [if_neg (by omega), if_neg (by omega), y _ _ _ h1 h1']
        show cv e (ky k j) i j (mx C I k i j) = cv (exE (exE e 7 z.1) 15 (z.1 + 1)) (ky k j) i j _
        rw [hS]
        have b1 := hD k i j hve hj
        rw [cv_ex (e := exE e 7 z.1) (κ := 15) (by decide) hk (ky615 hk) (ky815 hk) (fun a b => by
          have := b1 a b
          rw [exE_n]
          split
          · rename_i q; rw [q] at this; omega
          · exact this) (fun a _ => by subst a; rw [c15]; exact hve.2.2)]
        refine (cv_ex (by decide) hk (fun q => h3 (ky607 hk q)) (fun q => ?_) (fun a b => b1 a b) (by omega)).symm
        have k2 := ky807 hk q
        subst k2
        have hj : j < 4 := hj
        have : ∀ x : Fin 4, x.val ≠ 3 → ky 9 x.val ≠ 807 := by decide
        exact absurd q (this ⟨j, hj⟩ (fun w => h2 ⟨rfl, w⟩))
end AL
