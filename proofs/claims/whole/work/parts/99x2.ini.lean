/-! the start: the class's own objects, but for the first space, group, view and task -/
/-- in which order the reference's arrays come -/
def rk (k : Nat) : Nat := if k ≤ 32 then k - 21 else if k ≤ 36 then k - 22 else if k ≤ 45 then k - 23 else if k ≤ 55 then k - 26 else k - 29
def iA (N b aL aM : Nat) : Nat → Int → Nat := fun k i => if k = 62 then b else if k = 63 then aL else if k = 64 then aM else if k = 11 then N else if k = 2 then N + 1 else if k = 16 then N + 2 else if k = 9 then N + 3 else if k = 13 then N + 4 else if k = 14 then N + 5 else if k = 3 then N + 6 else if k = 0 then N + 7 else if k = 5 then N + 8 else if k = 18 then N + 9 else if k = 19 then N + 10 else if k = 6 then N + 11 else if k = 4 then N + 12 + 2 * i.toNat else if k = 17 then N + 12 + 2 * i.toNat + 1 else if k = 12 then N + 177 else N + 177 + rk k
def iN (s3 s4 : Int) : Nat → Int := fun k => if k = 62 then 1 else if k = 63 then s3 else if k = 64 then s4 else 0
def iE (N b aL aM L : Nat) (s3 s4 : Int) : EN := (iA N b aL aM, iN s3 s4, L)
def iX (sc : Int → Int) : RS := fun k _ j => if k = 62 then .inl (xk (sc j)) else if k = 63 then .inl (xk (stv 900 j)) else .inl (xk (stv 901 j))
/-- counts when the class's single objects and mounts are there -/
def iM (s3 s4 : Int) : Nat → Int := fun k => if k = 4 ∨ k = 17 then 80 else if k = 62 then 1 else if k = 63 then s3 else if k = 64 then s4 else if k = 11 ∨ k = 2 ∨ k = 16 ∨ k = 9 ∨ k = 13 ∨ k = 14 ∨ k = 3 ∨ k = 0 ∨ k = 5 ∨ k = 18 ∨ k = 19 ∨ k = 6 then 1 else 0
def iF (N b aL aM L : Nat) (s3 s4 : Int) : EN := (iA N b aL aM, iM s3 s4, L)
def iC : ST := fun k _ j => if (k = 4 ∧ (j = 2 ∨ j = 3 ∨ j = 8)) ∨ (k = 6 ∧ j = 0) ∨ k = 17 then -1 else 0
def iI (sc : Int → Int) : ST := fun k _ j => if k = 62 then sc j else 0
def iK (F : Nat) (l0 : Option Nat) (s24 : XH) : XR := (xgr s24 l0 11 1).bind fun v25 => (xgr s24 l0 11 1).bind fun v26 => xgd s24 v26 9 (xcr (J9_openSpace F v26 (none : Option Nat) s24) fun v28 s27 => (xgr s27 l0 11 0).bind fun v29 => xgd s27 v29 2 (xcr (J2_open F v29 (none : Option Nat) s27) fun v31 s30 => (xgr s30 l0 11 4).bind fun v32 => xgd s30 v32 5 (xcr (J5_openView F v32 s30) fun v34 s33 => xgd s33 v25 9 (xcr (J9_bear F v25 (none : Option Nat) v28 v31 v34 s33) fun v36 s35 => some (.inl none, s35)))))
def iH (F : Nat) (l0 : Option Nat) (s8 : XH) : XR := xnw s8 (3, xdf 3) fun a9 s10 => (xgr s10 l0 11 1).bind fun v11 => (xgr s10 l0 11 0).bind fun v12 => xcv (J3_init F (some a9) v11 v12 s10) fun s13 => (xpt s13 l0 11 2 (.inr (.inr (some a9)))).bind fun s14 => xnw s14 (0, xdf 0) fun a15 s16 => (xgr s16 l0 11 1).bind fun v17 => (xgr s16 l0 11 0).bind fun v18 => xcv (J0_init F (some a15) v17 v18 s16) fun s19 => (xpt s19 l0 11 3 (.inr (.inr (some a15)))).bind fun s20 => xnw s20 (5, xdf 5) fun a21 s22 => xcv (J5_init F (some a21) s22) fun s23 => (xpt s23 l0 11 4 (.inr (.inr (some a21)))).bind fun s24 => iK F l0 s24
theorem e11i (F : Nat) (l0 : Option Nat) (s0 : XH) : J11_init (F + 1) l0 s0 = (if l0 = none then none else xnw s0 (2, xdf 2) fun a1 s2 => xcv (J2_init F (some a1) s2) fun s3 => (xpt s3 l0 11 0 (.inr (.inr (some a1)))).bind fun s4 => xnw s4 (9, xdf 9) fun a5 s6 => xcv (J9_init F (some a5) s6) fun s7 => (xpt s7 l0 11 1 (.inr (.inr (some a5)))).bind fun s8 => iH F l0 s8) := E11_init F l0 s0
section INI
variable {N b aL aM L : Nat} {s3 s4 : Int} {sc : Int → Int} {e : EN} {X : RS} {z : Nat × Nat × Nat × Nat}
theorem j5i (hA : WX e z) (h5 : Va e 5 0) (c18 : e.2.1 18 = 0) (a18 : e.1 18 0 = z.1) (c19 : e.2.1 19 = 0) (a19 : e.1 19 0 = z.1 + 1) (c6 : e.2.1 6 = 0) (a6 : e.1 6 0 = z.1 + 2) (c4 : e.2.1 4 = 0) (c17 : e.2.1 17 = 0) (ha4 : ∀ m, 0 ≤ m → m < 80 → e.1 4 m = z.1 + 3 + 2 * m.toNat) (ha17 : ∀ m, 0 ≤ m → m < 80 → e.1 17 m = z.1 + 3 + 2 * m.toNat + 1) : Ev (fun F => J5_init F (some (e.1 5 0)) (HX e X z)) (rV (HX (mtE (bump (bump (bump e 18) 19) 6) 80) (mtX (bump (bump (bump e 18) 19) 6) (upX (nwX (upX (nwX (upX (nwX X 18 0 (List.replicate 80 (.inr (.inr none)))) 5 0 0 (.inr (.inr (some (e.1 18 0))))) 19 0 (List.replicate 10 (.inr (.inr none)))) 5 0 1 (.inr (.inr (some (e.1 19 0))))) 6 0 (xdf 6)) 5 0 2 (.inr (.inr (some (e.1 6 0))))) 80) (z.1 + 1 + 1 + 1 + 160, z.2.1 + 80 + 10 + 2 + 1920, z.2.2))) ∧ WX (mtE (bump (bump (bump e 18) 19) 6) 80) (z.1 + 1 + 1 + 1 + 160, z.2.1 + 80 + 10 + 2 + 1920, z.2.2) := by
  have w18 : WX (bump e 18) (z.1 + 1, z.2.1 + 80, z.2.2) := WX.bump hA (by decide) (by omega) (by rw [c18]; exact a18)
  have w19 : WX (bump (bump e 18) 19) (z.1 + 1 + 1, z.2.1 + 80 + 10, z.2.2) := WX.bump w18 (by decide) (by show 0 ≤ e.2.1 19; omega) (by show e.1 19 (e.2.1 19) = z.1 + 1; rw [c19]; exact a19)
  have w6 : WX (bump (bump (bump e 18) 19) 6) (z.1 + 1 + 1 + 1, z.2.1 + 80 + 10 + 2, z.2.2) := WX.bump w19 (by decide) (by show 0 ≤ e.2.1 6; omega) (by show e.1 6 (e.2.1 6) = z.1 + 1 + 1; rw [c6]; exact a6)
  have v18 := vaup (κ := 18) (by decide) (by omega) h5
  have v19 := vaup (κ := 19) (by decide) (by show 0 ≤ e.2.1 19; omega) v18
  have v6 := vaup (κ := 6) (by decide) (by show 0 ≤ e.2.1 6; omega) v19
  have u18 : Va (bump (bump (bump e 18) 19) 6) 18 0 := ⟨by decide, by decide, by show (0 : Int) < e.2.1 18 + 1; omega⟩
  have m0 : mtE (bump (bump (bump e 18) 19) 6) 0 = bump (bump (bump e 18) 19) 6 := by
    refine Prod.ext rfl (Prod.ext ?_ rfl)
    funext k
    show (if k = 4 ∨ k = 17 then (0 : Int) else (bump (bump (bump e 18) 19) 6).2.1 k) = _
    by_cases k4 : k = 4
    · subst k4; exact c4.symm
    · by_cases k17 : k = 17
      · subst k17; exact c17.symm
      · simp [k4, k17]
  have x0 : ∀ (Y : RS) (e' : EN), mtX e' Y 0 = Y := fun Y e' => by
    funext k i j
    unfold mtX
    rw [if_neg (by omega), if_neg (by omega), if_neg (by omega)]
  obtain ⟨i1, i2⟩ := init35 (e := bump (bump (bump e 18) 19) 6) (z := (z.1 + 1 + 1 + 1, z.2.1 + 80 + 10 + 2, z.2.2)) (s := z.2.1 + 80 + 10 + 2) (X := upX (nwX (upX (nwX (upX (nwX X 18 0 (List.replicate 80 (.inr (.inr none)))) 5 0 0 (.inr (.inr (some (e.1 18 0))))) 19 0 (List.replicate 10 (.inr (.inr none)))) 5 0 1 (.inr (.inr (some (e.1 19 0))))) 6 0 (xdf 6)) 5 0 2 (.inr (.inr (some (e.1 6 0))))) v6 u18 (by simp [upX, nwX]; rfl) (fun m a b => ha4 m a b) (fun m a b => ha17 m a b) (fun j a b => by
    generalize hL : (List.replicate 80 (Sum.inr (Sum.inr none) : XE)) = Lr
    have t : Lr[j.toNat]? = some (Sum.inr (Sum.inr none)) := by
      rw [← hL, List.getElem?_replicate, if_pos (by omega)]
    simp [upX, nwX, t]) 80 0 (by decide) (by decide) (by rw [m0]; exact w6)
  rw [m0, x0] at i1
  refine ⟨?_, i2⟩
  refine Ev.step (fun F => E5_init F _ _) ?_
  refine Ev.ite (fun q => absurd q (by simp)) (fun _ => ?_)
  refine Ev.nwa (κ := 18) (w := 80) (by decide +kernel) hA (by decide) c18 (by decide) a18 rfl rfl (fun _ _ => ?_)
  refine Ev.bs (rx_pt w18 v18 rfl (by show 0 < 6; decide)) ?_
  refine Ev.nwa (κ := 19) (w := 10) (by decide +kernel) w18 (by decide) c19 (by decide) a19 rfl rfl (fun _ _ => ?_)
  refine Ev.bs (rx_pt w19 v19 rfl (by show 1 < 6; decide)) ?_
  refine Ev.nw (κ := 6) (L := xdf 6) w19 (by decide) c6 (by decide) a6 rfl rfl (fun _ hV => ?_)
  refine Ev.kV (Ev.step (fun F => E6_init F _ _) (Ev.ite (fun q => absurd q (by simp)) (fun _ => Ev.ret rfl))) ?_
  refine Ev.bs (rx_pt w6 v6 rfl (by show 2 < 6; decide)) ?_
  exact i1
theorem iE_c : mtE (bump (bump (bump (bump (bump (bump (bump (bump (bump (bump (bump (bump (iE N b aL aM L s3 s4) 11) 2) 16) 9) 13) 14) 3) 0) 5) 18) 19) 6) 80 = iF N b aL aM L s3 s4 := by
  refine Prod.ext rfl (Prod.ext ?_ rfl)
  funext k
  show (if k = 4 ∨ k = 17 then (80 : Int) else (bump (bump (bump (bump (bump (bump (bump (bump (bump (bump (bump (bump (iE N b aL aM L s3 s4) 11) 2) 16) 9) 13) 14) 3) 0) 5) 18) 19) 6).2.1 k) = iM s3 s4 k
  by_cases h4 : k = 4
  · subst h4; rfl
  by_cases h17 : k = 17
  · subst h17; rfl
  by_cases h11 : k = 11
  · subst h11; rfl
  by_cases h2 : k = 2
  · subst h2; rfl
  by_cases h16 : k = 16
  · subst h16; rfl
  by_cases h9 : k = 9
  · subst h9; rfl
  by_cases h13 : k = 13
  · subst h13; rfl
  by_cases h14 : k = 14
  · subst h14; rfl
  by_cases h3 : k = 3
  · subst h3; rfl
  by_cases h0 : k = 0
  · subst h0; rfl
  by_cases h5 : k = 5
  · subst h5; rfl
  by_cases h18 : k = 18
  · subst h18; rfl
  by_cases h19 : k = 19
  · subst h19; rfl
  by_cases h6 : k = 6
  · subst h6; rfl
  · simp [bump, iE, iN, iM, h4, h17, h11, h2, h16, h9, h13, h14, h3, h0, h5, h18, h19, h6]
/-- the raw store that the class's constructor leaves -/
def iY (N : Nat) (e : EN) (sc : Int → Int) : RS := upX (mtX e (upX (nwX (upX (nwX (upX (nwX (nwX (upX (upX (upX (nwX (upX (upX (upX (nwX (upX (upX (nwX (upX (nwX (nwX (upX (upX (nwX (nwX (nwX (iX sc) 11 0 (xdf 11)) 2 0 (xdf 2)) 16 0 (List.replicate 20 (.inr (.inr none)))) 2 0 0 (.inr (.inr (some (N + 2))))) 11 0 0 (.inr (.inr (some (N + 1))))) 9 0 (xdf 9)) 13 0 (List.replicate 150 (.inr (.inr none)))) 9 0 0 (.inr (.inr (some (N + 4))))) 14 0 (List.replicate 20 (.inr (.inr none)))) 9 0 1 (.inr (.inr (some (N + 5))))) 11 0 1 (.inr (.inr (some (N + 3))))) 3 0 (xdf 3)) 3 0 0 (.inr (.inr (some (N + 3))))) 3 0 1 (.inr (.inr (some (N + 1))))) 11 0 2 (.inr (.inr (some (N + 6))))) 0 0 (xdf 0)) 0 0 0 (.inr (.inr (some (N + 3))))) 0 0 1 (.inr (.inr (some (N + 1))))) 11 0 3 (.inr (.inr (some (N + 7))))) 5 0 (xdf 5)) 18 0 (List.replicate 80 (.inr (.inr none)))) 5 0 0 (.inr (.inr (some (N + 9))))) 19 0 (List.replicate 10 (.inr (.inr none)))) 5 0 1 (.inr (.inr (some (N + 10))))) 6 0 (xdf 6)) 5 0 2 (.inr (.inr (some (N + 11))))) 80) 11 0 4 (.inr (.inr (some (N + 8))))
theorem iY_c (he4 : ∀ i, e.1 4 i = N + 12 + 2 * i.toNat) (he17 : ∀ i, e.1 17 i = N + 12 + 2 * i.toNat + 1) {k : Nat} {i : Int} (hv : Va (iF N b aL aM L s3 s4) k i) {j : Nat} (hj : j < kl (iF N b aL aM L s3 s4) k) : iY N e sc k i j = rwX (iF N b aL aM L s3 s4) (mx iC (iI sc)) k i j := by
  have hv2 : i < iM s3 s4 k := hv.2.2
  have hv1 := hv.2.1
  unfold iY
  by_cases k11 : k = 11
  · subst k11
    have i1 : i < 1 := hv2
    have i0 : i = 0 := by omega
    subst i0
    have hj : j < 5 := hj
    have hc : j = 0 ∨ j = 1 ∨ j = 2 ∨ j = 3 ∨ j = 4 := by omega
    rcases hc with rfl | rfl | rfl | rfl | rfl <;> first | rfl | exact congrArg Sum.inl xk_zero.symm
  by_cases k2 : k = 2
  · subst k2
    have i1 : i < 1 := hv2
    have i0 : i = 0 := by omega
    subst i0
    have hj : j < 2 := hj
    have hc : j = 0 ∨ j = 1 := by omega
    rcases hc with rfl | rfl <;> first | rfl | exact congrArg Sum.inl xk_zero.symm
  by_cases k9 : k = 9
  · subst k9
    have i1 : i < 1 := hv2
    have i0 : i = 0 := by omega
    subst i0
    have hj : j < 4 := hj
    have hc : j = 0 ∨ j = 1 ∨ j = 2 ∨ j = 3 := by omega
    rcases hc with rfl | rfl | rfl | rfl <;> first | rfl | exact congrArg Sum.inl xk_zero.symm
  by_cases k3 : k = 3
  · subst k3
    have i1 : i < 1 := hv2
    have i0 : i = 0 := by omega
    subst i0
    have hj : j < 3 := hj
    have hc : j = 0 ∨ j = 1 ∨ j = 2 := by omega
    rcases hc with rfl | rfl | rfl <;> first | rfl | exact congrArg Sum.inl xk_zero.symm
  by_cases k0 : k = 0
  · subst k0
    have i1 : i < 1 := hv2
    have i0 : i = 0 := by omega
    subst i0
    have hj : j < 3 := hj
    have hc : j = 0 ∨ j = 1 ∨ j = 2 := by omega
    rcases hc with rfl | rfl | rfl <;> first | rfl | exact congrArg Sum.inl xk_zero.symm
  by_cases k5 : k = 5
  · subst k5
    have i1 : i < 1 := hv2
    have i0 : i = 0 := by omega
    subst i0
    have hj : j < 6 := hj
    have hc : j = 0 ∨ j = 1 ∨ j = 2 ∨ j = 3 ∨ j = 4 ∨ j = 5 := by omega
    rcases hc with rfl | rfl | rfl | rfl | rfl | rfl <;> first | rfl | exact congrArg Sum.inl xk_zero.symm
  by_cases k6 : k = 6
  · subst k6
    have i1 : i < 1 := hv2
    have i0 : i = 0 := by omega
    subst i0
    have hj : j < 2 := hj
    have hc : j = 0 ∨ j = 1 := by omega
    rcases hc with rfl | rfl <;> first | rfl | exact congrArg Sum.inl xk_zero.symm
  by_cases k16 : k = 16
  · subst k16
    have i1 : i < 1 := hv2
    have i0 : i = 0 := by omega
    subst i0
    have hj : j < 20 := hj
    have r : rwX (iF N b aL aM L s3 s4) (mx iC (iI sc)) 16 0 j = .inr (.inr (rf (iF N b aL aM L s3 s4) 1 (if (j : Int) < (iF N b aL aM L s3 s4).2.1 1 then j else -1))) := cv6 (k := 1) rfl (by decide)
    rw [r, show (iF N b aL aM L s3 s4).2.1 1 = 0 from rfl, if_neg (by omega), rf_n (by decide)]
    generalize hL : (List.replicate 20 (Sum.inr (Sum.inr none) : XE)) = Lr
    have t : Lr[j]? = some (Sum.inr (Sum.inr none)) := by
      rw [← hL, List.getElem?_replicate, if_pos hj]
    simp [upX, nwX, mtX, t]
  by_cases k13 : k = 13
  · subst k13
    have i1 : i < 1 := hv2
    have i0 : i = 0 := by omega
    subst i0
    have hj : j < 150 := hj
    have r : rwX (iF N b aL aM L s3 s4) (mx iC (iI sc)) 13 0 j = .inr (.inr (rf (iF N b aL aM L s3 s4) 8 (if (j : Int) < (iF N b aL aM L s3 s4).2.1 8 then j else -1))) := cv6 (k := 8) rfl (by decide)
    rw [r, show (iF N b aL aM L s3 s4).2.1 8 = 0 from rfl, if_neg (by omega), rf_n (by decide)]
    generalize hL : (List.replicate 150 (Sum.inr (Sum.inr none) : XE)) = Lr
    have t : Lr[j]? = some (Sum.inr (Sum.inr none)) := by
      rw [← hL, List.getElem?_replicate, if_pos hj]
    simp [upX, nwX, mtX, t]
  by_cases k14 : k = 14
  · subst k14
    have i1 : i < 1 := hv2
    have i0 : i = 0 := by omega
    subst i0
    have hj : j < 20 := hj
    have r : rwX (iF N b aL aM L s3 s4) (mx iC (iI sc)) 14 0 j = .inr (.inr (rf (iF N b aL aM L s3 s4) 7 (if (j : Int) < (iF N b aL aM L s3 s4).2.1 7 then j else -1))) := cv6 (k := 7) rfl (by decide)
    rw [r, show (iF N b aL aM L s3 s4).2.1 7 = 0 from rfl, if_neg (by omega), rf_n (by decide)]
    generalize hL : (List.replicate 20 (Sum.inr (Sum.inr none) : XE)) = Lr
    have t : Lr[j]? = some (Sum.inr (Sum.inr none)) := by
      rw [← hL, List.getElem?_replicate, if_pos hj]
    simp [upX, nwX, mtX, t]
  by_cases k19 : k = 19
  · subst k19
    have i1 : i < 1 := hv2
    have i0 : i = 0 := by omega
    subst i0
    have hj : j < 10 := hj
    have r : rwX (iF N b aL aM L s3 s4) (mx iC (iI sc)) 19 0 j = .inr (.inr (rf (iF N b aL aM L s3 s4) 10 (if (j : Int) < (iF N b aL aM L s3 s4).2.1 10 then j else -1))) := cv6 (k := 10) rfl (by decide)
    rw [r, show (iF N b aL aM L s3 s4).2.1 10 = 0 from rfl, if_neg (by omega), rf_n (by decide)]
    generalize hL : (List.replicate 10 (Sum.inr (Sum.inr none) : XE)) = Lr
    have t : Lr[j]? = some (Sum.inr (Sum.inr none)) := by
      rw [← hL, List.getElem?_replicate, if_pos hj]
    simp [upX, nwX, mtX, t]
  by_cases k18 : k = 18
  · subst k18
    have i1 : i < 1 := hv2
    have i0 : i = 0 := by omega
    subst i0
    have hj : j < 80 := hj
    have r : rwX (iF N b aL aM L s3 s4) (mx iC (iI sc)) 18 0 j = .inr (.inr (rf (iF N b aL aM L s3 s4) 4 (if (j : Int) < (iF N b aL aM L s3 s4).2.1 4 then j else -1))) := cv6 (k := 4) rfl (by decide)
    have r4 : (iF N b aL aM L s3 s4).1 4 j = N + 12 + 2 * (j : Int).toNat := rfl
    rw [r, show (iF N b aL aM L s3 s4).2.1 4 = 80 from rfl, if_pos (by omega), rf_v (by omega), r4, ← he4]
    have t : (j : Int) < 80 := by omega
    simp [upX, nwX, mtX, t]
  by_cases k4 : k = 4
  · subst k4
    have i1 : i < 80 := hv2
    have hj : j < 9 := hj
    have hc : j = 0 ∨ j = 1 ∨ j = 2 ∨ j = 3 ∨ j = 4 ∨ j = 5 ∨ j = 6 ∨ j = 7 ∨ j = 8 := by omega
    have t : 0 ≤ i ∧ i < 80 := ⟨hv1, i1⟩
    have r17 : rf (iF N b aL aM L s3 s4) 17 i = some (N + 12 + 2 * i.toNat + 1) := by rw [rf_v hv1]; rfl
    rcases hc with rfl | rfl | rfl | rfl | rfl | rfl | rfl | rfl | rfl
    · have r : rwX (iF N b aL aM L s3 s4) (mx iC (iI sc)) 4 i ((0 : Nat) : Int) = .inl (xk i) := rfl
      rw [r]; simp [upX, nwX, mtX, t]
    · have r : rwX (iF N b aL aM L s3 s4) (mx iC (iI sc)) 4 i ((1 : Nat) : Int) = .inr (.inr (rf (iF N b aL aM L s3 s4) 17 i)) := rfl
      rw [r, r17, ← he17]; simp [upX, nwX, mtX, t]
    · have r : rwX (iF N b aL aM L s3 s4) (mx iC (iI sc)) 4 i ((2 : Nat) : Int) = .inr (.inr none) := rfl
      rw [r]; simp [upX, nwX, mtX, t]
    · have r : rwX (iF N b aL aM L s3 s4) (mx iC (iI sc)) 4 i ((3 : Nat) : Int) = .inr (.inr none) := rfl
      rw [r]; simp [upX, nwX, mtX, t]
    · have r : rwX (iF N b aL aM L s3 s4) (mx iC (iI sc)) 4 i ((4 : Nat) : Int) = .inl (xk 0) := rfl
      rw [r, xk_zero]; simp [upX, nwX, mtX, t]
    · have r : rwX (iF N b aL aM L s3 s4) (mx iC (iI sc)) 4 i ((5 : Nat) : Int) = .inl (xk 0) := rfl
      rw [r, xk_zero]; simp [upX, nwX, mtX, t]
    · have r : rwX (iF N b aL aM L s3 s4) (mx iC (iI sc)) 4 i ((6 : Nat) : Int) = .inl (xk 0) := rfl
      rw [r, xk_zero]; simp [upX, nwX, mtX, t]
    · have r : rwX (iF N b aL aM L s3 s4) (mx iC (iI sc)) 4 i ((7 : Nat) : Int) = .inl (xk 0) := rfl
      rw [r, xk_zero]; simp [upX, nwX, mtX, t]
    · have r : rwX (iF N b aL aM L s3 s4) (mx iC (iI sc)) 4 i ((8 : Nat) : Int) = .inr (.inr none) := rfl
      rw [r]; simp [upX, nwX, mtX, t]
  by_cases k17 : k = 17
  · subst k17
    have i1 : i < 80 := hv2
    have t : 0 ≤ i ∧ i < 80 := ⟨hv1, i1⟩
    have r : rwX (iF N b aL aM L s3 s4) (mx iC (iI sc)) 17 i j = .inr (.inr none) := rfl
    rw [r]; simp [upX, nwX, mtX, t]
  by_cases k62 : k = 62
  · subst k62
    have r : rwX (iF N b aL aM L s3 s4) (mx iC (iI sc)) 62 i j = .inl (xk (sc j)) := rfl
    rw [r]; simp [upX, nwX, mtX, iX]
  by_cases k63 : k = 63
  · subst k63
    have r : rwX (iF N b aL aM L s3 s4) (mx iC (iI sc)) 63 i j = .inl (xk (stv 900 j)) := rfl
    rw [r]; simp [upX, nwX, mtX, iX]
  by_cases k64 : k = 64
  · subst k64
    have r : rwX (iF N b aL aM L s3 s4) (mx iC (iI sc)) 64 i j = .inl (xk (stv 901 j)) := rfl
    rw [r]; simp [upX, nwX, mtX, iX]
  · exfalso
    have : iM s3 s4 k = 0 := by simp [iM, *]
    omega
theorem Ev.hx {f : Nat → XH → XR} {σ σ' : XH} {r : XV × XH} (h : σ = σ') (hk : Ev (fun F => f F σ') r) : Ev (fun F => f F σ) r := by
  rw [h]; exact hk
theorem j11i (hA0 : WX (bump (iE N b aL aM L s3 s4) 11) (N + 1, 5, aL, aM)) (r : XV × XH) (h : WX (iF N b aL aM L s3 s4) (N + 172, 2225, aL, aM) → Ev (fun F => iK F (some N) (HS (iF N b aL aM L s3 s4) iC (iI sc) (N + 172, 2225, aL, aM))) r) : Ev (fun F => J11_init F (some N) (HX (bump (iE N b aL aM L s3 s4) 11) (nwX (iX sc) 11 0 (xdf 11)) (N + 1, 5, aL, aM))) r := by
  refine Ev.step (fun F => e11i F _ _) ?_
  refine Ev.ite (fun q => absurd q (by simp)) (fun _ => ?_)
  refine Ev.nw (κ := 2) (L := xdf 2) hA0 (by decide) (m := 0) rfl (by decide) rfl rfl rfl (fun w2 v2 => ?_)
  have w16 := (j2i (X := iX sc) w2 v2 rfl rfl).2
  refine Ev.kV (j2i w2 v2 rfl rfl).1 ?_
  refine Ev.bs (rx_pt (k := 11) (i := 0) w16 ⟨by decide, by decide, (by decide : (0 : Int) < 1)⟩ rfl (by show 0 < 5; decide)) ?_
  refine Ev.nw (κ := 9) (L := xdf 9) w16 (by decide) (m := 0) rfl (by decide) rfl rfl rfl (fun w9 v9 => ?_)
  have w14 := (j9i (X := iX sc) w9 v9 rfl rfl rfl rfl).2
  refine Ev.kV (j9i w9 v9 rfl rfl rfl rfl).1 ?_
  refine Ev.bs (rx_pt (k := 11) (i := 0) w14 ⟨by decide, by decide, (by decide : (0 : Int) < 1)⟩ rfl (by show 1 < 5; decide)) ?_
  unfold iH
  refine Ev.nw (κ := 3) (L := xdf 3) w14 (by decide) (m := 0) rfl (by decide) rfl rfl rfl (fun w3 v3 => ?_)
  refine Ev.bs (rx_gr (k := 11) (i := 0) (x := some (N + 3)) w3 ⟨by decide, by decide, (by decide : (0 : Int) < 1)⟩ rfl (by show 1 < 5; decide) rfl) ?_
  refine Ev.bs (rx_gr (k := 11) (i := 0) (x := some (N + 1)) w3 ⟨by decide, by decide, (by decide : (0 : Int) < 1)⟩ rfl (by show 0 < 5; decide) rfl) ?_
  refine Ev.kV (j3i w3 v3) ?_
  refine Ev.bs (rx_pt (k := 11) (i := 0) w3 ⟨by decide, by decide, (by decide : (0 : Int) < 1)⟩ rfl (by show 2 < 5; decide)) ?_
  refine Ev.nw (κ := 0) (L := xdf 0) w3 (by decide) (m := 0) rfl (by decide) rfl rfl rfl (fun w0 v0 => ?_)
  refine Ev.bs (rx_gr (k := 11) (i := 0) (x := some (N + 3)) w0 ⟨by decide, by decide, (by decide : (0 : Int) < 1)⟩ rfl (by show 1 < 5; decide) rfl) ?_
  refine Ev.bs (rx_gr (k := 11) (i := 0) (x := some (N + 1)) w0 ⟨by decide, by decide, (by decide : (0 : Int) < 1)⟩ rfl (by show 0 < 5; decide) rfl) ?_
  refine Ev.kV (j0i w0 v0) ?_
  refine Ev.bs (rx_pt (k := 11) (i := 0) w0 ⟨by decide, by decide, (by decide : (0 : Int) < 1)⟩ rfl (by show 3 < 5; decide)) ?_
  refine Ev.nw (κ := 5) (L := xdf 5) w0 (by decide) (m := 0) rfl (by decide) rfl rfl rfl (fun w5 v5 => ?_)
  have w80 := (j5i (X := iX sc) w5 v5 rfl rfl rfl rfl rfl rfl rfl rfl (fun m a b => rfl) (fun m a b => rfl)).2
  refine Ev.kV (j5i w5 v5 rfl rfl rfl rfl rfl rfl rfl rfl (fun m a b => rfl) (fun m a b => rfl)).1 ?_
  refine Ev.bs (rx_pt (k := 11) (i := 0) w80 ⟨by decide, by decide, (by decide : (0 : Int) < 1)⟩ rfl (by show 4 < 5; decide)) ?_
  have w80' : WX (iF N b aL aM L s3 s4) (N + 172, 2225, aL, aM) := by
    rw [← iE_c]
    exact w80
  refine Ev.hx ?_ (h w80')
  rw [HS_HX]
  refine Eq.trans (b := HX (iF N b aL aM L s3 s4) (iY N (bump (bump (bump (bump (bump (bump (bump (bump (bump (bump (bump (bump (iE N b aL aM L s3 s4) 11) 2) 16) 9) 13) 14) 3) 0) 5) 18) 19) 6) sc) (N + 172, 2225, aL, aM)) ?_ (HX_c w80' (fun k i hv j hj => iY_c (fun i => rfl) (fun i => rfl) hv hj))
  rw [← iE_c]
  rfl
end INI
