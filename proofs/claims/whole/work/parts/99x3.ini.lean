/-! the start: the first space, group, view and task of the class -/
theorem kyRf {k j : Nat} (hk : k < 65) (h1 : 3 ≤ ky k j) (h2 : ky k j < 200) : (k = 15 ∨ k = 17) ∨ (k = 1 ∧ (j = 1 ∨ j = 12 ∨ j = 13)) ∨ (k = 4 ∧ (j = 2 ∨ j = 3 ∨ j = 8)) ∨ (k = 6 ∧ j = 0) ∨ (k = 7 ∧ (j = 1 ∨ j = 4)) ∨ (k = 8 ∧ (j = 1 ∨ j = 2 ∨ j = 3 ∨ j = 4)) ∨ (k = 10 ∧ j = 1) := by
  have a2 : ∀ k : Fin 65, 13 ≤ k.val → (Nat.blt (ky k 0) 3 || Nat.ble 200 (ky k 0) || Nat.beq k 15 || Nat.beq k 17) = true := by decide +kernel
  have := kyA (P := fun k j c => (Nat.blt c 3 || Nat.ble 200 c || Nat.beq k 15 || Nat.beq k 17) || ((Nat.beq k 1 && (Nat.beq j 1 || Nat.beq j 12 || Nat.beq j 13)) || (Nat.beq k 4 && (Nat.beq j 2 || Nat.beq j 3 || Nat.beq j 8)) || (Nat.beq k 6 && Nat.beq j 0) || (Nat.beq k 7 && (Nat.beq j 1 || Nat.beq j 4)) || (Nat.beq k 8 && (Nat.beq j 1 || Nat.beq j 2 || Nat.beq j 3 || Nat.beq j 4)) || (Nat.beq k 10 && Nat.beq j 1))) (by decide +kernel) (fun k hk j => by
    show ((Nat.blt (ky k 0) 3 || Nat.ble 200 (ky k 0) || Nat.beq k 15 || Nat.beq k 17) || _) = true
    rw [a2 k hk, Bool.true_or]) (fun k j => rfl) k j hk
  simp only [Bool.or_eq_true, Bool.and_eq_true, Nat.blt_eq, Nat.ble_eq, Nat.beq_eq] at this
  omega
section INI
variable {e : EN} {C I : ST} {N b aL aM L : Nat} {s3 s4 : Int} {sc : Int → Int}
theorem bd_g (hc : ∀ k, 0 ≤ e.2.1 k) (h : ∀ k i (j : Nat), Va e k i → (k = 15 ∨ k = 17) ∨ (k = 1 ∧ (j = 1 ∨ j = 12 ∨ j = 13)) ∨ (k = 4 ∧ (j = 2 ∨ j = 3 ∨ j = 8)) ∨ (k = 6 ∧ j = 0) ∨ (k = 7 ∧ (j = 1 ∨ j = 4)) ∨ (k = 8 ∧ (j = 1 ∨ j = 2 ∨ j = 3 ∨ j = 4)) ∨ (k = 10 ∧ j = 1) → C k i j = -1 ∨ (k = 4 ∧ j = 2 ∧ C k i j < e.2.1 10) ∨ (k = 10 ∧ j = 1 ∧ C k i j < e.2.1 4)) : BD e (mx C I) := by
  intro k i j hv hj q3 q2
  have hp := kyRf hv.1 q3 q2
  have hm : mx C I k i j = C k i j := by
    unfold mx
    have : cf k = true := by
      rcases hp with (rfl | rfl) | ⟨rfl, _⟩ | ⟨rfl, _⟩ | ⟨rfl, _⟩ | ⟨rfl, _⟩ | ⟨rfl, _⟩ | ⟨rfl, _⟩ <;> rfl
    rw [this]
    rfl
  rw [hm]
  rcases h k i j hv hp with y | y | y
  · rw [y]
    have := hc (ky k j - 3)
    omega
  · obtain ⟨rfl, rfl, y⟩ := y
    exact y
  · obtain ⟨rfl, rfl, y⟩ := y
    exact y
theorem iM_0 (h3 : 0 ≤ s3) (h4 : 0 ≤ s4) (k : Nat) : 0 ≤ iM s3 s4 k := by
  unfold iM
  repeat' split
  all_goals omega
theorem iF_wa (hW : WX (iF N b aL aM L s3 s4) (N + 172, 2225, aL, aM)) : WA (iF N b aL aM L s3 s4) (N + 172, 2225, aL, aM) := by
  refine ⟨hW.1, hW.2, fun k h => ?_, ⟨rfl, rfl, rfl⟩, rfl⟩
  have hk : k = 0 ∨ k = 2 ∨ k = 3 ∨ k = 5 ∨ k = 6 ∨ k = 9 ∨ k = 11 ∨ k = 13 ∨ k = 14 ∨ k = 16 ∨ k = 18 ∨ k = 19 := by
    simpa [sg, or_assoc] using h
  rcases hk with rfl | rfl | rfl | rfl | rfl | rfl | rfl | rfl | rfl | rfl | rfl | rfl <;> rfl
/-- what the class has at its start -/
def iC1 : ST := snC iC 0 (-1) 0
def iC2 : ST := gnC iC1 0 (-1) 0
def iC3 : ST := vnC iC2 0
def iC4 : ST := up (ocC iC3 0 0 0 0 1) 10 0 1 0
def iJ : ST := up (ocI (up (up (fun _ _ _ => 0) 12 0 28 1) 49 0 0 (-1)) 0 0 0 0) 49 0 0 0
def iC5 (w nx : Int → Int) (J : ST) : ST := adG J (chC (tnC iC4 0 (-1) 0 0 0) w nx 0 0) 8 0 1
def iE5 (e : EN) (a : Nat) : EN := exE (exE (exE (spE e a) 1 (a + 2)) 10 (a + 3)) 8 (a + 4)
theorem iCM : CM (iF N b aL aM L s3 s4) iC (fun _ _ _ => 0) := by
  refine ⟨rfl, fun v v0 v1 => absurd (show v < 0 from v1) (by omega), fun m m0 m1 => ⟨rfl, rfl, rfl, rfl, rfl, ?_, fun d d0 d1 => ⟨(by decide : (-1 : Int) ≤ -1 ∧ (-1 : Int) < 80), fun k k0 k1 => ?_⟩⟩, ?_, rfl⟩
  · show (0 : Int) = sm (bzT (fun _ _ _ => 0) m) 80
    rw [show bzT (fun _ _ _ => 0) m = fun _ => 0 from funext (fun k => rfl), sm_z]
  · constructor
    · intro q; exact absurd (show (0 : Int) = 1 from q.1) (by decide)
    · intro q
      have : k = -1 := q
      omega
  · show (0 : Int) = sm (fun k => 0) 80
    rw [sm_z]
theorem iKe (hW : WX (iF N b aL aM L s3 s4) (N + 172, 2225, aL, aM)) (h3 : 0 ≤ s3) (h4 : 0 ≤ s4) {J : ST} (hB : RB J) (hg : (J 12 0 17) = 1) (hw0 : (J 38 0 0) = -1) : Ev (fun F => iK F (some N) (HS (iF N b aL aM L s3 s4) iC I (N + 172, 2225, aL, aM))) (rV (HS (iE5 (iF N b aL aM L s3 s4) (N + 172)) (iC5 (fun _ => -1) (fun _ => 1) J) I (N + 177, 2299, aL, aM))) ∧ WA (iE5 (iF N b aL aM L s3 s4) (N + 172)) (N + 177, 2299, aL, aM) ∧ CM (iE5 (iF N b aL aM L s3 s4) (N + 172)) (iC5 (fun _ => -1) (fun _ => 1) J) iJ := by
  have hA := iF_wa hW
  have c0 := fun k => iM_0 h3 h4 k
  generalize hE : iF N b aL aM L s3 s4 = e at *
  have e0 : e.2.1 = iM s3 s4 := by rw [← hE]; rfl
  have a11 : e.1 11 0 = N := by rw [← hE]; rfl
  have n7 : (e.2.1 7) = 0 := by rw [e0]; rfl
  have n1 : (e.2.1 1) = 0 := by rw [e0]; rfl
  have n8 : (e.2.1 8) = 0 := by rw [e0]; rfl
  have n10 : (e.2.1 10) = 0 := by rw [e0]; rfl
  have n4 : (e.2.1 4) = 80 := by rw [e0]; rfl
  have n15 : (e.2.1 15) = 0 := by rw [e0]; rfl
  have c0 : ∀ k, 0 ≤ e.2.1 k := fun k => by rw [e0]; exact c0 k
  have hM0 : CM e iC (fun _ _ _ => 0) := by rw [← hE]; exact iCM
  -- the space
  have hD0 : BD e (mx iC I) := bd_g c0 (fun k i j hv hp => Or.inl (by
    have hv2 := hv.2
    rcases hp with (rfl | rfl) | ⟨rfl, y⟩ | ⟨rfl, y⟩ | ⟨rfl, y⟩ | ⟨rfl, y⟩ | ⟨rfl, y⟩ | ⟨rfl, y⟩
    · rw [n15] at hv2; omega
    · rfl
    · rw [n1] at hv2; omega
    · rcases y with rfl | rfl | rfl <;> rfl
    · subst y; rfl
    · rw [n7] at hv2; omega
    · rw [n8] at hv2; omega
    · rw [n10] at hv2; omega))
  obtain ⟨op1, hA1⟩ := openSpace_ev (I := I) (o := -1) hA hD0 (by decide) (by omega) (by omega) (by omega)
  rw [rf_n (i := -1) (by decide), n7, if_pos (by decide)] at op1
  have z1 : (((N + 172, 2225, aL, aM) : Nat × Nat × Nat × Nat).1 + 2, ((N + 172, 2225, aL, aM) : Nat × Nat × Nat × Nat).2.1 + 47, ((N + 172, 2225, aL, aM) : Nat × Nat × Nat × Nat).2.2) = (N + 174, 2272, aL, aM) := rfl
  rw [z1] at op1 hA1
  have hz : ((N + 172, 2225, aL, aM) : Nat × Nat × Nat × Nat).1 = N + 172 := rfl
  rw [hz] at op1 hA1
  have ea1 : ∀ k i, k ≠ 7 → k ≠ 15 → (spE e (N + 172)).1 k i = e.1 k i := fun k i a b => by
    unfold spE
    rw [exE_a, if_neg (fun q => b q.1), exE_a, if_neg (fun q => a q.1)]
  have en1 : ∀ k, k ≠ 7 → k ≠ 15 → (spE e (N + 172)).2.1 k = e.2.1 k := fun k a b => by
    unfold spE
    rw [exE_n, if_neg b, exE_n, if_neg a]
  have en17 : (spE e (N + 172)).2.1 7 = 1 := by
    unfold spE
    rw [exE_n, if_neg (by decide), exE_n, if_pos rfl, n7]; rfl
  have en115 : (spE e (N + 172)).2.1 15 = 1 := by
    unfold spE
    rw [exE_n, if_pos rfl, exE_n, if_neg (by decide), n15]; rfl
  have c1 : ∀ k, 0 ≤ (spE e (N + 172)).2.1 k := fun k => by
    by_cases k7 : k = 7
    · rw [k7, en17]; decide
    · by_cases k15 : k = 15
      · rw [k15, en115]; decide
      · rw [en1 k k7 k15]; exact c0 k
  have hiC1 : snC iC 0 (-1) 0 = iC1 := rfl
  rw [hiC1] at op1
  have eE5 : iE5 e (N + 172) = exE (exE (exE (spE e (N + 172)) 1 (N + 174)) 10 (N + 175)) 8 (N + 176) := rfl
  rw [eE5]
  have r11 : some N = rf (spE e (N + 172)) 11 0 := by rw [rf_v (by decide), ea1 _ _ (by decide) (by decide), a11]
  have r11' : some N = rf e 11 0 := by rw [rf_v (by decide), a11]
  have r9 : rf e 9 0 = rf (spE e (N + 172)) 9 0 := (rf_k (ea1 _ _ (by decide) (by decide))).symm
  have hM1 : CM (spE e (N + 172)) iC1 (fun _ _ _ => 0) := (hM0.ec (en1 10 (by decide) (by decide))).fr (fun k i j q => by
    have : k ≠ 7 := by omega
    have : k ≠ 15 := by omega
    simp [iC1, snC, *]) (fun _ _ _ _ _ => rfl) rfl rfl
  have m1 : (spE e (N + 172)).2.1 1 = 0 := by rw [en1 1 (by decide) (by decide), n1]
  have m8 : (spE e (N + 172)).2.1 8 = 0 := by rw [en1 8 (by decide) (by decide), n8]
  have m10 : (spE e (N + 172)).2.1 10 = 0 := by rw [en1 10 (by decide) (by decide), n10]
  have m4 : (spE e (N + 172)).2.1 4 = 80 := by rw [en1 4 (by decide) (by decide), n4]
  have start : ∀ r, Ev (fun F => (xgr (HS (spE e (N + 172)) iC1 I (N + 174, 2272, aL, aM)) (rf (spE e (N + 172)) 11 0) 11 0).bind fun v29 => xgd (HS (spE e (N + 172)) iC1 I (N + 174, 2272, aL, aM)) v29 2 (xcr (J2_open F v29 (none : Option Nat) (HS (spE e (N + 172)) iC1 I (N + 174, 2272, aL, aM))) fun v31 s30 => (xgr s30 (rf (spE e (N + 172)) 11 0) 11 4).bind fun v32 => xgd s30 v32 5 (xcr (J5_openView F v32 s30) fun v34 s33 => xgd s33 (rf (spE e (N + 172)) 9 0) 9 (xcr (J9_bear F (rf (spE e (N + 172)) 9 0) (none : Option Nat) (rf (spE e (N + 172)) 7 0) v31 v34 s33) fun v36 s35 => some (.inl none, s35))))) r → Ev (fun F => iK F (some N) (HS e iC I (N + 172, 2225, aL, aM))) r := fun r hr => by
    unfold iK
    rw [r11']
    refine Ev.bs (g_11_1 hA) (Ev.bs (g_11_1 hA) (Ev.xg (d_9 hA) (Ev.kR op1 ?_)))
    rw [← r11', r11, r9]
    exact hr
  have en1k := en1
  clear op1 en1 hD0
  generalize spE e (N + 172) = e1 at *
  -- the group
  have hD1 : BD e1 (mx iC1 I) := bd_g c1 (fun k i j hv hp => Or.inl (by
    have hv2 := hv.2
    rcases hp with (rfl | rfl) | ⟨rfl, y⟩ | ⟨rfl, y⟩ | ⟨rfl, y⟩ | ⟨rfl, y⟩ | ⟨rfl, y⟩ | ⟨rfl, y⟩
    · rw [en115] at hv2
      have : i = 0 := by omega
      subst this; rfl
    · rfl
    · rw [m1] at hv2; omega
    · rcases y with rfl | rfl | rfl <;> rfl
    · subst y; rfl
    · rw [en17] at hv2
      have : i = 0 := by omega
      subst this
      rcases y with rfl | rfl <;> rfl
    · rw [m8] at hv2; omega
    · rw [m10] at hv2; omega))
  obtain ⟨op2, hA2⟩ := open_ev (I := I) (o := -1) hA1 hD1 (by decide) (by omega) (by omega) (by omega)
  rw [rf_n (i := -1) (by decide), m1, if_pos (by decide)] at op2
  have z2 : (((N + 174, 2272, aL, aM) : Nat × Nat × Nat × Nat).1 + 1, ((N + 174, 2272, aL, aM) : Nat × Nat × Nat × Nat).2.1 + 14, ((N + 174, 2272, aL, aM) : Nat × Nat × Nat × Nat).2.2) = (N + 175, 2286, aL, aM) := rfl
  rw [z2] at op2 hA2
  have hz2 : ((N + 174, 2272, aL, aM) : Nat × Nat × Nat × Nat).1 = N + 174 := rfl
  rw [hz2] at op2 hA2
  have hiC2 : gnC iC1 0 (-1) 0 = iC2 := rfl
  rw [hiC2] at op2
  have ea2 : ∀ k i, k ≠ 1 → (exE e1 1 (N + 174)).1 k i = e1.1 k i := fun k i a => by rw [exE_a, if_neg (fun q => a q.1)]
  have en2 : ∀ k, k ≠ 1 → (exE e1 1 (N + 174)).2.1 k = e1.2.1 k := fun k a => by rw [exE_n, if_neg a]
  have en21 : (exE e1 1 (N + 174)).2.1 1 = 1 := by rw [exE_n, if_pos rfl, m1]; rfl
  have hM2 : CM (exE e1 1 (N + 174)) iC2 (fun _ _ _ => 0) := (hM1.ec (en2 10 (by decide))).fr (fun k i j q => by
    have : k ≠ 1 := by omega
    simp [iC2, gnC, *]) (fun _ _ _ _ _ => rfl) rfl rfl
  have start2 : ∀ r, Ev (fun F => xcr (J5_openView F (rf (exE e1 1 (N + 174)) 5 0) (HS (exE e1 1 (N + 174)) iC2 I (N + 175, 2286, aL, aM))) fun v34 s33 => xgd s33 (rf (exE e1 1 (N + 174)) 9 0) 9 (xcr (J9_bear F (rf (exE e1 1 (N + 174)) 9 0) (none : Option Nat) (rf (exE e1 1 (N + 174)) 7 0) (rf (exE e1 1 (N + 174)) 1 0) v34 s33) fun v36 s35 => some (.inl none, s35))) r → Ev (fun F => iK F (some N) (HS e iC I (N + 172, 2225, aL, aM))) r := fun r hr => by
    refine start r (Ev.bs (g_11_0 hA1) (Ev.xg (d_2 hA1) (Ev.kR op2 ?_)))
    rw [← rf_k (e := e1) (ea2 11 0 (by decide)), ← rf_k (e := e1) (ea2 9 0 (by decide)), ← rf_k (e := e1) (ea2 7 0 (by decide))]
    exact Ev.bs (g_11_4 hA2) (Ev.xg (d_5 hA2) hr)
  have c2 : ∀ k, 0 ≤ (exE e1 1 (N + 174)).2.1 k := fun k => by
    by_cases k1 : k = 1
    · rw [k1, en21]; decide
    · rw [en2 k k1]; exact c1 k
  have p7 := (en2 7 (by decide)).trans en17
  have p15 := (en2 15 (by decide)).trans en115
  have p8 := (en2 8 (by decide)).trans m8
  have p10 := (en2 10 (by decide)).trans m10
  have p4 := (en2 4 (by decide)).trans m4
  clear op2 start hD1 ea2
  generalize exE e1 1 (N + 174) = e2 at *
  -- the view
  have hD2 : BD e2 (mx iC2 I) := bd_g c2 (fun k i j hv hp => Or.inl (by
    have hv2 := hv.2
    rcases hp with (rfl | rfl) | ⟨rfl, y⟩ | ⟨rfl, y⟩ | ⟨rfl, y⟩ | ⟨rfl, y⟩ | ⟨rfl, y⟩ | ⟨rfl, y⟩
    · rw [p15] at hv2
      have : i = 0 := by omega
      subst this; rfl
    · rfl
    · rw [en21] at hv2
      have : i = 0 := by omega
      subst this
      rcases y with rfl | rfl | rfl <;> rfl
    · rcases y with rfl | rfl | rfl <;> rfl
    · subst y; rfl
    · rw [p7] at hv2
      have : i = 0 := by omega
      subst this
      rcases y with rfl | rfl <;> rfl
    · rw [p8] at hv2; omega
    · rw [p10] at hv2; omega))
  obtain ⟨av, hA3⟩ := addView_ev (I := I) hA2 hD2 (by omega) (by omega)
  have hM3 := hM2.vn (a := N + 175) (by decide)
  rw [p10] at av hM3
  have z3 : (((N + 175, 2286, aL, aM) : Nat × Nat × Nat × Nat).1 + 1, ((N + 175, 2286, aL, aM) : Nat × Nat × Nat × Nat).2.1 + 2, ((N + 175, 2286, aL, aM) : Nat × Nat × Nat × Nat).2.2) = (N + 176, 2288, aL, aM) := rfl
  rw [z3] at av hA3
  have hz3 : ((N + 175, 2286, aL, aM) : Nat × Nat × Nat × Nat).1 = N + 175 := rfl
  rw [hz3] at av hA3
  have hiC3 : vnC iC2 0 = iC3 := rfl
  rw [hiC3] at av hM3
  have ea3 : ∀ k i, k ≠ 10 → (exE e2 10 (N + 175)).1 k i = e2.1 k i := fun k i a => by rw [exE_a, if_neg (fun q => a q.1)]
  have en3 : ∀ k, k ≠ 10 → (exE e2 10 (N + 175)).2.1 k = e2.2.1 k := fun k a => by rw [exE_n, if_neg a]
  have en310 : (exE e2 10 (N + 175)).2.1 10 = 1 := by rw [exE_n, if_pos rfl, p10]; rfl
  have hM3 : CM (exE e2 10 (N + 175)) iC3 (up (up (fun _ _ _ => 0) 12 0 28 1) 49 0 0 (-1)) := hM3
  have hFm : FmR (up (up (fun _ _ _ => 0) 12 0 28 1) 49 0 0 (-1)) 0 := ⟨by decide, rfl, fun k a b => absurd b (by omega)⟩
  have oc := occupyM_ev (I := I) (v := 0) (w := 0) (q := 0) hA3 hM3 (fun k a b q => absurd q (by
    show ¬ (0 : Int) = 1
    decide)) (by decide) (by omega) hFm
  have hM4 := (hM3.oc (v := 0) (w := 0) (q := 0) hFm).ro (v := 0) (x := 0)
  have hiC4 : up (ocC iC3 0 0 0 0 ((iC3 5 0 3) + 1)) 10 0 1 0 = iC4 := rfl
  rw [hiC4] at hM4
  have start3 : ∀ r, Ev (fun F => xcr (J9_bear F (rf (exE e2 10 (N + 175)) 9 0) (none : Option Nat) (rf (exE e2 10 (N + 175)) 7 0) (rf (exE e2 10 (N + 175)) 1 0) (rf (exE e2 10 (N + 175)) 10 0) (HS (exE e2 10 (N + 175)) iC4 I (N + 176, 2288, aL, aM))) fun v36 s35 => some (.inl none, s35)) r → Ev (fun F => iK F (some N) (HS e iC I (N + 172, 2225, aL, aM))) r := fun r hr => by
    refine start2 r ?_
    have ov : Ev (fun F => J5_openView F (rf e2 5 0) (HS e2 iC2 I (N + 175, 2286, aL, aM))) (rR (rf (exE e2 10 (N + 175)) 10 0) (HS (exE e2 10 (N + 175)) iC4 I (N + 176, 2288, aL, aM))) := by
      refine Ev.step (fun F => E5_openView F _ _) ?_
      refine Ev.xg (d_5 hA2) (Ev.kR av ?_)
      rw [← rf_k (e := e2) (ea3 5 0 (by decide))]
      refine Ev.xg (d_5 hA3) (Ev.kR oc ?_)
      exact Ev.bs (p_10_1 hA3 (by decide) (by omega)) (Ev.ret rfl)
    refine Ev.kR ov ?_
    rw [← rf_k (e := e2) (ea3 9 0 (by decide)), ← rf_k (e := e2) (ea3 7 0 (by decide)), ← rf_k (e := e2) (ea3 1 0 (by decide))]
    exact Ev.xg (d_9 hA3) hr
  have c3 : ∀ k, 0 ≤ (exE e2 10 (N + 175)).2.1 k := fun k => by
    by_cases k1 : k = 10
    · rw [k1, en310]; decide
    · rw [en3 k k1]; exact c2 k
  have t7 := (en3 7 (by decide)).trans p7
  have t15 := (en3 15 (by decide)).trans p15
  have t8 := (en3 8 (by decide)).trans p8
  have t4 := (en3 4 (by decide)).trans p4
  have t1 := (en3 1 (by decide)).trans en21
  clear start2 av oc hD2 ea3 hM3
  generalize exE e2 10 (N + 175) = e3 at *
  -- the task
  have hD3 : BD e3 (mx iC4 I) := bd_g c3 (fun k i j hv hp => by
    have hv2 := hv.2
    rcases hp with (rfl | rfl) | ⟨rfl, y⟩ | ⟨rfl, y⟩ | ⟨rfl, y⟩ | ⟨rfl, y⟩ | ⟨rfl, y⟩ | ⟨rfl, y⟩
    · rw [t15] at hv2
      have : i = 0 := by omega
      subst this; exact Or.inl rfl
    · exact Or.inl rfl
    · rw [t1] at hv2
      have : i = 0 := by omega
      subst this
      rcases y with rfl | rfl | rfl <;> exact Or.inl rfl
    · rcases y with rfl | rfl | rfl
      · refine Or.inr (Or.inl ⟨rfl, rfl, ?_⟩)
        rw [en310]
        by_cases i0 : i = 0
        · subst i0; decide
        · have : iC4 4 i ((2 : Nat) : Int) = -1 := by simp [iC4, ocC, iC3, vnC, iC2, gnC, iC1, snC, iC, up, i0]
          omega
      · exact Or.inl (by simp [iC4, ocC, iC3, vnC, iC2, gnC, iC1, snC, iC, up])
      · exact Or.inl (by simp [iC4, ocC, iC3, vnC, iC2, gnC, iC1, snC, iC, up])
    · subst y; exact Or.inl rfl
    · rw [t7] at hv2
      have : i = 0 := by omega
      subst this
      rcases y with rfl | rfl <;> exact Or.inl rfl
    · rw [t8] at hv2; omega
    · subst y
      refine Or.inr (Or.inr ⟨rfl, rfl, ?_⟩)
      rw [en310] at hv2
      have : i = 0 := by omega
      subst this
      rw [t4]
      decide)
  have hA5 : WA (exE e3 8 (N + 176)) (N + 177, 2299, aL, aM) := by
    obtain ⟨hp, hW⟩ := ex_push (X := rwX e3 (mx iC4 I)) (L := xdf 8) hA3.wx (κ := 8) (by decide) (by omega) rfl
    exact hA3.ex (κ := 8) (by decide) hW
  have br := fun r => bear_ev (I := I) (r := r) (p := -1) (s := 0) (h := 0) (v := 0) hA3 hD3 (by omega) (by omega) (by omega)
  have ea5 : ∀ k i, k ≠ 8 → (exE e3 8 (N + 176)).1 k i = e3.1 k i := fun k i a => by rw [exE_a, if_neg (fun q => a q.1)]
  have en5 : ∀ k, k ≠ 8 → (exE e3 8 (N + 176)).2.1 k = e3.2.1 k := fun k a => by rw [exE_n, if_neg a]
  have en58 : (exE e3 8 (N + 176)).2.1 8 = 1 := by rw [exE_n, if_pos rfl, t8]; rfl
  refine ⟨start3 _ ?_, hA5, ?_⟩
  · have b52 : Ev (fun F => J9_bear_52 F (rf e3 1 0) (rf (exE e3 8 (N + 176)) 8 (e3.2.1 8)) (rf e3 7 0) (HS (exE e3 8 (N + 176)) (tnC iC4 (e3.2.1 8) (-1) 0 0 0) I (N + 177, 2299, aL, aM))) (rR (rf (exE e3 8 (N + 176)) 8 0) (HS (exE e3 8 (N + 176)) (iC5 (fun _ => -1) (fun _ => 1) J) I (N + 177, 2299, aL, aM))) := by
      rw [t8, ← rf_k (e := e3) (ea5 7 0 (by decide)), ← rf_k (e := e3) (ea5 1 0 (by decide))]
      refine bear52_ev (hd := fun _ _ => -1) (gv := fun _ => 0) (w := fun _ => -1) (nx := fun _ => 1) hA5 (fun k a b => by omega) (by omega) (fun s => nx_new.symm) (by rw [en5 7 (by decide)]; omega) 0 (by decide) _ (by rw [en5 7 (by decide)]; omega) (fun j j0 j1 => ?_) (fun j j0 j1 => ?_) (fun j j0 q => by decide) _ ?_
      · rw [en5 7 (by decide)] at j1
        have : j = 0 := by omega
        subst this; rfl
      · have : j = 0 := by omega
        subst this
        exact ⟨⟨rfl, by decide, by decide⟩, fun m => rfl⟩
      · refine Ev.step (fun F => E9_bear_52 F _ _ _ _) ?_
        refine Ev.ite (fun _ => ?_) (fun q => absurd rfl q)
        have e1 : (exE e3 8 (N + 176)).2.1 1 = (J 12 0 17) := by rw [en5 1 (by decide), hg]; exact t1
        refine Ev.xg (d_1 hA5 (by decide) (by omega)) (Ev.kV (Ev.step (fun F => E1_addLive F _ _ _) (addLive_ev hA5 hB e1 0 (by decide) _ 1 (fun k a b => ?_) (by omega))) (Ev.ret rfl))
        have : k = 0 := by omega
        subst this
        rw [hw0]; rfl
    have br := (br _ b52).1
    rw [rf_n (i := -1) (by decide)] at br
    exact Ev.kR br (Ev.ret rfl)
  · refine (hM4.ec (en5 10 (by decide))).fr (fun k i j q => ?_) (fun _ _ _ _ _ => rfl) rfl rfl
    have : k ≠ 1 := by omega
    have : k ≠ 7 := by omega
    have : k ≠ 15 := by omega
    have : k ≠ 8 := by omega
    simp [iC5, adG, chC, tnC, *]
end INI
