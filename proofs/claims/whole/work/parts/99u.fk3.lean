/-! fork: what is made -/
def fkB (F : Nat) (l0 l4 v1 v2 : Option Nat) (s : XH) : XR := (xgr s l0 11 1).bind fun v3 => (xgr s l4 8 4).bind fun v4 => xgd s v3 9 (xcr (J9_bear F v3 l4 v1 v4 v2 s) fun v6 s5 => (xgr s5 l0 11 3).bind fun v7 => xgd s5 v7 0 (xcv (J0_admit F v7 v6 (xk 0) s5) fun s8 => (xgi s8 v6 8 0).bind fun v9 => some (.inl (some (.inl v9)), s8)))
def fkT (F : Nat) (l0 : Option Nat) (l3 : Int32) (l4 v1 : Option Nat) (s : XH) : XR := if l3 = 0 then ((xgr s l4 8 2).bind fun v2 => fkB F l0 l4 v1 v2 s) else ((xgr s l0 11 4).bind fun v10 => (xgr s l4 8 2).bind fun v11 => xgd s v10 5 (xcr (J5_copyView F v10 v11 s) fun v13 s12 => fkB F l0 l4 v1 v13 s12))
theorem fk69 (F : Nat) (l0 : Option Nat) (l2 l3 : Int32) (l4 : Option Nat) (s0 : XH) : J11_fork_69 (F + 1) l0 l2 l3 l4 s0 = (if l2 = 0 then ((xgr s0 l4 8 1).bind fun v1 => fkT F l0 l3 l4 v1 s0) else ((xgr s0 l0 11 1).bind fun v21 => (xgr s0 l4 8 1).bind fun v22 => xgd s0 v21 9 (xcr (J9_openSpace F v21 v22 s0) fun v24 s23 => fkT F l0 l3 l4 v24 s23))) := E11_fork_69 F l0 l2 l3 l4 s0
def fkR (F : Nat) (l0 : Option Nat) (l5 : Int32) (s : XH) : XR := (xgr s l0 12 10).bind fun v15 => (xsl s v15 l5 (lN 0)).bind fun s16 => xgd s16 l0 12 (xcv (J12_come F l0 l5 (xk 0) s16) fun s17 => some (.inl (some (.inl l5)), s17))
def fkS (F : Nat) (l0 : Option Nat) (l1 l3 l5 : Int32) (v11 : Option Nat) (s10 : XH) : XR := if l3 = 0 then ((xgr s10 l0 12 6).bind fun v12 => (xai s10 v12 l1).bind fun v13 => (xsi s10 v11 l5 v13).bind fun s14 => fkR F l0 l5 s14) else ((xgr s10 l0 12 6).bind fun v18 => (xai s10 v18 l1).bind fun v19 => xgd s10 l0 12 (xci (J12_copyView F l0 v19 s10) fun v21 s20 => (xsi s20 v11 l5 v21).bind fun s22 => fkR F l0 l5 s22))
def fkN (F : Nat) (l0 : Option Nat) (l1 l3 l4 l5 : Int32) (s0 : XH) : XR := (xgr s0 l0 12 2).bind fun v1 => (xsi s0 v1 l5 (xk 0)).bind fun s2 => (xgr s2 l0 12 3).bind fun v3 => (xsi s2 v3 l5 l1).bind fun s4 => (xgr s4 l0 12 4).bind fun v5 => (xsi s4 v5 l5 l4).bind fun s6 => (xgr s6 l0 12 5).bind fun v7 => (xgr s6 l0 12 5).bind fun v8 => (xai s6 v8 l1).bind fun v9 => (xsi s6 v7 l5 v9).bind fun s10 => (xgr s10 l0 12 6).bind fun v11 => fkS F l0 l1 l3 l5 v11 s10
theorem fk242 (F : Nat) (l0 : Option Nat) (l1 l3 l4 l5 : Int32) (s0 : XH) : J12_fork_242 (F + 1) l0 l1 l3 l4 l5 (xk (-1)) s0 = fkN F l0 l1 l3 l4 l5 s0 := (E12_fork_242 F l0 l1 l3 l4 l5 (xk (-1)) s0).trans (if_pos rfl)
theorem rf_k {e e' : EN} {k : Nat} {i : Int} (h : e'.1 k i = e.1 k i) : rf e' k i = rf e k i := by
  by_cases q : i < 0
  · rw [rf_n q, rf_n q]
  · rw [rf_v (by omega), rf_v (by omega), h]
section FKs
variable {e : EN} {C I J : ST} {z : Nat × Nat × Nat × Nat} {w nx : Int → Int} {p t sp cp n : Int}
theorem bd_sn {a : Nat} {o d : Int} (hA : WA e z) (hD : BD e (mx C I)) (n8 : 0 ≤ (e.2.1 8)) (n7 : 0 ≤ (e.2.1 7)) (o1 : o < (e.2.1 7)) : BD (spE e a) (mx (snC C (e.2.1 7) o d) I) := by
  have n15 := hA.2.2.2.1.2.2
  have en : ∀ k, (spE e a).2.1 k = if k = 15 then (e.2.1 15) + 1 else if k = 7 then (e.2.1 7) + 1 else e.2.1 k := fun k => by
    unfold spE
    rw [exE_n]
    split
    · rw [exE_n, if_neg (by decide)]
    · rw [exE_n]
  have mono : ∀ k, e.2.1 k ≤ (spE e a).2.1 k := fun k => by
    rw [en]
    split
    · rename_i q; rw [q]; omega
    · split
      · rename_i q; rw [q]; omega
      · exact Int.le_refl _
  intro k i j hv hj q3 q2
  have hv2 := hv.2.2
  rw [en] at hv2
  by_cases k7 : k = 7
  · subst k7
    rw [if_neg (by decide), if_pos rfl] at hv2
    have hj : j < 6 := hj
    by_cases hi : i = (e.2.1 7)
    · have hc : j = 0 ∨ j = 1 ∨ j = 2 ∨ j = 3 ∨ j = 4 ∨ j = 5 := by omega
      rcases hc with rfl | rfl | rfl | rfl | rfl | rfl
      · exact absurd q3 (by decide)
      · show snC C (e.2.1 7) o d 7 i 1 < (spE e a).2.1 7
        rw [en]
        simp [snC, hi]
        omega
      · exact absurd q3 (by decide)
      · exact absurd q2 (by decide)
      · show snC C (e.2.1 7) o d 7 i 4 < (spE e a).2.1 8
        rw [en]
        simp [snC, hi]
        omega
      · exact absurd q3 (by decide)
    · have := hD 7 i j ⟨by decide, hv.2.1, by omega⟩ hj q3 q2
      have e1 : mx (snC C (e.2.1 7) o d) I 7 i j = mx C I 7 i j := by simp [mx, snC, hi]
      rw [e1]
      exact Int.lt_of_lt_of_le this (mono _)
  by_cases k15 : k = 15
  · subst k15
    rw [if_pos rfl] at hv2
    by_cases hi : i = (e.2.1 7)
    · show snC C (e.2.1 7) o d 15 i j < (spE e a).2.1 8
      rw [en]
      simp [snC, hi]
      omega
    · have := hD 15 i j ⟨by decide, hv.2.1, by omega⟩ hj q3 q2
      have e1 : mx (snC C (e.2.1 7) o d) I 15 i j = mx C I 15 i j := by simp [mx, snC, hi]
      rw [e1]
      exact Int.lt_of_lt_of_le this (mono _)
  · rw [if_neg k15, if_neg k7] at hv2
    have := hD k i j ⟨hv.1, hv.2.1, hv2⟩ hj q3 q2
    have e1 : mx (snC C (e.2.1 7) o d) I k i j = mx C I k i j := by simp [mx, snC, k7, k15]
    rw [e1]
    exact Int.lt_of_lt_of_le this (mono _)
theorem fkA (hA : WA e z) (hR : WR e) (hC : Cpl e C J) (hI : Inv n J) (p0 : 0 ≤ p) (p1 : p < (J 12 0 1)) (s01 : sp = 0 ∨ sp = 1) (hs : sp = 1 → (J 12 0 13) < 20) : ∃ (e1 : EN) (C1 : ST) (z1 : Nat × Nat × Nat × Nat) (w : Int → Int) (h S : Int), WA e1 z1 ∧ WR e1 ∧ BD e1 (mx C1 I) ∧ (e1.2.1 8 = (e.2.1 8) ∧ e1.2.1 7 = S ∧ e1.2.1 1 = (e.2.1 1) ∧ e1.2.1 10 = (e.2.1 10)) ∧ (e1.2.2 = e.2.2 ∧ ∀ k, 61 ≤ k → e1.2.1 k = e.2.1 k) ∧ (∀ k i, k ≠ 7 → k ≠ 15 → e1.1 k i = e.1 k i) ∧ (z1.1 ≤ z.1 + 2 ∧ z1.2.1 ≤ z.2.1 + 47) ∧ ((sp = 0 ∧ S = (J 12 0 13) ∧ h = (J 24 0 p) ∧ ∀ j, w j = (J 34 0 j)) ∨ (sp = 1 ∧ S = (J 12 0 13) + 1 ∧ h = (J 12 0 13) ∧ (J 12 0 13) < 20 ∧ ∀ j, w j = if j = (J 12 0 13) then (J 24 0 p) else (J 34 0 j))) ∧ (∀ k i j, k ≠ 7 → k ≠ 15 → C1 k i j = C k i j) ∧ (∀ s, s < (J 12 0 13) → ∀ j, C1 7 s j = C 7 s j ∧ C1 15 s j = C 15 s j) ∧ (S ≠ (J 12 0 13) → (C1 7 ((J 12 0 13)) 1) = (J 24 0 p) ∧ (C1 7 ((J 12 0 13)) 2) = (C 7 ((J 24 0 p)) 2) + 1 ∧ (C1 7 ((J 12 0 13)) 4) = -1 ∧ (C1 7 ((J 12 0 13)) 5) = 0 ∧ ∀ m, (C1 15 ((J 12 0 13)) m) = -1) ∧ ∀ cp r, Ev (fun F => fkT F (rf e1 11 0) (xk cp) (rf e1 8 p) (rf e1 7 h) (HS e1 C1 I z1)) r → Ev (fun F => J11_fork_69 F (rf e 11 0) (xk sp) (xk cp) (rf e 8 p) (HS e C I z)) r := by
  have hT := hI.ti
  have n8 := hC.1.1
  have n7 := hC.2.1.1
  have n1 := hC.2.2.1.1
  have n10 := hC.2.2.2.2.1.1
  have hB := hT.1
  have := RB.tasks hB
  have := RB.spaces hB
  have := RB.groups hB
  have := RB.views hB
  have n4 := hA.2.2.2.1
  have hD := Cpl.bd (I := I) hA hC hT hI.mi
  have bp := hT.b p0 p1
  have c1 := hC.1.space p0 p1
  rcases s01 with q | q
  · subst q
    refine ⟨e, C, z, fun j => (J 34 0 j), (J 24 0 p), (J 12 0 13), hA, hR, hD, ⟨rfl, n7, rfl, rfl⟩, ⟨rfl, fun _ _ => rfl⟩, fun _ _ _ _ => rfl, ⟨by omega, by omega⟩, Or.inl ⟨rfl, rfl, rfl, fun _ => rfl⟩, fun _ _ _ _ _ => rfl, fun _ _ _ => ⟨rfl, rfl⟩, fun q => absurd rfl q, fun cp r h => ?_⟩
    refine Ev.step (fun F => fk69 F _ _ _ _ _) ?_
    refine Ev.ite (fun _ => ?_) (fun q => absurd k00 q)
    refine Ev.bs (g_8_1 hA p0 (by omega)) ?_
    rw [c1]
    exact h
  · subst q
    have s20 := hs rfl
    obtain ⟨op, hA1⟩ := openSpace_ev (I := I) (o := (J 24 0 p)) hA hD (by omega) (by omega) (by omega) (by omega)
    rw [if_neg (by omega)] at op
    have ea : ∀ k i, k ≠ 7 → k ≠ 15 → (spE e z.1).1 k i = e.1 k i := fun k i a b => by
      unfold spE
      rw [exE_a, if_neg (fun q => b q.1), exE_a, if_neg (fun q => a q.1)]
    have en : ∀ k, k ≠ 7 → k ≠ 15 → (spE e z.1).2.1 k = e.2.1 k := fun k a b => by
      unfold spE
      rw [exE_n, if_neg b, exE_n, if_neg a]
    refine ⟨spE e z.1, snC C (e.2.1 7) (J 24 0 p) ((C 7 ((J 24 0 p)) 2) + 1), (z.1 + 2, z.2.1 + 47, z.2.2), fun j => if j = (J 12 0 13) then (J 24 0 p) else (J 34 0 j), (J 12 0 13), (J 12 0 13) + 1, hA1, fun k hk => by rw [en k (by omega) (by omega)]; exact hR k hk, bd_sn hA hD (by omega) (by omega) (by omega), ⟨en 8 (by decide) (by decide), ?_, en 1 (by decide) (by decide), en 10 (by decide) (by decide)⟩, ⟨rfl, fun k hk => en k (by omega) (by omega)⟩, ea, ⟨by show z.1 + 2 ≤ z.1 + 2; omega, by show z.2.1 + 47 ≤ z.2.1 + 47; omega⟩, Or.inr ⟨rfl, rfl, rfl, s20, fun _ => rfl⟩, fun k i j a b => by simp [snC, a, b], fun s s1 j => by simp [snC, show ¬ s = (e.2.1 7) by omega], fun _ => ?_, fun cp r h => ?_⟩
    · unfold spE
      rw [exE_n, if_neg (by decide), exE_n, if_pos rfl, n7]
    · rw [← n7]
      simp [snC]
    · refine Ev.step (fun F => fk69 F _ _ _ _ _) ?_
      refine Ev.ite (fun q => absurd q k10) (fun _ => ?_)
      refine Ev.bs (g_11_1 hA) (Ev.bs (g_8_1 hA p0 (by omega)) ?_)
      rw [c1]
      refine Ev.xg (d_9 hA) (Ev.kR op ?_)
      rw [n7] at h ⊢
      rw [rf_k (e := e) (ea 11 0 (by decide) (by decide)), rf_k (e := e) (ea 8 p (by decide) (by decide))] at h
      exact h
theorem fkV {e1 : EN} {C1 I3 : ST} {z1 : Nat × Nat × Nat × Nat} (hA : WA e1 z1) (hR : WR e1) (hD : BD e1 (mx C1 I)) (hM : CM e1 C1 I3) (hB : RB I3) (hMI : MI I3) (tw : ∀ j, 0 ≤ j → j < 80 → -1 ≤ (C1 4 j 8) ∧ (C1 4 j 8) < 80) (p0 : 0 ≤ p) (p1 : p < e1.2.1 8) (p2 : p < 150) {o : Int} (ho : (I3 26 0 p) = o) (hoc : (C1 8 p 2) = o) (o0 : 0 ≤ o) (o1 : o < (I3 12 0 28)) (c01 : cp = 0 ∨ cp = 1) (hcp : cp = 1 → (I3 12 0 28) < 10 ∧ sm (fun k => (I3 50 0 k)) 80 + sm (mvT I3 o) 80 ≤ 80) : ∃ (e2 : EN) (C2 : ST) (z2 : Nat × Nat × Nat × Nat) (v : Int) (J3 : ST), WA e2 z2 ∧ WR e2 ∧ BD e2 (mx C2 I) ∧ (e2.2.1 8 = e1.2.1 8 ∧ e2.2.1 7 = e1.2.1 7 ∧ e2.2.1 1 = e1.2.1 1) ∧ (e2.2.2 = e1.2.2 ∧ ∀ k, 61 ≤ k → e2.2.1 k = e1.2.1 k) ∧ (∀ k i, k ≠ 10 → e2.1 k i = e1.1 k i) ∧ (z2.1 ≤ z1.1 + 1 ∧ z2.2.1 ≤ z1.2.1 + 2) ∧ (∀ k i j, k ≠ 4 → k ≠ 5 → k ≠ 10 → k ≠ 17 → C2 k i j = C1 k i j) ∧ (∀ j, 0 ≤ j → j < 80 → -1 ≤ (C2 4 j 8) ∧ (C2 4 j 8) < 80) ∧ CM e2 C2 J3 ∧ RB J3 ∧ MI J3 ∧ (∀ k i j, k < 49 ∨ (55 < k ∧ k ≠ 60) → k ≠ 12 ∨ j ≠ 28 → J3 k i j = I3 k i j) ∧ (∀ k, 0 ≤ k → k < 80 → ∃ k', 0 ≤ k' ∧ k' < 80 ∧ (J3 55 0 k) = (I3 55 0 k')) ∧ (0 ≤ v ∧ v < (J3 12 0 28) ∧ (I3 12 0 28) ≤ (J3 12 0 28)) ∧ (∀ l1 r, Ev (fun F => fkB F (rf e2 11 0) (rf e2 8 p) l1 (rf e2 10 v) (HS e2 C2 I z2)) r → Ev (fun F => fkT F (rf e1 11 0) (xk cp) (rf e1 8 p) l1 (HS e1 C1 I z1)) r) ∧ ∀ e3 C3 z3 t r, WA e3 z3 → WR e3 → 0 ≤ t → t < 150 → Ev (fun F => fkR F (rf e3 12 0) (xk t) (HS e3 C3 (up J3 26 0 t v) z3)) r → Ev (fun F => fkS F (rf e3 12 0) (xk p) (xk cp) (xk t) (rf e3 26 0) (HS e3 C3 I3 z3)) r := by
  have vb := RB.views hB
  rcases c01 with q | q
  · subst q
    refine ⟨e1, C1, z1, o, I3, hA, hR, hD, ⟨rfl, rfl, rfl⟩, ⟨rfl, fun _ _ => rfl⟩, fun _ _ _ => rfl, ⟨by omega, by omega⟩, fun _ _ _ _ _ _ _ => rfl, tw, hM, hB, hMI, fun _ _ _ _ _ => rfl, fun k a b => ⟨k, a, b, rfl⟩, ⟨o0, o1, Int.le_refl _⟩, fun l1 r h => ?_, fun e3 C3 z3 t r hA3 hR3 t0 t1 h => ?_⟩
    · unfold fkT
      refine Ev.ite (fun _ => ?_) (fun q => absurd k00 q)
      refine Ev.bs (g_8_2 hA p0 p1) ?_
      rw [hoc]
      exact h
    · unfold fkS
      refine Ev.ite (fun _ => ?_) (fun q => absurd k00 q)
      refine Ev.bs (g_12_6 hA3 hR3) (Ev.bs (a_26 hA3 hR3 p0 p2) ?_)
      rw [ho]
      exact Ev.bs (s_26 hA3 hR3 t0 t1) h
  · subst q
    have hc := hcp rfl
    obtain ⟨C2, J3, y1, y2, y3, y4, y5, y6, y7, y8, y9, y10, y11, y12⟩ := copyC hA hD hM hB hMI tw o0 o1 hc.1 hc.2
    have ea : ∀ k i, k ≠ 10 → (exE e1 10 z1.1).1 k i = e1.1 k i := fun k i a => by rw [exE_a, if_neg (fun q => a q.1)]
    have en : ∀ k, k ≠ 10 → (exE e1 10 z1.1).2.1 k = e1.2.1 k := fun k a => by rw [exE_n, if_neg a]
    refine ⟨exE e1 10 z1.1, C2, (z1.1 + 1, z1.2.1 + 2, z1.2.2), (I3 12 0 28), J3, y2, fun k hk => by rw [en k (by omega)]; exact hR k hk, y12, ⟨en 8 (by decide), en 7 (by decide), en 1 (by decide)⟩, ⟨rfl, fun k hk => en k (by omega)⟩, ea, ⟨by show z1.1 + 1 ≤ z1.1 + 1; omega, by show z1.2.1 + 2 ≤ z1.2.1 + 2; omega⟩, y9, y10, y4, y6, y5, y7, y11, ⟨by omega, by omega, by omega⟩, fun l1 r h => ?_, fun e3 C3 z3 t r hA3 hR3 t0 t1 h => ?_⟩
    · unfold fkT
      refine Ev.ite (fun q => absurd q k10) (fun _ => ?_)
      refine Ev.bs (g_11_4 hA) (Ev.bs (g_8_2 hA p0 p1) ?_)
      rw [hoc]
      refine Ev.xg (d_5 hA) (Ev.kR y1 ?_)
      rw [rf_k (e := e1) (ea 11 0 (by decide)), rf_k (e := e1) (ea 8 p (by decide))] at h
      exact h
    · unfold fkS
      refine Ev.ite (fun q => absurd q k10) (fun _ => ?_)
      refine Ev.bs (g_12_6 hA3 hR3) (Ev.bs (a_26 hA3 hR3 p0 p2) ?_)
      rw [ho]
      refine Ev.xg (d_12 hA3 hR3) (Ev.kI (y3 e3 C3 z3 hA3 hR3) ?_)
      exact Ev.bs (s_26 hA3 hR3 t0 t1) h
end FKs
