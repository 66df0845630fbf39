/-! a new group -/
theorem chn_c {w w' : Int → Int} (hw : ∀ k, 0 ≤ k → k < 20 → -1 ≤ w k ∧ w k < k) (hw' : ∀ k, 0 ≤ k → k < 20 → -1 ≤ w' k ∧ w' k < k) {o n : Int} (h : ∀ k, 0 ≤ k → k < n → w' k = w k) : ∀ k, -1 ≤ k → k < n → k < 20 → chn w' k o = chn w k o := by
  intro k hk
  refine lpD (P := fun k => k < n → k < 20 → chn w' k o = chn w k o) (fun k k0 ih k1 k2 => ?_) k hk
  rw [chn_u hw' k0 k2, chn_u hw k0 k2]
  by_cases hn : k < 0
  · simp only [if_pos hn]
  · have := hw k (by omega) k2
    rw [h k (by omega) k1, ih (w k) (by omega) (by omega) (by omega) (by omega)]
theorem dpF_c {w w' : Int → Int} (hw : ∀ k, 0 ≤ k → k < 20 → -1 ≤ w k ∧ w k < k) {m : Int} (h : ∀ k, 0 ≤ k → k < m → w' k = w k) : ∀ (n : Nat) (k : Int), 0 ≤ k → k < m → k < 20 → dpF w' n k = dpF w n k
  | 0, k, _, _, _ => rfl
  | n + 1, k, h0, h1, h2 => by
    rw [dpF, dpF, h k h0 h1]
    have := hw k h0 h2
    by_cases q : w k < 0
    · rw [if_pos q, if_pos q]
    · rw [if_neg q, if_neg q, dpF_c hw h n (w k) (by omega) (by omega) (by omega)]
/-- rows of groups that aren't made have nothing -/
def GZ (J : ST) : Prop := ∀ g, (J 12 0 17) ≤ g → g < 20 → (J 42 0 g) = 0 ∧ (J 43 0 g) = 0 ∧ (J 44 0 g) = 0
theorem sm_z {n : Int} : sm (fun _ => 0) n = 0 := by
  unfold sm
  generalize n.toNat = m
  induction m with
  | zero => rfl
  | succ m ih => rw [smN, ih]; rfl
section CL
variable {e : EN} {C I J : ST} {z : Nat × Nat × Nat × Nat}
theorem CT.ec {e' : EN} (h : CT e C J) (q : e'.2.1 8 = e.2.1 8) : CT e' C J := ⟨q.trans h.1, h.2⟩
theorem CP.ec {e' : EN} (h : CP e C J) (q : e'.2.1 7 = e.2.1 7) : CP e' C J := ⟨q.trans h.1, h.2⟩
theorem CG.ec {e' : EN} (h : CG e C J) (q : e'.2.1 1 = e.2.1 1) : CG e' C J := ⟨q.trans h.1, h.2⟩
theorem CM.ec {e' : EN} (h : CM e C J) (q : e'.2.1 10 = e.2.1 10) : CM e' C J := ⟨q.trans h.1, h.2⟩
theorem ng_f {o : Int} {k : Nat} {i j : Int} (h : k ≠ 38 ∧ k ≠ 39 ∧ k ≠ 40 ∧ k ≠ 41 ∧ k ≠ 45) (h' : k ≠ 12 ∨ j ≠ 17) : ngI J o k i j = J k i j := by
  unfold ngI
  rw [up_k h.2.2.2.2, up_k h.2.2.2.1, up_k h.2.1, up_k h.2.2.1, up_k h.1]
  unfold up
  rw [if_neg (by omega)]
theorem ng_o {o g : Int} {k : Nat} (h : g ≠ (J 12 0 17)) (hk : k ≠ 12) : ngI J o k 0 g = J k 0 g := by
  unfold ngI
  rw [up_j h, up_j h, up_j h, up_j h, up_j h, up_k hk]
theorem ng_17 {o : Int} : ngI J o 12 0 17 = (J 12 0 17) + 1 := by simp [ngI, up]
theorem ng_38 {o : Int} : ngI J o 38 0 (J 12 0 17) = o := by simp [ngI, up]
theorem ng_39 {o : Int} : ngI J o 39 0 (J 12 0 17) = 150 := by simp [ngI, up]
theorem ng_40 {o : Int} : ngI J o 40 0 (J 12 0 17) = 1000000 := by simp [ngI, up]
theorem ng_41 {o : Int} : ngI J o 41 0 (J 12 0 17) = 100 := by simp [ngI, up]
theorem ng_45 {o : Int} : ngI J o 45 0 (J 12 0 17) = 0 := by simp [ngI, up]
theorem RB.ng {o : Int} (hB : RB J) (g1 : (J 12 0 17) < 20) (o0 : -1 ≤ o) (o1 : o < (J 12 0 17)) : RB (ngI J o) := by
  have := RB.groups hB
  unfold ngI
  refine RB.u_groupTime (RB.u_weight (RB.u_most (RB.u_max (RB.u_within (RB.uS hB (by omega) (by omega) (by omega) (by omega)) (by omega) (by omega) (by omega)) (by omega) (by omega)) (by omega) (by omega)) (by omega) (by omega))
theorem win_ng {o k x : Int} (hB : RB J) (g1 : (J 12 0 17) < 20) (o0 : -1 ≤ o) (o1 : o < (J 12 0 17)) (k0 : -1 ≤ k) (k1 : k < (J 12 0 17)) : win (ngI J o) k x = win J k x := by
  unfold win
  exact chn_c (RB.ww hB) (RB.ww (hB.ng g1 o0 o1)) (n := (J 12 0 17)) (fun j _ b => ng_o (by omega) (by decide)) k k0 k1 (by omega)
theorem sm_ng {o x : Int} {f f' : Int → Int} (h : ∀ k, 0 ≤ k → k < (J 12 0 17) → f' k = f k) (hz : f' (J 12 0 17) = 0) (hB : RB J) : sm f' ((J 12 0 17) + 1) = sm f (J 12 0 17) := by
  have := RB.groups hB
  rw [sm_s (by omega), hz, sm_c h, Int.add_zero]
theorem usF_ng {o x : Int} (hT : TI J) (hZ : GZ J) (g1 : (J 12 0 17) < 20) (o0 : -1 ≤ o) (o1 : o < (J 12 0 17)) (x0 : 0 ≤ x) (x1 : x ≤ (J 12 0 17)) : usF (ngI J o) x = (if x = (J 12 0 17) then 0 else usF J x) ∧ lvF (ngI J o) x = (if x = (J 12 0 17) then 0 else lvF J x) := by
  have hB := hT.1
  have := RB.groups hB
  have := RB.tasks hB
  have z := hZ (J 12 0 17) (by omega) g1
  have gw : ∀ t, 0 ≤ t → t < (J 12 0 1) → win (ngI J o) (ngI J o 25 0 t) x = win J (J 25 0 t) x := fun t a b => by
    rw [ng_f (by decide) (Or.inl (by decide))]
    have := hT.b a b
    exact win_ng hB g1 o0 o1 (by omega) (by omega)
  have no : ∀ k, -1 ≤ k → k < (J 12 0 17) → win J k (J 12 0 17) = false := fun k a b => by
    rw [← Bool.not_eq_true]
    intro q
    have := chn_le (RB.ww hB) k a (by omega) q
    omega
  have e1 : sm (usT (ngI J o) x) (J 12 0 1) = (if x = (J 12 0 17) then 0 else sm (usT J x) (J 12 0 1)) := by
    by_cases hx : x = (J 12 0 17)
    · rw [if_pos hx]
      have := sm_c (f := usT (ngI J o) x) (f' := fun _ => 0) (n := (J 12 0 1)) (fun t a b => by
        unfold usT
        rw [gw t a b, hx, no _ (by have := hT.b a b; omega) (by have := hT.b a b; omega), if_neg (fun q => absurd q.2 (by decide))])
      rw [this, sm_z]
    · rw [if_neg hx]
      exact sm_c (fun t a b => by
        unfold usT
        rw [gw t a b, ng_f (by decide) (Or.inl (by decide)), ng_f (by decide) (Or.inl (by decide))])
  have e2 : sm (lvT (ngI J o) x) (J 12 0 1) = (if x = (J 12 0 17) then 0 else sm (lvT J x) (J 12 0 1)) := by
    by_cases hx : x = (J 12 0 17)
    · rw [if_pos hx]
      have := sm_c (f := lvT (ngI J o) x) (f' := fun _ => 0) (n := (J 12 0 1)) (fun t a b => by
        unfold lvT
        rw [gw t a b, hx, no _ (by have := hT.b a b; omega) (by have := hT.b a b; omega), if_neg (fun q => absurd q.2 (by decide))])
      rw [this, sm_z]
    · rw [if_neg hx]
      exact sm_c (fun t a b => by
        unfold lvT
        rw [gw t a b, ng_f (by decide) (Or.inl (by decide))])
  have ck : ∀ k, ngI J o 43 0 k = J 43 0 k := fun k => ng_f (by decide) (Or.inl (by decide))
  have e3 : sm (usK (ngI J o) x) ((J 12 0 17) + 1) = (if x = (J 12 0 17) then 0 else sm (usK J x) (J 12 0 17)) := by
    rw [sm_s (by omega)]
    have z0 : usK (ngI J o) x (J 12 0 17) = 0 := by
      unfold usK
      rw [ck, z.2.1]
      split <;> rfl
    rw [z0, Int.add_zero]
    by_cases hx : x = (J 12 0 17)
    · rw [if_pos hx]
      have := sm_c (f := usK (ngI J o) x) (f' := fun _ => 0) (n := (J 12 0 17)) (fun k a b => by
        unfold usK
        rw [win_ng hB g1 o0 o1 (by omega) b, hx, no _ (by omega) b, if_neg (by decide)])
      rw [this, sm_z]
    · rw [if_neg hx]
      exact sm_c (fun k a b => by
        unfold usK
        rw [win_ng hB g1 o0 o1 (by omega) b, ck])
  constructor
  · unfold usF
    rw [ng_f (by decide) (Or.inr (by decide)), ng_17, e1, e3]
    split <;> omega
  · unfold lvF
    rw [ng_f (by decide) (Or.inr (by decide)), e2]
theorem Cpl.ng (hC : Cpl e C J) (hT : TI J) (hZ : GZ J) {o : Int} {a : Nat} (g1 : (J 12 0 17) < 20) (o0 : 0 ≤ o) (o1 : o < (J 12 0 17)) : Cpl (exE e 1 a) (gnC C (J 12 0 17) o ((C 1 o 2) + 1)) (ngI J o) := by
  have hB := hT.1
  have := RB.groups hB
  have z := hZ (J 12 0 17) (by omega) g1
  obtain ⟨h1, h2, h3, h4, h5, h6⟩ := hC
  have f0 : ∀ k i j, k ≠ 1 → gnC C (J 12 0 17) o ((C 1 o 2) + 1) k i j = C k i j := fun k i j q => by
    unfold gnC
    rw [if_neg (fun w => q w.1)]
  have f1 : ∀ g j, g ≠ (J 12 0 17) → gnC C (J 12 0 17) o ((C 1 o 2) + 1) 1 g j = C 1 g j := fun g j q => by
    unfold gnC
    rw [if_neg (fun w => q w.2)]
  have ej : ∀ k i j, k ≠ 38 ∧ k ≠ 39 ∧ k ≠ 40 ∧ k ≠ 41 ∧ k ≠ 45 → (k ≠ 12 ∨ j ≠ 17) → ngI J o k i j = J k i j := fun k i j q q' => ng_f q q'
  have n1 := h3.1
  refine ⟨(h1.fr (fun i j => f0 _ _ _ (by decide)) (ej _ _ _ (by decide) (Or.inr (by decide))) (fun k j a b => ej _ _ _ (by omega) (Or.inl (by omega)))).ec (by rw [exE_n, if_neg (by decide)]), (h2.fr (fun i j => f0 _ _ _ (by decide)) (fun i j => f0 _ _ _ (by decide)) (ej _ _ _ (by decide) (Or.inr (by decide))) (fun j => ej _ _ _ (by decide) (Or.inl (by decide))) (fun j => ej _ _ _ (by decide) (Or.inl (by decide))) (fun j => ej _ _ _ (by decide) (Or.inl (by decide))) (HoR_c (ej _ _ _ (by decide) (Or.inr (by decide))) (fun j => by rw [ej _ _ _ (by decide) (Or.inl (by decide))]) (fun j => ej _ _ _ (by decide) (Or.inl (by decide))))).ec (by rw [exE_n, if_neg (by decide)]), ?_, ?_, (h5.fr (fun k i j h => f0 _ _ _ (by omega)) (fun k i j a b => ej _ _ _ (by omega) (Or.inl (by omega))) (ej _ _ _ (by decide) (Or.inr (by decide))) (ej _ _ _ (by decide) (Or.inr (by decide)))).ec (by rw [exE_n, if_neg (by decide)]), h6.fr (f0 _ _ _ (by decide)) (f0 _ _ _ (by decide)) (fun j => f0 _ _ _ (by decide)) (fun j => f0 _ _ _ (by decide)) (ej _ _ _ (by decide) (Or.inr (by decide))) (ej _ _ _ (by decide) (Or.inr (by decide)))⟩
  · refine ⟨by rw [exE_n, if_pos rfl, ng_17, n1], fun g g0 gl => ?_⟩
    rw [ng_17] at gl
    have us := usF_ng hT hZ g1 (o := o) (x := g) (by omega) o1 g0 (by omega)
    have hBn := hB.ng g1 (o := o) (by omega) o1
    by_cases hg : g = (J 12 0 17)
    · rw [us.1, us.2, if_pos hg, if_pos hg, hg, ng_38, ng_39, ng_40, ng_41, ng_45, ej 42 0 _ (by decide) (Or.inl (by decide)), ej 43 0 _ (by decide) (Or.inl (by decide)), ej 44 0 _ (by decide) (Or.inl (by decide)), z.1, z.2.1, z.2.2]
      have ed : dpG (ngI J o) (J 12 0 17) = (C 1 o 2) + 1 := by
        rw [dpG_u hBn (by omega) g1, ng_38, if_neg (by omega), h3.depth o0 o1]
        congr 1
        unfold dpG
        exact dpF_c (RB.ww hB) (m := (J 12 0 17)) (fun j _ b => ng_o (by omega) (by decide)) 20 o o0 o1 (by omega)
      rw [ed]
      simp [gnC]
    · have q := h3.2 g g0 (by omega)
      have ed : dpG (ngI J o) g = dpG J g := by
        unfold dpG
        exact dpF_c (RB.ww hB) (m := (J 12 0 17)) (fun j _ b => ng_o (by omega) (by decide)) 20 g g0 (by omega) (by omega)
      rw [us.1, us.2, if_neg hg, if_neg hg, ed]
      simp only [f1 g _ hg]
      rw [ng_o hg (by decide), ng_o hg (by decide), ng_o hg (by decide), ng_o hg (by decide), ng_o hg (by decide), ng_o hg (by decide), ng_o hg (by decide), ng_o hg (by decide)]
      exact q
  · intro g g0 gl
    rw [ng_17] at gl
    rw [ej 12 0 1 (by decide) (Or.inr (by decide)), ng_17]
    by_cases hg : g = (J 12 0 17)
    · have t := RB.tasks hB
      rw [hg]
      simp only [gnC]
      simp
      omega
    · rw [f1 g _ hg, f1 g _ hg]
      have := h4 g g0 (by omega)
      omega
end CL
