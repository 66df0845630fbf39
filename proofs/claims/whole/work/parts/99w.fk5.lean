/-! pair: fork -/
section FKs
variable {e : EN} {C I J : ST} {z : Nat × Nat × Nat × Nat} {p sp cp n : Int}
theorem dpS_b {s : Int} : 0 ≤ dpS J s ∧ dpS J s ≤ 20 := by
  have : ∀ (m : Nat) (k : Int), 0 ≤ dpF (fun k => (J 34 0 k)) m k ∧ dpF (fun k => (J 34 0 k)) m k ≤ m := by
    intro m
    induction m with
    | zero => intro k; exact ⟨Int.le_refl _, Int.le_refl _⟩
    | succ m ih =>
      intro k
      rw [dpF]
      split
      · omega
      · have := ih (J 34 0 k); omega
  exact this 20 s
theorem hasRoom_ev (hA : WA e z) (hC : Cpl e C J) (hT : TI J) (s01 : sp = 0 ∨ sp = 1) {h : Int} (h0 : 0 ≤ h) (h1 : h < (J 12 0 13)) : Ev (fun F => J9_hasRoom F (rf e 9 0) (rf e 7 h) (xk sp) (HS e C I z)) (rI (bI ((J 12 0 1) < 150 ∧ (sp = 1 → (J 12 0 13) < 20 ∧ dpS J h < 4) ∧ rmB J C 20 h = true)) (HS e C I z)) := by
  have n8 := hC.1.1
  have n7 := hC.2.1.1
  have n1 := hC.2.2.1.1
  have n10 := hC.2.2.2.2.1.1
  have hB := hT.1
  have := RB.tasks hB
  have := RB.spaces hB
  have := RB.groups hB
  have := RB.views hB
  have n4 := hA.2.2.2.1
  have r37 := hasRoom37_ev (I := I) hA hC hT 20 h (by omega) (by omega) h1
  have db := dpS_b (J := J) (s := h)
  have cd := hC.2.1.depth h0 h1
  have r37' : (J 12 0 1) < 150 → (sp = 1 → (J 12 0 13) < 20 ∧ dpS J h < 4) → Ev (fun F => J9_hasRoom_37 F (rf e 7 h) (HS e C I z)) (rI (bI ((J 12 0 1) < 150 ∧ (sp = 1 → (J 12 0 13) < 20 ∧ dpS J h < 4) ∧ rmB J C 20 h = true)) (HS e C I z)) := fun a b => by
    refine Ev.cast r37 ?_
    by_cases q : rmB J C 20 h = true
    · rw [bI_t q, bI_t ⟨a, b, q⟩]
    · rw [bI_f q, bI_f (fun y => q y.2.2)]
  refine Ev.step (fun F => E9_hasRoom F _ _ _ _) ?_
  refine Ev.bs (g_9_2 hA) ?_
  rw [n8]
  refine Ev.ite (fun q => ?_) (fun q => ?_)
  · have q := (kltI (by omega) (by omega) (by omega) (by omega)).mp q
    rcases s01 with y | y
    · refine Ev.ite (fun _ => r37' q (fun u => by omega)) (fun u => absurd (by rw [y]; exact k00) u)
    · refine Ev.ite (fun u => absurd u (by rw [y]; exact k10)) (fun _ => ?_)
      refine Ev.bs (g_9_3 hA) ?_
      rw [n7]
      refine Ev.ite (fun u => ?_) (fun u => ?_)
      · have u := (kltI (by omega) (by omega) (by omega) (by omega)).mp u
        refine Ev.bs (g_7_2 hA h0 (by omega)) ?_
        rw [cd]
        refine Ev.ite (fun w => ?_) (fun w => ?_)
        · have w := (kltI (by omega) (by omega) (by omega) (by omega)).mp w
          exact r37' q (fun _ => ⟨u, w⟩)
        · have w : ¬ dpS J h < 4 := fun x => w ((kltI (by omega) (by omega) (by omega) (by omega)).mpr x)
          rw [rb0]
          exact Ev.ret (by rw [bI_f (fun x => w (x.2.1 y).2)]; rfl)
      · have u : ¬ (J 12 0 13) < 20 := fun x => u ((kltI (by omega) (by omega) (by omega) (by omega)).mpr x)
        rw [rb0]
        exact Ev.ret (by rw [bI_f (fun x => u (x.2.1 y).1)]; rfl)
  · have q : ¬ (J 12 0 1) < 150 := fun x => q ((kltI (by omega) (by omega) (by omega) (by omega)).mpr x)
    rw [rb0]
    exact Ev.ret (by rw [bI_f (fun x => q x.1)]; rfl)
def fkQ (J C : ST) (p sp cp : Int) : Prop := (J 12 0 1) < 150 ∧ (sp = 1 → (J 12 0 13) < 20 ∧ dpS J (J 24 0 p) < 4) ∧ rmB J C 20 (J 24 0 p) = true ∧ (cp = 1 → (J 12 0 28) < 10 ∧ sm (fun k => (J 50 0 k)) 80 + sm (mvT J (J 26 0 p)) 80 ≤ 80)
theorem fork_cl (hA : WA e z) (hC : Cpl e C J) (hT : TI J) (hM : MI J) (s01 : sp = 0 ∨ sp = 1) (c01 : cp = 0 ∨ cp = 1) (t0 : -2147483648 ≤ p) (t1 : p < 2147483648) (h : 0 ≤ p ∧ p < (J 12 0 1) ∧ (J 22 0 p) = 0) (r : XV × XH) (h3 : ttB J 20 (J 25 0 p) = false → r = rI (-3) (HS e C I z)) (h2 : ttB J 20 (J 25 0 p) = true → ¬ fkQ J C p sp cp → r = rI (-2) (HS e C I z)) (h1 : ttB J 20 (J 25 0 p) = true → fkQ J C p sp cp → Ev (fun F => J11_fork_69 F (rf e 11 0) (xk sp) (xk cp) (rf e 8 p) (HS e C I z)) r) : Ev (fun F => J11_fork F (rf e 11 0) (xk p) (xk sp) (xk cp) (HS e C I z)) r := by
  have n8 := hC.1.1
  have n7 := hC.2.1.1
  have n1 := hC.2.2.1.1
  have n10 := hC.2.2.2.2.1.1
  have hB := hT.1
  have := RB.tasks hB
  have := RB.spaces hB
  have := RB.groups hB
  have := RB.views hB
  have n4 := hA.2.2.2.1
  have lv := living_ev (I := I) hA hC hT t0 t1
  have bp := hT.b h.1 h.2.1
  have c1 := hC.1.space h.1 h.2.1
  have c2 := hC.1.view h.1 h.2.1
  have c4 := hC.1.group h.1 h.2.1
  have tt := takesTask_ev (I := I) hA hC hT 20 (J 25 0 p) (by omega) (by omega) (by omega)
  refine Ev.step (fun F => E11_fork F _ _ _ _ _) ?_
  refine Ev.bs (g_11_1 hA) (Ev.xg (d_9 hA) (Ev.kR lv ?_))
  rw [lvg_y h]
  refine Ev.ite (fun q => absurd q (by rw [rf_none]; omega)) (fun _ => ?_)
  refine Ev.bs (g_8_4 hA h.1 (by omega)) ?_
  rw [c4]
  refine Ev.xg (d_1 hA (by omega) (by omega)) (Ev.kB (Ev.step (fun F => E1_takesTask F _ _) tt) (fun ty => ?_) (fun ty => ?_))
  · refine Ev.ite (fun q => absurd q k10) (fun _ => ?_)
    refine Ev.bs (g_11_1 hA) (Ev.bs (g_8_1 hA h.1 (by omega)) ?_)
    rw [c1]
    refine Ev.xg (d_9 hA) (Ev.kB (hasRoom_ev hA hC hT s01 (by omega) (by omega)) (fun hr => ?_) (fun hr => ?_))
    · refine Ev.ite (fun q => absurd q k10) (fun _ => ?_)
      rcases c01 with y | y
      · refine Ev.ite (fun _ => ?_) (fun u => absurd (by rw [y]; exact k00) u)
        exact h1 ty ⟨hr.1, hr.2.1, hr.2.2, fun u => by omega⟩
      · refine Ev.ite (fun u => absurd u (by rw [y]; exact k10)) (fun _ => ?_)
        refine Ev.bs (g_11_4 hA) (Ev.bs (g_8_2 hA h.1 (by omega)) ?_)
        rw [c2]
        refine Ev.xg (d_5 hA) (Ev.kB (canCopy_ev hA hC hT (by omega) (by omega) hM) (fun hc => ?_) (fun hc => ?_))
        · refine Ev.ite (fun q => absurd q k10) (fun _ => ?_)
          exact h1 ty ⟨hr.1, hr.2.1, hr.2.2, fun _ => hc⟩
        · refine Ev.ite (fun _ => ?_) (fun q => absurd k00 q)
          exact Ev.ret (h2 ty (fun q => hc (q.2.2.2 y))).symm
    · refine Ev.ite (fun _ => ?_) (fun q => absurd k00 q)
      exact Ev.ret (h2 ty (fun q => hr ⟨q.1, q.2.1, q.2.2.1⟩)).symm
  · refine Ev.ite (fun _ => ?_) (fun q => absurd k00 q)
    exact Ev.ret (h3 (by rw [← Bool.not_eq_true]; exact ty)).symm
theorem fork_rf {D : ST} (hA : WA e z) (hR : WR e) (hB : RB J) (hJ : th I 0 = J) (hP : ∀ s, 0 ≤ s → s < (J 12 0 13) → ∀ n, 1 ≤ n → n ≤ 40 → HoR J s n (D 15 s n)) (bp : (0 ≤ (J 24 0 p) ∧ (J 24 0 p) < (J 12 0 13)) ∧ (0 ≤ (J 25 0 p) ∧ (J 25 0 p) < (J 12 0 17)) ∧ (0 ≤ (J 26 0 p) ∧ (J 26 0 p) < (J 12 0 28))) (s01 : sp = 0 ∨ sp = 1) (c01 : cp = 0 ∨ cp = 1) (h : 0 ≤ p ∧ p < (J 12 0 1) ∧ (J 22 0 p) = 0) (r : XV × XH) (h3 : ttB J 20 (J 25 0 p) = false → r = rI (-3) (HS e C J z)) (h2 : ttB J 20 (J 25 0 p) = true → ¬ fkQ J D p sp cp → r = rI (-2) (HS e C J z)) (h1 : ttB J 20 (J 25 0 p) = true → fkQ J D p sp cp → Ev (fun F => J12_fork_138 F (rf e 12 0) (xk p) (xk sp) (xk cp) (xk (J 24 0 p)) (xk (-1)) (HS e C J z)) r) : Ev (fun F => J12_fork F (rf e 12 0) (xk p) (xk sp) (xk cp) (HS e C I z)) r := by
  have := RB.tasks hB
  have := RB.spaces hB
  have := RB.groups hB
  have := RB.views hB
  have il := isLive_ev (C := C) (I := J) (t := p) hA hR (by omega) (by omega) (by omega) (by omega) (fun t a b => RB.state hB a b)
  refine Ev.step (fun F => E12_fork F _ _ _ _ _) ?_
  refine Ev.bs (p_12_0 hA hR) ?_
  rw [show up I 12 0 0 0 = J from hJ]
  refine Ev.xg (d_12 hA hR) (Ev.kB il (fun _ => ?_) (fun q => absurd h q))
  refine Ev.ite (fun q => absurd q k10) (fun _ => ?_)
  refine Ev.bs (g_12_5 hA hR) (Ev.bs (a_25 hA hR h.1 (by omega)) ?_)
  have f23 := fork23_ev (C := C) (p := p) (sp := sp) (cp := cp) hA hR hB 20 (J 25 0 p) (by omega) (by omega) (by omega)
  have f138 := fork138_ev (C := C) (p := p) (sp := sp) (cp := cp) (l := (J 24 0 p)) hA hR hB hP 20 (J 24 0 p) (by omega) (by omega) bp.1.2
  cases ty : ttB J 20 (J 25 0 p) with
  | false =>
    rw [h3 ty]
    exact f23.1 ty
  | true =>
    have h2 := h2 ty
    have h1 := h1 ty
    refine f23.2 ty _ ?_
    have g138 : (J 12 0 1) < 150 → (sp = 1 → (J 12 0 13) < 20 ∧ dpS J (J 24 0 p) < 4) → (cp = 1 → (J 12 0 28) < 10 ∧ sm (fun k => (J 50 0 k)) 80 + sm (mvT J (J 26 0 p)) 80 ≤ 80) → Ev (fun F => J12_fork_138 F (rf e 12 0) (xk p) (xk sp) (xk cp) (xk (J 24 0 p)) (xk (J 24 0 p)) (HS e C J z)) r := fun y1 y2 y3 => by
      cases rm : rmB J D 20 (J 24 0 p) with
      | false =>
        rw [h2 (fun q => absurd (rm.symm.trans q.2.2.1) (by decide))]
        exact f138.1 rm
      | true => exact f138.2 rm _ (h1 ⟨y1, y2, rm, y3⟩)
    have tb := th_b hB
    have mb : 0 ≤ sm (mvT J (J 26 0 p)) 80 ∧ sm (mvT J (J 26 0 p)) 80 ≤ 80 := sm_b1 (fun k => by unfold mvT; split <;> omega) (by omega)
    have g101 : (J 12 0 1) < 150 → (sp = 1 → (J 12 0 13) < 20 ∧ dpS J (J 24 0 p) < 4) → Ev (fun F => J12_fork_101 F (rf e 12 0) (xk p) (xk sp) (xk cp) (xk (J 24 0 p)) (HS e C J z)) r := fun y1 y2 => by
      refine Ev.step (fun F => E12_fork_101 F _ _ _ _ _ _) ?_
      rcases c01 with y | y
      · refine Ev.ite (fun _ => g138 y1 y2 (fun u => by omega)) (fun u => absurd (by rw [y]; exact k00) u)
      · refine Ev.ite (fun u => absurd u (by rw [y]; exact k10)) (fun _ => ?_)
        refine Ev.bs (g_12_28 hA hR) ?_
        refine Ev.ite (fun u => ?_) (fun u => ?_)
        · have u := ke (by omega) (by omega) (by omega) (by omega) u
          exact Ev.ret (h2 (fun q => by have := (q.2.2.2 y).1; omega)).symm
        · have u : ¬ (J 12 0 28) = 10 := fun x => u (by rw [x])
          refine Ev.bs (g_12_6 hA hR) (Ev.bs (a_26 hA hR h.1 (by omega)) ?_)
          refine Ev.xg (d_12 hA hR) (Ev.kI (mountsOf_ev hA hR hB (by omega) (by omega)) ?_)
          refine Ev.xg (d_12 hA hR) (Ev.kI (freeMounts_ev hA hR hB) ?_)
          refine Ev.ite (fun w => ?_) (fun w => ?_)
          · have w := (kltI (by omega) (by omega) (by omega) (by omega)).mp w
            exact Ev.ret (h2 (fun q => by have := (q.2.2.2 y).2; omega)).symm
          · have w : ¬ 80 - sm (fun k => (J 50 0 k)) 80 < sm (mvT J (J 26 0 p)) 80 := fun x => w ((kltI (by omega) (by omega) (by omega) (by omega)).mpr x)
            exact g138 y1 y2 (fun _ => ⟨by omega, by omega⟩)
    refine Ev.step (fun F => E12_fork_23 F _ _ _ _ _ _) ?_
    refine Ev.ite (fun _ => ?_) (fun q => absurd rfl q)
    refine Ev.bs (g_12_4 hA hR) (Ev.bs (a_24 hA hR h.1 (by omega)) (Ev.bs (g_12_1 hA hR) ?_))
    refine Ev.ite (fun u => ?_) (fun u => ?_)
    · have u := ke (by omega) (by omega) (by omega) (by omega) u
      exact Ev.ret (h2 (fun q => by have := q.1; omega)).symm
    · have u : (J 12 0 1) < 150 := by
        have : ¬ (J 12 0 1) = 150 := fun x => u (by rw [x])
        omega
      rcases s01 with y | y
      · refine Ev.ite (fun _ => g101 u (fun w => by omega)) (fun w => absurd (by rw [y]; exact k00) w)
      · refine Ev.ite (fun w => absurd w (by rw [y]; exact k10)) (fun _ => ?_)
        refine Ev.bs (g_12_13 hA hR) ?_
        refine Ev.ite (fun w => ?_) (fun w => ?_)
        · have w := ke (by omega) (by omega) (by omega) (by omega) w
          exact Ev.ret (h2 (fun q => by have := (q.2.1 y).1; omega)).symm
        · have w : (J 12 0 13) < 20 := by
            have : ¬ (J 12 0 13) = 20 := fun x => w (by rw [x])
            omega
          have db := dpS_b (J := J) (s := (J 24 0 p))
          refine Ev.xg (d_12 hA hR) (Ev.kI (depth_ev (dp := dpS J) hA hR hB (by omega) (by omega) (fun k a b => dpS_u hB a b)) ?_)
          refine Ev.ite (fun x => ?_) (fun x => ?_)
          · have x := (kltI (by omega) (by omega) (by omega) (by omega)).mp x
            exact g101 u (fun _ => ⟨w, x⟩)
          · have x : ¬ dpS J (J 24 0 p) < 4 := fun a => x ((kltI (by omega) (by omega) (by omega) (by omega)).mpr a)
            exact Ev.ret (h2 (fun q => x (q.2.1 y).2)).symm
theorem fork_pr (hO : OK n e C I z) (hn : n ≤ 600) {p sp cp : Int} (t0 : -2147483648 ≤ p) (t1 : p < 2147483648) (s0 : 0 ≤ sp) (s1 : sp ≤ 1) (c0 : 0 ≤ cp) (c1 : cp ≤ 1) : PR n e C I z (fun F s => J11_fork F (rf e 11 0) (xk p) (xk sp) (xk cp) s) (fun F s => J12_fork F (rf e 12 0) (xk p) (xk sp) (xk cp) s) := by
  obtain ⟨hA, hR, hC0, hI0⟩ := hO
  have hO : OK n e C I z := ⟨hA, hR, hC0, hI0⟩
  have hC := hC0.th (v := 0)
  have hI := hI0.th (m := n) (v := 0) (by omega)
  have hT := hI.ti
  generalize hJ : th I 0 = J at *
  have n8 := hC.1.1
  have n7 := hC.2.1.1
  have n1 := hC.2.2.1.1
  have n10 := hC.2.2.2.2.1.1
  have hB := hT.1
  have := RB.tasks hB
  have := RB.spaces hB
  have := RB.groups hB
  have := RB.views hB
  have n4 := hA.2.2.2.1
  have s01 : sp = 0 ∨ sp = 1 := by omega
  have c01 : cp = 0 ∨ cp = 1 := by omega
  by_cases h : (0 ≤ p ∧ p < (J 12 0 1) ∧ (J 22 0 p) = 0)
  · have bp := hT.b h.1 h.2.1
    have bp' : (0 ≤ (J 24 0 p) ∧ (J 24 0 p) < (J 12 0 13)) ∧ (0 ≤ (J 25 0 p) ∧ (J 25 0 p) < (J 12 0 17)) ∧ (0 ≤ (J 26 0 p) ∧ (J 26 0 p) < (J 12 0 28)) := ⟨bp.1, bp.2.2.1, bp.2.2.2.1⟩
    have cl := fork_cl (I := I) hA hC hT hI.mi s01 c01 t0 t1 h
    have hP : ∀ s, 0 ≤ s → s < (J 12 0 13) → ∀ n, 1 ≤ n → n ≤ 40 → HoR J s n (C 15 s n) := fun s a b n c d => hC.2.1.hold a b c d
    cases ty : ttB J 20 (J 25 0 p) with
    | false =>
      refine PR.look hO (A := -3) (by decide) (by decide) ?_ ?_
      · exact cl _ (fun _ => rfl) (fun q => absurd (ty.symm.trans q) (by decide)) (fun q => absurd (ty.symm.trans q) (by decide))
      · rw [hJ]
        exact fork_rf (D := C) hA hR hB hJ hP bp' s01 c01 h _ (fun _ => rfl) (fun q => absurd (ty.symm.trans q) (by decide)) (fun q => absurd (ty.symm.trans q) (by decide))
    | true =>
      by_cases Q : fkQ J C p sp cp
      · obtain ⟨e', C', z', J', r1, r2, r3, r4, r5⟩ := fork_ok (I := I) hA hR hC hI hn h s01 c01 Q.1 (fun q => (Q.2.1 q).1) Q.2.2.2 Q.2.2.1
        have e12 : rf e' 12 0 = rf e 12 0 := rf_k (r4.2.2.1 12 (by omega))
        refine ⟨e', C', J', z', (J 12 0 1), ?_, ?_, ⟨r3.1, r3.2.1, r3.2.2.1, r3.2.2.2.sc (by omega) r3.2.2.2.rb (fun _ _ _ _ _ _ => rfl)⟩, ⟨r4.1, r4.2.1, r4.2.2.1, fun j => by rw [r4.2.2.2 j, ← hJ]; exact th_f (Or.inl (by decide))⟩, ⟨by omega, by omega⟩, by rw [r5, ← hJ]; exact up_s⟩
        · exact cl _ (fun q => absurd (ty.symm.trans q) (by decide)) (fun _ q => absurd Q q) (fun _ _ => r1)
        · show Ev (fun F => J12_fork F (rf e 12 0) (xk p) (xk sp) (xk cp) (HS e' C' I z')) _
          rw [← e12]
          exact fork_rf (D := C) r3.1 r3.2.1 hB hJ hP bp' s01 c01 h _ (fun q => absurd (ty.symm.trans q) (by decide)) (fun _ q => absurd Q q) (fun _ _ => r2)
      · refine PR.look hO (A := -2) (by decide) (by decide) ?_ ?_
        · exact cl _ (fun q => absurd (ty.symm.trans q) (by decide)) (fun _ _ => rfl) (fun _ q => absurd q Q)
        · rw [hJ]
          exact fork_rf (D := C) hA hR hB hJ hP bp' s01 c01 h _ (fun q => absurd (ty.symm.trans q) (by decide)) (fun _ _ => rfl) (fun _ q => absurd q Q)
  · refine PR.look hO (A := -1) (by decide) (by decide) ?_ ?_
    · have lv := living_ev (I := I) hA hC hT t0 t1
      refine Ev.step (fun F => E11_fork F _ _ _ _ _) ?_
      refine Ev.bs (g_11_1 hA) (Ev.xg (d_9 hA) (Ev.kR lv ?_))
      rw [lvg_n h]
      exact Ev.ite (fun _ => Ev.ret rfl) (fun q => absurd (rf_n (by decide)) q)
    · rw [hJ]
      have il := isLive_ev (C := C) (I := J) (t := p) hA hR t0 t1 (by omega) (by omega) (fun t a b => RB.state hB a b)
      refine Ev.step (fun F => E12_fork F _ _ _ _ _) ?_
      refine Ev.bs (p_12_0 hA hR) ?_
      rw [show up I 12 0 0 0 = J from hJ]
      refine Ev.xg (d_12 hA hR) (Ev.kB il (fun q => absurd q h) (fun q => ?_))
      exact Ev.ite (fun _ => Ev.ret rfl) (fun q => absurd k00 q)
end FKs
