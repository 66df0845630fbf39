/-! fork: the pair -/
def fkI (J : ST) (sp t N o : Int) : ST := if sp = 0 then up (up J 12 0 1 (t + 1)) 22 0 t 2 else up (up (up (up (up (up J 12 0 1 (t + 1)) 34 0 N o) 35 0 N t) 36 0 N 0) 12 0 13 (N + 1)) 22 0 t 2
def fk3 (X : ST) (w nx : Int → Int) (p g h t : Int) : ST := up (up (up (up (chR X w nx t h) 22 0 t 0) 23 0 t p) 24 0 t h) 25 0 t g
section FKs
variable {e : EN} {C I J : ST} {z : Nat × Nat × Nat × Nat} {w nx : Int → Int} {p t sp cp n : Int}
theorem rm_t {D : ST} (hB : RB J) {s : Int} (s0 : 0 ≤ s) : ∀ (n : Nat) (k : Int), k < n → -1 ≤ k → k < 20 → rmB J D n k = true → lin J k s = true → nxF (fun x => (D 15 s x)) 40 (J 36 0 s) ≠ 0 := by
  intro n
  induction n with
  | zero =>
    intro k h0 h1 h2 _ hl
    have : k = -1 := by omega
    subst this
    unfold lin at hl
    rw [chn_m (RB.aw hB) s0] at hl
    exact absurd hl (by decide)
  | succ n ih =>
    intro k h0 h1 h2 hr hl
    rw [rmB] at hr
    by_cases kn : k < 0
    · have : k = -1 := by omega
      subst this
      unfold lin at hl
      rw [chn_m (RB.aw hB) s0] at hl
      exact absurd hl (by decide)
    rw [if_neg kn] at hr
    have w := RB.aw hB k (by omega) h2
    by_cases y : nxF (fun x => (D 15 k x)) 40 (J 36 0 k) = 0
    · rw [if_pos y] at hr
      exact absurd hr (by decide)
    · rw [if_neg y] at hr
      rcases (chn_s (RB.aw hB) (by omega) h2).mp hl with q | q
      · rw [← q]; exact y
      · exact ih _ (by omega) (by omega) (by omega) hr q
theorem nx_new : nxF (fun _ => -1) 40 0 = 1 := by
  rw [nxF]
  simp
/-- the class: a task is born -/
theorem fkBear {e2 : EN} {C2 : ST} {z2 : Nat × Nat × Nat × Nat} {hd : Int → Int → Int} {gv : Int → Int} {h g v S : Int} (hA : WA e2 z2) (hD : BD e2 (mx C2 I)) (hB : RB J) (n8 : e2.2.1 8 = t) (n7 : e2.2.1 7 = S) (n1 : e2.2.1 1 = (J 12 0 17)) (t0 : 0 ≤ t) (t1 : t < 150) (S1 : S ≤ 20) (p0 : 0 ≤ p) (p1 : p < t) (hg : (C2 8 p 4) = g) (g0 : 0 ≤ g) (g1 : g < (J 12 0 17)) (hw : ∀ k, 0 ≤ k → k < 20 → -1 ≤ w k ∧ w k < k) (hnx : ∀ s, nx s = nxF (hd s) 40 (gv s)) (h0 : 0 ≤ h) (h1 : h < S) (ho : ∀ j, 0 ≤ j → j < S → (C2 7 j 1) = w j) (hh : ∀ j, 0 ≤ j → j < S → ((C2 7 j 5) = gv j ∧ 0 ≤ gv j ∧ gv j ≤ 40) ∧ ∀ m, (C2 15 j m) = hd j m) (hn : ∀ j, 0 ≤ j → chn w h j = true → nx j ≠ 0) (hG : ∀ k, 0 ≤ k → k < (J 12 0 17) → (C2 1 k 1) = (J 38 0 k)) : WA (exE e2 8 z2.1) (z2.1 + 1, z2.2.1 + 11, z2.2.2) ∧ ∀ r, Ev (fun F => xcv (J0_admit F (rf (exE e2 8 z2.1) 0 0) (rf (exE e2 8 z2.1) 8 t) (xk 0) (HS (exE e2 8 z2.1) (adG J (chC (tnC C2 t p h g v) w nx t h) 8 g 1) I (z2.1 + 1, z2.2.1 + 11, z2.2.2))) fun s8 => (xgi s8 (rf (exE e2 8 z2.1) 8 t) 8 0).bind fun v9 => some (.inl (some (.inl v9)), s8)) r → Ev (fun F => fkB F (rf e2 11 0) (rf e2 8 p) (rf e2 7 h) (rf e2 10 v) (HS e2 C2 I z2)) r := by
  have br := fun r => bear_ev (I := I) (r := r) (p := p) (s := h) (h := g) (v := v) hA hD (by omega) (by omega) (by omega)
  have hA5 : WA (exE e2 8 z2.1) (z2.1 + 1, z2.2.1 + 11, z2.2.2) := by
    obtain ⟨hp, hW⟩ := ex_push (X := rwX e2 (mx C2 I)) (L := xdf 8) hA.wx (κ := 8) (by decide) (by omega) rfl
    exact hA.ex (κ := 8) (by decide) hW
  refine ⟨hA5, fun r hr => ?_⟩
  have en : ∀ k, k ≠ 8 → (exE e2 8 z2.1).2.1 k = e2.2.1 k := fun k a => by rw [exE_n, if_neg a]
  have en8 : (exE e2 8 z2.1).2.1 8 = t + 1 := by rw [exE_n, if_pos rfl, n8]
  have ea : ∀ k i, k ≠ 8 → (exE e2 8 z2.1).1 k i = e2.1 k i := fun k i a => by rw [exE_a, if_neg (fun q => a q.1)]
  have tn : ∀ k i j, k ≠ 8 → tnC C2 t p h g v k i j = C2 k i j := fun k i j a => by simp [tnC, a]
  have b52 : Ev (fun F => J9_bear_52 F (rf e2 1 g) (rf (exE e2 8 z2.1) 8 (e2.2.1 8)) (rf e2 7 h) (HS (exE e2 8 z2.1) (tnC C2 (e2.2.1 8) p h g v) I (z2.1 + 1, z2.2.1 + 11, z2.2.2))) (rR (rf (exE e2 8 z2.1) 8 t) (HS (exE e2 8 z2.1) (adG J (chC (tnC C2 t p h g v) w nx t h) 8 g 1) I (z2.1 + 1, z2.2.1 + 11, z2.2.2))) := by
    rw [n8, ← rf_k (e := e2) (ea 7 h (by decide)), ← rf_k (e := e2) (ea 1 g (by decide))]
    generalize hE : exE e2 8 z2.1 = e5 at *
    generalize (z2.1 + 1, z2.2.1 + 11, z2.2.2) = z5 at *
    refine bear52_ev (hd := hd) (gv := gv) hA5 hw (by omega) hnx (by rw [en 7 (by decide)]; omega) h (by omega) _ (by rw [en 7 (by decide)]; omega) (fun j j0 j1 => by rw [tn _ _ _ (by decide)]; exact ho j j0 (by rw [en 7 (by decide)] at j1; omega)) (fun j j0 j1 => ?_) hn _ ?_
    · have y := hh j j0 (by omega)
      rw [tn _ _ _ (by decide)]
      refine ⟨y.1, fun m => ?_⟩
      rw [tn _ _ _ (by decide)]
      exact y.2 m
    · refine Ev.step (fun F => E9_bear_52 F _ _ _ _) ?_
      refine Ev.ite (fun _ => ?_) (fun q => absurd rfl q)
      have e1 : e5.2.1 1 = (J 12 0 17) := by rw [en 1 (by decide)]; exact n1
      refine Ev.xg (d_1 hA5 g0 (by omega)) (Ev.kV (Ev.step (fun F => E1_addLive F _ _ _) (addLive_ev hA5 hB e1 g (by omega) _ 1 (fun k a b => ?_) g1)) (Ev.ret rfl))
      have : chC (tnC C2 t p h g v) w nx t h 1 k 1 = C2 1 k 1 := by simp [chC, tnC]
      rw [this]
      exact hG k a b
  have br := (br _ b52).1
  unfold fkB
  refine Ev.bs (g_11_1 hA) (Ev.bs (g_8_4 hA p0 (by omega)) ?_)
  rw [hg]
  refine Ev.xg (d_9 hA) (Ev.kR br ?_)
  rw [← rf_k (e := e2) (ea 11 0 (by decide))]
  exact Ev.bs (g_11_3 hA5) (Ev.xg (d_0 hA5) hr)
theorem fork_ok (hA : WA e z) (hR : WR e) (hC : Cpl e C J) (hI : Inv n J) (hn : n ≤ 600) (hp : 0 ≤ p ∧ p < (J 12 0 1) ∧ (J 22 0 p) = 0) (s01 : sp = 0 ∨ sp = 1) (c01 : cp = 0 ∨ cp = 1) (t1 : (J 12 0 1) < 150) (hs : sp = 1 → (J 12 0 13) < 20) (hcp : cp = 1 → (J 12 0 28) < 10 ∧ sm (fun k => (J 50 0 k)) 80 + sm (mvT J (J 26 0 p)) 80 ≤ 80) (hrm : rmB J C 20 (J 24 0 p) = true) : ∃ e' C' z' J', Ev (fun F => J11_fork_69 F (rf e 11 0) (xk sp) (xk cp) (rf e 8 p) (HS e C I z)) (rI (J 12 0 1) (HS e' C' I z')) ∧ Ev (fun F => J12_fork_138 F (rf e' 12 0) (xk p) (xk sp) (xk cp) (xk (J 24 0 p)) (xk (-1)) (HS e' C' J z')) (rI (J 12 0 1) (HS e' C' J' z')) ∧ OK n e' C' J' z' ∧ NX e e' z z' J J' ∧ J' 12 0 0 = J 12 0 0 := by
  have hT := hI.ti
  have hZ := hI.tz
  have n8 := hC.1.1
  have n7 := hC.2.1.1
  have n1 := hC.2.2.1.1
  have n10 := hC.2.2.2.2.1.1
  have hB := hT.1
  have := RB.tasks hB
  have := RB.spaces hB
  have := RB.groups hB
  have := RB.views hB
  have n4 := hA.2.2.2.1
  have bp := hT.b hp.1 hp.2.1
  obtain ⟨e1, C1, z1, w, h, S, a1, a2, a3, a4, a5, a6, a7, a8, a9, a10, a11, a12⟩ := fkA (I := I) hA hR hC hI hp.1 hp.2.1 s01 hs
  generalize hhd : (fun s m => if s < (J 12 0 13) then (C 15 s m) else (-1 : Int)) = hd
  generalize hgv : (fun s => if s < (J 12 0 13) then (J 36 0 s) else (0 : Int)) = gv
  generalize hnx : (fun s => nxF (hd s) 40 (gv s)) = nx
  have hd_o : ∀ s, s < (J 12 0 13) → ∀ m, hd s m = (C 15 s m) := fun s s1 m => by rw [← hhd]; simp [s1]
  have hd_n : ∀ s, ¬ s < (J 12 0 13) → hd s = fun _ => -1 := fun s s1 => by rw [← hhd]; funext m; simp [s1]
  have gv_o : ∀ s, s < (J 12 0 13) → gv s = (J 36 0 s) := fun s s1 => by rw [← hgv]; simp [s1]
  have gv_n : ∀ s, ¬ s < (J 12 0 13) → gv s = 0 := fun s s1 => by rw [← hgv]; simp [s1]
  have hnx : ∀ s, nx s = nxF (hd s) 40 (gv s) := fun s => by rw [← hnx]
  have gvb : ∀ s, 0 ≤ s → s < 20 → 0 ≤ gv s ∧ gv s ≤ 40 := fun s s0 s1 => by
    by_cases y : s < (J 12 0 13)
    · rw [gv_o s y]; exact RB.given hB s0 s1
    · rw [gv_n s y]; omega
  have hnb : ∀ s, 0 ≤ s → s < 20 → 0 ≤ nx s ∧ nx s ≤ 40 := fun s s0 s1 => by
    rw [hnx s]; exact nxF_b 40 _ (gvb s s0 s1).1 (gvb s s0 s1).2
  have hH0 : (0 ≤ p ∧ p < (J 12 0 1) ∧ (J 22 0 p) = 0 ∧ (J 25 0 p) = (J 25 0 p)) ∧ ((S = (J 12 0 13) ∧ h = (J 24 0 p) ∧ ∀ j, w j = (J 34 0 j)) ∨ (S = (J 12 0 13) + 1 ∧ h = (J 12 0 13) ∧ (J 12 0 13) < 20 ∧ ∀ j, w j = if j = (J 12 0 13) then (J 24 0 p) else (J 34 0 j))) := by
    refine ⟨⟨hp.1, hp.2.1, hp.2.2, rfl⟩, ?_⟩
    rcases a8 with y | y
    · exact Or.inl y.2
    · exact Or.inr y.2
  -- a first FH, for what follows from the spaces alone
  have hF0 : FH J w (fun _ => 1) p (J 25 0 p) h S := ⟨hH0.1, hH0.2, fun _ _ _ => ⟨Int.le_refl 1, by show (1 : Int) ≤ 40; decide⟩⟩
  have hw := hF0.wb hT
  have hb := hF0.hb hT
  have hcs : ∀ s, 0 ≤ s → chn w h s = true → s ≤ h := fun s s0 q => chn_le hw h (by omega) (by omega) q
  have hnz : ∀ s, 0 ≤ s → chn w h s = true → nx s ≠ 0 := fun s s0 q => by
    have sh := hcs s s0 q
    rw [hnx s]
    by_cases y : s < (J 12 0 13)
    · have e1 : hd s = fun x => (C 15 s x) := funext (hd_o s y)
      rw [gv_o s y, e1]
      refine rm_t hB s0 20 (J 24 0 p) (by omega) (by omega) (by omega) hrm ?_
      rcases hH0.2 with u | u
      · rw [u.2.1, hF0.ln hT (by omega) (by omega)] at q
        exact q
      · rcases (chn_s hw hb.1 (by omega)).mp q with r | r
        · omega
        · rw [u.2.2.2 h, if_pos u.2.1, hF0.ln hT (by omega) (by omega)] at r
          exact r
    · rw [hd_n s y, gv_n s y, nx_new]
      decide
  have hH : FH J w nx p (J 25 0 p) h S := ⟨hH0.1, hH0.2, fun s s0 q => by
    have a := hcs s s0 q
    have b := hnb s s0 (by omega)
    have c := hnz s s0 q
    omega⟩
  -- the reference's store
  have tb := RB.tasks hB
  have X34 : ∀ j, fkI J sp (J 12 0 1) (J 12 0 13) (J 24 0 p) 34 0 j = w j := fun j => by
    rcases a8 with y | y
    · rw [y.2.2.2 j, y.1]; simp [fkI, up]
    · rw [y.2.2.2.2 j, y.1]; simp [fkI, up]
  have X36 : ∀ j, 0 ≤ j → j ≤ h → fkI J sp (J 12 0 1) (J 12 0 13) (J 24 0 p) 36 0 j = gv j := fun j j0 j1 => by
    rcases a8 with y | y
    · rw [gv_o j (by omega), y.1]; simp [fkI, up]
    · rw [y.1]
      by_cases u : j < (J 12 0 13)
      · rw [gv_o j u]; simp [fkI, up]; omega
      · rw [gv_n j u]; simp [fkI, up]; omega
  have X22 : fkI J sp (J 12 0 1) (J 12 0 13) (J 24 0 p) 22 0 (J 12 0 1) = 2 := by
    unfold fkI; split <;> exact up_s
  have X22o : ∀ j, j ≠ (J 12 0 1) → fkI J sp (J 12 0 1) (J 12 0 13) (J 24 0 p) 22 0 j = (J 22 0 j) := fun j q => by
    unfold fkI; split <;> simp [up, q]
  have Xf : ∀ k i j, k ≠ 12 → k ≠ 22 → k ≠ 34 → k ≠ 35 → k ≠ 36 → fkI J sp (J 12 0 1) (J 12 0 13) (J 24 0 p) k i j = J k i j := fun k i j b1 b2 b3 b4 b5 => by
    unfold fkI; split <;> simp [up, b1, b2, b3, b4, b5]
  have X121 : fkI J sp (J 12 0 1) (J 12 0 13) (J 24 0 p) 12 0 1 = (J 12 0 1) + 1 := by
    unfold fkI; split <;> simp [up]
  have X1213 : fkI J sp (J 12 0 1) (J 12 0 13) (J 24 0 p) 12 0 13 = S := by
    rcases a8 with y | y
    · rw [y.1, y.2.1]; simp [fkI, up]
    · rw [y.1, y.2.1]; simp [fkI, up]
  have X12f : ∀ j, j ≠ 1 → j ≠ 13 → fkI J sp (J 12 0 1) (J 12 0 13) (J 24 0 p) 12 0 j = J 12 0 j := fun j b1 b2 => by
    unfold fkI; split <;> simp [up, b1, b2]
  have X35 : ∀ j, fkI J sp (J 12 0 1) (J 12 0 13) (J 24 0 p) 35 0 j = if j = h ∧ S ≠ (J 12 0 13) then (J 12 0 1) else (J 35 0 j) := fun j => by
    rcases a8 with y | y
    · rw [if_neg (by omega), y.1]; simp [fkI, up]
    · have ne : ¬ (J 12 0 13) + 1 = (J 12 0 13) := by omega
      rw [y.1, y.2.2.1, y.2.1]; simp [fkI, up, ne]
  have X36a : ∀ j, 0 ≤ j → ¬ chn w h j = true → fkI J sp (J 12 0 1) (J 12 0 13) (J 24 0 p) 36 0 j = (J 36 0 j) := fun j j0 q => by
    rcases a8 with y | y
    · rw [y.1]; simp [fkI, up]
    · have : j ≠ (J 12 0 13) := fun u => q (by rw [u, ← y.2.2.1]; exact chn_r)
      rw [y.1]; simp [fkI, up, this]
  have XB : RB (fkI J sp (J 12 0 1) (J 12 0 13) (J 24 0 p)) := by
    rcases a8 with y | y
    · rw [y.1]
      unfold fkI
      rw [if_pos rfl]
      exact RB.u_state (RB.uS hB (by omega) (by omega) (by omega) (by omega)) (by omega) (by omega)
    · rw [y.1]
      unfold fkI
      rw [if_neg (by decide)]
      exact RB.u_state (RB.uS (RB.u_given (RB.u_init (RB.u_around (RB.uS hB (by omega) (by omega) (by omega) (by omega)) (by omega) (by omega) (by omega)) (by omega) (by omega)) (by omega) (by omega)) (by omega) (by omega) (by omega) (by omega)) (by omega) (by omega)
  have XH : ∀ j, 0 ≤ j → chn w h j = true → ∀ m, 1 ≤ m → m ≤ 40 → HoR (fkI J sp (J 12 0 1) (J 12 0 13) (J 24 0 p)) j m (hd j m) := fun j j0 q m m0 m1 => by
    have jh := hcs j j0 q
    unfold HoR
    rw [X121]
    by_cases y : j < (J 12 0 13)
    · have ho := hC.2.1.hold j0 y m0 m1
      rw [hd_o j y m]
      refine ⟨by have := ho.1; omega, fun x x0 x1 => ?_⟩
      rw [Xf 32 _ _ (by decide) (by decide) (by decide) (by decide) (by decide)]
      by_cases u : x = (J 12 0 1)
      · subst u
        rw [X22]
        have := ho.1
        constructor
        · intro r; exact absurd rfl r.1
        · intro r; omega
      · rw [X22o x u]
        exact ho.2 x x0 (by omega)
    · rw [hd_n j y]
      dsimp only
      refine ⟨by omega, fun x x0 x1 => ?_⟩
      rw [Xf 32 _ _ (by decide) (by decide) (by decide) (by decide) (by decide), hZ.2 x j x0 (by omega) (by omega) (by omega)]
      constructor
      · intro r; omega
      · intro r; omega
  generalize hX : fkI J sp (J 12 0 1) (J 12 0 13) (J 24 0 p) = X at *
  have B3 : RB (chR X w nx (J 12 0 1) h) := XB.cR (fun j j0 q => by have := hcs j j0 q; exact hnb j j0 (by omega))
  have BI3 : RB (fk3 X w nx p (J 25 0 p) h (J 12 0 1)) := by
    unfold fk3
    exact RB.u_group (RB.u_space (RB.u_parent (RB.u_state B3 (by omega) (by omega)) (by omega) (by omega)) (by omega) (by omega)) (by omega) (by omega)
  have cf : ∀ k i j, k ≠ 36 → k ≠ 32 → chR X w nx (J 12 0 1) h k i j = X k i j := fun k i j b1 b2 => by
    unfold chR
    rw [if_neg (fun q => b1 q.1), if_neg (fun q => b2 q.1)]
  have f3 : ∀ k i j, k ≠ 22 → k ≠ 23 → k ≠ 24 → k ≠ 25 → fk3 X w nx p (J 25 0 p) h (J 12 0 1) k i j = chR X w nx (J 12 0 1) h k i j := fun k i j b1 b2 b3 b4 => by
    unfold fk3
    rw [up_k b4, up_k b3, up_k b2, up_k b1]
  have f3j : ∀ k j, k ≠ 36 → k ≠ 32 → j ≠ (J 12 0 1) → fk3 X w nx p (J 25 0 p) h (J 12 0 1) k 0 j = X k 0 j := fun k j b1 b2 b3 => by
    unfold fk3
    rw [up_j b3, up_j b3, up_j b3, up_j b3, cf _ _ _ b1 b2]
  have f49 : ∀ k i j, 49 ≤ k → fk3 X w nx p (J 25 0 p) h (J 12 0 1) k i j = J k i j := fun k i j b1 => by
    rw [f3 _ _ _ (by omega) (by omega) (by omega) (by omega), cf _ _ _ (by omega) (by omega), Xf _ _ _ (by omega) (by omega) (by omega) (by omega) (by omega)]
  have f12 : ∀ j, j ≠ 1 → j ≠ 13 → fk3 X w nx p (J 25 0 p) h (J 12 0 1) 12 0 j = J 12 0 j := fun j b1 b2 => by
    rw [f3 _ _ _ (by decide) (by decide) (by decide) (by decide), cf _ _ _ (by decide) (by decide), X12f j b1 b2]
  have CM1 : CM e1 C1 (fk3 X w nx p (J 25 0 p) h (J 12 0 1)) := by
    refine (hC.2.2.2.2.1.ec a4.2.2.2).fr (fun k i j q => a9 k i j (by omega) (by omega)) (fun k i j b1 b2 => f49 k i j b1) (f12 _ (by decide) (by decide)) (f12 _ (by decide) (by decide))
  have MI1 : MI (fk3 X w nx p (J 25 0 p) h (J 12 0 1)) := hI.mi.c (f12 _ (by decide) (by decide)) (fun k j b1 b2 => f49 k 0 j b1)
  have v3 : fk3 X w nx p (J 25 0 p) h (J 12 0 1) 26 0 p = (J 26 0 p) := by
    rw [f3 _ _ _ (by decide) (by decide) (by decide) (by decide), cf _ _ _ (by decide) (by decide), Xf _ _ _ (by decide) (by decide) (by decide) (by decide) (by decide)]
  have v28 : fk3 X w nx p (J 25 0 p) h (J 12 0 1) 12 0 28 = (J 12 0 28) := f12 _ (by decide) (by decide)
  obtain ⟨e2, C2, z2, v, J3, b1, b2, b3, b4, b5, b6, b7, b8, b9, b10, b11, b12, b13, b14, b15, b16, b17⟩ := fkV (I := I) (p := p) (cp := cp) (o := (J 26 0 p)) a1 a2 a3 CM1 BI3 MI1 (fun j j0 j1 => by rw [a9 4 _ _ (by decide) (by decide)]; exact hC.2.2.2.2.2.2.2.2.2.2.2 j j0 j1) hp.1 (by rw [a4.1]; omega) (by omega) v3 (by rw [a9 8 _ _ (by decide) (by decide)]; exact hC.1.view hp.1 hp.2.1) (by omega) (by rw [v28]; omega) c01 (fun q => by
    have := hcp q
    rw [v28]
    refine ⟨this.1, ?_⟩
    have e1 : (fun k => fk3 X w nx p (J 25 0 p) h (J 12 0 1) 50 0 k) = (fun k => (J 50 0 k)) := funext (fun k => f49 50 0 k (by decide))
    have e2 : mvT (fk3 X w nx p (J 25 0 p) h (J 12 0 1)) (J 26 0 p) = mvT J (J 26 0 p) := by
      funext k
      unfold mvT
      rw [f49 50 0 k (by decide), f49 51 0 k (by decide)]
    rw [e1, e2]
    exact this.2)
  have C2f : ∀ k i j, k ≠ 4 → k ≠ 5 → k ≠ 10 → k ≠ 17 → k ≠ 7 → k ≠ 15 → C2 k i j = C k i j := fun k i j q1 q2 q3 q4 q5 q6 => by rw [b8 _ _ _ q1 q2 q3 q4, a9 _ _ _ q5 q6]
  have C27 : ∀ s, 0 ≤ s → s < S → C2 7 s 1 = w s ∧ C2 7 s 2 = (if s < (J 12 0 13) then (C 7 s 2) else (C 7 ((J 24 0 p)) 2) + 1) ∧ C2 7 s 4 = (if s < (J 12 0 13) then (C 7 s 4) else -1) ∧ C2 7 s 5 = gv s ∧ ∀ m, C2 15 s m = hd s m := fun s s0 s1 => by
    have e7 : ∀ j, C2 7 s j = C1 7 s j := fun j => b8 _ _ _ (by decide) (by decide) (by decide) (by decide)
    have e15 : ∀ j, C2 15 s j = C1 15 s j := fun j => b8 _ _ _ (by decide) (by decide) (by decide) (by decide)
    by_cases y : s < (J 12 0 13)
    · have o7 : ∀ j, C2 7 s j = C 7 s j := fun j => (e7 j).trans (a10 s y j).1
      rw [o7, o7, o7, o7, if_pos y, if_pos y, gv_o s y, hH.old y]
      refine ⟨hC.2.1.outer s0 y, rfl, rfl, hC.2.1.given s0 y, fun m => ?_⟩
      rw [hd_o s y m, e15, (a10 s y m).2]
    · have nS : S ≠ (J 12 0 13) := by omega
      have u := a11 nS
      have sN : s = (J 12 0 13) := by omega
      rw [e7, e7, e7, e7, if_neg y, if_neg y, gv_n s y, sN]
      refine ⟨?_, u.2.1, u.2.2.1, u.2.2.2.1, fun m => ?_⟩
      · rw [u.1]
        rcases hH0.2 with r | r
        · omega
        · rw [r.2.2.2, if_pos rfl]
      · have := e15 m
        rw [sN] at this
        rw [this, u.2.2.2.2 m, hd_n _ (by omega)]
  have m8 : e2.2.1 8 = (J 12 0 1) := by rw [b4.1, a4.1, n8]
  have m7 : e2.2.1 7 = S := by rw [b4.2.1, a4.2.1]
  have m1 : e2.2.1 1 = (J 12 0 17) := by rw [b4.2.2, a4.2.2.1, n1]
  obtain ⟨d1, d2⟩ := fkBear (I := I) (J := J) (v := v) (hd := hd) (gv := gv) (w := w) (nx := nx) b1 b3 hB m8 m7 m1 (by omega) t1 hb.2.2.1 hp.1 hp.2.1 (g := (J 25 0 p)) (by rw [C2f _ _ _ (by decide) (by decide) (by decide) (by decide) (by decide) (by decide)]; exact hC.1.group hp.1 hp.2.1) (by omega) (by omega) hw hnx hb.1 hb.2.1 (fun j j0 j1 => (C27 j j0 j1).1) (fun j j0 j1 => ⟨⟨(C27 j j0 j1).2.2.2.1, gvb j j0 (by omega)⟩, (C27 j j0 j1).2.2.2.2⟩) hnz (fun k k0 k1 => by rw [C2f _ _ _ (by decide) (by decide) (by decide) (by decide) (by decide) (by decide)]; exact hC.2.2.1.outer k0 k1)
  -- the last store
  have en : ∀ k, k ≠ 8 → (exE e2 8 z2.1).2.1 k = e2.2.1 k := fun k a => by rw [exE_n, if_neg a]
  have en8 : (exE e2 8 z2.1).2.1 8 = (J 12 0 1) + 1 := by rw [exE_n, if_pos rfl, m8]
  have ea : ∀ k i, k ≠ 8 → (exE e2 8 z2.1).1 k i = e2.1 k i := fun k i a => by rw [exE_a, if_neg (fun q => a q.1)]
  have hR5 : WR (exE e2 8 z2.1) := fun k hk => by rw [en k (by omega)]; exact b2 k hk
  have e522 : (exE e2 8 z2.1).2.2 = e2.2.2 := rfl
  generalize hE5 : exE e2 8 z2.1 = e5 at *
  have z5a : z2.1 + 1 ≤ z.1 + 10 := by omega
  have z5b : z2.2.1 + 11 ≤ z.2.1 + 200 := by omega
  generalize hz5 : (z2.1 + 1, z2.2.1 + 11, z2.2.2) = z5 at *
  have z51 : z5.1 ≤ z.1 + 10 ∧ z5.2.1 ≤ z.2.1 + 200 := by rw [← hz5]; exact ⟨z5a, z5b⟩
  have kf : ∀ k i j, k ≠ 26 → k ≠ 30 → k < 49 ∨ (55 < k ∧ k ≠ 60) → k ≠ 12 ∨ j ≠ 28 → up (up J3 26 0 (J 12 0 1) v) 30 0 (J 12 0 1) 0 k i j = fk3 X w nx p (J 25 0 p) h (J 12 0 1) k i j := fun k i j q1 q2 q3 q4 => by
    rw [up_k q2, up_k q1, b13 k i j q3 q4]
  have kj : ∀ k j, j ≠ (J 12 0 1) → k < 49 → k ≠ 12 ∨ j ≠ 28 → up (up J3 26 0 (J 12 0 1) v) 30 0 (J 12 0 1) 0 k 0 j = fk3 X w nx p (J 25 0 p) h (J 12 0 1) k 0 j := fun k j q1 q3 q4 => by
    rw [up_j q1, up_j q1, b13 k 0 j (Or.inl q3) q4]
  have hK : FK J (up (up J3 26 0 (J 12 0 1) v) 30 0 (J 12 0 1) 0) w nx p (J 25 0 p) h v S := by
    refine ⟨⟨?_, ?_, ?_, ?_, ?_, ?_⟩, fun k j hk hj => ?_, ⟨?_, ?_, ?_, ?_, ?_, up_s⟩, fun k j hk => ?_, fun x s s0 s1 => ?_, fun j => ?_, fun j => ?_, fun j j0 => ?_⟩
    · rw [kf _ _ _ (by decide) (by decide) (by decide) (by first | decide | exact Or.inl (by decide)), f3 _ _ _ (by decide) (by decide) (by decide) (by decide), cf _ _ _ (by decide) (by decide), X121]
    · rw [kf _ _ _ (by decide) (by decide) (by decide) (by first | decide | exact Or.inl (by decide)), f3 _ _ _ (by decide) (by decide) (by decide) (by decide), cf _ _ _ (by decide) (by decide), X1213]
    · rw [kf _ _ _ (by decide) (by decide) (by decide) (by first | decide | exact Or.inl (by decide)), f12 _ (by decide) (by decide)]
    · rw [kf _ _ _ (by decide) (by decide) (by decide) (by first | decide | exact Or.inl (by decide)), f12 _ (by decide) (by decide)]
    · rw [kf _ _ _ (by decide) (by decide) (by decide) (by first | decide | exact Or.inl (by decide)), f12 _ (by decide) (by decide)]
    · rw [kf _ _ _ (by decide) (by decide) (by decide) (by first | decide | exact Or.inl (by decide)), f12 _ (by decide) (by decide)]
    · rw [kj k j hj (by omega) (by omega), f3j k j (by omega) (by omega) hj]
      by_cases k22 : k = 22
      · subst k22; exact X22o j hj
      · exact Xf _ _ _ (by omega) k22 (by omega) (by omega) (by omega)
    · rw [kf _ _ _ (by decide) (by decide) (by decide) (by first | decide | exact Or.inl (by decide))]
      unfold fk3
      rw [up_k (by decide), up_k (by decide), up_k (by decide), up_s]
    · rw [kf _ _ _ (by decide) (by decide) (by decide) (by first | decide | exact Or.inl (by decide))]
      unfold fk3
      rw [up_k (by decide), up_k (by decide), up_s]
    · rw [kf _ _ _ (by decide) (by decide) (by decide) (by first | decide | exact Or.inl (by decide))]
      unfold fk3
      rw [up_k (by decide), up_s]
    · rw [kf _ _ _ (by decide) (by decide) (by decide) (by first | decide | exact Or.inl (by decide))]
      unfold fk3
      rw [up_s]
    · rw [up_k (by decide), up_s]
    · rw [kf _ _ _ (by omega) (by omega) (by omega) (by omega), f3 _ _ _ (by omega) (by omega) (by omega) (by omega), cf _ _ _ (by omega) (by omega), Xf _ _ _ (by omega) (by omega) (by omega) (by omega) (by omega)]
    · rw [kf _ _ _ (by decide) (by decide) (by decide) (by first | decide | exact Or.inl (by decide)), f3 _ _ _ (by decide) (by decide) (by decide) (by decide)]
      unfold chR
      rw [if_neg (fun q => absurd q.1 (by decide)), Xf _ _ _ (by decide) (by decide) (by decide) (by decide) (by decide)]
      by_cases y : x = (J 12 0 1)
      · subst y
        have e1 : 20 * (J 12 0 1) + s - 20 * (J 12 0 1) = s := by omega
        rw [e1]
        by_cases q : chn w h s = true
        · rw [if_pos ⟨rfl, rfl, s0, s1, q⟩, if_pos ⟨rfl, q⟩]
        · rw [if_neg (fun r => q r.2.2.2.2), if_neg (fun r => q r.2)]
      · rw [if_neg (fun r => by omega), if_neg (fun r => y r.1)]
    · rw [kf _ _ _ (by decide) (by decide) (by decide) (by first | decide | exact Or.inl (by decide)), f3 _ _ _ (by decide) (by decide) (by decide) (by decide), cf _ _ _ (by decide) (by decide), X34]
    · rw [kf _ _ _ (by decide) (by decide) (by decide) (by first | decide | exact Or.inl (by decide)), f3 _ _ _ (by decide) (by decide) (by decide) (by decide), cf _ _ _ (by decide) (by decide), X35]
    · rw [kf _ _ _ (by decide) (by decide) (by decide) (by first | decide | exact Or.inl (by decide)), f3 _ _ _ (by decide) (by decide) (by decide) (by decide)]
      unfold chR
      by_cases q : chn w h j = true
      · rw [if_pos ⟨rfl, rfl, j0, q⟩, if_pos q]
      · rw [if_neg (fun r => q r.2.2.2), if_neg (fun r => absurd r.1 (by decide)), if_neg q, X36a j j0 q]
  have BK : RB (up (up J3 26 0 (J 12 0 1) v) 30 0 (J 12 0 1) 0) := RB.u_time (RB.u_view b11 b15.1 (by have := RB.views b11; omega))
  have IK : Inv n (up (up J3 26 0 (J 12 0 1) v) 30 0 (J 12 0 1) 0) := by
    refine hK.inv hH hI t1 BK (b12.c (by rw [up_k (by decide), up_k (by decide)]) (fun k j q1 q2 => by rw [up_k (by omega), up_k (by omega)])) ⟨fun k q1 q2 => ?_, ?_⟩ b15.1 (by rw [up_k (by decide), up_k (by decide)]; exact b15.2.1) (by rw [up_k (by decide), up_k (by decide), ← v28]; exact b15.2.2)
    · rw [hK.1.2.2.2.2.2, up_k (by decide), up_k (by decide)]
      obtain ⟨k', r1, r2, r3⟩ := b14 k q1 q2
      rw [r3, f49 _ _ _ (by decide)]
      exact hI.pi.1 k' r1 r2
    · rw [hK.1.2.2.2.2.2]; exact hI.pi.2
  have CK : Cpl e5 (adG J (chC (tnC C2 (J 12 0 1) p h (J 25 0 p) v) w nx (J 12 0 1) h) 8 (J 25 0 p) 1) (up (up J3 26 0 (J 12 0 1) v) 30 0 (J 12 0 1) 0) := by
    have g0 : ∀ k i j, k ≠ 1 → k ≠ 7 → k ≠ 15 → k ≠ 8 → adG J (chC (tnC C2 (J 12 0 1) p h (J 25 0 p) v) w nx (J 12 0 1) h) 8 (J 25 0 p) 1 k i j = C2 k i j := fun k i j q1 q2 q3 q4 => by simp [adG, chC, tnC, q1, q2, q3, q4]
    have g15 : ∀ s m, 0 ≤ s → s < S → adG J (chC (tnC C2 (J 12 0 1) p h (J 25 0 p) v) w nx (J 12 0 1) h) 8 (J 25 0 p) 1 15 s m = if chn w h s = true ∧ m = nx s then (J 12 0 1) else hd s m := fun s m s0 s1 => by
      have := (C27 s s0 s1).2.2.2.2 m
      simp [adG, chC, tnC, s0, this]
    refine hK.cpl (C := C) hH ⟨fun i j hi => ?_, fun j => ?_, fun s s0 s1 => ?_, fun i j => ?_, fun k i j hk => ?_, fun i i0 i1 => ?_⟩ hC hI t1 BK en8 (by rw [en 7 (by decide), m7]) (by rw [en 1 (by decide), m1]) ?_ (fun s s0 s1 q => ?_)
    · have := C2f 8 i j (by decide) (by decide) (by decide) (by decide) (by decide) (by decide)
      simp [adG, chC, tnC, hi, this]
    · simp [adG, chC, tnC]
    · have u := C27 s s0 s1
      refine ⟨?_, ?_, ?_, ?_, fun m => ?_⟩
      · have := u.1; simp [adG, chC, tnC, this]
      · have := u.2.1; simp [adG, chC, tnC, this]
      · have u4 := u.2.2.1
        by_cases y : s < (J 12 0 13)
        · rw [if_pos y] at u4 ⊢
          have i0 := hC.2.1.init s0 y
          have i1 := RB.init hB (j := s) s0 (by omega)
          have : ¬ C2 7 s 4 < 0 := by rw [u4, i0]; omega
          simp [adG, chC, tnC, s0, u4]
          intro _ q
          omega
        · rw [if_neg y] at u4 ⊢
          have q : chn w h s = true := by rw [show s = h by omega]; exact chn_r
          simp [adG, chC, tnC, s0, u4, q]
      · have u5 := u.2.2.2.1
        by_cases q : chn w h s = true
        · rw [if_pos q]
          simp [adG, chC, tnC, s0, q]
        · rw [if_neg q]
          have y : s < (J 12 0 13) := by
            by_cases y : s < (J 12 0 13)
            · exact y
            · exact absurd (by rw [show s = h by omega]; exact chn_r) q
          rw [gv_o s y] at u5
          have := hC.2.1.given s0 y
          simp [adG, chC, tnC, s0, q, u5, this]
      · rw [g15 s m s0 s1]
        by_cases y : s < (J 12 0 13)
        · rw [hd_o s y m, if_pos y]
        · rw [hd_n s y, if_neg y]
    · have := C2f 1 i j (by decide) (by decide) (by decide) (by decide) (by decide) (by decide)
      simp [adG, chC, tnC, this]
    · rw [g0 _ _ _ (by omega) (by omega) (by omega) (by omega), C2f _ _ _ (by omega) (by omega) (by omega) (by omega) (by omega) (by omega)]
    · rw [g0 _ _ _ (by decide) (by decide) (by decide) (by decide)]; exact b9 i i0 i1
    · refine (b10.ec (en 10 (by decide))).fr (fun k i j q => g0 _ _ _ (by omega) (by omega) (by omega) (by omega)) (fun k i j q1 q2 => by rw [up_k (by omega), up_k (by omega)]) (by rw [up_k (by decide), up_k (by decide)]) (by rw [up_k (by decide), up_k (by decide)])
    · refine ⟨by rw [g15 s _ s0 s1, if_pos ⟨q, rfl⟩], ?_⟩
      have hh := nxF_h (h := hd s) 40 (gv s) (gvb s s0 (by omega)).1 (gvb s s0 (by omega)).2 (by rw [← hnx s]; exact hnz s s0 q)
      rw [← hnx s] at hh
      by_cases y : s < (J 12 0 13)
      · rw [hd_o s y] at hh; rw [if_pos y]; exact hh
      · rw [if_neg y]; decide
  obtain ⟨C6, J6, g1, g2, g3, g4, g5⟩ := come_pr (I := I) d1 hR5 CK IK hn (t := (J 12 0 1)) (mv := 0) (by omega) (by rw [hK.1.1]; omega) (by omega) (by omega)
  have ek : ∀ k i, k ≠ 7 → k ≠ 8 → k ≠ 10 → k ≠ 15 → e5.1 k i = e.1 k i := fun k i q1 q2 q3 q4 => by rw [ea k i q2, b6 k i q3, a6 k i q1 q4]
  have K62 : ∀ j, J6 62 0 j = J 62 0 j := fun j => by
    rw [g5 _ _ _ (by decide) (by decide), kf _ _ _ (by decide) (by decide) (by decide) (by first | decide | exact Or.inl (by decide)), f49 _ _ _ (by decide)]
  have K0 : J6 12 0 0 = J 12 0 0 := by
    rw [g5 _ _ _ (by decide) (by decide), kf _ _ _ (by decide) (by decide) (by decide) (by first | decide | exact Or.inl (by decide)), f12 _ (by decide) (by decide)]
  refine ⟨e5, C6, z5, J6, ?_, ?_, ⟨d1, hR5, g3, g4⟩, ⟨z51, ⟨by rw [e522, b5.1, a5.1], fun k hk => by rw [en k (by omega), b5.2 k hk, a5.2 k hk]⟩, fun k hk => ek k 0 (by omega) (by omega) (by omega) (by omega), K62⟩, K0⟩
  · refine a12 cp _ (b16 _ _ ?_)
    rw [← rf_k (e := e1) (e' := e2) (b6 7 h (by decide))]
    refine d2 _ (Ev.kV g1 ?_)
    refine Ev.bs (g_8_0 d1 (by omega) (by omega)) (Ev.ret rfl)
  · have d1' := d1
    refine Ev.step (fun F => E12_fork_138 F _ _ _ _ _ _ _) ?_
    refine Ev.ite (fun _ => ?_) (fun q => absurd rfl q)
    refine Ev.bs (g_12_1 d1 hR5) ?_
    rw [xk_add]
    refine Ev.bs (p_12_1 d1 hR5) ?_
    have fin : Ev (fun F => J12_fork_242 F (rf e5 12 0) (xk p) (xk cp) (xk h) (xk (J 12 0 1)) (xk h) (HS e5 C6 X z5)) (rI (J 12 0 1) (HS e5 C6 J6 z5)) := by
      refine fork242_ev (hd := hd) (gv := gv) (w := w) (nx := nx) d1 hR5 hw (by omega) t1 hnx h (by omega) X (by omega) XB X34 X36 X22 XH _ ?_
      refine Ev.step (fun F => fk242 F _ _ _ _ _ _) ?_
      unfold fkN
      refine Ev.bs (g_12_2 d1 hR5) (Ev.bs (s_22 d1 hR5 (by omega) t1) ?_)
      refine Ev.bs (g_12_3 d1 hR5) (Ev.bs (s_23 d1 hR5 (by omega) t1) ?_)
      refine Ev.bs (g_12_4 d1 hR5) (Ev.bs (s_24 d1 hR5 (by omega) t1) ?_)
      refine Ev.bs (g_12_5 d1 hR5) (Ev.bs (g_12_5 d1 hR5) (Ev.bs (a_25 d1 hR5 hp.1 (by omega)) ?_))
      have eg : up (up (up (chR X w nx (J 12 0 1) h) 22 0 (J 12 0 1) 0) 23 0 (J 12 0 1) p) 24 0 (J 12 0 1) h 25 0 p = (J 25 0 p) := by
        rw [up_k (by decide), up_k (by decide), up_k (by decide), cf _ _ _ (by decide) (by decide), Xf _ _ _ (by decide) (by decide) (by decide) (by decide) (by decide)]
      rw [eg]
      refine Ev.bs (s_25 d1 hR5 (by omega) t1) (Ev.bs (g_12_6 d1 hR5) ?_)
      refine b17 e5 C6 z5 (J 12 0 1) _ d1 hR5 (by omega) t1 ?_
      unfold fkR
      rw [lN_z]
      refine Ev.bs (g_12_10 d1 hR5) (Ev.bs (s_30 d1 hR5 (by omega) t1) (Ev.xg (d_12 d1 hR5) (Ev.kV (g2 C6) (Ev.ret rfl))))
    rcases a8 with y | y
    · refine Ev.ite (fun _ => ?_) (fun q => absurd (by rw [y.1]; exact k00) q)
      refine Ev.bs (g_12_2 d1 hR5) (Ev.bs (s_22 d1 hR5 (by omega) t1) ?_)
      have : up (up J 12 0 1 ((J 12 0 1) + 1)) 22 0 (J 12 0 1) 2 = X := by rw [← hX, y.1]; rfl
      rw [this, ← y.2.2.1]
      exact fin
    · refine Ev.ite (fun q => absurd q (by rw [y.1]; exact k10)) (fun _ => ?_)
      have i13 : up J 12 0 1 ((J 12 0 1) + 1) 12 0 13 = (J 12 0 13) := up_j (by decide)
      refine Ev.bs (g_12_14 d1 hR5) (Ev.bs (g_12_13 d1 hR5) ?_)
      rw [i13]
      refine Ev.bs (s_34 d1 hR5 (by omega) (by omega)) (Ev.bs (g_12_15 d1 hR5) (Ev.bs (g_12_13 d1 hR5) ?_))
      rw [up_k (by decide), i13]
      refine Ev.bs (s_35 d1 hR5 (by omega) (by omega)) (Ev.bs (g_12_16 d1 hR5) (Ev.bs (g_12_13 d1 hR5) ?_))
      rw [up_k (by decide), up_k (by decide), i13]
      refine Ev.bs (s_36 d1 hR5 (by omega) (by omega)) (Ev.bs (g_12_13 d1 hR5) ?_)
      rw [up_k (by decide), up_k (by decide), up_k (by decide), i13, xk_add]
      refine Ev.bs (p_12_13 d1 hR5) (Ev.bs (g_12_2 d1 hR5) (Ev.bs (s_22 d1 hR5 (by omega) t1) ?_))
      have : up (up (up (up (up (up J 12 0 1 ((J 12 0 1) + 1)) 34 0 (J 12 0 13) (J 24 0 p)) 35 0 (J 12 0 13) (J 12 0 1)) 36 0 (J 12 0 13) 0) 12 0 13 ((J 12 0 13) + 1)) 22 0 (J 12 0 1) 2 = X := by rw [← hX, y.1]; rfl
      rw [this, ← y.2.2.1]
      exact fin
end FKs
