/-! the start: objects are made, raw -/
section INI
variable {e : EN} {X : RS} {z : Nat × Nat × Nat × Nat}
theorem vaup {κ k : Nat} {i : Int} (hk : κ < 65) (h0 : 0 ≤ e.2.1 κ) (h : Va e k i) : Va (bump e κ) k i := (Va.bump hk h0).mpr (Or.inl h)
theorem Ev.nw {κ t : Nat} {m : Int} {L : List XE} {k : Nat → Nat → XH → XR} {r : XV × XH} (hA : WX e z) (hk : κ < 65) (hm : e.2.1 κ = m) (m0 : 0 ≤ m) (ha : e.1 κ m = z.1) (ht : kd κ = t) (hL : L.length = kl e κ) (h : WX (bump e κ) (z.1 + 1, z.2.1 + L.length, z.2.2) → Va (bump e κ) κ m → Ev (fun F => k F (e.1 κ m) (HX (bump e κ) (nwX X κ m L) (z.1 + 1, z.2.1 + L.length, z.2.2))) r) : Ev (fun F => xnw (HX e X z) (t, L) (k F)) r := by
  subst hm ht
  have hp := rx_push (X := X) hA hk m0 ha hL
  have hW : WX (bump e κ) (z.1 + 1, z.2.1 + L.length, z.2.2) := WX.bump hA hk m0 ha
  have h := h hW ((Va.bump hk m0).mpr (Or.inr ⟨rfl, rfl⟩))
  unfold xnw
  rw [hp]
  have h2 : (HX e X z).2.1 = e.1 κ (e.2.1 κ) := ha.symm
  rw [h2]
  exact h
theorem Ev.nwa {κ t w : Nat} {m : Int} {n : Int32} {d : XE} {k : Nat → Nat → XH → XR} {r : XV × XH} (hn : ¬ n < 0 ∧ n.toNatClampNeg = w ∧ w ≤ 100000) (hA : WX e z) (hk : κ < 65) (hm : e.2.1 κ = m) (m0 : 0 ≤ m) (ha : e.1 κ m = z.1) (ht : kd κ = t) (hL : w = kl e κ) (h : WX (bump e κ) (z.1 + 1, z.2.1 + w, z.2.2) → Va (bump e κ) κ m → Ev (fun F => k F (e.1 κ m) (HX (bump e κ) (nwX X κ m (List.replicate w d)) (z.1 + 1, z.2.1 + w, z.2.2))) r) : Ev (fun F => xnwa (HX e X z) t d n (k F)) r := by
  unfold xnwa
  rw [hn.2.1]
  refine Ev.ite (fun q => absurd q hn.1) (fun _ => ?_)
  refine Ev.ite (fun q => absurd q (by have := hn.2.2; omega)) (fun _ => ?_)
  have := Ev.nw (X := X) (L := List.replicate w d) (k := k) (r := r) hA hk hm m0 ha ht (by rw [List.length_replicate]; exact hL)
  rw [List.length_replicate] at this
  exact this h
theorem j2i (hA : WX e z) (h2 : Va e 2 0) (c : e.2.1 16 = 0) (a : e.1 16 0 = z.1) : Ev (fun F => J2_init F (some (e.1 2 0)) (HX e X z)) (rV (HX (bump e 16) (upX (nwX X 16 0 (List.replicate 20 (.inr (.inr none)))) 2 0 0 (.inr (.inr (some (e.1 16 0))))) (z.1 + 1, z.2.1 + 20, z.2.2))) ∧ WX (bump e 16) (z.1 + 1, z.2.1 + 20, z.2.2) := by
  refine ⟨?_, WX.bump hA (by decide) (by omega) (by rw [c]; exact a)⟩
  refine Ev.step (fun F => E2_init F _ _) ?_
  refine Ev.ite (fun q => absurd q (by simp)) (fun _ => ?_)
  refine Ev.nwa (κ := 16) (w := 20) (by decide +kernel) hA (by decide) c (by decide) a rfl rfl (fun hW hV => ?_)
  have v2 := vaup (κ := 16) (by decide) (by omega) h2
  exact Ev.bs (rx_pt hW v2 rfl (by show 0 < 2; decide)) (Ev.ret rfl)
theorem j9i (hA : WX e z) (h2 : Va e 9 0) (c : e.2.1 13 = 0) (a : e.1 13 0 = z.1) (c' : e.2.1 14 = 0) (a' : e.1 14 0 = z.1 + 1) : Ev (fun F => J9_init F (some (e.1 9 0)) (HX e X z)) (rV (HX (bump (bump e 13) 14) (upX (nwX (upX (nwX X 13 0 (List.replicate 150 (.inr (.inr none)))) 9 0 0 (.inr (.inr (some (e.1 13 0))))) 14 0 (List.replicate 20 (.inr (.inr none)))) 9 0 1 (.inr (.inr (some (e.1 14 0))))) (z.1 + 1 + 1, z.2.1 + 150 + 20, z.2.2))) ∧ WX (bump (bump e 13) 14) (z.1 + 1 + 1, z.2.1 + 150 + 20, z.2.2) := by
  have w13 : WX (bump e 13) (z.1 + 1, z.2.1 + 150, z.2.2) := WX.bump hA (by decide) (by omega) (by rw [c]; exact a)
  refine ⟨?_, WX.bump w13 (by decide) (by show 0 ≤ e.2.1 14; omega) (by show e.1 14 (e.2.1 14) = z.1 + 1; rw [c']; exact a')⟩
  refine Ev.step (fun F => E9_init F _ _) ?_
  refine Ev.ite (fun q => absurd q (by simp)) (fun _ => ?_)
  refine Ev.nwa (κ := 13) (w := 150) (by decide +kernel) hA (by decide) c (by decide) a rfl rfl (fun hW hV => ?_)
  have v2 := vaup (κ := 13) (by decide) (by omega) h2
  refine Ev.bs (rx_pt hW v2 rfl (by show 0 < 4; decide)) ?_
  refine Ev.nwa (κ := 14) (w := 20) (by decide +kernel) hW (by decide) c' (by decide) a' rfl rfl (fun hW2 hV2 => ?_)
  have v3 := vaup (κ := 14) (by decide) (by show 0 ≤ e.2.1 14; omega) v2
  exact Ev.bs (rx_pt hW2 v3 rfl (by show 1 < 4; decide)) (Ev.ret rfl)
theorem j3i {t g : Option Nat} (hA : WX e z) (h2 : Va e 3 0) : Ev (fun F => J3_init F (some (e.1 3 0)) t g (HX e X z)) (rV (HX e (upX (upX X 3 0 0 (.inr (.inr t))) 3 0 1 (.inr (.inr g))) z)) := by
  refine Ev.step (fun F => E3_init F _ _ _ _) ?_
  refine Ev.ite (fun q => absurd q (by simp)) (fun _ => ?_)
  exact Ev.bs (rx_pt hA h2 rfl (by show 0 < 3; decide)) (Ev.bs (rx_pt hA h2 rfl (by show 1 < 3; decide)) (Ev.ret rfl))
theorem j0i {t g : Option Nat} (hA : WX e z) (h2 : Va e 0 0) : Ev (fun F => J0_init F (some (e.1 0 0)) t g (HX e X z)) (rV (HX e (upX (upX X 0 0 0 (.inr (.inr t))) 0 0 1 (.inr (.inr g))) z)) := by
  refine Ev.step (fun F => E0_init F _ _ _ _) ?_
  refine Ev.ite (fun q => absurd q (by simp)) (fun _ => ?_)
  exact Ev.bs (rx_pt hA h2 rfl (by show 0 < 3; decide)) (Ev.bs (rx_pt hA h2 rfl (by show 1 < 3; decide)) (Ev.ret rfl))
theorem j4i {m : Int} {x : Int32} (hA : WX e z) (h2 : Va e 4 m) (c : e.2.1 17 = m) (m0 : 0 ≤ m) (a : e.1 17 m = z.1) : Ev (fun F => J4_init F (some (e.1 4 m)) x (HX e X z)) (rV (HX (bump e 17) (upX (upX (nwX X 17 m (List.replicate 15 (.inr (.inr none)))) 4 m 1 (.inr (.inr (some (e.1 17 m))))) 4 m 0 (.inl x)) (z.1 + 1, z.2.1 + 15, z.2.2))) := by
  refine Ev.step (fun F => E4_init F _ _ _) ?_
  refine Ev.ite (fun q => absurd q (by simp)) (fun _ => ?_)
  refine Ev.nwa (κ := 17) (w := 15) (by decide +kernel) hA (by decide) c m0 a rfl rfl (fun hW hV => ?_)
  have v2 := vaup (κ := 17) (by decide) (by omega) h2
  exact Ev.bs (rx_pt hW v2 rfl (by show 1 < 9; decide)) (Ev.bs (rx_pt hW v2 rfl (by show 0 < 9; decide)) (Ev.ret rfl))
/-- m mounts are made -/
def mtE (e : EN) (m : Int) : EN := (e.1, fun k => if k = 4 ∨ k = 17 then m else e.2.1 k, e.2.2)
def mtX (e : EN) (X : RS) (m : Int) : RS := fun k i j => if k = 4 ∧ 0 ≤ i ∧ i < m then (if j = 0 then .inl (xk i) else if j = 1 then .inr (.inr (some (e.1 17 i))) else if j = 2 ∨ j = 3 ∨ j = 8 then .inr (.inr none) else .inl 0) else if k = 17 ∧ 0 ≤ i ∧ i < m then .inr (.inr none) else if k = 18 ∧ i = 0 ∧ 0 ≤ j ∧ j < m then .inr (.inr (some (e.1 4 j))) else X k i j
theorem init35 {s : Nat} (h5 : Va e 5 0) (h18 : Va e 18 0) (x18 : X 5 0 0 = .inr (.inr (some (e.1 18 0)))) (ha4 : ∀ m, 0 ≤ m → m < 80 → e.1 4 m = z.1 + 2 * m.toNat) (ha17 : ∀ m, 0 ≤ m → m < 80 → e.1 17 m = z.1 + 2 * m.toNat + 1) (hn : ∀ j, 0 ≤ j → j < 80 → X 18 0 j = .inr (.inr none)) : ∀ (n : Nat) (m : Int), 0 ≤ m → m + n = 80 → WX (mtE e m) (z.1 + 2 * m.toNat, s + 24 * m.toNat, z.2.2) → Ev (fun F => J5_init_35 F (some (e.1 5 0)) (xk m) (HX (mtE e m) (mtX e X m) (z.1 + 2 * m.toNat, s + 24 * m.toNat, z.2.2))) (rV (HX (mtE e 80) (mtX e X 80) (z.1 + 160, s + 1920, z.2.2))) ∧ WX (mtE e 80) (z.1 + 160, s + 1920, z.2.2) := by
  intro n
  induction n with
  | zero =>
    intro m m0 hm hA
    have : m = 80 := by omega
    subst this
    refine ⟨?_, hA⟩
    refine Ev.step (fun F => E5_init_35 F _ _ _) ?_
    exact Ev.ite (fun q => absurd ((kltI (by decide) (by decide) (by decide) (by decide)).mp q) (by decide)) (fun _ => Ev.ret rfl)
  | succ n ih =>
    intro m m0 hm hA
    have c4 : (mtE e m).2.1 4 = m := rfl
    have v5 : ∀ m, Va (mtE e m) 5 0 := fun m => ⟨by decide, by decide, h5.2.2⟩
    have v18 : ∀ m, Va (mtE e m) 18 0 := fun m => ⟨by decide, by decide, h18.2.2⟩
    have tz : ((m + 1).toNat : Nat) = m.toNat + 1 := by omega
    have eE : bump (bump (mtE e m) 4) 17 = mtE e (m + 1) := by
      refine Prod.ext rfl (Prod.ext ?_ rfl)
      funext k
      show (bump (bump (mtE e m) 4) 17).2.1 k = (mtE e (m + 1)).2.1 k
      by_cases k4 : k = 4
      · subst k4; rfl
      · by_cases k17 : k = 17
        · subst k17; rfl
        · simp [bump, mtE, k4, k17]
    have hW4 : WX (bump (mtE e m) 4) (z.1 + 2 * m.toNat + 1, s + 24 * m.toNat + 9, z.2.2) := WX.bump hA (by decide) m0 (ha4 m m0 (by omega))
    have hW17 : WX (bump (bump (mtE e m) 4) 17) (z.1 + 2 * m.toNat + 1 + 1, s + 24 * m.toNat + 9 + 15, z.2.2) := WX.bump hW4 (by decide) (by exact m0) (by show e.1 17 m = _; rw [ha17 m m0 (by omega)])
    have zz : (z.1 + 2 * m.toNat + 1 + 1, s + 24 * m.toNat + 9 + 15, z.2.2) = (z.1 + 2 * (m + 1).toNat, s + 24 * (m + 1).toNat, z.2.2) := by
      have a1 : z.1 + 2 * m.toNat + 1 + 1 = z.1 + 2 * (m + 1).toNat := by omega
      have a2 : s + 24 * m.toNat + 9 + 15 = s + 24 * (m + 1).toNat := by omega
      rw [a1, a2]
    rw [eE, zz] at hW17
    obtain ⟨i1, i2⟩ := ih (m + 1) (by omega) (by omega) hW17
    refine ⟨?_, i2⟩
    refine Ev.step (fun F => E5_init_35 F _ _ _) ?_
    refine Ev.ite (fun _ => ?_) (fun q => absurd ((kltI (by omega) (by omega) (by omega) (by omega)).mpr (by omega)) q)
    refine Ev.bs (rx_gr hA (v5 m) rfl (by show 0 < 6; decide) (x := some (e.1 18 0)) (by show mtX e X m 5 0 0 = _; rw [← x18]; simp [mtX])) ?_
    refine Ev.nw (κ := 4) (L := xdf 4) hA (by decide) c4 m0 (ha4 m m0 (by omega)) rfl rfl (fun _ hV => ?_)
    refine Ev.kV (j4i (x := xk m) hW4 hV rfl m0 (by show e.1 17 m = _; rw [ha17 m m0 (by omega)])) ?_
    have hV4 := vaup (κ := 17) (by decide) (by exact m0) hV
    rw [eE] at hV4 ⊢
    rw [zz]
    refine Ev.bs (x := HX (mtE e (m + 1)) (mtX e X (m + 1)) (z.1 + 2 * (m + 1).toNat, s + 24 * (m + 1).toNat, z.2.2)) ?_ ?_
    · have hs := rx_sr (X := upX (upX (nwX (nwX (mtX e X m) 4 m (xdf 4)) 17 m (List.replicate 15 (.inr (.inr none)))) 4 m 1 (.inr (.inr (some (e.1 17 m))))) 4 m 0 (.inl (xk m))) (a := m) hW17 (v18 (m + 1)) hV4 (by decide) rfl m0 (by show m < ((80 : Nat) : Int); omega) (by show 80 ≤ 2147483647; decide)
      refine hs.trans (congrArg some (HX_c hW17 (fun k i hv j hj => ?_)))
      have hv2 := hv.2
      by_cases k4 : k = 4
      · subst k4
        have hv2 : 0 ≤ i ∧ i < m + 1 := hv2
        have hj : j < 9 := hj
        by_cases im : i = m
        · subst im
          have hc : j = 0 ∨ j = 1 ∨ j = 2 ∨ j = 3 ∨ j = 4 ∨ j = 5 ∨ j = 6 ∨ j = 7 ∨ j = 8 := by omega
          have t1 : 0 ≤ i ∧ i < i + 1 := ⟨m0, by omega⟩
          have x4 : xdf 4 = [.inl 0, .inr (.inr none), .inr (.inr none), .inr (.inr none), .inl 0, .inl 0, .inl 0, .inl 0, .inr (.inr none)] := rfl
          rcases hc with rfl | rfl | rfl | rfl | rfl | rfl | rfl | rfl | rfl <;> simp [upX, nwX, mtX, t1, x4]
        · have t1 : 0 ≤ i ∧ i < m := ⟨hv2.1, by omega⟩
          have t2 : 0 ≤ i ∧ i < m + 1 := hv2
          simp [upX, nwX, mtX, im, t1, t2]
      · by_cases k17 : k = 17
        · subst k17
          have hv2 : 0 ≤ i ∧ i < m + 1 := hv2
          have hj15 : j < 15 := hj
          by_cases im : i = m
          · subst im
            have t1 : 0 ≤ i ∧ i < i + 1 := ⟨m0, by omega⟩
            clear hs
            generalize hL : (List.replicate 15 (Sum.inr (Sum.inr none) : XE)) = L
            have t3 : L[j]? = some (Sum.inr (Sum.inr none)) := by
              rw [← hL, List.getElem?_replicate, if_pos hj15]
            simp [upX, nwX, mtX, t1, t3]
          · have t1 : 0 ≤ i ∧ i < m := ⟨hv2.1, by omega⟩
            have t2 : 0 ≤ i ∧ i < m + 1 := hv2
            simp [upX, nwX, mtX, im, t1, t2]
        · by_cases k18 : k = 18
          · subst k18
            by_cases jm : i = 0 ∧ (j : Int) = m
            · obtain ⟨i0, jm⟩ := jm
              rw [i0, jm]
              have t2 : m < m + 1 := by omega
              simp [upX, mtX, m0, t2]
              rfl
            · by_cases i0 : i = 0
              · have jm' : ¬ (j : Int) = m := fun q => jm ⟨i0, q⟩
                have t3 : ((j : Int) < m) = ((j : Int) < m + 1) := by
                  apply propext; omega
                simp [upX, nwX, mtX, i0, jm', t3]
              · simp [upX, nwX, mtX, i0]
          · simp [upX, nwX, mtX, k4, k17, k18]
    · rw [xk_add]
      exact i1
end INI
