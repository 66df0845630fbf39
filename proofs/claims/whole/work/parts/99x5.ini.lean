/-! the start: all holds -/
def iS (sc : Int → Int) : ST := fun k i j => if k = 62 then sc j else if i = 0 then (if k = 12 then (if j = 1 ∨ j = 13 ∨ j = 17 ∨ j = 28 then 1 else 0) else if j = 0 then (if k = 23 ∨ k = 34 ∨ k = 38 ∨ k = 52 then -1 else if k = 36 ∨ k = 32 ∨ k = 50 then 1 else if k = 40 then 1000000 else if k = 39 then 150 else if k = 41 then 100 else 0) else 0) else 0
section INI
variable {e : EN} {C : ST} {z : Nat × Nat × Nat × Nat} {sc : Int → Int}
theorem iS_rb : RB (iS sc) := by
  refine ⟨fun r hr a a0 a1 => ?_, fun g g0 g1 => ⟨?_, ?_⟩, ⟨by first | decide | simp [iS], by first | decide | simp [iS]⟩, ⟨by first | decide | simp [iS], by first | decide | simp [iS]⟩, ⟨by first | decide | simp [iS], by first | decide | simp [iS]⟩, ⟨by first | decide | simp [iS], by first | decide | simp [iS]⟩⟩
  · have key : ∀ r ∈ rbt, r.1 ≠ 62 ∧ r.1 ≠ 12 ∧ r.2.1 ≤ 0 ∧ 0 ≤ r.2.2.1 ∧ (r.1 = 23 ∨ r.1 = 34 ∨ r.1 = 38 ∨ r.1 = 52 → r.2.1 ≤ -1) ∧ (r.1 = 36 ∨ r.1 = 32 ∨ r.1 = 50 → 1 ≤ r.2.2.1) ∧ (r.1 = 40 → 1000000 ≤ r.2.2.1) ∧ (r.1 = 39 → 150 ≤ r.2.2.1) ∧ (r.1 = 41 → 100 ≤ r.2.2.1) := by first | decide | simp [iS]
    have q := key r hr
    unfold iS
    rw [if_neg q.1, if_pos rfl, if_neg q.2.1]
    repeat' split
    all_goals omega
  · by_cases h : g = 0
    · subst h; simp [iS]
    · simp [iS, h]; omega
  · by_cases h : g = 0
    · subst h; simp [iS]
    · simp [iS, h]; omega
theorem iS_lin {a s : Int} (a0 : 0 ≤ a) (a1 : a < 1) (s0 : 0 ≤ s) (s1 : s < 1) : lin (iS sc) a s = true := by
  have : a = s := by omega
  subst this
  exact chn_r
theorem iS_us {g : Int} : usF (iS sc) g = 0 := by
  unfold usF
  rw [show usT (iS sc) g = fun _ => 0 from funext (fun t => by
    have : iS sc 27 0 t = 0 := by simp [iS]
    unfold usT
    rw [this]
    split <;> rfl), show usK (iS sc) g = fun _ => 0 from funext (fun t => by
    have : iS sc 43 0 t = 0 := by simp [iS]
    unfold usK
    rw [this]
    split <;> rfl), sm_z, sm_z]
  rfl
theorem iS_inv : Inv 0 (iS sc) := by
  refine ⟨⟨iS_rb, ⟨rfl, rfl, rfl, rfl, rfl⟩, fun s s0 s1 => ?_, fun s s0 s1 => ?_, fun t t0 t1 => ?_, fun t t0 t1 hs hp => ?_, fun t s t0 t1 s0 s1 => ?_⟩, fun t t0 t1 hs => ?_, fun g g0 g1 => ?_, fun g g0 g1 => ?_, fun g g0 g1 => ?_, ⟨fun t t0 t1 => ?_, fun t s t0 t1 s0 s1 => ?_⟩, ⟨⟨?_, ?_⟩, fun t t0 t1 => ?_, fun g g0 g1 => ?_⟩, ?_, ⟨fun k k0 k1 => ?_, ?_⟩⟩
  · have s1 : s < 1 := s1
    omega
  · have s1 : s < 1 := s1
    have : s = 0 := by omega
    subst this
    exact ⟨by first | decide | simp [iS], rfl⟩
  · have t1 : t < 1 := t1
    have : t = 0 := by omega
    subst this
    exact ⟨by first | decide | simp [iS], by first | decide | simp [iS], by first | decide | simp [iS], by first | decide | simp [iS]⟩
  · have t1 : t < 1 := t1
    have : t = 0 := by omega
    subst this
    exact absurd hp (by first | decide | simp [iS])
  · have t1 : t < 1 := t1
    have s1 : s < 1 := s1
    have : t = 0 := by omega
    subst this
    have : s = 0 := by omega
    subst this
    refine ⟨fun q => absurd q (by first | decide | simp [iS]), fun _ => ⟨fun _ => iS_lin (by first | decide | simp [iS]) (by first | decide | simp [iS]) (by first | decide | simp [iS]) (by first | decide | simp [iS]), fun _ => by first | decide | simp [iS]⟩⟩
  · have t1 : t < 1 := t1
    have : t = 0 := by omega
    subst this
    exact absurd hs (by first | decide | simp [iS])
  · rw [iS_us]
    have := RB.max (iS_rb (sc := sc)) (j := g) g0 (by have g1 : g < 1 := g1; omega)
    omega
  · have g1 : g < 1 := g1
    have : g = 0 := by omega
    subst this
    exact ⟨⟨fun _ => rfl, fun _ => by first | decide | simp [iS]⟩, by first | decide | simp [iS]⟩
  · have g0 : 1 ≤ g := g0
    have : ¬ g = 0 := by omega
    simp [iS, this]
  · have t0 : 1 ≤ t := t0
    have : ¬ t = 0 := by omega
    refine ⟨by simp [iS], by simp [iS], by simp [iS], by simp [iS], fun s s0 s1 => ?_⟩
    have : ¬ 20 * t + s = 0 := by omega
    simp [iS, this]
  · have s0 : 1 ≤ s := s0
    have : ¬ 20 * t + s = 0 := by omega
    simp [iS, this]
  · first | decide | simp [iS]
  · first | decide | simp [iS]
  · have : iS sc 30 0 t = 0 := by simp [iS]
    rw [this]
    exact ⟨by first | decide | simp [iS], by first | decide | simp [iS]⟩
  · have a : iS sc 45 0 g = 0 := by simp [iS]
    have b : iS sc 44 0 g = 0 := by simp [iS]
    rw [a, b]
    exact ⟨by first | decide | simp [iS], by first | decide | simp [iS], by first | decide | simp [iS], by first | decide | simp [iS]⟩
  · refine ⟨fun k k0 k1 ht => ?_, fun v v0 v1 => ?_, fun _ => 0, 0, fun k k0 k1 ht => ?_⟩
    · by_cases q : k = 0
      · subst q
        exact ⟨by first | decide | simp [iS], fun _ => rfl, fun q => absurd q (by first | decide | simp [iS])⟩
      · have : iS sc 50 0 k = 0 := by simp [iS, q]
        rw [this] at ht
        exact absurd ht (by first | decide | simp [iS])
    · have v1 : v < 1 := v1
      have : v = 0 := by omega
      subst this
      exact ⟨rfl, rfl, rfl, rfl⟩
    · by_cases q : k = 0
      · subst q
        exact ⟨by first | decide | simp [iS], fun q => absurd q (by first | decide | simp [iS])⟩
      · have : iS sc 50 0 k = 0 := by simp [iS, q]
        rw [this] at ht
        exact absurd ht (by first | decide | simp [iS])
  · have : iS sc 55 0 k = 0 := by simp [iS]
    rw [this]
    exact ⟨by first | decide | simp [iS], by first | decide | simp [iS]⟩
  · first | decide | simp [iS]
theorem iS_lv : lvF (iS sc) 0 = 1 := by
  have w : win (iS sc) 0 0 = true := chn_r
  show sm (lvT (iS sc) 0) 1 = 1
  rw [show (1 : Int) = 0 + 1 from rfl, sm_s (by first | decide | simp [iS])]
  have : lvT (iS sc) 0 0 = 1 := if_pos ⟨rfl, w⟩
  rw [this]
  rfl
theorem iS_cpl (hM : CM e (iC5 (fun _ => -1) (fun _ => 1) (iS sc)) iJ) (n8 : (e.2.1 8) = 1) (n7 : (e.2.1 7) = 1) (n1 : (e.2.1 1) = 1) : Cpl e (iC5 (fun _ => -1) (fun _ => 1) (iS sc)) (iS sc) := by
  have w : win (iS sc) 0 0 = true := chn_r
  have c : chn (fun _ => (-1 : Int)) 0 0 = true := chn_r
  refine ⟨⟨n8, fun t t0 t1 => ?_⟩, ⟨n7, fun s s0 s1 => ?_⟩, ⟨n1, fun g g0 g1 => ?_⟩, fun g g0 g1 => ?_, ?_, ?_⟩
  · have t1 : t < 1 := t1
    have : t = 0 := by omega
    subst this
    refine ⟨rfl, rfl, rfl, rfl, rfl, rfl, rfl, rfl, rfl, rfl⟩
  · have s1 : s < 1 := s1
    have : s = 0 := by omega
    subst this
    refine ⟨rfl, ?_, ?_, ?_, fun m m0 m1 => ⟨?_, fun t t0 t1 => ?_⟩, ?_⟩
    · rw [dpS_u iS_rb (by decide) (by decide), if_pos (show iS sc 34 0 0 = -1 from rfl)]; rfl
    · simp [iC5, adG, chC, tnC, c, iC4, ocC, iC3, vnC, iC2, gnC, iC1, snC, iC, up, iS]
    · simp [iC5, adG, chC, tnC, c, iS]
    · have : iC5 (fun _ => -1) (fun _ => 1) (iS sc) 15 0 m = if m = 1 then 0 else -1 := by
        simp [iC5, adG, chC, tnC, c, iC4, ocC, iC3, vnC, iC2, gnC, iC1, snC, iC, up]
      rw [this]
      have : (iS sc 12 0 1) = 1 := rfl
      split <;> omega
    · have t1 : t < 1 := t1
      have : t = 0 := by omega
      subst this
      have : iC5 (fun _ => -1) (fun _ => 1) (iS sc) 15 0 m = if m = 1 then 0 else -1 := by
        simp [iC5, adG, chC, tnC, c, iC4, ocC, iC3, vnC, iC2, gnC, iC1, snC, iC, up]
      rw [this]
      have n0 : iS sc 32 0 (20 * 0 + 0) = 1 := rfl
      have s0 : iS sc 22 0 0 = 0 := rfl
      rw [n0, s0]
      by_cases q : m = 1
      · rw [if_pos q]; exact ⟨fun _ => rfl, fun _ => ⟨by first | decide | simp [iS], q.symm⟩⟩
      · rw [if_neg q]; exact ⟨fun y => absurd y.2.symm q, fun y => absurd y (by first | decide | simp [iS])⟩
    · simp [iC5, adG, chC, tnC, c, iC4, ocC, iC3, vnC, iC2, gnC, iC1, snC, iC, up]
  · have g1 : g < 1 := g1
    have : g = 0 := by omega
    subst this
    have cl : ∀ j, j ≠ 8 → iC5 (fun _ => -1) (fun _ => 1) (iS sc) 1 0 j = if j = 1 then -1 else if j = 2 then 0 else if j = 3 then 1000000 else if j = 4 then 150 else if j = 5 then 100 else if j = 12 ∨ j = 13 then -1 else 0 := fun j hj => by
      simp [iC5, adG, chC, tnC, hj, iC4, ocC, iC3, vnC, iC2, gnC, up]
    have c8 : iC5 (fun _ => -1) (fun _ => 1) (iS sc) 1 0 8 = 1 := by
      simp [iC5, adG, chC, tnC, w, iC4, ocC, iC3, vnC, iC2, gnC, up]
    rw [iS_us, iS_lv, c8, dpG_u iS_rb (by decide) (by decide), if_pos (show iS sc 38 0 0 = -1 from rfl)]
    simp only [cl 1 (by first | decide | simp [iS]), cl 2 (by first | decide | simp [iS]), cl 3 (by first | decide | simp [iS]), cl 4 (by first | decide | simp [iS]), cl 5 (by first | decide | simp [iS]), cl 6 (by first | decide | simp [iS]), cl 7 (by first | decide | simp [iS]), cl 9 (by first | decide | simp [iS]), cl 10 (by first | decide | simp [iS]), cl 11 (by first | decide | simp [iS])]
    exact ⟨rfl, rfl, rfl, rfl, rfl, rfl, rfl, rfl, rfl, rfl, trivial⟩
  · have g1 : g < 1 := g1
    have : g = 0 := by omega
    subst this
    have a : iC5 (fun _ => -1) (fun _ => 1) (iS sc) 1 0 12 = -1 := by simp [iC5, adG, chC, tnC, iC4, ocC, iC3, vnC, iC2, gnC, up]
    have b : iC5 (fun _ => -1) (fun _ => 1) (iS sc) 1 0 13 = -1 := by simp [iC5, adG, chC, tnC, iC4, ocC, iC3, vnC, iC2, gnC, up]
    rw [a, b]
    exact ⟨⟨by first | decide | simp [iS], by first | decide | simp [iS]⟩, ⟨by first | decide | simp [iS], by first | decide | simp [iS]⟩⟩
  · refine hM.fr (fun _ _ _ _ => rfl) (fun k i j a b => ?_) rfl rfl
    by_cases hi : i = 0
    · subst hi
      by_cases hj : j = 0
      · subst hj
        have hk : k = 49 ∨ k = 50 ∨ k = 51 ∨ k = 52 ∨ k = 53 ∨ k = 54 ∨ k = 55 := by omega
        rcases hk with rfl | rfl | rfl | rfl | rfl | rfl | rfl <;> rfl
      · have k12 : k ≠ 12 := by omega
        have k62 : k ≠ 62 := by omega
        simp [iS, iJ, ocI, up, hj, k12, k62]
    · have k12 : k ≠ 12 := by omega
      have k62 : k ≠ 62 := by omega
      simp [iS, iJ, ocI, up, hi, k62]
  · refine ⟨rfl, rfl, (by decide : (-1 : Int) ≤ -1), (by decide : (-1 : Int) < 80), (by decide : (0 : Int) ≤ 0), (by decide : (0 : Int) < 15), fun m m0 m1 => ?_⟩
    have : iC5 (fun _ => -1) (fun _ => 1) (iS sc) 4 m 8 = -1 := by
      simp [iC5, adG, chC, tnC, iC4, ocC, iC3, vnC, iC2, gnC, iC1, snC, iC, up]
    rw [this]
    exact ⟨by first | decide | simp [iS], by first | decide | simp [iS]⟩
end INI
