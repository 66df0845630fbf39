/-! the class against the reference -/
/-- how many lie around -/
def dpF (w : Int → Int) : Nat → Int → Int
  | 0, _ => 0
  | n + 1, k => if w k < 0 then 0 else dpF w n (w k) + 1
theorem dpF_m {w : Int → Int} (hw : ∀ k, 0 ≤ k → k < 20 → -1 ≤ w k ∧ w k < k) : ∀ (n : Nat) (k : Int), 0 ≤ k → k < n → k < 20 → dpF w n k = dpF w (n + 1) k
  | 0, k, h1, h2, _ => by omega
  | n + 1, k, h1, h2, h3 => by
    rw [dpF, dpF]
    have := hw k h1 h3
    by_cases h : w k < 0
    · rw [if_pos h, if_pos h]
    · rw [if_neg h, if_neg h, dpF_m hw n _ (by omega) (by omega) (by omega)]
def dpS (J : ST) (s : Int) : Int := dpF (fun k => (J 34 0 k)) 20 s
def dpG (J : ST) (g : Int) : Int := dpF (fun k => (J 38 0 k)) 20 g
theorem dpS_u {J : ST} (hB : RB J) {s : Int} (s0 : 0 ≤ s) (s1 : s < 20) : dpS J s = if (J 34 0 s) = -1 then 0 else dpS J (J 34 0 s) + 1 := by
  unfold dpS
  rw [dpF_m (RB.aw hB) 20 s s0 (by omega) s1, dpF]
  have := RB.aw hB s s0 s1
  by_cases h : (J 34 0 s) = -1
  · rw [if_pos h, if_pos (by omega)]
  · rw [if_neg h, if_neg (by omega)]
theorem dpG_u {J : ST} (hB : RB J) {s : Int} (s0 : 0 ≤ s) (s1 : s < 20) : dpG J s = if (J 38 0 s) = -1 then 0 else dpG J (J 38 0 s) + 1 := by
  unfold dpG
  rw [dpF_m (RB.ww hB) 20 s s0 (by omega) s1, dpF]
  have := RB.ww hB s s0 s1
  by_cases h : (J 38 0 s) = -1
  · rw [if_pos h, if_pos (by omega)]
  · rw [if_neg h, if_neg (by omega)]
def CT (e : EN) (C J : ST) : Prop := (e.2.1 8) = (J 12 0 1) ∧ ∀ t, 0 ≤ t → t < (J 12 0 1) → (C 8 t 1) = (J 24 0 t) ∧ (C 8 t 2) = (J 26 0 t) ∧ (C 8 t 3) = (J 23 0 t) ∧ (C 8 t 4) = (J 25 0 t) ∧ (C 8 t 5) = (J 22 0 t) ∧ (C 8 t 6) = (J 27 0 t) ∧ (C 8 t 7) = (J 28 0 t) ∧ (C 8 t 8) = (J 31 0 t) ∧ (C 8 t 9) = (J 29 0 t) ∧ (C 8 t 10) = (J 30 0 t)
def CP (e : EN) (C J : ST) : Prop := (e.2.1 7) = (J 12 0 13) ∧ ∀ s, 0 ≤ s → s < (J 12 0 13) → (C 7 s 1) = (J 34 0 s) ∧ (C 7 s 2) = dpS J s ∧ (C 7 s 4) = (J 35 0 s) ∧ (C 7 s 5) = (J 36 0 s) ∧ (∀ n, 1 ≤ n → n ≤ 40 → HoR J s n (C 15 s n)) ∧ (C 15 s 0) < 0
def CG (e : EN) (C J : ST) : Prop := (e.2.1 1) = (J 12 0 17) ∧ ∀ g, 0 ≤ g → g < (J 12 0 17) → (C 1 g 1) = (J 38 0 g) ∧ (C 1 g 2) = dpG J g ∧ (C 1 g 3) = (J 40 0 g) ∧ (C 1 g 4) = (J 39 0 g) ∧ (C 1 g 5) = (J 41 0 g) ∧ (C 1 g 6) = (J 42 0 g) ∧ (C 1 g 9) = (J 43 0 g) ∧ (C 1 g 10) = (J 44 0 g) ∧ (C 1 g 11) = (J 45 0 g) ∧ (C 1 g 7) = usF J g ∧ (C 1 g 8) = lvF J g
def CF (C J : ST) : Prop := ∀ g, 0 ≤ g → g < (J 12 0 17) → (-1 ≤ (C 1 g 12) ∧ (C 1 g 12) < (J 12 0 1)) ∧ (-1 ≤ (C 1 g 13) ∧ (C 1 g 13) < (J 12 0 17))
def CM (e : EN) (C J : ST) : Prop := (e.2.1 10) = (J 12 0 28) ∧ (∀ v, 0 ≤ v → v < (J 12 0 28) → (C 10 v 1) = (J 49 0 v)) ∧ (∀ m, 0 ≤ m → m < 80 → (C 4 m 6) = (J 54 0 m) ∧ (C 4 m 7) = (J 55 0 m) ∧ (C 4 m 2) = (if (J 50 0 m) = 1 then (J 51 0 m) else -1) ∧ (C 4 m 3) = (if (J 50 0 m) = 1 then (J 52 0 m) else -1) ∧ (C 4 m 4) = (if (J 50 0 m) = 1 then (J 53 0 m) else 0) ∧ (C 4 m 5) = sm (bzT J m) 80 ∧ ∀ d, 0 ≤ d → d < 15 → ToR J m d (C 17 m d)) ∧ (C 5 0 3) = sm (fun k => (J 50 0 k)) 80 ∧ (C 5 0 5) = (J 12 0 36)
def CK (C J : ST) : Prop := (C 0 0 2) = (J 12 0 26) ∧ (C 3 0 2) = (J 12 0 27) ∧ -1 ≤ (C 6 0 0) ∧ (C 6 0 0) < 80 ∧ 0 ≤ (C 6 0 1) ∧ (C 6 0 1) < 15 ∧ ∀ m, 0 ≤ m → m < 80 → -1 ≤ (C 4 m 8) ∧ (C 4 m 8) < 80
def Cpl (e : EN) (C J : ST) : Prop := CT e C J ∧ CP e C J ∧ CG e C J ∧ CF C J ∧ CM e C J ∧ CK C J
section Cs
variable {e : EN} {C J : ST}
theorem CT.n (h : CT e C J) : (e.2.1 8) = (J 12 0 1) := h.1
theorem CT.space (h : CT e C J) {t : Int} (t0 : 0 ≤ t) (t1 : t < (J 12 0 1)) : (C 8 t 1) = (J 24 0 t) := (h.2 t t0 t1).1
theorem CT.view (h : CT e C J) {t : Int} (t0 : 0 ≤ t) (t1 : t < (J 12 0 1)) : (C 8 t 2) = (J 26 0 t) := (h.2 t t0 t1).2.1
theorem CT.parent (h : CT e C J) {t : Int} (t0 : 0 ≤ t) (t1 : t < (J 12 0 1)) : (C 8 t 3) = (J 23 0 t) := (h.2 t t0 t1).2.2.1
theorem CT.group (h : CT e C J) {t : Int} (t0 : 0 ≤ t) (t1 : t < (J 12 0 1)) : (C 8 t 4) = (J 25 0 t) := (h.2 t t0 t1).2.2.2.1
theorem CT.state (h : CT e C J) {t : Int} (t0 : 0 ≤ t) (t1 : t < (J 12 0 1)) : (C 8 t 5) = (J 22 0 t) := (h.2 t t0 t1).2.2.2.2.1
theorem CT.pages (h : CT e C J) {t : Int} (t0 : 0 ≤ t) (t1 : t < (J 12 0 1)) : (C 8 t 6) = (J 27 0 t) := (h.2 t t0 t1).2.2.2.2.2.1
theorem CT.points (h : CT e C J) {t : Int} (t0 : 0 ≤ t) (t1 : t < (J 12 0 1)) : (C 8 t 7) = (J 28 0 t) := (h.2 t t0 t1).2.2.2.2.2.2.1
theorem CT.ticks (h : CT e C J) {t : Int} (t0 : 0 ≤ t) (t1 : t < (J 12 0 1)) : (C 8 t 8) = (J 31 0 t) := (h.2 t t0 t1).2.2.2.2.2.2.2.1
theorem CT.asleep (h : CT e C J) {t : Int} (t0 : 0 ≤ t) (t1 : t < (J 12 0 1)) : (C 8 t 9) = (J 29 0 t) := (h.2 t t0 t1).2.2.2.2.2.2.2.2.1
theorem CT.time (h : CT e C J) {t : Int} (t0 : 0 ≤ t) (t1 : t < (J 12 0 1)) : (C 8 t 10) = (J 30 0 t) := (h.2 t t0 t1).2.2.2.2.2.2.2.2.2
theorem CP.n (h : CP e C J) : (e.2.1 7) = (J 12 0 13) := h.1
theorem CP.outer (h : CP e C J) {s : Int} (s0 : 0 ≤ s) (s1 : s < (J 12 0 13)) : (C 7 s 1) = (J 34 0 s) := (h.2 s s0 s1).1
theorem CP.depth (h : CP e C J) {s : Int} (s0 : 0 ≤ s) (s1 : s < (J 12 0 13)) : (C 7 s 2) = dpS J s := (h.2 s s0 s1).2.1
theorem CP.init (h : CP e C J) {s : Int} (s0 : 0 ≤ s) (s1 : s < (J 12 0 13)) : (C 7 s 4) = (J 35 0 s) := (h.2 s s0 s1).2.2.1
theorem CP.given (h : CP e C J) {s : Int} (s0 : 0 ≤ s) (s1 : s < (J 12 0 13)) : (C 7 s 5) = (J 36 0 s) := (h.2 s s0 s1).2.2.2.1
theorem CP.hold (h : CP e C J) {s : Int} (s0 : 0 ≤ s) (s1 : s < (J 12 0 13)) {n : Int} (n0 : 1 ≤ n) (n1 : n ≤ 40) : HoR J s n (C 15 s n) := (h.2 s s0 s1).2.2.2.2.1 n n0 n1
theorem CP.h0 (h : CP e C J) {s : Int} (s0 : 0 ≤ s) (s1 : s < (J 12 0 13)) : (C 15 s 0) < 0 := (h.2 s s0 s1).2.2.2.2.2
theorem CG.n (h : CG e C J) : (e.2.1 1) = (J 12 0 17) := h.1
theorem CG.outer (h : CG e C J) {g : Int} (g0 : 0 ≤ g) (g1 : g < (J 12 0 17)) : (C 1 g 1) = (J 38 0 g) := (h.2 g g0 g1).1
theorem CG.depth (h : CG e C J) {g : Int} (g0 : 0 ≤ g) (g1 : g < (J 12 0 17)) : (C 1 g 2) = dpG J g := (h.2 g g0 g1).2.1
theorem CG.max (h : CG e C J) {g : Int} (g0 : 0 ≤ g) (g1 : g < (J 12 0 17)) : (C 1 g 3) = (J 40 0 g) := (h.2 g g0 g1).2.2.1
theorem CG.most (h : CG e C J) {g : Int} (g0 : 0 ≤ g) (g1 : g < (J 12 0 17)) : (C 1 g 4) = (J 39 0 g) := (h.2 g g0 g1).2.2.2.1
theorem CG.weight (h : CG e C J) {g : Int} (g0 : 0 ≤ g) (g1 : g < (J 12 0 17)) : (C 1 g 5) = (J 41 0 g) := (h.2 g g0 g1).2.2.2.2.1
theorem CG.quota (h : CG e C J) {g : Int} (g0 : 0 ≤ g) (g1 : g < (J 12 0 17)) : (C 1 g 6) = (J 42 0 g) := (h.2 g g0 g1).2.2.2.2.2.1
theorem CG.cached (h : CG e C J) {g : Int} (g0 : 0 ≤ g) (g1 : g < (J 12 0 17)) : (C 1 g 9) = (J 43 0 g) := (h.2 g g0 g1).2.2.2.2.2.2.1
theorem CG.ran (h : CG e C J) {g : Int} (g0 : 0 ≤ g) (g1 : g < (J 12 0 17)) : (C 1 g 10) = (J 44 0 g) := (h.2 g g0 g1).2.2.2.2.2.2.2.1
theorem CG.time (h : CG e C J) {g : Int} (g0 : 0 ≤ g) (g1 : g < (J 12 0 17)) : (C 1 g 11) = (J 45 0 g) := (h.2 g g0 g1).2.2.2.2.2.2.2.2.1
theorem CG.uses (h : CG e C J) {g : Int} (g0 : 0 ≤ g) (g1 : g < (J 12 0 17)) : (C 1 g 7) = usF J g := (h.2 g g0 g1).2.2.2.2.2.2.2.2.2.1
theorem CG.live (h : CG e C J) {g : Int} (g0 : 0 ≤ g) (g1 : g < (J 12 0 17)) : (C 1 g 8) = lvF J g := (h.2 g g0 g1).2.2.2.2.2.2.2.2.2.2
/-! what doesn't change keeps its coupling -/
theorem HoR_c {J J' : ST} (h1 : J' 12 0 1 = J 12 0 1) (h2 : ∀ j, (J' 22 0 j = 2) = (J 22 0 j = 2)) (h3 : ∀ j, J' 32 0 j = J 32 0 j) : HoR J' = HoR J := by
  funext s n x
  unfold HoR
  simp only [h1, h2, h3, ne_eq]
theorem CP.fr {C' J' : ST} (h : CP e C J) (hc7 : ∀ i j, C' 7 i j = C 7 i j) (hc15 : ∀ i j, C' 15 i j = C 15 i j) (h13 : J' 12 0 13 = J 12 0 13) (h34 : ∀ j, J' 34 0 j = J 34 0 j) (h35 : ∀ j, J' 35 0 j = J 35 0 j) (h36 : ∀ j, J' 36 0 j = J 36 0 j) (hH : HoR J' = HoR J) : CP e C' J' := by
  have ed : dpS J' = dpS J := by
    funext s
    unfold dpS
    rw [show (fun k => J' 34 0 k) = (fun k => J 34 0 k) from funext h34]
  refine ⟨h13 ▸ h.1, fun s s0 s1 => ?_⟩
  rw [h13] at s1
  have := h.2 s s0 s1
  simp only [hc7, hc15, h34, h35, h36, hH, ed]
  exact this
theorem CM.fr {C' J' : ST} (h : CM e C J) (hc : ∀ k i j, (k = 4 ∧ j ≠ 8) ∨ (k = 5) ∨ k = 10 ∨ k = 17 → C' k i j = C k i j) (hj : ∀ k i j, 49 ≤ k → k ≤ 55 → J' k i j = J k i j) (h1 : J' 12 0 28 = J 12 0 28) (h2 : J' 12 0 36 = J 12 0 36) : CM e C' J' := by
  have eT : ToR J' = ToR J := ToR_c (fun k => hj _ _ _ (by omega) (by omega)) (fun k => hj _ _ _ (by omega) (by omega)) (fun k => hj _ _ _ (by omega) (by omega))
  have eb : bzT J' = bzT J := by
    funext m k
    unfold bzT
    rw [hj _ _ _ (by omega) (by omega), hj _ _ _ (by omega) (by omega)]
  obtain ⟨a, b, c, d, f⟩ := h
  refine ⟨h1 ▸ a, fun v v0 v1 => ?_, fun m m0 m1 => ?_, ?_, ?_⟩
  · rw [h1] at v1
    rw [hc _ _ _ (by omega), hj _ _ _ (by omega) (by omega)]
    exact b v v0 v1
  · have := c m m0 m1
    rw [hc _ _ _ (by omega), hc _ _ _ (by omega), hc _ _ _ (by omega), hc _ _ _ (by omega), hc _ _ _ (by omega), hc _ _ _ (by omega), hj _ _ _ (by omega) (by omega), hj _ _ _ (by omega) (by omega), hj _ _ _ (by omega) (by omega), hj _ _ _ (by omega) (by omega), hj _ _ _ (by omega) (by omega), hj _ _ _ (by omega) (by omega), eb, eT]
    refine ⟨this.1, this.2.1, this.2.2.1, this.2.2.2.1, this.2.2.2.2.1, this.2.2.2.2.2.1, fun d d0 d1 => ?_⟩
    rw [hc _ _ _ (by omega)]
    exact this.2.2.2.2.2.2 d d0 d1
  · rw [hc _ _ _ (by omega), d]
    congr 1
    funext k
    rw [hj _ _ _ (by omega) (by omega)]
  · rw [hc _ _ _ (by omega), h2]; exact f
theorem CK.fr {C' J' : ST} (h : CK C J) (h0 : C' 0 0 2 = C 0 0 2) (h3 : C' 3 0 2 = C 3 0 2) (h6 : ∀ j, C' 6 0 j = C 6 0 j) (h4 : ∀ i, C' 4 i 8 = C 4 i 8) (j1 : J' 12 0 26 = J 12 0 26) (j2 : J' 12 0 27 = J 12 0 27) : CK C' J' := by
  unfold CK
  simp only [h0, h3, h6, h4, j1, j2]
  exact h
theorem CF.fr {C' J' : ST} (h : CF C J) (h12 : ∀ g, C' 1 g 12 = C 1 g 12) (h13 : ∀ g, C' 1 g 13 = C 1 g 13) (j1 : J' 12 0 1 = J 12 0 1) (j2 : J' 12 0 17 = J 12 0 17) : CF C' J' := by
  unfold CF
  simp only [h12, h13, j1, j2]
  exact h
theorem CT.fr {C' J' : ST} (h : CT e C J) (hc : ∀ i j, C' 8 i j = C 8 i j) (h1 : J' 12 0 1 = J 12 0 1) (hj : ∀ k j, 22 ≤ k → k ≤ 31 → J' k 0 j = J k 0 j) : CT e C' J' := by
  refine ⟨h1 ▸ h.1, fun t t0 t1 => ?_⟩
  rw [h1] at t1
  have := h.2 t t0 t1
  simp (disch := omega) only [hc, hj]
  exact this
theorem lvF_c {J J' : ST} (h1 : J' 12 0 1 = J 12 0 1) (h2 : ∀ j, (J' 22 0 j = 0) = (J 22 0 j = 0)) (h3 : ∀ j, J' 25 0 j = J 25 0 j) (h4 : ∀ j, J' 38 0 j = J 38 0 j) : lvF J' = lvF J := by
  funext g
  unfold lvF
  rw [h1]
  congr 1
  funext t
  unfold lvT
  simp only [h2, h3, win_c h4]
theorem usF_c {J J' : ST} (h1 : J' 12 0 1 = J 12 0 1) (h17 : J' 12 0 17 = J 12 0 17) (h2 : ∀ j, (J' 22 0 j = 0) = (J 22 0 j = 0)) (h3 : ∀ j, J' 25 0 j = J 25 0 j) (h4 : ∀ j, J' 38 0 j = J 38 0 j) (h5 : ∀ j, J' 27 0 j = J 27 0 j) (h6 : ∀ j, J' 43 0 j = J 43 0 j) : usF J' = usF J := by
  funext g
  unfold usF
  rw [h1, h17]
  congr 1
  · congr 1
    funext t
    unfold usT
    simp only [h2, h3, h5, win_c h4]
  · congr 1
    funext t
    unfold usK
    rw [h6, win_c h4]
theorem CG.fr {C' J' : ST} (h : CG e C J) (hc : ∀ i j, j < 12 → C' 1 i j = C 1 i j) (h17 : J' 12 0 17 = J 12 0 17) (hj : ∀ k j, 38 ≤ k → k ≤ 45 → J' k 0 j = J k 0 j) (hu : usF J' = usF J) (hl : lvF J' = lvF J) : CG e C' J' := by
  have ed : dpG J' = dpG J := by
    funext s
    unfold dpG
    rw [show (fun k => J' 38 0 k) = (fun k => J 38 0 k) from funext (fun j => hj _ _ (by omega) (by omega))]
  refine ⟨h17 ▸ h.1, fun g g0 g1 => ?_⟩
  rw [h17] at g1
  have := h.2 g g0 g1
  simp (disch := omega) only [hc, hj, ed, hu, hl]
  exact this
end Cs
