/-! fork: the stores before and after -/
def FK (J K : ST) (w nx : Int → Int) (p g h v S : Int) : Prop := ((K 12 0 1) = (J 12 0 1) + 1 ∧ (K 12 0 13) = S ∧ (K 12 0 17) = (J 12 0 17) ∧ (K 12 0 26) = (J 12 0 26) ∧ (K 12 0 27) = (J 12 0 27) ∧ (K 12 0 36) = (J 12 0 36)) ∧ (∀ k j, (22 ≤ k ∧ k ≤ 26) ∨ k = 30 → j ≠ (J 12 0 1) → K k 0 j = J k 0 j) ∧ ((K 22 0 ((J 12 0 1))) = 0 ∧ (K 23 0 ((J 12 0 1))) = p ∧ (K 24 0 ((J 12 0 1))) = h ∧ (K 25 0 ((J 12 0 1))) = g ∧ (K 26 0 ((J 12 0 1))) = v ∧ (K 30 0 ((J 12 0 1))) = 0) ∧ (∀ k j, k = 27 ∨ k = 28 ∨ k = 29 ∨ k = 31 ∨ (38 ≤ k ∧ k ≤ 45) → K k 0 j = J k 0 j) ∧ (∀ x s, 0 ≤ s → s < 20 → (K 32 0 (20 * x + s)) = if x = (J 12 0 1) ∧ chn w h s = true then nx s else (J 32 0 (20 * x + s))) ∧ (∀ j, (K 34 0 j) = w j) ∧ (∀ j, (K 35 0 j) = if j = h ∧ S ≠ (J 12 0 13) then (J 12 0 1) else (J 35 0 j)) ∧ ∀ j, 0 ≤ j → (K 36 0 j) = if chn w h j = true then nx j else (J 36 0 j)
def FH (J : ST) (w nx : Int → Int) (p g h S : Int) : Prop := (0 ≤ p ∧ p < (J 12 0 1) ∧ (J 22 0 p) = 0 ∧ g = (J 25 0 p)) ∧ ((S = (J 12 0 13) ∧ h = (J 24 0 p) ∧ ∀ j, w j = (J 34 0 j)) ∨ (S = (J 12 0 13) + 1 ∧ h = (J 12 0 13) ∧ (J 12 0 13) < 20 ∧ ∀ j, w j = if j = (J 12 0 13) then (J 24 0 p) else (J 34 0 j))) ∧ ∀ s, 0 ≤ s → chn w h s = true → 1 ≤ nx s ∧ nx s ≤ 40
section FKs
variable {e : EN} {C C' J K : ST} {w nx : Int → Int} {p g h v S n : Int}
theorem FH.old (hH : FH J w nx p g h S) {k : Int} (k1 : k < (J 12 0 13)) : w k = (J 34 0 k) := by
  rcases hH.2.1 with y | y
  · exact y.2.2 k
  · rw [y.2.2.2 k, if_neg (by omega)]
theorem FH.wb (hH : FH J w nx p g h S) (hT : TI J) : ∀ k, 0 ≤ k → k < 20 → -1 ≤ w k ∧ w k < k := by
  intro k k0 k1
  have a := RB.aw hT.1 k k0 k1
  have b := hT.b hH.1.1 hH.1.2.1
  rcases hH.2.1 with y | y
  · rw [y.2.2 k]; exact a
  · rw [y.2.2.2 k]
    split
    · omega
    · exact a
theorem FH.ln (hH : FH J w nx p g h S) (hT : TI J) {o k : Int} (k0 : -1 ≤ k) (k1 : k < (J 12 0 13)) : chn w k o = lin J k o := by
  have := RB.spaces hT.1
  exact chn_c (RB.aw hT.1) (hH.wb hT) (n := (J 12 0 13)) (fun k a b => hH.old b) k k0 k1 (by omega)
theorem FH.hb (hH : FH J w nx p g h S) (hT : TI J) : 0 ≤ h ∧ h < S ∧ S ≤ 20 ∧ (J 12 0 13) ≤ S := by
  have b := hT.b hH.1.1 hH.1.2.1
  have := RB.spaces hT.1
  rcases hH.2.1 with y | y <;> omega
theorem FH.gt (hH : FH J w nx p g h S) (hT : TI J) {s : Int} (h1 : h < s) : chn w h s = false := by
  have hb := hH.hb hT
  cases q : chn w h s with
  | false => rfl
  | true => have := chn_le (hH.wb hT) h (by omega) (by omega) q; omega
theorem FK.lin (hK : FK J K w nx p g h v S) {a b : Int} : lin K a b = chn w a b := by
  show chn (fun k => (K 34 0 k)) a b = chn w a b
  rw [show (fun k => (K 34 0 k)) = w from funext hK.2.2.2.2.2.1]
theorem FK.us (hK : FK J K w nx p g h v S) (hZ : TZ J) (hB : RB J) (t1 : (J 12 0 1) < 150) (hH : FH J w nx p g h S) {x : Int} : usF K x = usF J x ∧ lvF K x = lvF J x + (if win J g x = true then 1 else 0) := by
  obtain ⟨k1, k2, k3, k4, k5, k6, k7, k8⟩ := hK
  have tb := RB.tasks hB
  have hw : win K = win J := win_c (fun j => k4 38 j (by omega))
  have z0 := (hZ.1 (J 12 0 1) (by omega) t1).1
  unfold usF lvF
  rw [k1.1, k1.2.2.1, sm_s (by omega), sm_s (by omega)]
  have a1 : sm (usT K x) (J 12 0 1) = sm (usT J x) (J 12 0 1) := sm_c (fun t t0 t1 => by
    unfold usT
    rw [k2 22 t (by omega) (by omega), k2 25 t (by omega) (by omega), k4 27 t (by omega), hw])
  have a2 : sm (lvT K x) (J 12 0 1) = sm (lvT J x) (J 12 0 1) := sm_c (fun t t0 t1 => by
    unfold lvT
    rw [k2 22 t (by omega) (by omega), k2 25 t (by omega) (by omega), hw])
  have a3 : sm (usK K x) (J 12 0 17) = sm (usK J x) (J 12 0 17) := sm_c (fun t t0 t1 => by
    unfold usK
    rw [k4 43 t (by omega), hw])
  have a4 : usT K x (J 12 0 1) = 0 := by
    unfold usT
    rw [k4 27 _ (by omega), z0]
    split <;> rfl
  have a5 : lvT K x (J 12 0 1) = if win J g x = true then 1 else 0 := by
    unfold lvT
    rw [k3.1, k3.2.2.2.1, hw]
    simp only [true_and]
  rw [a1, a2, a3, a4, a5]
  exact ⟨by omega, rfl⟩
theorem FK.inv (hK : FK J K w nx p g h v S) (hH : FH J w nx p g h S) (hI : Inv n J) (t1 : (J 12 0 1) < 150) (hB' : RB K) (hM' : MI K) (hP' : PI n K) (v0 : 0 ≤ v) (v1 : v < (K 12 0 28)) (vw : (J 12 0 28) ≤ (K 12 0 28)) : Inv n K := by
  have hT := hI.ti
  have hB := hT.1
  have hZ := hI.tz
  have tb := RB.tasks hB
  have hb := hH.hb hT
  have hwb := hH.wb hT
  have bp := hT.b hH.1.1 hH.1.2.1
  have hl := fun a b => FK.lin (a := a) (b := b) hK
  have hus := fun x => (FK.us (x := x) hK hZ hB t1 hH).1
  obtain ⟨q1, q2, q3, q4, q5, q6, q7⟩ := hT
  have hT : TI J := ⟨q1, q2, q3, q4, q5, q6, q7⟩
  have hK' := hK
  obtain ⟨k1, k2, k3, k4, k5, k6, k7, k8⟩ := hK
  obtain ⟨h1, h2, h3⟩ := hH
  have hH : FH J w nx p g h S := ⟨h1, h2, h3⟩
  have sp := RB.spaces hB
  have ini : ∀ s, s < (J 12 0 13) → (K 35 0 s) = (J 35 0 s) := fun s s1 => by
    rw [k7 s, if_neg (by omega)]
  have hTI : TI K := by
    refine ⟨hB', ⟨?_, ?_, ?_, ?_, ?_⟩, fun s s0 s1 => ?_, fun s s0 s1 => ?_, fun t t0 t1 => ?_, fun t t0 t1 hs hp => ?_, fun t s t0 t1 s0 s1 => ?_⟩
    · rw [k2 22 0 (by omega) (by omega)]; exact q2.1
    · rw [k2 23 0 (by omega) (by omega)]; exact q2.2.1
    · rw [k2 24 0 (by omega) (by omega)]; exact q2.2.2.1
    · rw [ini 0 (by omega)]; exact q2.2.2.2.1
    · rw [k6 0, hH.old (by omega)]; exact q2.2.2.2.2
    · rw [k1.2.1] at s1
      rw [k6]
      by_cases y : s < (J 12 0 13)
      · rw [hH.old y]; exact q3 s s0 y
      · rcases h2 with u | u
        · omega
        · rw [u.2.2.2, if_pos (by omega)]; omega
    · rw [k1.2.1] at s1
      rw [k1.1]
      by_cases y : s < (J 12 0 13)
      · rw [ini s y]
        have := q4 s s0 y
        rw [k2 24 _ (by omega) (by omega)]
        exact ⟨by omega, this.2⟩
      · rw [k7 s, if_pos (by omega), k3.2.2.1]
        omega
    · rw [k1.1] at t1
      rw [k1.1, k1.2.1, k1.2.2.1]
      by_cases y : t = (J 12 0 1)
      · rw [y, k3.2.2.1, k3.2.1, k3.2.2.2.1, k3.2.2.2.2.1]
        omega
      · rw [k2 23 t (by omega) y, k2 24 t (by omega) y, k2 25 t (by omega) y, k2 26 t (by omega) y]
        have := q5 t t0 (by omega)
        omega
    · rw [k1.1] at t1
      by_cases y : t = (J 12 0 1)
      · rw [y, k3.2.2.1, k3.2.1, hl, k2 24 p (by omega) (by omega)]
        rcases h2 with u | u
        · refine ⟨by rw [u.2.1]; exact chn_r, fun q => ?_⟩
          rw [u.2.1] at q
          have a := ini (J 24 0 p) (by omega)
          have b := q4 (J 24 0 p) (by omega) (by omega)
          omega
        · refine ⟨?_, fun _ => by omega⟩
          rw [chn_u hwb (by omega) (by omega), if_neg (by omega), if_neg (by omega), u.2.2.2 h, if_pos u.2.1]
          exact chn_r
      · rw [k2 22 t (by omega) y] at hs
        rw [k2 23 t (by omega) y] at hp
        have b := q5 t t0 (by omega)
        have bt := hT.b t0 (by omega)
        have := q6 t t0 (by omega) hs hp
        rw [k2 23 t (by omega) y, k2 24 t (by omega) y, k2 24 _ (by omega) (by omega), hl, hH.ln hT (by omega) (by omega), ini _ (by omega)]
        exact this
    · rw [k1.1] at t1
      rw [k1.2.1] at s1
      rw [k5 t s s0 (by omega), hl]
      by_cases y : t = (J 12 0 1)
      · subst y
        rw [k3.1, k3.2.2.1]
        refine ⟨fun q => absurd q (by decide), fun _ => ?_⟩
        by_cases u : chn w h s = true
        · rw [if_pos ⟨rfl, u⟩]
          have := h3 s s0 u
          exact ⟨fun _ => u, fun _ => by omega⟩
        · rw [if_neg (fun q => u q.2), (hZ.1 (J 12 0 1) (by omega) (by omega)).2.2.2.2 s s0 (by omega)]
          exact ⟨fun q => absurd rfl q, fun q => absurd q u⟩
      · rw [if_neg (fun q => y q.1), k2 22 t (by omega) y, k2 24 t (by omega) y]
        have bt := hT.b t0 (by omega)
        by_cases u : s < (J 12 0 13)
        · rw [hH.ln hT (by omega) (by omega)]
          exact q7 t s t0 (by omega) s0 u
        · have z1 := hZ.2 t s t0 (by omega) (by omega) (by omega)
          rw [z1]
          refine ⟨fun _ => rfl, fun _ => ⟨fun q => absurd rfl q, fun q => ?_⟩⟩
          have := chn_le hwb _ (by omega) (by omega) q
          omega
  refine ⟨hTI, fun t t0 t1 hs => ?_, fun x x0 x1 => ?_, ?_, ?_, ⟨fun t t0 t1 => ?_, fun t s t0 t1 s0 s1 => ?_⟩, ⟨?_, fun t t0 t1 => ?_, fun x x0 x1 => ?_⟩, hM', hP'⟩
  · rw [k1.1] at t1
    by_cases y : t = (J 12 0 1)
    · rw [y, k3.1] at hs
      exact absurd hs (by decide)
    · rw [k2 22 t (by omega) y] at hs
      rw [k2 23 t (by omega) y]
      exact hI.tg t t0 (by omega) hs
  · rw [k1.2.2.1] at x1
    rw [hus, k4 40 x (by omega)]
    exact hI.gu x x0 x1
  · exact hI.gi.c k1.2.2.1 (fun j => k4 38 j (by omega)) (fun j => k4 41 j (by omega))
  · exact hI.gz.c k1.2.2.1 (fun j => k4 42 j (by omega)) (fun j => k4 43 j (by omega)) (fun j => k4 44 j (by omega))
  · rw [k1.1] at t0
    rw [k4 27 t (by omega), k4 28 t (by omega), k4 29 t (by omega), k4 31 t (by omega)]
    have z1 := hZ.1 t (by omega) t1
    refine ⟨z1.1, z1.2.1, z1.2.2.1, z1.2.2.2.1, fun s s0 s1 => ?_⟩
    rw [k5 t s s0 s1, if_neg (fun q => by omega)]
    exact z1.2.2.2.2 s s0 s1
  · rw [k1.2.1] at s0
    rw [k5 t s (by omega) s1, if_neg (fun q => by
      have := hH.gt hT (s := s) (by omega)
      rw [this] at q
      exact absurd q.2 (by decide))]
    exact hZ.2 t s t0 t1 (by omega) s1
  · rw [k1.2.2.2.1]; exact hI.ki.1
  · rw [k1.2.2.2.1]
    by_cases y : t = (J 12 0 1)
    · rw [y, k3.2.2.2.2.2]
      have := hI.ki.1
      omega
    · rw [k2 30 t (by omega) y]
      exact hI.ki.2.1 t t0 t1
  · rw [k1.2.2.2.1, k4 45 x (by omega), k4 44 x (by omega)]
    exact hI.ki.2.2 x x0 x1
/-- the class's store after the chain of numbers -/
def chC (X : ST) (w nx : Int → Int) (t s : Int) : ST := fun k i j => if k = 15 ∧ 0 ≤ i ∧ chn w s i = true ∧ j = nx i then t else if k = 7 ∧ j = 5 ∧ 0 ≤ i ∧ chn w s i = true then nx i else if k = 7 ∧ j = 4 ∧ 0 ≤ i ∧ chn w s i = true ∧ X 7 i 4 < 0 then t else X k i j
/-- the class's store after fork, but for mounts -/
def FC (C C' J : ST) (w nx : Int → Int) (p g h v S : Int) : Prop := (∀ i j, i ≠ (J 12 0 1) → C' 8 i j = C 8 i j) ∧ (∀ j, C' 8 (J 12 0 1) j = if j = 1 then h else if j = 2 then v else if j = 3 then p else if j = 4 then g else 0) ∧ (∀ s, 0 ≤ s → s < S → C' 7 s 1 = w s ∧ C' 7 s 2 = (if s < (J 12 0 13) then (C 7 s 2) else (C 7 ((J 24 0 p)) 2) + 1) ∧ C' 7 s 4 = (if s < (J 12 0 13) then (C 7 s 4) else (J 12 0 1)) ∧ C' 7 s 5 = (if chn w h s = true then nx s else (C 7 s 5)) ∧ ∀ m, C' 15 s m = if chn w h s = true ∧ m = nx s then (J 12 0 1) else if s < (J 12 0 13) then (C 15 s m) else -1) ∧ (∀ i j, C' 1 i j = if j = 8 ∧ 0 ≤ i ∧ win J g i = true then C 1 i j + 1 else C 1 i j) ∧ (∀ k i j, k = 0 ∨ k = 3 ∨ k = 6 → C' k i j = C k i j) ∧ ∀ i, 0 ≤ i → i < 80 → -1 ≤ C' 4 i 8 ∧ C' 4 i 8 < 80
theorem FK.cpl {e' : EN} (hK : FK J K w nx p g h v S) (hH : FH J w nx p g h S) (hF : FC C C' J w nx p g h v S) (hC : Cpl e C J) (hI : Inv n J) (t1 : (J 12 0 1) < 150) (hB' : RB K) (n8 : e'.2.1 8 = (J 12 0 1) + 1) (n7 : e'.2.1 7 = S) (n1 : e'.2.1 1 = (J 12 0 17)) (hM : CM e' C' K) (hnx : ∀ s, 0 ≤ s → s < S → chn w h s = true → C' 15 s (nx s) = (J 12 0 1) ∧ (if s < (J 12 0 13) then (C 15 s (nx s)) else -1) < 0) : Cpl e' C' K := by
  have hT := hI.ti
  have hB := hT.1
  have hZ := hI.tz
  have tb := RB.tasks hB
  have sp := RB.spaces hB
  have hb := hH.hb hT
  have hwb := hH.wb hT
  have bp := hT.b hH.1.1 hH.1.2.1
  have hus := fun x => FK.us (x := x) hK hZ hB t1 hH
  have hl := fun a b => FK.lin (a := a) (b := b) hK
  obtain ⟨k1, k2, k3, k4, k5, k6, k7, k8⟩ := hK
  have h2 := hH.2.1
  obtain ⟨f1, f2, f3, f4, f5, f6⟩ := hF
  obtain ⟨cT, cP, cG, cF, cM, cK⟩ := hC
  have dp : ∀ s, 0 ≤ s → s < (J 12 0 13) → dpS K s = dpS J s := fun s s0 s1 => dpF_c (RB.aw hB) (m := (J 12 0 13)) (fun k a b => by
    show (K 34 0 k) = (J 34 0 k)
    rw [k6 k]; exact hH.old b) 20 s s0 s1 (by omega)
  refine ⟨⟨by rw [n8, k1.1], fun t t0 t1 => ?_⟩, ⟨by rw [n7, k1.2.1], fun s s0 s1 => ?_⟩, ⟨by rw [n1, k1.2.2.1], fun x x0 x1 => ?_⟩, fun x x0 x1 => ?_, hM, ?_⟩
  · rw [k1.1] at t1
    by_cases y : t = (J 12 0 1)
    · subst y
      simp only [f2]
      have z1 := hZ.1 (J 12 0 1) (by omega) (by omega)
      rw [k3.1, k3.2.1, k3.2.2.1, k3.2.2.2.1, k3.2.2.2.2.1, k3.2.2.2.2.2, k4 27 _ (by omega), k4 28 _ (by omega), k4 29 _ (by omega), k4 31 _ (by omega), z1.1, z1.2.1, z1.2.2.1, z1.2.2.2.1]
      simp
    · simp only [f1 t _ y]
      rw [k2 22 t (by omega) y, k2 23 t (by omega) y, k2 24 t (by omega) y, k2 25 t (by omega) y, k2 26 t (by omega) y, k2 30 t (by omega) y, k4 27 _ (by omega), k4 28 _ (by omega), k4 29 _ (by omega), k4 31 _ (by omega)]
      exact cT.2 t t0 (by omega)
  · rw [k1.2.1] at s1
    have ff := f3 s s0 s1
    have ho : ∀ m, 1 ≤ m → m ≤ 40 → ∃ x, (if s < (J 12 0 13) then (C 15 s m) else -1) = x ∧ (-1 ≤ x ∧ x < (J 12 0 1)) ∧ ∀ t, 0 ≤ t → t < (J 12 0 1) → (((J 22 0 t) ≠ 2 ∧ (J 32 0 (20 * t + s)) = m) ↔ t = x) := fun m m0 m1 => by
      by_cases y : s < (J 12 0 13)
      · rw [if_pos y]
        have := cP.hold s0 y m0 m1
        exact ⟨_, rfl, this.1, this.2⟩
      · rw [if_neg y]
        refine ⟨_, rfl, by omega, fun t t0 t1 => ?_⟩
        rw [hZ.2 t s t0 (by omega) (by omega) (by omega)]
        constructor
        · intro q; omega
        · intro q; omega
    refine ⟨by rw [ff.1, k6], ?_, ?_, ?_, fun m m0 m1 => ?_, ?_⟩
    · rw [ff.2.1]
      by_cases y : s < (J 12 0 13)
      · rw [if_pos y, dp s s0 y]; exact cP.depth s0 y
      · rw [if_neg y, cP.depth (by omega) (by omega), dpS_u hB' s0 (by omega), k6]
        rcases hH.2.1 with u | u
        · omega
        · have ws : w s = (J 24 0 p) := by rw [u.2.2.2 s, if_pos (by omega)]
          rw [ws, if_neg (by omega), dp _ (by omega) (by omega)]
    · rw [ff.2.2.1, k7]
      by_cases y : s < (J 12 0 13)
      · rw [if_pos y, if_neg (by omega)]; exact cP.init s0 y
      · rw [if_neg y, if_pos (by omega)]
    · rw [ff.2.2.2.1, k8 s s0]
      by_cases y : chn w h s = true
      · rw [if_pos y, if_pos y]
      · rw [if_neg y, if_neg y]
        by_cases u : s < (J 12 0 13)
        · exact cP.given s0 u
        · exact absurd (by rw [show s = h by omega]; exact chn_r) y
    · obtain ⟨x, hx, xb, hh⟩ := ho m m0 m1
      rw [ff.2.2.2.2 m, hx]
      refine ⟨by rw [k1.1]; split <;> omega, fun t t0 t1 => ?_⟩
      rw [k1.1] at t1
      rw [k5 t s s0 (by omega)]
      by_cases q : chn w h s = true ∧ m = nx s
      · rw [if_pos q]
        have hn := (hnx s s0 s1 q.1).2
        rw [← q.2, hx] at hn
        by_cases y : t = (J 12 0 1)
        · rw [if_pos ⟨y, q.1⟩, y, k3.1]
          exact ⟨fun _ => rfl, fun _ => ⟨by decide, q.2.symm⟩⟩
        · rw [if_neg (fun r => y r.1), k2 22 t (by omega) y]
          have := hh t t0 (by omega)
          constructor
          · intro r; have := this.mp r; omega
          · intro r; omega
      · rw [if_neg q]
        by_cases y : t = (J 12 0 1)
        · rw [y, k3.1]
          have z1 := (hZ.1 (J 12 0 1) (by omega) (by omega)).2.2.2.2 s s0 (by omega)
          constructor
          · intro r
            by_cases u : chn w h s = true
            · rw [if_pos ⟨rfl, u⟩] at r
              exact absurd ⟨u, r.2.symm⟩ q
            · rw [if_neg (fun r => u r.2), z1] at r
              omega
          · intro r; omega
        · rw [if_neg (fun r => y r.1), k2 22 t (by omega) y]
          exact hh t t0 (by omega)
    · rw [ff.2.2.2.2 0, if_neg (fun q => by have := hH.2.2 s s0 q.1; omega)]
      by_cases u : s < (J 12 0 13)
      · rw [if_pos u]; exact cP.h0 s0 u
      · rw [if_neg u]; decide
  · rw [k1.2.2.1] at x1
    have hd : dpG K x = dpG J x := by
      unfold dpG
      rw [show (fun k => (K 38 0 k)) = (fun k => (J 38 0 k)) from funext (fun j => k4 38 j (by omega))]
    have := cG.2 x x0 x1
    simp only [f4]
    rw [k4 38 _ (by omega), k4 39 _ (by omega), k4 40 _ (by omega), k4 41 _ (by omega), k4 42 _ (by omega), k4 43 _ (by omega), k4 44 _ (by omega), k4 45 _ (by omega), (hus x).1, (hus x).2, hd]
    simp only [show ¬ (1 : Int) = 8 by decide, show ¬ (2 : Int) = 8 by decide, show ¬ (3 : Int) = 8 by decide, show ¬ (4 : Int) = 8 by decide, show ¬ (5 : Int) = 8 by decide, show ¬ (6 : Int) = 8 by decide, show ¬ (7 : Int) = 8 by decide, show ¬ (9 : Int) = 8 by decide, show ¬ (10 : Int) = 8 by decide, show ¬ (11 : Int) = 8 by decide, false_and, if_false, true_and, x0]
    refine ⟨this.1, this.2.1, this.2.2.1, this.2.2.2.1, this.2.2.2.2.1, this.2.2.2.2.2.1, this.2.2.2.2.2.2.1, this.2.2.2.2.2.2.2.1, this.2.2.2.2.2.2.2.2.1, this.2.2.2.2.2.2.2.2.2.1, ?_⟩
    rw [this.2.2.2.2.2.2.2.2.2.2]
    split <;> omega
  · rw [k1.2.2.1] at x1
    rw [f4, f4, k1.1, k1.2.2.1]
    have := cF x x0 x1
    simp only [show ¬ (12 : Int) = 8 by decide, show ¬ (13 : Int) = 8 by decide, false_and, if_false]
    omega
  · obtain ⟨a1, a2, a3, a4, a5, a6, a7⟩ := cK
    refine ⟨?_, ?_, ?_, ?_, ?_, ?_, f6⟩
    · rw [f5 _ _ _ (by omega), k1.2.2.2.1]; exact a1
    · rw [f5 _ _ _ (by omega), k1.2.2.2.2.1]; exact a2
    all_goals
      rw [f5 _ _ _ (by omega)]
      assumption
end FKs
