/-! what holds of the reference: tasks and spaces -/
theorem chn_r {w : Int → Int} {k : Int} : chn w k k = true := by unfold chn; rw [chF, if_pos rfl]
theorem chn_t {w : Int → Int} (hw : ∀ k, 0 ≤ k → k < 20 → -1 ≤ w k ∧ w k < k) {b c : Int} (h2 : chn w b c = true) : ∀ a, -1 ≤ a → a < 20 → chn w a b = true → chn w a c = true := by
  intro a ha
  refine lpD (P := fun a => a < 20 → chn w a b = true → chn w a c = true) (fun k k0 ih k1 h => ?_) a ha
  rw [chn_u hw k0 k1] at h
  by_cases hb : k = b
  · rw [hb]; exact h2
  · rw [if_neg hb] at h
    by_cases hn : k < 0
    · rw [if_pos hn] at h; exact absurd h (by decide)
    · rw [if_neg hn] at h
      have := hw k (by omega) k1
      rw [chn_u hw k0 k1, ih (w k) (by omega) (by omega) (by omega) h, if_neg hn]
      split <;> rfl
theorem chn_le {w : Int → Int} (hw : ∀ k, 0 ≤ k → k < 20 → -1 ≤ w k ∧ w k < k) {o : Int} : ∀ k, -1 ≤ k → k < 20 → chn w k o = true → o ≤ k := by
  intro a ha
  refine lpD (P := fun a => a < 20 → chn w a o = true → o ≤ a) (fun k k0 ih k1 h => ?_) a ha
  rw [chn_u hw k0 k1] at h
  by_cases hb : k = o
  · omega
  · rw [if_neg hb] at h
    by_cases hn : k < 0
    · rw [if_pos hn] at h; exact absurd h (by decide)
    · rw [if_neg hn] at h
      have := hw k (by omega) k1
      have := ih (w k) (by omega) (by omega) (by omega) h
      omega
/-- strictly inside: what is around it is inside, too -/
theorem chn_w {w : Int → Int} (hw : ∀ k, 0 ≤ k → k < 20 → -1 ≤ w k ∧ w k < k) {k o : Int} (k0 : -1 ≤ k) (k1 : k < 20) (h : chn w k o = true) (hn : k ≠ o) : 0 ≤ k ∧ chn w (w k) o = true := by
  rw [chn_u hw k0 k1, if_neg hn] at h
  by_cases hn : k < 0
  · rw [if_pos hn] at h; exact absurd h (by decide)
  · rw [if_neg hn] at h
    exact ⟨by omega, h⟩
theorem chn_o {w : Int → Int} (hw : ∀ k, 0 ≤ k → k < 20 → -1 ≤ w k ∧ w k < k) {k o : Int} (k0 : 0 ≤ k) (k1 : k < 20) (h : chn w k o = true) (o0 : 0 ≤ o) : chn w k (w o) = true := by
  have := hw o o0 (by have := chn_le hw k (by omega) k1 h; omega)
  refine chn_t hw ?_ k (by omega) k1 h
  rw [chn_u hw (by omega) (by have := chn_le hw k (by omega) k1 h; omega), if_neg (by omega), if_neg (by omega)]
  exact chn_r
def TI (J : ST) : Prop := RB J ∧ ((J 22 0 0) = 0 ∧ (J 23 0 0) = -1 ∧ (J 24 0 0) = 0 ∧ (J 35 0 0) = 0 ∧ (J 34 0 0) = -1) ∧ (∀ s, 0 < s → s < (J 12 0 13) → 0 ≤ (J 34 0 s)) ∧ (∀ s, 0 ≤ s → s < (J 12 0 13) → (J 35 0 s) < (J 12 0 1) ∧ (J 24 0 ((J 35 0 s))) = s) ∧ (∀ t, 0 ≤ t → t < (J 12 0 1) → (J 24 0 t) < (J 12 0 13) ∧ (J 23 0 t) < (J 12 0 1) ∧ (J 25 0 t) < (J 12 0 17) ∧ (J 26 0 t) < (J 12 0 28)) ∧ (∀ t, 0 ≤ t → t < (J 12 0 1) → (J 22 0 t) ≠ 2 → 0 ≤ (J 23 0 t) → lin J ((J 24 0 t)) ((J 24 0 ((J 23 0 t)))) = true ∧ ((J 35 0 ((J 24 0 t))) = t → (J 24 0 ((J 23 0 t))) ≠ (J 24 0 t))) ∧ (∀ t s, 0 ≤ t → t < (J 12 0 1) → 0 ≤ s → s < (J 12 0 13) → ((J 22 0 t) = 2 → (J 32 0 (20 * t + s)) = 0) ∧ ((J 22 0 t) ≠ 2 → ((J 32 0 (20 * t + s)) ≠ 0 ↔ lin J ((J 24 0 t)) s = true)))
section TIs
variable {J : ST}
theorem RB.aw (hB : RB J) : ∀ k, 0 ≤ k → k < 20 → -1 ≤ (J 34 0 k) ∧ (J 34 0 k) < k := fun k a b => ⟨(RB.around hB a b).1, RB.arw hB a b⟩
theorem RB.ww (hB : RB J) : ∀ k, 0 ≤ k → k < 20 → -1 ≤ (J 38 0 k) ∧ (J 38 0 k) < k := fun k a b => ⟨(RB.within hB a b).1, RB.wiw hB a b⟩
theorem TI.ar0 (h : TI J) {s : Int} (s0 : 0 ≤ s) (s1 : s < (J 12 0 13)) (hs : s ≠ 0) : 0 ≤ (J 34 0 s) := h.2.2.1 s (by omega) s1
/-- task 0 isn't in the space of another INIT -/
theorem TI.em0 (h : TI J) {t : Int} (t0 : 0 < t) (t1 : t < (J 12 0 1)) (hi : (J 35 0 ((J 24 0 t))) = t) : lin J 0 ((J 24 0 t)) = false := by
  obtain ⟨hB, h0, -, -, h4, -⟩ := h
  have := RB.tasks hB
  have := RB.space hB (j := t) (by omega) (by omega)
  rw [← Bool.not_eq_true]
  intro q
  have := chn_le (RB.aw hB) 0 (by omega) (by omega) q
  have e : (J 24 0 t) = 0 := by omega
  rw [e] at hi
  omega
theorem TI.sp0 (h : TI J) {t : Int} (t0 : 0 < t) (t1 : t < (J 12 0 1)) (hi : (J 35 0 ((J 24 0 t))) = t) : 0 ≤ (J 34 0 ((J 24 0 t))) := by
  have hB := h.1
  have := RB.tasks hB
  have := RB.space hB (j := t) (by omega) (by omega)
  refine h.ar0 (by omega) (h.2.2.2.2.1 t (by omega) t1).1 ?_
  intro q
  have := h.em0 t0 t1 hi
  rw [q] at this
  rw [lin, chn_r] at this
  exact absurd this (by decide)
theorem TI.fg (h : TI J) {c : Int → Bool} (hc : c 0 = false) : TI (fgA J c) := by
  obtain ⟨hB, h0, h2, h3, h4, h5, h6⟩ := h
  have el : lin (fgA J c) = lin J := lin_c (fun k => by simp [fgA])
  have e24 : ∀ j, fgA J c 24 0 j = J 24 0 j := fun j => by simp [fgA]
  have e35 : ∀ j, fgA J c 35 0 j = J 35 0 j := fun j => by simp [fgA]
  have e34 : ∀ j, fgA J c 34 0 j = J 34 0 j := fun j => by simp [fgA]
  have e25 : ∀ j, fgA J c 25 0 j = J 25 0 j := fun j => by simp [fgA]
  have e26 : ∀ j, fgA J c 26 0 j = J 26 0 j := fun j => by simp [fgA]
  have e12 : ∀ j, fgA J c 12 0 j = J 12 0 j := fun j => by simp [fgA]
  have e22 : ∀ j, fgA J c 22 0 j = if c j = true then 2 else J 22 0 j := fun j => by simp [fgA]
  have e23 : ∀ j, fgA J c 23 0 j = if c j = true then -1 else J 23 0 j := fun j => by simp [fgA]
  have e32 : ∀ j, fgA J c 32 0 j = if c (j / 20) = true then 0 else J 32 0 j := fun j => by simp [fgA]
  refine ⟨hB.fg c, ?_, ?_, ?_, ?_, ?_, ?_⟩
  · rw [e22, e23, e24, e35, e34, hc]; exact h0
  · intro s; rw [e12, e34]; exact h2 s
  · intro s; rw [e12, e12, e35, e24]; exact h3 s
  · intro t t0 t1
    rw [e12] at t1
    rw [e24, e23, e25, e26, e12, e12, e12, e12]
    have hh := h4 t t0 t1
    have := RB.tasks hB
    refine ⟨hh.1, ?_, hh.2.2⟩
    split <;> omega
  · intro t t0 t1 s0 p0
    rw [e12] at t1
    rw [e22] at s0
    by_cases ct : c t = true
    · rw [if_pos ct] at s0; exact absurd rfl s0
    · rw [if_neg ct] at s0
      rw [e23, if_neg ct] at p0 ⊢
      rw [el, e24, e24, e35]
      exact h5 t t0 t1 s0 p0
  · intro t s t0 t1 s0 s1
    rw [e12] at t1 s1
    have := RB.spaces hB
    rw [el, e24, e22, e32, show (20 * t + s) / 20 = t by omega]
    by_cases ct : c t = true
    · rw [if_pos ct, if_pos ct]; exact ⟨fun _ => rfl, fun q => absurd rfl q⟩
    · rw [if_neg ct, if_neg ct]
      exact h6 t s t0 t1 s0 s1
theorem TI.hei (h : TI J) {t : Int} (t0 : 0 < t) (t1 : t < (J 12 0 1)) : 0 ≤ heI J t ∧ heI J t < (J 12 0 1) := by
  have hB := h.1
  have hs := h.2.2.2.2.1 t (by omega) t1
  have := RB.tasks hB
  have := RB.space hB (j := t) (by omega) (by omega)
  unfold heI
  split
  · rename_i q
    have a0 := h.sp0 t0 t1 q
    have := RB.arw hB (j := ((J 24 0 t))) (by omega) (by omega)
    have := RB.spaces hB
    have := RB.init hB (j := ((J 34 0 ((J 24 0 t))))) (by omega) (by omega)
    have := h.2.2.2.1 ((J 34 0 ((J 24 0 t)))) a0 (by omega)
    omega
  · have := RB.spaces hB
    have := RB.init hB (j := ((J 24 0 t))) (by omega) (by omega)
    have := h.2.2.2.1 ((J 24 0 t)) (by omega) hs.1
    omega
theorem TI.en (h : TI J) {t : Int} (t0 : 0 < t) (t1 : t < (J 12 0 1)) (ht : (J 22 0 t) ≠ 2) : TI (enI J t) := by
  have hh := h.hei t0 t1
  have hsp := fun q => h.sp0 t0 t1 q
  obtain ⟨hB, h0, h2, h3, h4, h5, h6⟩ := h
  have tk := RB.tasks hB
  have el : lin (enI J t) = lin J := lin_c (fun k => by simp [enI, enN])
  have e24 : ∀ j, enI J t 24 0 j = J 24 0 j := fun j => by simp [enI, enN]
  have e35 : ∀ j, enI J t 35 0 j = J 35 0 j := fun j => by simp [enI, enN]
  have e34 : ∀ j, enI J t 34 0 j = J 34 0 j := fun j => by simp [enI, enN]
  have e25 : ∀ j, enI J t 25 0 j = J 25 0 j := fun j => by simp [enI, enN]
  have e26 : ∀ j, enI J t 26 0 j = J 26 0 j := fun j => by simp [enI, enN]
  have e12 : ∀ j, enI J t 12 0 j = J 12 0 j := fun j => by simp [enI, enN]
  have e32 : ∀ j, enI J t 32 0 j = J 32 0 j := fun j => by simp [enI, enN]
  have e22 : ∀ j, enI J t 22 0 j = if j = t then 1 else J 22 0 j := fun j => by simp [enI, enN]
  have e23 : ∀ j, enI J t 23 0 j = if 0 ≤ j ∧ j < J 12 0 1 ∧ J 22 0 j ≠ 2 ∧ J 23 0 j = t then heI J t else J 23 0 j := fun j => by simp [enI, enN]
  refine ⟨hB.en (by omega), ?_, ?_, ?_, ?_, ?_, ?_⟩
  · rw [e22, e23, e24, e35, e34, if_neg (by omega), if_neg (by omega)]; exact h0
  · intro s; rw [e12, e34]; exact h2 s
  · intro s; rw [e12, e12, e35, e24]; exact h3 s
  · intro x x0 x1
    rw [e12] at x1
    rw [e24, e23, e25, e26, e12, e12, e12, e12]
    have := h4 x x0 x1
    refine ⟨this.1, ?_, this.2.2⟩
    split <;> omega
  · intro x x0 x1 s0 p0
    rw [e12] at x1
    have s0 : (J 22 0 x) ≠ 2 := by
      rw [e22] at s0
      intro q
      by_cases hx : x = t
      · rw [hx] at q; exact ht q
      · rw [if_neg hx] at s0; exact s0 q
    rw [e23] at p0 ⊢
    rw [el, e24, e24, e35]
    by_cases hp : (J 23 0 x) = t
    · rw [if_pos ⟨x0, x1, s0, hp⟩] at p0 ⊢
      have g := h5 x x0 x1 s0 (by omega)
      rw [hp] at g
      have b1 := RB.space hB (j := t) (by omega) (by omega)
      have b2 := RB.space hB (j := x) (by omega) (by omega)
      have b3 := h4 t (by omega) t1
      unfold heI
      split
      · rename_i hi
        have a0 := hsp hi
        have a1 := RB.arw hB (j := (J 24 0 t)) (by omega) (by omega)
        have := h3 ((J 34 0 ((J 24 0 t)))) a0 (by omega)
        rw [this.2]
        refine ⟨chn_o (RB.aw hB) (by omega) (by omega) g.1 (by omega), fun _ q => ?_⟩
        have := chn_le (RB.aw hB) _ (by omega) (by omega) g.1
        omega
      · rename_i hi
        have := h3 ((J 24 0 t)) (by omega) b3.1
        rw [this.2]
        exact g
    · rw [if_neg (fun q => hp q.2.2.2)] at p0 ⊢
      exact h5 x x0 x1 s0 p0
  · intro x s x0 x1 s0 s1
    rw [e12] at x1 s1
    rw [el, e24, e22, e32]
    have := h6 x s x0 x1 s0 s1
    by_cases hx : x = t
    · subst hx
      rw [if_pos rfl]
      exact ⟨fun q => absurd q (by omega), fun _ => this.2 ht⟩
    · rw [if_neg hx]; exact this
theorem TI.ecl (h : TI J) {t : Int} (t0 : 0 < t) (t1 : t < (J 12 0 1)) (hi : (J 35 0 ((J 24 0 t))) = t) : emCl J t := by
  have hsp := h.sp0 t0 t1 hi
  obtain ⟨hB, h0, h2, h3, h4, h5, h6⟩ := h
  have tk := RB.tasks hB
  have b1 := RB.space hB (j := t) (by omega) (by omega)
  have hw := RB.aw hB
  refine ⟨fun j j0 j1 js hp => ?_, fun j hj hij => ?_⟩
  · obtain ⟨q1, q2⟩ := emD_i.mp hp
    have g := h5 j j0 j1 js q1.1
    have b2 := RB.space hB (j := j) (by omega) (by omega)
    have b3 := RB.space hB (j := (J 23 0 j)) (by omega) (by omega)
    have tr : lin J ((J 24 0 j)) ((J 24 0 t)) = true := chn_t hw q2 _ (by omega) (by omega) g.1
    refine emD_i.mpr ⟨⟨j0, j1, ?_, js⟩, tr⟩
    intro q
    subst q
    have l1 := chn_le hw _ (by omega) (by omega) g.1
    have l2 := chn_le hw _ (by omega) (by omega) q2
    exact g.2 hi (by omega)
  · obtain ⟨q1, q2⟩ := emD_i.mp hj
    have b2 := RB.space hB (j := j) (by omega) (by omega)
    by_cases hs : (J 24 0 j) = 0
    · rw [hs] at q2 hij
      have := chn_le hw _ (by omega) (by omega) q2
      have e : (J 24 0 t) = 0 := by omega
      rw [e] at hi
      omega
    · exact h2 _ (by omega) (h4 j q1.1 q1.2.1).1
theorem TI.pg (h : TI J) {J' : ST} (hB : RB J') (hk : ∀ k i j, k ≠ 27 → k ≠ 43 → (k ≠ 12 ∨ j ≠ 27) → J' k i j = J k i j) : TI J' := by
  obtain ⟨-, h0, h2, h3, h4, h5, h6⟩ := h
  have el : lin J' = lin J := lin_c (fun k => hk _ _ _ (by omega) (by omega) (by omega))
  have e1 : ∀ j, j ≠ 27 → J' 12 0 j = J 12 0 j := fun j hj => hk _ _ _ (by omega) (by omega) (by omega)
  have e2 : ∀ k, k ≠ 12 → k ≠ 27 → k ≠ 43 → ∀ j, J' k 0 j = J k 0 j := fun k a b c j => hk _ _ _ (by omega) (by omega) (by omega)
  refine ⟨hB, ?_, ?_, ?_, ?_, ?_, ?_⟩
  all_goals simp (disch := omega) only [el, e1, e2]
  all_goals assumption
theorem TI.em (h : TI J) {t : Int} (t0 : 0 < t) (t1 : t < (J 12 0 1)) (hi : (J 35 0 ((J 24 0 t))) = t) : TI (emI J t) := by
  have hB := h.1
  have e0 := h.em0 t0 t1 hi
  have hP : RB (emP J t) := by
    obtain ⟨g1, g2, g3, g4, g5, g6⟩ := hB
    refine ⟨fun r hr a a0 a1 => ?_, fun g g0 g1 => ?_, ?_, ?_, ?_, ?_⟩
    · have := g1 r hr a a0 a1
      have e3 : ∀ r ∈ rbt, r.1 = 27 → r.2.1 = 0 ∧ r.2.2.1 = 1000000 := by decide
      unfold emP
      split
      · rename_i hh; have := e3 r hr hh.1; omega
      · exact this
    · have := g2 g g0 (by assumption)
      simpa [emP] using this
    all_goals simpa [emP]
  refine TI.fg (TI.pg h hP (fun k i j a b c => by unfold emP; rw [if_neg (fun q => a q.1)])) ?_
  rw [← Bool.not_eq_true, emD_i, h.2.1.2.2.1, e0]
  exact fun q => absurd q.2 (by decide)
theorem TI.lz (h : TI J) : TI (lzI J) := by
  refine TI.fg h ?_
  have := h.2.1.1
  unfold lzC
  exact decide_eq_false (by omega)
theorem TI.lv (h : TI J) {t : Int} (t0 : 0 < t) (t1 : t < (J 12 0 1)) (ht : (J 22 0 t) ≠ 2) : TI (lvI J t) := by
  have h1 := h.en t0 t1 ht
  unfold lvI
  split
  · rename_i hi
    refine (TI.em h1 t0 ?_ ?_).lz
    · simp [enI, enN]; exact t1
    · simp [enI, enN]; exact hi
  · exact h1.lz
theorem TI.leave (h : TI J) {t : Int} (t0 : 0 < t) (t1 : t < (J 12 0 1)) (ht : (J 22 0 t) ≠ 2) (hi : (J 35 0 ((J 24 0 t))) = t) : emCl (enI J t) t := by
  refine TI.ecl (h.en t0 t1 ht) t0 ?_ ?_
  · simp [enI, enN]; exact t1
  · simp [enI, enN]; exact hi
end TIs
