/-! fork: the chains of both sides -/
theorem ke {a b : Int} (a0 : -2147483648 ≤ a) (a1 : a < 2147483648) (b0 : -2147483648 ≤ b) (b1 : b < 2147483648) (q : xk a = xk b) : a = b := (zk_eq a0 a1 b0 b1).mp q
theorem kltI {a b : Int} (a0 : -2147483648 ≤ a) (a1 : a < 2147483648) (b0 : -2147483648 ≤ b) (b1 : b < 2147483648) : (xk a < xk b) ↔ a < b := by rw [zk_lt a0 a1 b0 b1]
theorem k0 {a : Int} (a0 : -2147483648 ≤ a) (a1 : a < 2147483648) : (xk a = 0) ↔ a = 0 := by
  rw [← xk_zero, zk_eq a0 a1 (by omega) (by omega)]
def chR (X : ST) (w nx : Int → Int) (t s : Int) : ST := fun k i j => if k = 36 ∧ i = 0 ∧ 0 ≤ j ∧ chn w s j = true then nx j else if k = 32 ∧ i = 0 ∧ 0 ≤ j - 20 * t ∧ j - 20 * t < 20 ∧ chn w s (j - 20 * t) = true then nx (j - 20 * t) else X k i j
def tkC (X : ST) (s m t : Int) : ST := if X 7 s 4 < 0 then up (up (up X 15 s m t) 7 s 5 m) 7 s 4 t else up (up X 15 s m t) 7 s 5 m
section FKs
variable {e : EN} {C I J X : ST} {z : Nat × Nat × Nat × Nat} {w nx : Int → Int} {p t sp cp : Int}
theorem chn_m {o : Int} (hw : ∀ k, 0 ≤ k → k < 20 → -1 ≤ w k ∧ w k < k) (o0 : 0 ≤ o) : chn w (-1) o = false := by
  rw [chn_u hw (by decide) (by decide), if_neg (by omega), if_pos (by decide)]
theorem chn_s {s o : Int} (hw : ∀ k, 0 ≤ k → k < 20 → -1 ≤ w k ∧ w k < k) (s0 : 0 ≤ s) (s1 : s < 20) : chn w s o = true ↔ (s = o ∨ chn w (w s) o = true) := by
  rw [chn_u hw (by omega) s1, if_neg (c := s < 0) (by omega)]
  by_cases q : s = o
  · rw [if_pos q]; exact ⟨fun _ => Or.inl q, fun _ => rfl⟩
  · rw [if_neg q]; exact ⟨fun h => Or.inr h, fun h => h.resolve_left q⟩
theorem chR_n (hw : ∀ k, 0 ≤ k → k < 20 → -1 ≤ w k ∧ w k < k) : chR X w nx t (-1) = X := by
  funext k i j
  unfold chR
  rw [if_neg (fun q => by have := chn_m hw q.2.2.1; rw [this] at q; exact absurd q.2.2.2 (by decide)), if_neg (fun q => by have := chn_m hw q.2.2.1; rw [this] at q; exact absurd q.2.2.2.2 (by decide))]
theorem chR_u {s : Int} (hw : ∀ k, 0 ≤ k → k < 20 → -1 ≤ w k ∧ w k < k) (s0 : 0 ≤ s) (s1 : s < 20) : chR (up (up X 36 0 s (nx s)) 32 0 (20 * t + s) (nx s)) w nx t (w s) = chR X w nx t s := by
  funext k i j
  simp only [chR, chn_s hw s0 s1, up]
  by_cases k6 : k = 36
  · subst k6
    by_cases q : i = 0 ∧ j = s
    · obtain ⟨rfl, rfl⟩ := q
      simp [s0]
    · simp
      grind
  · by_cases k2 : k = 32
    · subst k2
      by_cases q : i = 0 ∧ j = 20 * t + s
      · obtain ⟨rfl, rfl⟩ := q
        have : 20 * t + s - 20 * t = s := by omega
        simp [s0, s1, this]
      · have : ¬ (i = 0 ∧ s = j - 20 * t) := by omega
        simp
        grind
    · simp [k6, k2]
theorem RB.cR {s : Int} (hB : RB X) (hn : ∀ j, 0 ≤ j → chn w s j = true → 0 ≤ nx j ∧ nx j ≤ 40) : RB (chR X w nx t s) := by
  obtain ⟨h1, h2, h3, h4, h5, h6⟩ := hB
  have fr : ∀ k i j, k ≠ 36 → k ≠ 32 → chR X w nx t s k i j = X k i j := fun k i j a b => by
    unfold chR
    rw [if_neg (fun q => a q.1), if_neg (fun q => b q.1)]
  refine ⟨fun r hr a a0 a1 => ?_, fun g g0 g1 => ?_, ?_, ?_, ?_, ?_⟩
  · have q36 : ∀ r ∈ rbt, r.1 = 36 → r.2.1 = 0 ∧ r.2.2.1 = 40 := by decide
    have q32 : ∀ r ∈ rbt, r.1 = 32 → r.2.1 = 0 ∧ r.2.2.1 = 40 := by decide
    have hh := h1 r hr a a0 a1
    unfold chR
    by_cases k6 : r.1 = 36 ∧ (0 : Int) = 0 ∧ 0 ≤ a ∧ chn w s a = true
    · rw [if_pos k6]
      have := q36 r hr k6.1
      have := hn a k6.2.2.1 k6.2.2.2
      omega
    rw [if_neg k6]
    by_cases k2 : r.1 = 32 ∧ (0 : Int) = 0 ∧ 0 ≤ a - 20 * t ∧ a - 20 * t < 20 ∧ chn w s (a - 20 * t) = true
    · rw [if_pos k2]
      have := q32 r hr k2.1
      have := hn _ k2.2.2.1 k2.2.2.2.2
      omega
    rw [if_neg k2]
    exact hh
  · rw [fr _ _ _ (by decide) (by decide), fr _ _ _ (by decide) (by decide)]; exact h2 g g0 g1
  all_goals
    rw [fr _ _ _ (by decide) (by decide)]
    assumption
theorem chC_n (hw : ∀ k, 0 ≤ k → k < 20 → -1 ≤ w k ∧ w k < k) : chC X w nx t (-1) = X := by
  funext k i j
  unfold chC
  rw [if_neg (fun q => by have := chn_m hw q.2.1; rw [this] at q; exact absurd q.2.2.1 (by decide)), if_neg (fun q => by have := chn_m hw q.2.2.1; rw [this] at q; exact absurd q.2.2.2 (by decide)), if_neg (fun q => by have := chn_m hw q.2.2.1; rw [this] at q; exact absurd q.2.2.2.1 (by decide))]
theorem chn_no {s : Int} (hw : ∀ k, 0 ≤ k → k < 20 → -1 ≤ w k ∧ w k < k) (s0 : 0 ≤ s) (s1 : s < 20) : chn w (w s) s = false := by
  have b := hw s s0 s1
  cases q : chn w (w s) s with
  | false => rfl
  | true => have := chn_le hw (w s) (by omega) (by omega) q; omega
theorem tk_15 {s m i j : Int} : tkC X s m t 15 i j = if i = s ∧ j = m then t else X 15 i j := by
  unfold tkC
  split <;> simp [up]
theorem tk_75 {s m i : Int} : tkC X s m t 7 i 5 = if i = s then m else X 7 i 5 := by
  unfold tkC
  split <;> simp [up]
theorem tk_74 {s m i : Int} : tkC X s m t 7 i 4 = if i = s ∧ X 7 s 4 < 0 then t else X 7 i 4 := by
  unfold tkC
  by_cases q : X 7 s 4 < 0
  · rw [if_pos q]
    simp [up, q]
  · rw [if_neg q]
    simp [up, q]
theorem tk_f {s m i j : Int} {k : Nat} (h : k ≠ 15) (h' : k ≠ 7 ∨ (j ≠ 4 ∧ j ≠ 5)) : tkC X s m t k i j = X k i j := by
  unfold tkC
  have : ¬ (k = 7 ∧ i = s ∧ j = 4) := by omega
  have : ¬ (k = 7 ∧ i = s ∧ j = 5) := by omega
  split <;> simp [up, *]
theorem chC_u {s : Int} (hw : ∀ k, 0 ≤ k → k < 20 → -1 ≤ w k ∧ w k < k) (s0 : 0 ≤ s) (s1 : s < 20) : chC (tkC X s (nx s) t) w nx t (w s) = chC X w nx t s := by
  funext k i j
  have no := chn_no hw s0 s1
  by_cases k15 : k = 15
  · subst k15
    simp only [chC, chn_s hw s0 s1, tk_15]
    by_cases q : i = s
    · subst q
      simp [no, s0]
    · have q' : ¬ s = i := fun y => q y.symm
      simp [q, q']
  by_cases k7 : k = 7
  · subst k7
    by_cases j5 : j = 5
    · subst j5
      simp only [chC, chn_s hw s0 s1, tk_75]
      by_cases q : i = s
      · subst q
        simp [no, s0]
      · have q' : ¬ s = i := fun y => q y.symm
        simp [q, q']
    by_cases j4 : j = 4
    · subst j4
      simp only [chC, chn_s hw s0 s1, tk_74]
      by_cases q : i = s
      · subst q
        simp [no, s0]
      · have q' : ¬ s = i := fun y => q y.symm
        simp [q, q']
    · simp only [chC, j4, j5, false_and, and_false, if_false]
      rw [tk_f (by decide) (Or.inr ⟨j4, j5⟩)]
      simp
  · simp only [chC, k7, k15, false_and, if_false]
    exact tk_f k15 (Or.inl k7)
theorem fork23_ev (hA : WA e z) (hR : WR e) (hB : RB I) : ∀ (n : Nat) (g : Int), g < n → -1 ≤ g → g < 20 → (ttB I n g = false → Ev (fun F => J12_fork_23 F (rf e 12 0) (xk p) (xk sp) (xk cp) (xk g) (HS e C I z)) (rI (-3) (HS e C I z))) ∧ (ttB I n g = true → ∀ r, Ev (fun F => J12_fork_23 F (rf e 12 0) (xk p) (xk sp) (xk cp) (xk (-1)) (HS e C I z)) r → Ev (fun F => J12_fork_23 F (rf e 12 0) (xk p) (xk sp) (xk cp) (xk g) (HS e C I z)) r) := by
  intro n
  induction n with
  | zero =>
    intro g h0 h1 h2
    rw [ttB]
    have : g = -1 := by omega
    subst this
    exact ⟨fun q => absurd q (by decide), fun _ r h => h⟩
  | succ n ih =>
    intro g h0 h1 h2
    rw [ttB]
    by_cases gn : g < 0
    · rw [if_pos gn]
      have : g = -1 := by omega
      subst this
      exact ⟨fun q => absurd q (by decide), fun _ r h => h⟩
    rw [if_neg gn]
    have wb := RB.ww hB g (by omega) h2
    have := RB.tasks hB
    have := RB.most hB (j := g) (by omega) (by omega)
    have lb := lvF_b hB (g := g)
    have ih := ih (I 38 0 g) (by omega) (by omega) (by omega)
    have st : ∀ r, (lvF I g < (I 39 0 g) → Ev (fun F => J12_fork_23 F (rf e 12 0) (xk p) (xk sp) (xk cp) (xk (I 38 0 g)) (HS e C I z)) r) → (¬ lvF I g < (I 39 0 g) → r = rI (-3) (HS e C I z)) → Ev (fun F => J12_fork_23 F (rf e 12 0) (xk p) (xk sp) (xk cp) (xk g) (HS e C I z)) r := by
      intro r y1 y2
      refine Ev.step (fun F => E12_fork_23 F _ _ _ _ _ _) ?_
      refine Ev.ite (fun q => absurd (ke (by omega) (by omega) (by omega) (by omega) q) (by omega)) (fun _ => ?_)
      refine Ev.xg (d_12 hA hR) (Ev.kI (liveIn_ev hA hR hB (by omega) (by omega)) ?_)
      refine Ev.bs (g_12_19 hA hR) (Ev.bs (a_39 hA hR (by omega) (by omega)) ?_)
      refine Ev.ite (fun q => ?_) (fun q => ?_)
      · have q := (kltI (by omega) (by omega) (by omega) (by omega)).mp q
        exact Ev.bs (g_12_18 hA hR) (Ev.bs (a_38 hA hR (by omega) (by omega)) (y1 q))
      · have q : ¬ lvF I g < (I 39 0 g) := fun y => q ((kltI (by omega) (by omega) (by omega) (by omega)).mpr y)
        exact Ev.ret (y2 q).symm
    by_cases y : lvF I g < (I 39 0 g)
    · rw [if_pos y]
      exact ⟨fun q => st _ (fun _ => ih.1 q) (fun q => absurd y q), fun q r h => st _ (fun _ => ih.2 q r h) (fun q => absurd y q)⟩
    · rw [if_neg y]
      exact ⟨fun q => st _ (fun q => absurd q y) (fun _ => rfl), fun q => absurd q (by decide)⟩
theorem fork138_ev (hA : WA e z) (hR : WR e) (hB : RB I) {D : ST} {l : Int} (hh : ∀ s, 0 ≤ s → s < (I 12 0 13) → ∀ n, 1 ≤ n → n ≤ 40 → HoR I s n (D 15 s n)) : ∀ (n : Nat) (s : Int), s < n → -1 ≤ s → s < (I 12 0 13) → (rmB I D n s = false → Ev (fun F => J12_fork_138 F (rf e 12 0) (xk p) (xk sp) (xk cp) (xk l) (xk s) (HS e C I z)) (rI (-2) (HS e C I z))) ∧ (rmB I D n s = true → ∀ r, Ev (fun F => J12_fork_138 F (rf e 12 0) (xk p) (xk sp) (xk cp) (xk l) (xk (-1)) (HS e C I z)) r → Ev (fun F => J12_fork_138 F (rf e 12 0) (xk p) (xk sp) (xk cp) (xk l) (xk s) (HS e C I z)) r) := by
  intro n
  induction n with
  | zero =>
    intro g h0 h1 h2
    rw [rmB]
    have : g = -1 := by omega
    subst this
    exact ⟨fun q => absurd q (by decide), fun _ r h => h⟩
  | succ n ih =>
    intro g h0 h1 h2
    rw [rmB]
    by_cases gn : g < 0
    · rw [if_pos gn]
      have : g = -1 := by omega
      subst this
      exact ⟨fun q => absurd q (by decide), fun _ r h => h⟩
    rw [if_neg gn]
    have := RB.spaces hB
    have wb := RB.aw hB g (by omega) (by omega)
    have := RB.given hB (j := g) (by omega) (by omega)
    have nb := nxF_b (h := fun x => (D 15 g x)) 40 (I 36 0 g) (by omega) (by omega)
    have ih := ih (I 34 0 g) (by omega) (by omega) (by omega)
    have st : ∀ r, (¬ nxF (fun x => (D 15 g x)) 40 (I 36 0 g) = 0 → Ev (fun F => J12_fork_138 F (rf e 12 0) (xk p) (xk sp) (xk cp) (xk l) (xk (I 34 0 g)) (HS e C I z)) r) → (nxF (fun x => (D 15 g x)) 40 (I 36 0 g) = 0 → r = rI (-2) (HS e C I z)) → Ev (fun F => J12_fork_138 F (rf e 12 0) (xk p) (xk sp) (xk cp) (xk l) (xk g) (HS e C I z)) r := by
      intro r y1 y2
      refine Ev.step (fun F => E12_fork_138 F _ _ _ _ _ _ _) ?_
      refine Ev.ite (fun q => absurd (ke (by omega) (by omega) (by omega) (by omega) q) (by omega)) (fun _ => ?_)
      refine Ev.xg (d_12 hA hR) (Ev.kI (nextNumber_ev (h := fun x => (D 15 g x)) hA hR hB (by omega) (by omega) (fun n a b => hh g (by omega) h2 n a b)) ?_)
      refine Ev.ite (fun q => ?_) (fun q => ?_)
      · exact Ev.ret (y2 ((k0 (by omega) (by omega)).mp q)).symm
      · exact Ev.bs (g_12_14 hA hR) (Ev.bs (a_34 hA hR (by omega) (by omega)) (y1 (fun y => q ((k0 (by omega) (by omega)).mpr y))))
    by_cases y : nxF (fun x => (D 15 g x)) 40 (I 36 0 g) = 0
    · rw [if_pos y]
      exact ⟨fun q => st _ (fun q => absurd y q) (fun _ => rfl), fun q => absurd q (by decide)⟩
    · rw [if_neg y]
      exact ⟨fun q => st _ (fun _ => ih.1 q) (fun q => absurd q y), fun q r h => st _ (fun _ => ih.2 q r h) (fun q => absurd q y)⟩
theorem fork242_ev (hA : WA e z) (hR : WR e) {hd : Int → Int → Int} {gv : Int → Int} {h : Int} (hw : ∀ k, 0 ≤ k → k < 20 → -1 ≤ w k ∧ w k < k) (t0 : 0 ≤ t) (t1 : t < 150) (hnx : ∀ s, nx s = nxF (hd s) 40 (gv s)) : ∀ s, -1 ≤ s → ∀ (X : ST), s < 20 → RB X → (∀ j, (X 34 0 j) = w j) → (∀ j, 0 ≤ j → j ≤ s → (X 36 0 j) = gv j) → (X 22 0 t) = 2 → (∀ j, 0 ≤ j → chn w s j = true → ∀ n, 1 ≤ n → n ≤ 40 → HoR X j n (hd j n)) → ∀ r, Ev (fun F => J12_fork_242 F (rf e 12 0) (xk p) (xk cp) (xk h) (xk t) (xk (-1)) (HS e C (chR X w nx t s) z)) r → Ev (fun F => J12_fork_242 F (rf e 12 0) (xk p) (xk cp) (xk h) (xk t) (xk s) (HS e C X z)) r := by
  intro s hs
  refine lpD (P := fun s => ∀ (X : ST), s < 20 → RB X → (∀ j, (X 34 0 j) = w j) → (∀ j, 0 ≤ j → j ≤ s → (X 36 0 j) = gv j) → (X 22 0 t) = 2 → (∀ j, 0 ≤ j → chn w s j = true → ∀ n, 1 ≤ n → n ≤ 40 → HoR X j n (hd j n)) → ∀ r, Ev (fun F => J12_fork_242 F (rf e 12 0) (xk p) (xk cp) (xk h) (xk t) (xk (-1)) (HS e C (chR X w nx t s) z)) r → Ev (fun F => J12_fork_242 F (rf e 12 0) (xk p) (xk cp) (xk h) (xk t) (xk s) (HS e C X z)) r) (fun s s0 ih X s1 hB ha hg ht ho r hr => ?_) s hs
  by_cases sn : s < 0
  · have : s = -1 := by omega
    subst this
    rw [chR_n hw] at hr
    exact hr
  have wb := hw s (by omega) s1
  have := RB.given hB (j := s) (by omega) (by omega)
  have gs := hg s (by omega) (by omega)
  have nb := nxF_b (h := hd s) 40 (X 36 0 s) (by omega) (by omega)
  refine Ev.step (fun F => E12_fork_242 F _ _ _ _ _ _ _) ?_
  refine Ev.ite (fun q => absurd (ke (by omega) (by omega) (by omega) (by omega) q) (by omega)) (fun _ => ?_)
  refine Ev.xg (d_12 hA hR) (Ev.kI (nextNumber_ev (h := hd s) hA hR hB (by omega) (by omega) (ho s (by omega) chn_r)) ?_)
  rw [gs] at nb ⊢
  rw [← hnx s] at nb ⊢
  refine Ev.bs (g_12_16 hA hR) (Ev.bs (s_36 hA hR (by omega) s1) ?_)
  rw [xk_mul, xk_add]
  refine Ev.bs (g_12_12 hA hR) (Ev.bs (s_32 hA hR (by omega) (by omega)) ?_)
  refine Ev.bs (g_12_14 hA hR) (Ev.bs (a_34 hA hR (by omega) s1) ?_)
  rw [up_k (by decide), up_k (by decide), ha s]
  refine ih (w s) wb.1 wb.2 _ (by omega) (RB.u_numbers (RB.u_given hB nb.1 nb.2) nb.1 nb.2) (fun j => by rw [up_k (by decide), up_k (by decide)]; exact ha j) (fun j j0 j1 => by rw [up_k (by decide), up_j (by omega)]; exact hg j j0 (by omega)) (by rw [up_k (by decide), up_k (by decide)]; exact ht) (fun j j0 hj n n0 n1 => ?_) r (by rw [chR_u hw (by omega) s1]; exact hr)
  have j19 := chn_le hw (w s) (by omega) (by omega) hj
  have := ho j j0 ((chn_s hw (by omega) s1).mpr (Or.inr hj)) n n0 n1
  unfold HoR at this ⊢
  rw [up_k (by decide), up_k (by decide)]
  refine ⟨this.1, fun x x0 x1 => ?_⟩
  have y := this.2 x x0 x1
  rw [up_k (by decide), up_k (by decide)]
  by_cases hx : x = t
  · subst hx
    rw [ht] at y ⊢
    constructor
    · intro q; exact absurd rfl q.1
    · intro q; have := y.mpr q; exact absurd rfl this.1
  · rw [up_j (by omega), up_k (by decide)]
    exact y
theorem take_ev (hA : WA e z) {s m g : Int} {hd : Int → Int} (s0 : 0 ≤ s) (s1 : s < (e.2.1 7)) (t1 : t < (e.2.1 8)) (hg : (X 7 s 5) = g) (g0 : 0 ≤ g) (g1 : g ≤ 40) (hh : ∀ n, (X 15 s n) = hd n) (hm : m = nxF hd 40 g) (m0 : m ≠ 0) : Ev (fun F => J7_take F (rf e 7 s) (rf e 8 t) (HS e X I z)) (rV (HS e (tkC X s m t) I z)) := by
  have n15 := hA.2.2.2.1.2.2
  have nn := nextNumber_cl (I := I) hA s0 s1 hg g0 g1
  rw [show (fun n => (X 15 s n)) = hd from funext hh, ← hm] at nn
  have nb := nxF_b (h := hd) 40 g g0 g1
  rw [← hm] at nb
  refine Ev.step (fun F => E7_take F _ _ _) ?_
  refine Ev.xg (d_7 hA s0 s1) (Ev.kI nn ?_)
  refine Ev.ite (fun q => absurd ((k0 (by omega) (by omega)).mp q) m0) (fun _ => ?_)
  refine Ev.bs (g_7_3 hA s0 s1) (Ev.bs (s_15 hA s0 (by omega) nb.1 (by omega) t1) (Ev.bs (p_7_5 hA s0 s1) (Ev.bs (g_7_4 hA s0 s1) ?_)))
  have e4 : up (up X 15 s m t) 7 s 5 m 7 s 4 = X 7 s 4 := by rw [up_j (by decide), up_k (by decide)]
  rw [e4]
  refine Ev.ite (fun q => ?_) (fun q => ?_)
  · rw [rf_none] at q
    refine Ev.bs (p_7_4 hA s0 s1) (Ev.ret ?_)
    unfold tkC
    rw [if_pos q]
    rfl
  · rw [rf_none] at q
    refine Ev.ret ?_
    unfold tkC
    rw [if_neg q]
    rfl
theorem bear52_ev (hA : WA e z) {hd : Int → Int → Int} {gv : Int → Int} {l3 : Option Nat} (hw : ∀ k, 0 ≤ k → k < 20 → -1 ≤ w k ∧ w k < k) (t1 : t < (e.2.1 8)) (hnx : ∀ s, nx s = nxF (hd s) 40 (gv s)) (n7 : (e.2.1 7) ≤ 20) : ∀ s, -1 ≤ s → ∀ (X : ST), s < (e.2.1 7) → (∀ j, 0 ≤ j → j < (e.2.1 7) → (X 7 j 1) = w j) → (∀ j, 0 ≤ j → j ≤ s → ((X 7 j 5) = gv j ∧ 0 ≤ gv j ∧ gv j ≤ 40) ∧ ∀ m, (X 15 j m) = hd j m) → (∀ j, 0 ≤ j → chn w s j = true → nx j ≠ 0) → ∀ r, Ev (fun F => J9_bear_52 F l3 (rf e 8 t) none (HS e (chC X w nx t s) I z)) r → Ev (fun F => J9_bear_52 F l3 (rf e 8 t) (rf e 7 s) (HS e X I z)) r := by
  intro s hs
  refine lpD (P := fun s => ∀ (X : ST), s < (e.2.1 7) → (∀ j, 0 ≤ j → j < (e.2.1 7) → (X 7 j 1) = w j) → (∀ j, 0 ≤ j → j ≤ s → ((X 7 j 5) = gv j ∧ 0 ≤ gv j ∧ gv j ≤ 40) ∧ ∀ m, (X 15 j m) = hd j m) → (∀ j, 0 ≤ j → chn w s j = true → nx j ≠ 0) → ∀ r, Ev (fun F => J9_bear_52 F l3 (rf e 8 t) none (HS e (chC X w nx t s) I z)) r → Ev (fun F => J9_bear_52 F l3 (rf e 8 t) (rf e 7 s) (HS e X I z)) r) (fun s s0 ih X s1 ho hg hn r hr => ?_) s hs
  by_cases sn : s < 0
  · have : s = -1 := by omega
    subst this
    rw [chC_n hw] at hr
    rw [rf_n (k := 7) (i := -1) (by decide)]
    exact hr
  have wb := hw s (by omega) (by omega)
  have gs := hg s (by omega) (by omega)
  have tk := take_ev (I := I) hA (by omega) s1 t1 gs.1.1 gs.1.2.1 gs.1.2.2 gs.2 (hnx s) (hn s (by omega) chn_r)
  refine Ev.step (fun F => E9_bear_52 F _ _ _ _) ?_
  refine Ev.ite (fun q => absurd q (by rw [rf_none]; omega)) (fun _ => ?_)
  refine Ev.xg (d_7 hA (by omega) s1) (Ev.kV tk ?_)
  refine Ev.bs (g_7_1 hA (by omega) s1) ?_
  rw [tk_f (by decide) (Or.inr ⟨by decide, by decide⟩), ho s (by omega) s1]
  refine ih (w s) wb.1 wb.2 _ (by omega) (fun j j0 j1 => by rw [tk_f (by decide) (Or.inr ⟨by decide, by decide⟩)]; exact ho j j0 j1) (fun j j0 j1 => ?_) (fun j j0 hj => hn j j0 ((chn_s hw (by omega) (by omega)).mpr (Or.inr hj))) r (by rw [chC_u hw (by omega) (by omega)]; exact hr)
  have y := hg j j0 (by omega)
  rw [tk_75, if_neg (by omega)]
  refine ⟨y.1, fun m => ?_⟩
  rw [tk_15, if_neg (by omega)]
  exact y.2 m
theorem canCopy_ev (hA : WA e z) (hC : Cpl e C J) (hT : TI J) {o : Int} (o0 : 0 ≤ o) (o1 : o < (J 12 0 28)) (hM : MI J) : Ev (fun F => J5_canCopy F (rf e 5 0) (rf e 10 o) (HS e C I z)) (rI (bI ((J 12 0 28) < 10 ∧ sm (fun k => (J 50 0 k)) 80 + sm (mvT J o) 80 ≤ 80)) (HS e C I z)) := by
  have n8 := hC.1.1
  have n7 := hC.2.1.1
  have n1 := hC.2.2.1.1
  have n10 := hC.2.2.2.2.1.1
  have hB := hT.1
  have := RB.tasks hB
  have := RB.spaces hB
  have := RB.groups hB
  have := RB.views hB
  have n4 := hA.2.2.2.1
  have hCM := hC.2.2.2.2.1
  have tb := th_b hB
  have mb : ∀ k, 0 ≤ k → 0 ≤ sm (mvT J o) k ∧ sm (mvT J o) k ≤ k := fun k a => sm_b1 (fun k => by unfold mvT; split <;> omega) a
  refine Ev.step (fun F => E5_canCopy F _ _ _) ?_
  refine lpN (P := fun k => ∀ acc, 0 ≤ k → k ≤ 80 → acc = sm (mvT J o) k → Ev (fun F => J5_canCopy_4 F (rf e 5 0) (rf e 10 o) (xk acc) (xk k) (HS e C I z)) (rI (bI ((J 12 0 28) < 10 ∧ sm (fun k => (J 50 0 k)) 80 + sm (mvT J o) 80 ≤ 80)) (HS e C I z))) 80 (fun k ih acc k0 k1 ha => ?_) 0 0 (by omega) (by omega) rfl
  have mk := mb k k0
  refine Ev.step (fun F => E5_canCopy_4 F _ _ _ _ _) ?_
  refine Ev.ite (fun q => ?_) (fun q => ?_)
  · have k8 := (kltI (by omega) (by omega) (by omega) (by omega)).mp q
    have cm := hCM.2.2.1 k k0 k8
    have ih := ih k8
    refine Ev.bs (g_5_0 hA) (Ev.bs (b_18 hA k0 (by omega) k8) (Ev.bs (g_4_2 hA k0 (by omega)) ?_))
    rw [cm.2.2.1, xk_add, xk_add]
    have vb : (J 50 0 k) = 1 → 0 ≤ (J 51 0 k) ∧ (J 51 0 k) < (J 12 0 28) := fun y => ⟨(RB.viewOf hB k0 k8).1, (hM.1 k k0 k8 y).1⟩
    have eqv : (rf e 10 (if (J 50 0 k) = 1 then (J 51 0 k) else -1) = rf e 10 o) ↔ ((J 50 0 k) = 1 ∧ (J 51 0 k) = o) := by
      by_cases y : (J 50 0 k) = 1
      · have := vb y
        rw [if_pos y, rf_eq hA (by decide) (by omega) (by omega) (by omega) (by omega)]
        exact ⟨fun h => ⟨y, h⟩, fun h => h.2⟩
      · rw [if_neg y, rf_eq hA (by decide) (by omega) (by omega) (by omega) (by omega)]
        exact ⟨fun h => by omega, fun h => absurd h.1 y⟩
    refine Ev.ite (fun u => ?_) (fun u => ?_)
    · exact ih _ (by omega) (by omega) (by rw [ha, sm_s k0, mvT, if_pos (eqv.mp u)])
    · exact ih _ (by omega) (by omega) (by rw [ha, sm_s k0, mvT, if_neg (fun y => u (eqv.mpr y)), Int.add_zero])
  · have k8 : k = 80 := by
      have : ¬ k < 80 := fun y => q ((kltI (by omega) (by omega) (by omega) (by omega)).mpr y)
      omega
    subst k8
    refine Ev.bs (g_5_4 hA) ?_
    rw [n10]
    refine Ev.ite (fun u => ?_) (fun u => ?_)
    · have u := (kltI (by omega) (by omega) (by omega) (by omega)).mp u
      refine Ev.bs (g_5_3 hA) ?_
      rw [hCM.2.2.2.1, xk_add, rb0, rb1]
      refine Ev.ite (fun y => ?_) (fun y => ?_)
      · have y := (kltI (by omega) (by omega) (by omega) (by omega)).mp y
        exact Ev.ret (by rw [bI_f (by omega)]; rfl)
      · have y : ¬ 80 < sm (fun k => (J 50 0 k)) 80 + acc := fun w => y ((kltI (by omega) (by omega) (by omega) (by omega)).mpr w)
        exact Ev.ret (by rw [bI_t (by omega)]; rfl)
    · have u : ¬ (J 12 0 28) < 10 := fun w => u ((kltI (by omega) (by omega) (by omega) (by omega)).mpr w)
      rw [rb0]
      exact Ev.ret (by rw [bI_f (by omega)]; rfl)
end FKs
