/-! what holds between calls; pairs of calls -/
def KI (n : Int) (J : ST) : Prop := (0 ≤ (J 12 0 26) ∧ (J 12 0 26) ≤ 200 * n) ∧ (∀ t, 0 ≤ t → t < 150 → 0 ≤ (J 30 0 t) ∧ (J 30 0 t) ≤ 1000000 * (J 12 0 26)) ∧ (∀ g, 0 ≤ g → g < 20 → 0 ≤ (J 45 0 g) ∧ (J 45 0 g) ≤ 1000000 * (J 12 0 26) ∧ 0 ≤ (J 44 0 g) ∧ (J 44 0 g) ≤ (J 12 0 26))
def PI (n : Int) (J : ST) : Prop := (∀ k, 0 ≤ k → k < 80 → 0 ≤ (J 55 0 k) ∧ (J 55 0 k) ≤ (J 12 0 36)) ∧ (J 12 0 36) ≤ n
def TZ (J : ST) : Prop := (∀ t, (J 12 0 1) ≤ t → t < 150 → (J 27 0 t) = 0 ∧ (J 28 0 t) = 0 ∧ (J 29 0 t) = 0 ∧ (J 31 0 t) = 0 ∧ ∀ s, 0 ≤ s → s < 20 → (J 32 0 (20 * t + s)) = 0) ∧ ∀ t s, 0 ≤ t → t < 150 → (J 12 0 13) ≤ s → s < 20 → (J 32 0 (20 * t + s)) = 0
def Inv (n : Int) (J : ST) : Prop := TI J ∧ TG J ∧ GU J ∧ GI J ∧ GZ J ∧ TZ J ∧ KI n J ∧ MI J ∧ PI n J
section IN
variable {J J' : ST} {n : Int}
theorem KI.kb (h : KI n J) (hn : n ≤ 1000) : KB J := by
  obtain ⟨h1, h2, h3⟩ := h
  refine ⟨fun t a b => ?_, fun g a b => ?_, ?_⟩
  · have := h2 t a b; omega
  · have := h3 g a b; omega
  · omega
theorem PI.pb (h : PI n J) (hn : n ≤ 1000) : PB J := ⟨h.1, by have := h.2; omega⟩
theorem Inv.ti (h : Inv n J) : TI J := h.1
theorem Inv.rb (h : Inv n J) : RB J := h.1.1
theorem Inv.tg (h : Inv n J) : TG J := h.2.1
theorem Inv.gu (h : Inv n J) : GU J := h.2.2.1
theorem Inv.gi (h : Inv n J) : GI J := h.2.2.2.1
theorem Inv.gz (h : Inv n J) : GZ J := h.2.2.2.2.1
theorem Inv.tz (h : Inv n J) : TZ J := h.2.2.2.2.2.1
theorem Inv.ki (h : Inv n J) : KI n J := h.2.2.2.2.2.2.1
theorem Inv.mi (h : Inv n J) : MI J := h.2.2.2.2.2.2.2.1
theorem Inv.pi (h : Inv n J) : PI n J := h.2.2.2.2.2.2.2.2
theorem KI.c (h : KI n J) {m : Int} (hm : n ≤ m) (h1 : J' 12 0 26 = J 12 0 26) (h2 : ∀ j, J' 30 0 j = J 30 0 j) (h3 : ∀ j, J' 45 0 j = J 45 0 j) (h4 : ∀ j, J' 44 0 j = J 44 0 j) : KI m J' := by
  unfold KI
  simp only [h1, h2, h3, h4]
  exact ⟨⟨h.1.1, by have := h.1.2; omega⟩, h.2⟩
theorem PI.c (h : PI n J) {m : Int} (hm : n ≤ m) (h1 : J' 12 0 36 = J 12 0 36) (h2 : ∀ j, J' 55 0 j = J 55 0 j) : PI m J' := by
  unfold PI
  simp only [h1, h2]
  exact ⟨h.1, by have := h.2; omega⟩
theorem MI.c (h : MI J) (h1 : J' 12 0 28 = J 12 0 28) (h2 : ∀ k j, 49 ≤ k → k ≤ 53 → J' k 0 j = J k 0 j) : MI J' := by
  unfold MI
  simp (disch := omega) only [h1, h2]
  exact h
theorem GI.c (h : GI J) (h1 : J' 12 0 17 = J 12 0 17) (h2 : ∀ j, J' 38 0 j = J 38 0 j) (h3 : ∀ j, J' 41 0 j = J 41 0 j) : GI J' := by
  unfold GI
  simp only [h1, h2, h3]
  exact h
theorem GZ.c (h : GZ J) (h1 : J' 12 0 17 = J 12 0 17) (h2 : ∀ j, J' 42 0 j = J 42 0 j) (h3 : ∀ j, J' 43 0 j = J 43 0 j) (h4 : ∀ j, J' 44 0 j = J 44 0 j) : GZ J' := by
  unfold GZ
  simp only [h1, h2, h3, h4]
  exact h
theorem TZ.c (h : TZ J) (h0 : J' 12 0 1 = J 12 0 1) (h1 : J' 12 0 13 = J 12 0 13) (h2 : ∀ j, J' 27 0 j = J 27 0 j) (h3 : ∀ j, J' 28 0 j = J 28 0 j) (h4 : ∀ j, J' 29 0 j = J 29 0 j) (h5 : ∀ j, J' 31 0 j = J 31 0 j) (h6 : ∀ j, J' 32 0 j = J 32 0 j) : TZ J' := by
  unfold TZ
  simp only [h0, h1, h2, h3, h4, h5, h6]
  exact h
theorem GU.c (h : GU J) (h1 : J' 12 0 17 = J 12 0 17) (h2 : ∀ j, J' 40 0 j = J 40 0 j) (hu : usF J' = usF J) : GU J' := by
  unfold GU
  simp only [h1, h2, hu]
  exact h
/-- nothing but what scratch holds has changed -/
theorem Inv.sc (h : Inv n J) {m : Int} (hm : n ≤ m) (hB : RB J') (hj : ∀ k i j, k ≠ 59 → k ≠ 60 → (k ≠ 12 ∨ (j ≠ 0 ∧ j ≠ 37 ∧ j ≠ 38)) → J' k i j = J k i j) : Inv m J' := by
  obtain ⟨h1, h2, h3, h4, h5, h6, h7, h8, h9⟩ := h
  have ej : ∀ k i j, k ≠ 59 → k ≠ 60 → k ≠ 12 → J' k i j = J k i j := fun k i j a b c => hj k i j a b (Or.inl c)
  have e12 : ∀ j, j ≠ 0 → j ≠ 37 → j ≠ 38 → J' 12 0 j = J 12 0 j := fun j a b c => hj 12 0 j (by decide) (by decide) (Or.inr ⟨a, b, c⟩)
  have hT : TI J' := by
    refine ⟨hB, ?_⟩
    have el : lin J' = lin J := lin_c (fun j => ej _ _ _ (by decide) (by decide) (by decide))
    have e2 : ∀ k, k ≠ 59 → k ≠ 60 → k ≠ 12 → ∀ j, J' k 0 j = J k 0 j := fun k a b c j => ej _ _ _ a b c
    simp (disch := decide) only [e12, e2, el]
    exact h1.2
  exact ⟨hT, h2.c (e12 _ (by decide) (by decide) (by decide)) (fun j => ej _ _ _ (by decide) (by decide) (by decide)) (fun j => ej _ _ _ (by decide) (by decide) (by decide)), h3.c (e12 _ (by decide) (by decide) (by decide)) (fun j => ej _ _ _ (by decide) (by decide) (by decide)) (usF_c (e12 _ (by decide) (by decide) (by decide)) (e12 _ (by decide) (by decide) (by decide)) (fun j => by rw [ej _ _ _ (by decide) (by decide) (by decide)]) (fun j => ej _ _ _ (by decide) (by decide) (by decide)) (fun j => ej _ _ _ (by decide) (by decide) (by decide)) (fun j => ej _ _ _ (by decide) (by decide) (by decide)) (fun j => ej _ _ _ (by decide) (by decide) (by decide))), h4.c (e12 _ (by decide) (by decide) (by decide)) (fun j => ej _ _ _ (by decide) (by decide) (by decide)) (fun j => ej _ _ _ (by decide) (by decide) (by decide)), h5.c (e12 _ (by decide) (by decide) (by decide)) (fun j => ej _ _ _ (by decide) (by decide) (by decide)) (fun j => ej _ _ _ (by decide) (by decide) (by decide)) (fun j => ej _ _ _ (by decide) (by decide) (by decide)), h6.c (e12 _ (by decide) (by decide) (by decide)) (e12 _ (by decide) (by decide) (by decide)) (fun j => ej _ _ _ (by decide) (by decide) (by decide)) (fun j => ej _ _ _ (by decide) (by decide) (by decide)) (fun j => ej _ _ _ (by decide) (by decide) (by decide)) (fun j => ej _ _ _ (by decide) (by decide) (by decide)) (fun j => ej _ _ _ (by decide) (by decide) (by decide)), h7.c hm (e12 _ (by decide) (by decide) (by decide)) (fun j => ej _ _ _ (by decide) (by decide) (by decide)) (fun j => ej _ _ _ (by decide) (by decide) (by decide)) (fun j => ej _ _ _ (by decide) (by decide) (by decide)), h8.c (e12 _ (by decide) (by decide) (by decide)) (fun k j a b => ej _ _ _ (by omega) (by omega) (by omega)), h9.c hm (e12 _ (by decide) (by decide) (by decide)) (fun j => ej _ _ _ (by decide) (by decide) (by decide))⟩
def th (I : ST) (v : Int) : ST := up I 12 0 0 v
theorem th_f {I : ST} {v : Int} {k : Nat} {i j : Int} (h : k ≠ 12 ∨ j ≠ 0) : th I v k i j = I k i j := by
  unfold th up
  rw [if_neg (by omega)]
theorem Inv.th (h : Inv n J) {m v : Int} (hm : n ≤ m) : Inv m (th J v) := h.sc hm (h.rb.uS (by omega) (by omega) (by omega) (by omega)) (fun k i j a b c => th_f (by omega))
theorem Inv.fri (h : Inv n J) {m : Int} (hm : n ≤ m) {hs : Int → Bool} : Inv m (frI J hs) := h.sc hm h.rb.fri (fun k i j a b c => fr_f a)
end IN
section PRs
variable {e e' : EN} {C I J : ST} {z z' : Nat × Nat × Nat × Nat} {n : Int}
theorem Cpl.th (hC : Cpl e C J) {v : Int} : Cpl e C (th J v) := hC.sc (fun k i j a b c => th_f (by omega))
def OK (n : Int) (e : EN) (C I : ST) (z : Nat × Nat × Nat × Nat) : Prop := WA e z ∧ WR e ∧ Cpl e C I ∧ Inv n I
/-- the heap has grown a little, nothing that the law holds has moved -/
def NX (e e' : EN) (z z' : Nat × Nat × Nat × Nat) (I I' : ST) : Prop := (z'.1 ≤ z.1 + 10 ∧ z'.2.1 ≤ z.2.1 + 200) ∧ (e'.2.2 = e.2.2 ∧ ∀ k, 61 ≤ k → e'.2.1 k = e.2.1 k) ∧ (∀ k, k = 11 ∨ k = 12 ∨ k = 61 ∨ k = 62 → e'.1 k 0 = e.1 k 0) ∧ ∀ j, I' 62 0 j = I 62 0 j
theorem NX.r {I' : ST} (h : ∀ j, I' 62 0 j = I 62 0 j) : NX e e z z I I' := ⟨⟨by omega, by omega⟩, ⟨rfl, fun _ _ => rfl⟩, fun _ _ => rfl, h⟩
/-- class and reference answer alike, and all holds again -/
def PR (n : Int) (e : EN) (C I : ST) (z : Nat × Nat × Nat × Nat) (fc fr : Nat → XH → XR) : Prop := ∃ e' C' I' z' A, Ev (fun F => fc F (HS e C I z)) (rI A (HS e' C' I z')) ∧ Ev (fun F => fr F (HS e' C' I z')) (rI A (HS e' C' I' z')) ∧ OK (n + 1) e' C' I' z' ∧ NX e e' z z' I I' ∧ (-2147483648 ≤ A ∧ A < 2147483648) ∧ I' 12 0 0 = 0
/-- the class throws E, the reference says so with w -/
def PT (n : Int) (e : EN) (C I : ST) (z : Nat × Nat × Nat × Nat) (E : Nat) (w : Int) (fc fr : Nat → XH → XR) : Prop := (∃ q, Ev (fun F => fc F (HS e C I z)) (.inr (E, q), HS e C I (z.1 + 1, z.2.1 + 6, z.2.2))) ∧ ∃ A, Ev (fun F => fr F (HS e C I (z.1 + 1, z.2.1 + 6, z.2.2))) (rI A (HS e C (th I w) (z.1 + 1, z.2.1 + 6, z.2.2)))
theorem WA.thr (h : WA e z) : WA e (z.1 + 1, z.2.1 + 6, z.2.2) := ⟨h.1, fun k i q => by have := h.2.1 k i q; show e.1 k i < z.1 + 1; omega, h.2.2⟩
theorem thr_HS {E : Nat} : xthr (HS e C I z) E = some (.inr (E, z.1), HS e C I (z.1 + 1, z.2.1 + 6, z.2.2)) := rfl
/-- a call that only looks -/
theorem PR.look (hO : OK n e C I z) {fc fr : Nat → XH → XR} {A : Int} (a0 : -2147483648 ≤ A) (a1 : A < 2147483648) (hc : Ev (fun F => fc F (HS e C I z)) (rI A (HS e C I z))) (hr : Ev (fun F => fr F (HS e C I z)) (rI A (HS e C (th I 0) z))) : PR n e C I z fc fr := by
  obtain ⟨h1, h2, h3, h4⟩ := hO
  exact ⟨e, C, th I 0, z, A, hc, hr, ⟨h1, h2, h3.th, h4.th (by omega)⟩, NX.r (fun j => th_f (Or.inl (by decide))), ⟨a0, a1⟩, up_s⟩
end PRs
