/-! the class copies a view: the loops, both sides -/
def MV (B : ST) (v : Int) : Prop := (∀ k, 0 ≤ k → k < 80 → (B 50 0 k) = 1 → (B 51 0 k) < v ∧ ((B 52 0 k) < 0 → (B 49 0 ((B 51 0 k))) = k) ∧ (0 ≤ (B 52 0 k) → (B 50 0 ((B 52 0 k))) = 1 ∧ (B 51 0 ((B 52 0 k))) = (B 51 0 k))) ∧ (∀ v', 0 ≤ v' → v' < v → (B 50 0 ((B 49 0 v'))) = 1 ∧ (B 51 0 ((B 49 0 v'))) = v' ∧ (B 52 0 ((B 49 0 v'))) = -1 ∧ (B 53 0 ((B 49 0 v'))) = 0) ∧ ∃ (r : Int → Int) (T : Int), ∀ k, 0 ≤ k → k < 80 → (B 50 0 k) = 1 → (0 ≤ r k ∧ r k ≤ T) ∧ (0 ≤ (B 52 0 k) → r (B 52 0 k) < r k)
def cvS (B : ST) (v : Int) (b c : Int → Int) (x : Int) (im ip : Int → Int) : ST := fun k i j => if k = 49 ∧ i = 0 ∧ j = v then x else if i = 0 ∧ 0 ≤ j ∧ j < 80 ∧ k = 60 then c j else if i = 0 ∧ 0 ≤ j ∧ j < 80 ∧ 0 ≤ b j then (if k = 50 then 1 else if k = 51 then v else if k = 52 then im j else if k = 53 then ip j else if k = 54 then B 54 0 (b j) else if k = 55 then B 55 0 (b j) else B k i j) else B k i j
/-- k is a mount of view o -/
abbrev inV (B : ST) (o k : Int) : Prop := (B 50 0 k) = 1 ∧ (B 51 0 k) = o
def vT (B : ST) (o k : Int) : Int := if inV B o k then 1 else 0
/-- b and c: the copies of the first n -/
def MP (B : ST) (o n : Int) (b c : Int → Int) : Prop := (∀ k, 0 ≤ k → k < 80 → inV B o k → k < n → 0 ≤ c k ∧ c k < 80 ∧ b (c k) = k) ∧ (∀ k, 0 ≤ k → k < 80 → ¬ (inV B o k ∧ k < n) → c k = -1) ∧ ∀ m, 0 ≤ m → m < 80 → b m = -1 ∨ (0 ≤ b m ∧ b m < n ∧ b m < 80 ∧ inV B o (b m) ∧ c (b m) = m ∧ (B 50 0 m) = 0)
section CV
variable {e : EN} {C I J B : ST} {z : Nat × Nat × Nat × Nat} {v o p w q m d x : Int} {b c im ip : Int → Int}
theorem cv50 {j : Int} (j0 : 0 ≤ j) (j1 : j < 80) : cvS B v b c x im ip 50 0 j = if 0 ≤ b j then 1 else B 50 0 j := by
  unfold cvS
  rw [if_neg (by omega), if_neg (by omega)]
  by_cases h : 0 ≤ b j
  · rw [if_pos ⟨rfl, j0, j1, h⟩, if_pos rfl, if_pos h]
  · rw [if_neg (fun y => h y.2.2.2), if_neg h]
theorem cv51 {j : Int} (j0 : 0 ≤ j) (j1 : j < 80) : cvS B v b c x im ip 51 0 j = if 0 ≤ b j then v else B 51 0 j := by
  unfold cvS
  rw [if_neg (by omega), if_neg (by omega)]
  by_cases h : 0 ≤ b j
  · rw [if_pos ⟨rfl, j0, j1, h⟩, if_neg (by decide), if_pos rfl, if_pos h]
  · rw [if_neg (fun y => h y.2.2.2), if_neg h]
theorem cv52 {j : Int} (j0 : 0 ≤ j) (j1 : j < 80) : cvS B v b c x im ip 52 0 j = if 0 ≤ b j then im j else B 52 0 j := by
  unfold cvS
  rw [if_neg (by omega), if_neg (by omega)]
  by_cases h : 0 ≤ b j
  · rw [if_pos ⟨rfl, j0, j1, h⟩, if_neg (by decide), if_neg (by decide), if_pos rfl, if_pos h]
  · rw [if_neg (fun y => h y.2.2.2), if_neg h]
theorem cv53 {j : Int} (j0 : 0 ≤ j) (j1 : j < 80) : cvS B v b c x im ip 53 0 j = if 0 ≤ b j then ip j else B 53 0 j := by
  unfold cvS
  rw [if_neg (by omega), if_neg (by omega)]
  by_cases h : 0 ≤ b j
  · rw [if_pos ⟨rfl, j0, j1, h⟩, if_neg (by decide), if_neg (by decide), if_neg (by decide), if_pos rfl, if_pos h]
  · rw [if_neg (fun y => h y.2.2.2), if_neg h]
theorem cv54 {j : Int} (j0 : 0 ≤ j) (j1 : j < 80) : cvS B v b c x im ip 54 0 j = if 0 ≤ b j then B 54 0 (b j) else B 54 0 j := by
  unfold cvS
  rw [if_neg (by omega), if_neg (by omega)]
  by_cases h : 0 ≤ b j
  · rw [if_pos ⟨rfl, j0, j1, h⟩, if_neg (by decide), if_neg (by decide), if_neg (by decide), if_neg (by decide), if_pos rfl, if_pos h]
  · rw [if_neg (fun y => h y.2.2.2), if_neg h]
theorem cv55 {j : Int} (j0 : 0 ≤ j) (j1 : j < 80) : cvS B v b c x im ip 55 0 j = if 0 ≤ b j then B 55 0 (b j) else B 55 0 j := by
  unfold cvS
  rw [if_neg (by omega), if_neg (by omega)]
  by_cases h : 0 ≤ b j
  · rw [if_pos ⟨rfl, j0, j1, h⟩, if_neg (by decide), if_neg (by decide), if_neg (by decide), if_neg (by decide), if_neg (by decide), if_pos rfl, if_pos h]
  · rw [if_neg (fun y => h y.2.2.2), if_neg h]
theorem cv60 {j : Int} (j0 : 0 ≤ j) (j1 : j < 80) : cvS B v b c x im ip 60 0 j = c j := by
  unfold cvS
  rw [if_neg (by omega), if_pos ⟨rfl, j0, j1, rfl⟩]
theorem cv49 {j : Int} : cvS B v b c x im ip 49 0 j = if j = v then x else B 49 0 j := by
  unfold cvS
  by_cases h : j = v
  · rw [if_pos ⟨rfl, rfl, h⟩, if_pos h]
  · rw [if_neg (fun y => h y.2.2), if_neg (by omega), if_neg h]
    split
    · rfl
    · rfl
theorem cv_f {k : Nat} {i j : Int} (h : k < 49 ∨ (55 < k ∧ k ≠ 60)) : cvS B v b c x im ip k i j = B k i j := by
  unfold cvS
  rw [if_neg (by omega), if_neg (by omega)]
  split
  · rw [if_neg (by omega), if_neg (by omega), if_neg (by omega), if_neg (by omega), if_neg (by omega), if_neg (by omega)]
  · rfl
theorem MP.st {k m : Int} (h : MP B o k b c) (k0 : 0 ≤ k) (k1 : k < 80) (hk : inV B o k) (m0 : 0 ≤ m) (m1 : m < 80) (hm : (B 50 0 m) = 0) (hb : ¬ 0 ≤ b m) : MP B o (k + 1) (fun j => if j = m then k else b j) (fun j => if j = k then m else c j) := by
  obtain ⟨h1, h2, h3⟩ := h
  have km : k ≠ m := fun y => by have := hk.1; rw [y] at this; omega
  refine ⟨fun j j0 j1 hj jk => ?_, fun j j0 j1 hj => ?_, fun j j0 j1 => ?_⟩
  · dsimp only
    by_cases y : j = k
    · rw [if_pos y]
      exact ⟨m0, m1, by rw [if_pos rfl]; exact y.symm⟩
    · rw [if_neg y]
      have q := h1 j j0 j1 hj (by omega)
      refine ⟨q.1, q.2.1, ?_⟩
      rw [if_neg (fun t => by rw [t] at q; omega)]
      exact q.2.2
  · dsimp only
    rw [if_neg (fun y : j = k => hj ⟨y ▸ hk, by omega⟩)]
    exact h2 j j0 j1 (fun y => hj ⟨y.1, by omega⟩)
  · dsimp only
    by_cases y : j = m
    · rw [if_pos y]
      right
      exact ⟨k0, by omega, k1, hk, by rw [if_pos rfl]; exact y.symm, y ▸ hm⟩
    · rw [if_neg y]
      rcases h3 j j0 j1 with q | q
      · exact Or.inl q
      · right
        refine ⟨q.1, by omega, q.2.2.1, q.2.2.2.1, ?_, q.2.2.2.2.2⟩
        rw [if_neg (by omega)]
        exact q.2.2.2.2.1
theorem MP.sk {k : Int} (h : MP B o k b c) (hk : ¬ inV B o k) : MP B o (k + 1) b c := by
  obtain ⟨h1, h2, h3⟩ := h
  refine ⟨fun j j0 j1 hj jk => h1 j j0 j1 hj ?_, fun j j0 j1 hj => h2 j j0 j1 (fun y => hj ⟨y.1, by omega⟩), fun j j0 j1 => ?_⟩
  · by_cases y : j = k
    · exact absurd (y ▸ hj) hk
    · omega
  · rcases h3 j j0 j1 with q | q
    · exact Or.inl q
    · exact Or.inr ⟨q.1, by omega, q.2.2⟩
theorem MP.nb {k : Int} (h : MP B o p b c) (k0 : 0 ≤ k) (k1 : k < 80) (hk : (B 50 0 k) = 1) : ¬ 0 ≤ b k := by
  rcases h.2.2 k k0 k1 with q | q
  · omega
  · have := q.2.2.2.2.2; omega
/-- the reference makes one copy -/
theorem cv_mk {k : Int} (k0 : 0 ≤ k) (k1 : k < 80) (m0 : 0 ≤ m) (m1 : m < 80) (hbk : ¬ 0 ≤ b k) (km : k ≠ m) : up (mkI (cvS B v b c x (fun j => B 52 0 (b j)) (fun j => B 53 0 (b j))) v (B 52 0 k) (B 53 0 k) (B 54 0 k) (B 55 0 k) m) 60 0 k m = cvS B v (fun j => if j = m then k else b j) (fun j => if j = k then m else c j) (if B 52 0 k = -1 then m else x) (fun j => B 52 0 (if j = m then k else b j)) (fun j => B 53 0 (if j = m then k else b j)) := by
  funext k' i j
  unfold mkI
  by_cases h2 : B 52 0 k = -1
  · rw [if_pos h2, if_pos h2]
    simp only [up, cvS]
    by_cases hj : j = m
    · subst hj
      simp only [if_true]
      by_cases hi : i = 0
      · subst hi
        grind
      · grind
    · simp only [if_neg hj]
      grind
  · rw [if_neg h2, if_neg h2]
    simp only [up, cvS]
    by_cases hj : j = m
    · subst hj
      simp only [if_true]
      grind (splits := 40)
    · simp only [if_neg hj]
      grind (splits := 40)
/-- the ghost makes one copy -/
theorem cv_oc {k : Int} (m0 : 0 ≤ m) (m1 : m < 80) (k0 : 0 ≤ k) : ocI (cvS B v b c x (fun _ => -1) (fun _ => 0)) v (B 54 0 k) (B 55 0 k) m = cvS B v (fun j => if j = m then k else b j) c x (fun _ => -1) (fun _ => 0) := by
  funext k' i j
  unfold ocI
  simp only [up, cvS]
  by_cases hj : j = m
  · subst hj
    simp only [if_true]
    grind
  · simp only [if_neg hj]
    grind
end CV
