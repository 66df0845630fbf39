/-! the whole heap as one store: family, object, place -> Int -/
/-- addresses, how many of each family, the script's length -/
abbrev EN : Type := (Nat → Int → Nat) × (Nat → Int) × Nat
abbrev ST : Type := Nat → Int → Int → Int
def rf (e : EN) (k : Nat) (v : Int) : Option Nat := if v < 0 then none else some (e.1 k v)
def up (S : ST) (k : Nat) (i j v : Int) : ST := fun k' i' j' => if k' = k ∧ i' = i ∧ j' = j then v else S k' i' j'
def tyT : List (List Nat) := [[209, 202, 0], [2, 4, 0, 0, 0, 0, 0, 0, 0, 0, 0, 1, 11, 4], [216, 801], [209, 202, 0], [2, 417, 13, 7, 0, 0, 0, 0, 7], [218, 219, 206, 0, 810, 0], [7, 0], [2, 10, 0, 415, 11, 0], [2, 10, 13, 11, 4, 0, 0, 0, 0, 0, 1], [213, 214, 808, 807], [2, 7], [202, 209, 203, 200, 205],
  [0, 0, 222, 223, 224, 225, 226, 227, 228, 229, 230, 231, 232, 0, 234, 235, 236, 0, 238, 239, 240, 241, 242, 243, 244, 245, 0, 0, 0, 249, 250, 251, 252, 253, 254, 255, 0, 0, 0, 259, 260]]
/-- kinds of arrays, their contents, their lengths -/
def arT : List (Nat × Nat × Nat) := [(103, 608, 150), (104, 607, 20), (103, 11, 41), (105, 601, 20), (106, 7, 15), (106, 604, 80), (107, 610, 10), (100, 0, 1), (100, 0, 1), (100, 0, 150), (100, 0, 150), (100, 0, 150), (100, 0, 150), (100, 0, 150), (100, 0, 150), (100, 0, 150), (102, 0, 150), (101, 1, 150), (100, 0, 150), (100, 0, 3000), (100, 0, 1), (100, 0, 20), (100, 0, 20), (100, 0, 20), (100, 0, 1), (100, 0, 20), (100, 0, 20), (100, 0, 20), (100, 0, 20), (100, 0, 20), (100, 0, 20), (100, 0, 20), (101, 1, 20), (100, 0, 1), (100, 0, 1), (100, 0, 1), (100, 0, 10), (102, 0, 80), (100, 0, 80), (100, 0, 80), (100, 0, 80), (100, 0, 80), (100, 0, 80), (100, 0, 1), (100, 0, 1), (100, 0, 1), (102, 0, 20), (100, 0, 80), (101, 1, 1), (200, 0, 0), (200, 900, 4), (200, 901, 4)]
def ky (k j : Nat) : Nat := if k < 13 then ((tyT[k]?).getD [])[j]?.getD 0 else ((arT[k - 13]?).getD (0, 0, 0)).2.1
def kd (k : Nat) : Nat := if k < 13 then k else ((arT[k - 13]?).getD (0, 0, 0)).1
def kl (e : EN) (k : Nat) : Nat := if k < 13 then ((tyT[k]?).getD []).length else if k = 62 then e.2.2 else ((arT[k - 13]?).getD (0, 0, 0)).2.2
/-- the two static arrays -/
def stv (c : Nat) (j : Int) : Int := if c = 900 then (if j = 2 then 1 else 0) else if j = 0 then 1000000 else if j = 1 then 150 else if j = 2 then 1000 else 20
def cv (e : EN) (c : Nat) (i j v : Int) : XE := if c = 0 then .inl (xk v) else if c = 1 then .inr (.inl (Int64.ofInt v)) else if c = 2 then .inl (xk i) else if c < 200 then .inr (.inr (rf e (c - 3) v)) else if c < 400 then .inr (.inr (rf e (c - 200) 0)) else if c < 600 then .inr (.inr (rf e (c - 400) i)) else if c < 800 then .inr (.inr (rf e (c - 600) (if j < e.2.1 (c - 600) then j else -1))) else if c < 900 then .inl (xk (e.2.1 (c - 800))) else .inl (xk (stv c j))
def ob (e : EN) (S : ST) (k : Nat) (i : Int) : XO := (kd k, (List.range (kl e k)).map fun j : Nat => cv e (ky k j) i j (S k i j))
def Va (e : EN) (k : Nat) (i : Int) : Prop := k < 65 ∧ 0 ≤ i ∧ i < e.2.1 k
noncomputable def hp (e : EN) (S : ST) (q : Nat) : Option XO := @dite (Option XO) (∃ p : Nat × Int, Va e p.1 p.2 ∧ e.1 p.1 p.2 = q) (Classical.propDecidable _) (fun h => some (ob e S (Classical.choose h).1 (Classical.choose h).2)) (fun _ => none)
noncomputable def H0 (e : EN) (S : ST) (z : Nat × Nat × Nat × Nat) : XH := (hp e S, z)
def sg (k : Nat) : Bool := k == 0 || k == 2 || k == 3 || k == 5 || k == 6 || k == 9 || k == 11 || k == 13 || k == 14 || k == 16 || k == 18 || k == 19
/-- addresses are apart and below the size; the class's single objects are there -/
def WA (e : EN) (z : Nat × Nat × Nat × Nat) : Prop := (∀ k i k' i', Va e k i → Va e k' i' → e.1 k i = e.1 k' i' → k = k' ∧ i = i') ∧ (∀ k i, Va e k i → e.1 k i < z.1) ∧ (∀ k, sg k = true → e.2.1 k = 1) ∧ (e.2.1 4 = 80 ∧ e.2.1 17 = 80 ∧ e.2.1 15 = e.2.1 7) ∧ z.2.2 = (e.1 63 0, e.1 64 0)
/-- the reference's object and arrays are there -/
def WR (e : EN) : Prop := ∀ k, (k = 12 ∨ (22 ≤ k ∧ k < 61 ∧ k ≠ 33 ∧ k ≠ 37 ∧ k ≠ 46 ∧ k ≠ 47 ∧ k ≠ 48 ∧ k ≠ 56 ∧ k ≠ 57 ∧ k ≠ 58)) → e.2.1 k = 1
/-- the law's array, script and static arrays are there -/
def WS (e : EN) : Prop := ∀ k, 61 ≤ k → k < 65 → e.2.1 k = 1
section ST1
variable {e : EN} {S : ST} {z : Nat × Nat × Nat × Nat}
theorem hp_at (hA : WA e z) {k : Nat} {i : Int} (hv : Va e k i) : hp e S (e.1 k i) = some (ob e S k i) := by
  have h : ∃ p : Nat × Int, Va e p.1 p.2 ∧ e.1 p.1 p.2 = e.1 k i := ⟨(k, i), hv, rfl⟩
  unfold hp
  rw [dif_pos h]
  obtain ⟨h1, h2⟩ := Classical.choose_spec h
  obtain ⟨h3, h4⟩ := hA.1 _ _ _ _ h1 hv h2
  rw [h3, h4]
theorem hp_no {q : Nat} (h : ∀ k i, Va e k i → e.1 k i ≠ q) : hp e S q = none := by
  unfold hp
  rw [dif_neg]
  rintro ⟨p, h1, h2⟩
  exact h _ _ h1 h2
theorem rf_v {k : Nat} {i : Int} (h : 0 ≤ i) : rf e k i = some (e.1 k i) := by
  unfold rf
  rw [if_neg (by omega)]
theorem rf_n {k : Nat} {i : Int} (h : i < 0) : rf e k i = none := by
  unfold rf
  rw [if_pos h]
theorem rf_none {k : Nat} {i : Int} : (rf e k i = none) = (i < 0) := by
  apply propext
  unfold rf
  by_cases h : i < 0
  · simp [h]
  · simp [h]
theorem rf_eq (hA : WA e z) {k : Nat} {i j : Int} (hk : k < 65) (hi : i < e.2.1 k) (hj : j < e.2.1 k) (h1 : -1 ≤ i) (h2 : -1 ≤ j) : (rf e k i = rf e k j) = (i = j) := by
  apply propext
  unfold rf
  by_cases h : i < 0
  · rw [if_pos h]
    by_cases h' : j < 0
    · rw [if_pos h']
      constructor
      · intro; omega
      · intro; rfl
    · rw [if_neg h']
      constructor
      · intro q; exact absurd q (by simp)
      · intro; omega
  · rw [if_neg h]
    by_cases h' : j < 0
    · rw [if_pos h']
      constructor
      · intro q; exact absurd q (by simp)
      · intro; omega
    · rw [if_neg h']
      constructor
      · intro q
        exact (hA.1 k i k j ⟨hk, by omega, hi⟩ ⟨hk, by omega, hj⟩ (Option.some.inj q)).2
      · intro q; rw [q]
theorem rm_get {α : Type} {L n : Nat} {g : Nat → α} (hn : n < L) : ((List.range L).map g)[n]? = some (g n) := by
  rw [List.getElem?_map, List.getElem?_range hn]
  rfl
theorem rm_set {α : Type} {L n : Nat} {g : Nat → α} {v : α} : ((List.range L).map g).set n v = (List.range L).map fun i => if i = n then v else g i := by
  apply List.ext_getElem?
  intro j
  rw [List.getElem?_set, List.getElem?_map, List.getElem?_map, List.length_map, List.length_range]
  by_cases hj : j < L
  · rw [List.getElem?_range hj]
    by_cases hn : n = j
    · subst hn; simp [hj]
    · simp [hn, Ne.symm hn]
  · rw [List.getElem?_eq_none (l := List.range L) (by simpa using Nat.le_of_not_lt hj)]
    by_cases hn : n = j
    · subst hn; simp [hj]
    · simp [hn]
theorem H0.gt (hA : WA e z) {k j t : Nat} {i : Int} (hk : k < 65) (h0 : 0 ≤ i) (h1 : i < e.2.1 k) (ht : kd k = t) (hj : j < kl e k) : xgt (H0 e S z) (rf e k i) t j = some (cv e (ky k j) i j (S k i j)) := by
  rw [rf_v h0]
  unfold xgt H0
  simp only [hp_at hA ⟨hk, h0, h1⟩, ob, ht, if_true]
  exact rm_get hj
theorem H0.gi (hA : WA e z) {k j t : Nat} {i : Int} (hk : k < 65) (h0 : 0 ≤ i) (h1 : i < e.2.1 k) (ht : kd k = t) (hj : j < kl e k) {x : Int32} (hc : cv e (ky k j) i j (S k i j) = .inl x) : xgi (H0 e S z) (rf e k i) t j = some x := by
  unfold xgi
  rw [H0.gt hA hk h0 h1 ht hj, Option.bind_some, hc]
  rfl
theorem H0.gl (hA : WA e z) {k j t : Nat} {i : Int} (hk : k < 65) (h0 : 0 ≤ i) (h1 : i < e.2.1 k) (ht : kd k = t) (hj : j < kl e k) {x : Int64} (hc : cv e (ky k j) i j (S k i j) = .inr (.inl x)) : xgl (H0 e S z) (rf e k i) t j = some x := by
  unfold xgl
  rw [H0.gt hA hk h0 h1 ht hj, Option.bind_some, hc]
  rfl
theorem H0.gr (hA : WA e z) {k j t : Nat} {i : Int} (hk : k < 65) (h0 : 0 ≤ i) (h1 : i < e.2.1 k) (ht : kd k = t) (hj : j < kl e k) {x : Option Nat} (hc : cv e (ky k j) i j (S k i j) = .inr (.inr x)) : xgr (H0 e S z) (rf e k i) t j = some x := by
  unfold xgr
  rw [H0.gt hA hk h0 h1 ht hj, Option.bind_some, hc]
  rfl
theorem H0.gd (hA : WA e z) {k t : Nat} {i : Int} (hk : k < 65) (h0 : 0 ≤ i) (h1 : i < e.2.1 k) (ht : kd k = t) {K : XR} : xgd (H0 e S z) (rf e k i) t K = K := by
  rw [rf_v h0]
  unfold xgd H0
  simp only [hp_at hA ⟨hk, h0, h1⟩, ob, ht, if_true]
theorem xk_ix {a : Int} {n : Nat} (h0 : 0 ≤ a) (h1 : a < n) (hn : n ≤ 2147483647) : xix (xk a) n = true ∧ (xk a).toNatClampNeg = a.toNat := by
  obtain ⟨b, rfl⟩ : ∃ b : Nat, a = b := ⟨a.toNat, by omega⟩
  exact ⟨xix_k (by omega) (by omega), by rw [xk_clamp (by omega)]; rfl⟩
theorem H0.at (hA : WA e z) {k : Nat} {i a : Int} (hk : k < 65) (h0 : 0 ≤ i) (h1 : i < e.2.1 k) (ha : 0 ≤ a) (hj : a < kl e k) (hl : kl e k ≤ 2147483647) : xat (H0 e S z) (rf e k i) (xk a) = some (kd k, cv e (ky k a.toNat) i a (S k i a)) := by
  rw [rf_v h0]
  unfold xat H0
  obtain ⟨q1, q2⟩ := xk_ix ha hj hl
  simp only [hp_at hA ⟨hk, h0, h1⟩, ob, List.length_map, List.length_range]
  rw [if_pos q1, q2, rm_get (by omega)]
  simp only [Option.map_some]
  rw [Int.toNat_of_nonneg ha]
theorem H0.put (hA : WA e z) {k j : Nat} {i v : Int} {x : XE} (hk : k < 65) (h0 : 0 ≤ i) (h1 : i < e.2.1 k) (hc : cv e (ky k j) i j v = x) : xset (H0 e S z) (e.1 k i) (kd k, (ob e S k i).2.set j x) = H0 e (up S k i j v) z := by
  have hv : Va e k i := ⟨hk, h0, h1⟩
  unfold xset H0
  congr 1
  funext q
  show (if q = e.1 k i then some (kd k, (ob e S k i).2.set j x) else hp e S q) = hp e (up S k i j v) q
  by_cases hq : q = e.1 k i
  · subst hq
    rw [if_pos rfl, hp_at hA hv]
    unfold ob
    rw [rm_set]
    congr 2
    apply List.map_congr_left
    intro a _
    by_cases hj : a = j
    · subst hj
      rw [if_pos rfl, ← hc]
      unfold up
      rw [if_pos ⟨rfl, rfl, rfl⟩]
    · rw [if_neg hj]
      unfold up
      rw [if_neg (fun w => hj (by have := w.2.2; omega))]
  · rw [if_neg hq]
    by_cases hh : ∃ p : Nat × Int, Va e p.1 p.2 ∧ e.1 p.1 p.2 = q
    · obtain ⟨⟨k', i'⟩, g1, rfl⟩ := hh
      dsimp only at g1 hq
      rw [hp_at hA g1, hp_at hA g1]
      unfold ob
      congr 2
      apply List.map_congr_left
      intro a _
      unfold up
      rw [if_neg (fun w => hq (by rw [w.1, w.2.1]))]
    · rw [hp_no (fun k' i' g1 g2 => hh ⟨(k', i'), g1, g2⟩), hp_no (fun k' i' g1 g2 => hh ⟨(k', i'), g1, g2⟩)]
theorem H0.pt (hA : WA e z) {k j t : Nat} {i v : Int} {x : XE} (hk : k < 65) (h0 : 0 ≤ i) (h1 : i < e.2.1 k) (ht : kd k = t) (hj : j < kl e k) (hc : cv e (ky k j) i j v = x) : xpt (H0 e S z) (rf e k i) t j x = some (H0 e (up S k i j v) z) := by
  rw [rf_v h0, ← H0.put hA hk h0 h1 hc]
  unfold xpt H0
  subst ht
  simp only [hp_at hA ⟨hk, h0, h1⟩]
  rw [if_pos ⟨rfl, by unfold ob; simpa using hj⟩]
theorem H0.sa (hA : WA e z) {k t : Nat} {i a v : Int} {x : XE} (hk : k < 65) (h0 : 0 ≤ i) (h1 : i < e.2.1 k) (ha : 0 ≤ a) (hj : a < kl e k) (hl : kl e k ≤ 2147483647) (ht : kd k = t) (hc : cv e (ky k a.toNat) i a v = x) : xas (H0 e S z) (rf e k i) t (xk a) x = some (H0 e (up S k i a v) z) := by
  obtain ⟨q1, q2⟩ := xk_ix ha hj hl
  have hp := H0.put (S := S) (j := a.toNat) hA hk h0 h1 (by rw [Int.toNat_of_nonneg ha, hc])
  rw [Int.toNat_of_nonneg ha] at hp
  rw [rf_v h0, ← hp]
  unfold xas H0
  subst ht
  simp only [hp_at hA ⟨hk, h0, h1⟩]
  have hlen : (ob e S k i).2.length = kl e k := by unfold ob; simp
  rw [hlen, if_pos ⟨rfl, q1⟩, q2]
end ST1
