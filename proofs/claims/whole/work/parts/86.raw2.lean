/-! a new object comes into the heap -/
def exE (e : EN) (κ : Nat) (a : Nat) : EN := bump (retg e κ a) κ
section RAW
variable {e : EN} {X : RS} {z : Nat × Nat × Nat × Nat}
theorem rx_gi (hA : WX e z) {k : Nat} {i : Int} {t f : Nat} {x : Int32} (hv : Va e k i) (ht : kd k = t) (hf : f < kl e k) (hx : X k i f = .inl x) : xgi (HX e X z) (some (e.1 k i)) t f = some x := by
  unfold xgi
  rw [rx_gt (j := 0) hA hv ht hf, hx]
  rfl
theorem rx_gr (hA : WX e z) {k : Nat} {i : Int} {t f : Nat} {x : Option Nat} (hv : Va e k i) (ht : kd k = t) (hf : f < kl e k) (hx : X k i f = .inr (.inr x)) : xgr (HX e X z) (some (e.1 k i)) t f = some x := by
  unfold xgr
  rw [rx_gt (j := 0) hA hv ht hf, hx]
  rfl
theorem HX_c {X' : RS} (hA : WX e z) (h : ∀ k i, Va e k i → ∀ j : Nat, j < kl e k → X k i j = X' k i j) : HX e X z = HX e X' z := by
  unfold HX
  rw [hx_eq (e := e) (e' := e) (X := X') (X' := X) hA (fun _ _ => Iff.rfl) (fun _ _ _ => rfl) (fun k i hv => ?_)]
  unfold obx
  congr 1
  exact List.map_congr_left (fun j hj => h k i hv j (List.mem_range.mp hj))
theorem exE_a {κ a k : Nat} {i : Int} : (exE e κ a).1 k i = if k = κ ∧ i = e.2.1 κ then a else e.1 k i := rfl
theorem exE_n {κ a k : Nat} : (exE e κ a).2.1 k = if k = κ then e.2.1 κ + 1 else e.2.1 k := rfl
theorem exE_v {κ a k : Nat} {i : Int} (hk : κ < 65) (h0 : 0 ≤ e.2.1 κ) : Va (exE e κ a) k i ↔ Va e k i ∨ (k = κ ∧ i = e.2.1 κ) := Va.bump (e := retg e κ a) hk h0
theorem rf_ex {κ a k : Nat} {v : Int} (h : k ≠ κ ∨ v ≠ e.2.1 κ) : rf (exE e κ a) k v = rf e k v := by
  unfold rf
  rw [exE_a, if_neg (c := k = κ ∧ v = e.2.1 κ) (fun q => by rcases h with h | h; exact h q.1; exact h q.2)]
theorem rf_nw {κ a : Nat} (h0 : 0 ≤ e.2.1 κ) : rf (exE e κ a) κ (e.2.1 κ) = some a := by
  unfold rf
  rw [if_neg (by omega), exE_a, if_pos ⟨rfl, rfl⟩]
theorem ex_push {κ : Nat} {L : List XE} (hA : WX e z) (hk : κ < 65) (h0 : 0 ≤ e.2.1 κ) (hL : L.length = kl e κ) : xpush (HX e X z) (kd κ, L) = HX (exE e κ z.1) (nwX X κ (e.2.1 κ) L) (z.1 + 1, z.2.1 + L.length, z.2.2) ∧ WX (exE e κ z.1) (z.1 + 1, z.2.1 + L.length, z.2.2) := by
  have ha : (retg e κ z.1).1 κ ((retg e κ z.1).2.1 κ) = z.1 := by
    show (if κ = κ ∧ e.2.1 κ = e.2.1 κ then z.1 else _) = z.1
    rw [if_pos ⟨rfl, rfl⟩]
  refine ⟨?_, WX.bump hA.ret hk h0 ha⟩
  rw [← HX_ret (k := κ) (a := z.1) hA]
  exact rx_push hA.ret hk h0 ha hL
/-- references in the store are below the counts -/
def BD (e : EN) (S : ST) : Prop := ∀ k i (j : Nat), Va e k i → j < kl e k → 3 ≤ ky k j → ky k j < 200 → S k i j < e.2.1 (ky k j - 3)
/-- where a code stands in the tables -/
theorem kyA {P : Nat → Nat → Nat → Bool} (h1 : ∀ k : Fin 13, ∀ j : Fin 41, P k j (ky k j) = true) (h2 : ∀ k : Fin 65, 13 ≤ k.val → ∀ j : Nat, P k j (ky k 0) = true) (h3 : ∀ k : Fin 13, ∀ j : Nat, P k j 0 = true) (k j : Nat) (hk : k < 65) : P k j (ky k j) = true := by
  by_cases h : k < 13
  · by_cases hj : j < 41
    · exact h1 ⟨k, h⟩ ⟨j, hj⟩
    · have : ky k j = 0 := by
        unfold ky
        rw [if_pos h]
        have hl : ∀ k : Fin 13, ((tyT[k.val]?).getD []).length ≤ 41 := by decide +kernel
        have := hl ⟨k, h⟩
        rw [List.getElem?_eq_none (by simp only at this; omega)]
        rfl
      rw [this]
      exact h3 ⟨k, h⟩ j
  · have e1 : ky k j = ky k 0 := by unfold ky; rw [if_neg h, if_neg h]
    rw [e1]
    exact h2 ⟨k, hk⟩ (by show 13 ≤ k; omega) j
theorem kyN {c : Nat} (h0 : c ≠ 0) (h1 : ∀ k : Fin 13, ∀ j : Fin 41, (ky k j == c) = false) (h2 : ∀ k : Fin 65, (Nat.blt k 13 || !(ky k 0 == c)) = true) {k j : Nat} (hk : k < 65) : ky k j ≠ c := by
  have := kyA (P := fun k j c' => !(c' == c)) (fun k j => by simp only [h1 k j]; rfl) (fun k hk j => by
    have := h2 k
    simp only [Bool.or_eq_true, Nat.blt_eq] at this
    rcases this with q | q
    · omega
    · exact q) (fun k j => by simp only [Bool.not_eq_true', beq_eq_false_iff_ne]; omega) k j hk
  simp only [Bool.not_eq_true', beq_eq_false_iff_ne] at this
  exact this
/-- a code that stands in one family only -/
theorem kyO {c f : Nat} (h0 : c ≠ 0) (h1 : ∀ k : Fin 13, ∀ j : Fin 41, (!(ky k j == c) || k.val == f) = true) (h2 : ∀ k : Fin 65, (Nat.blt k 13 || !(ky k 0 == c) || k.val == f) = true) {k j : Nat} (hk : k < 65) (h : ky k j = c) : k = f := by
  have := kyA (P := fun k j c' => !(c' == c) || k == f) (fun k j => h1 k j) (fun k hk j => by
    have := h2 k
    simp only [Bool.or_eq_true, Nat.blt_eq] at this
    simp only [Bool.or_eq_true]
    rcases this with (q | q) | q
    · omega
    · exact Or.inl q
    · exact Or.inr q) (fun k j => by simp only [Bool.or_eq_true, Bool.not_eq_true', beq_eq_false_iff_ne]; left; omega) k j hk
  simp only [Bool.or_eq_true, Bool.not_eq_true', beq_eq_false_iff_ne, beq_iff_eq] at this
  rcases this with q | q
  · exact absurd h q
  · exact q
theorem ky201 {k j : Nat} (hk : k < 65) : ky k j ≠ 201 := kyN (by decide) (by decide +kernel) (by decide +kernel) hk
theorem ky207 {k j : Nat} (hk : k < 65) : ky k j ≠ 207 := kyN (by decide) (by decide +kernel) (by decide +kernel) hk
theorem ky208 {k j : Nat} (hk : k < 65) : ky k j ≠ 208 := kyN (by decide) (by decide +kernel) (by decide +kernel) hk
theorem ky210 {k j : Nat} (hk : k < 65) : ky k j ≠ 210 := kyN (by decide) (by decide +kernel) (by decide +kernel) hk
theorem ky215 {k j : Nat} (hk : k < 65) : ky k j ≠ 215 := kyN (by decide) (by decide +kernel) (by decide +kernel) hk
theorem ky401 {k j : Nat} (hk : k < 65) : ky k j ≠ 401 := kyN (by decide) (by decide +kernel) (by decide +kernel) hk
theorem ky407 {k j : Nat} (hk : k < 65) : ky k j ≠ 407 := kyN (by decide) (by decide +kernel) (by decide +kernel) hk
theorem ky408 {k j : Nat} (hk : k < 65) : ky k j ≠ 408 := kyN (by decide) (by decide +kernel) (by decide +kernel) hk
theorem ky410 {k j : Nat} (hk : k < 65) : ky k j ≠ 410 := kyN (by decide) (by decide +kernel) (by decide +kernel) hk
theorem ky615 {k j : Nat} (hk : k < 65) : ky k j ≠ 615 := kyN (by decide) (by decide +kernel) (by decide +kernel) hk
theorem ky815 {k j : Nat} (hk : k < 65) : ky k j ≠ 815 := kyN (by decide) (by decide +kernel) (by decide +kernel) hk
theorem ky415 {k j : Nat} (hk : k < 65) (h : ky k j = 415) : k = 7 := kyO (by decide) (by decide +kernel) (by decide +kernel) hk h
theorem ky601 {k j : Nat} (hk : k < 65) (h : ky k j = 601) : k = 16 := kyO (by decide) (by decide +kernel) (by decide +kernel) hk h
theorem ky607 {k j : Nat} (hk : k < 65) (h : ky k j = 607) : k = 14 := kyO (by decide) (by decide +kernel) (by decide +kernel) hk h
theorem ky608 {k j : Nat} (hk : k < 65) (h : ky k j = 608) : k = 13 := kyO (by decide) (by decide +kernel) (by decide +kernel) hk h
theorem ky610 {k j : Nat} (hk : k < 65) (h : ky k j = 610) : k = 19 := kyO (by decide) (by decide +kernel) (by decide +kernel) hk h
theorem ky801 {k j : Nat} (hk : k < 65) (h : ky k j = 801) : k = 2 := kyO (by decide) (by decide +kernel) (by decide +kernel) hk h
theorem ky807 {k j : Nat} (hk : k < 65) (h : ky k j = 807) : k = 9 := kyO (by decide) (by decide +kernel) (by decide +kernel) hk h
theorem ky808 {k j : Nat} (hk : k < 65) (h : ky k j = 808) : k = 9 := kyO (by decide) (by decide +kernel) (by decide +kernel) hk h
theorem ky810 {k j : Nat} (hk : k < 65) (h : ky k j = 810) : k = 5 := kyO (by decide) (by decide +kernel) (by decide +kernel) hk h
theorem cv_ex {κ a k : Nat} {i v : Int} {j : Nat} (hκ : κ = 1 ∨ κ = 7 ∨ κ = 8 ∨ κ = 10 ∨ κ = 15) (hk : k < 65) (h6 : ky k j ≠ 600 + κ) (h8 : ky k j ≠ 800 + κ) (hv : 3 ≤ ky k j → ky k j < 200 → v < e.2.1 (ky k j - 3)) (hi : k = 7 → κ = 15 → i < e.2.1 15) : cv (exE e κ a) (ky k j) i j v = cv e (ky k j) i j v := by
  have T1 : ky k j ≠ 200 + κ := by
    rcases hκ with rfl | rfl | rfl | rfl | rfl
    · exact ky201 hk
    · exact ky207 hk
    · exact ky208 hk
    · exact ky210 hk
    · exact ky215 hk
  have T2 : ky k j = 400 + κ → k = 7 ∧ κ = 15 := by
    rcases hκ with rfl | rfl | rfl | rfl | rfl
    · exact fun q => absurd q (ky401 hk)
    · exact fun q => absurd q (ky407 hk)
    · exact fun q => absurd q (ky408 hk)
    · exact fun q => absurd q (ky410 hk)
    · exact fun q => ⟨ky415 hk q, rfl⟩
  generalize hc : ky k j = c at *
  unfold cv
  by_cases c0 : c = 0
  · rw [if_pos c0, if_pos c0]
  rw [if_neg c0, if_neg c0]
  by_cases c1 : c = 1
  · rw [if_pos c1, if_pos c1]
  rw [if_neg c1, if_neg c1]
  by_cases c2 : c = 2
  · rw [if_pos c2, if_pos c2]
  rw [if_neg c2, if_neg c2]
  by_cases c3 : c < 200
  · rw [if_pos c3, if_pos c3, rf_ex]
    have := hv (by omega) c3
    by_cases hq : c - 3 = κ
    · right; rw [← hq]; omega
    · exact Or.inl hq
  rw [if_neg c3, if_neg c3]
  by_cases c4 : c < 400
  · rw [if_pos c4, if_pos c4, rf_ex (Or.inl (by omega))]
  rw [if_neg c4, if_neg c4]
  by_cases c5 : c < 600
  · rw [if_pos c5, if_pos c5, rf_ex]
    by_cases hq : c - 400 = κ
    · right
      have q := T2 (by omega)
      have := hi q.1 q.2
      rw [q.2]; omega
    · exact Or.inl hq
  rw [if_neg c5, if_neg c5]
  by_cases c6 : c < 800
  · rw [if_pos c6, if_pos c6]
    have hq : c - 600 ≠ κ := by omega
    rw [exE_n, if_neg hq, rf_ex (Or.inl hq)]
  rw [if_neg c6, if_neg c6]
  by_cases c7 : c < 900
  · rw [if_pos c7, if_pos c7, exE_n, if_neg (by omega)]
  · rw [if_neg c7, if_neg c7]
end RAW
