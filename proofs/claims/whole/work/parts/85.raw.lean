/-! the heap by raw values: for what is made anew -/
abbrev RS : Type := Nat → Int → Int → XE
def obx (e : EN) (X : RS) (k : Nat) (i : Int) : XO := (kd k, (List.range (kl e k)).map fun j : Nat => X k i j)
noncomputable def hx (e : EN) (X : RS) (q : Nat) : Option XO := @dite (Option XO) (∃ p : Nat × Int, Va e p.1 p.2 ∧ e.1 p.1 p.2 = q) (Classical.propDecidable _) (fun h => some (obx e X (Classical.choose h).1 (Classical.choose h).2)) (fun _ => none)
noncomputable def HX (e : EN) (X : RS) (z : Nat × Nat × Nat × Nat) : XH := (hx e X, z)
def WX (e : EN) (z : Nat × Nat × Nat × Nat) : Prop := (∀ k i k' i', Va e k i → Va e k' i' → e.1 k i = e.1 k' i' → k = k' ∧ i = i') ∧ (∀ k i, Va e k i → e.1 k i < z.1)
def rwX (e : EN) (S : ST) : RS := fun k i j => cv e (ky k j.toNat) i j (S k i j)
def upX (X : RS) (k : Nat) (i j : Int) (x : XE) : RS := fun k' i' j' => if k' = k ∧ i' = i ∧ j' = j then x else X k' i' j'
def nwX (X : RS) (k : Nat) (i : Int) (L : List XE) : RS := fun k' i' j' => if k' = k ∧ i' = i then (L[j'.toNat]?).getD (.inl 0) else X k' i' j'
def bump (e : EN) (k : Nat) : EN := (e.1, fun k' => if k' = k then e.2.1 k + 1 else e.2.1 k', e.2.2)
def retg (e : EN) (k : Nat) (a : Nat) : EN := (fun k' i' => if k' = k ∧ i' = e.2.1 k then a else e.1 k' i', e.2.1, e.2.2)
section RAW
variable {e : EN} {X : RS} {z : Nat × Nat × Nat × Nat}
theorem HS_HX {C I : ST} : HS e C I z = HX e (rwX e (mx C I)) z := by
  unfold HS H0 HX
  congr 1
theorem hx_at (hA : WX e z) {k : Nat} {i : Int} (hv : Va e k i) : hx e X (e.1 k i) = some (obx e X k i) := by
  have h : ∃ p : Nat × Int, Va e p.1 p.2 ∧ e.1 p.1 p.2 = e.1 k i := ⟨(k, i), hv, rfl⟩
  unfold hx
  rw [dif_pos h]
  obtain ⟨h1, h2⟩ := Classical.choose_spec h
  obtain ⟨h3, h4⟩ := hA.1 _ _ _ _ h1 hv h2
  rw [h3, h4]
theorem hx_no {q : Nat} (h : ∀ k i, Va e k i → e.1 k i ≠ q) : hx e X q = none := by
  unfold hx
  rw [dif_neg]
  rintro ⟨p, h1, h2⟩
  exact h _ _ h1 h2
/-- two heaps of the same objects -/
theorem hx_eq {e' : EN} {X' : RS} (hA : WX e z) (hv : ∀ k i, Va e k i ↔ Va e' k i) (ha : ∀ k i, Va e k i → e'.1 k i = e.1 k i) (ho : ∀ k i, Va e k i → obx e' X' k i = obx e X k i) : hx e' X' = hx e X := by
  have hA' : WX e' z := ⟨fun k i k' i' a b c => by
    have a' := (hv k i).mpr a
    have b' := (hv k' i').mpr b
    rw [ha _ _ a', ha _ _ b'] at c
    exact hA.1 _ _ _ _ a' b' c, fun k i a => by
    have a' := (hv k i).mpr a
    rw [ha _ _ a']
    exact hA.2 _ _ a'⟩
  funext q
  by_cases h : ∃ p : Nat × Int, Va e p.1 p.2 ∧ e.1 p.1 p.2 = q
  · obtain ⟨⟨k, i⟩, h1, h2⟩ := h
    have h1 : Va e k i := h1
    have h2 : e.1 k i = q := h2
    rw [← h2, hx_at hA h1, ← ho k i h1, ← ha k i h1, hx_at hA' ((hv k i).mp h1)]
  · rw [hx_no (e := e) (fun k i a b => h ⟨(k, i), a, b⟩), hx_no (fun k i a b => ?_)]
    have a' := (hv k i).mpr a
    rw [ha _ _ a'] at b
    exact h ⟨(k, i), a', b⟩
theorem HX_ret {k : Nat} {a : Nat} (hA : WX e z) : HX (retg e k a) X z = HX e X z := by
  unfold HX
  rw [hx_eq (e := e) (e' := retg e k a) (X := X) hA (fun k' i' => Iff.rfl) (fun k' i' h => ?_) (fun k' i' h => rfl)]
  show (if k' = k ∧ i' = e.2.1 k then a else e.1 k' i') = e.1 k' i'
  rw [if_neg]
  rintro ⟨rfl, rfl⟩
  have := h.2.2
  omega
theorem WX.ret {k : Nat} {a : Nat} (hA : WX e z) : WX (retg e k a) z := by
  have ha : ∀ k' i', Va e k' i' → (retg e k a).1 k' i' = e.1 k' i' := fun k' i' h => by
    show (if k' = k ∧ i' = e.2.1 k then a else e.1 k' i') = e.1 k' i'
    rw [if_neg]
    rintro ⟨rfl, rfl⟩
    have := h.2.2
    omega
  refine ⟨fun k i k' i' a b c => ?_, fun k i h => ?_⟩
  · rw [ha _ _ a, ha _ _ b] at c
    exact hA.1 _ _ _ _ a b c
  · rw [ha _ _ h]
    exact hA.2 _ _ h
theorem Va.bump {κ : Nat} {k : Nat} {i : Int} (hk : κ < 65) (h0 : 0 ≤ e.2.1 κ) : Va (bump e κ) k i ↔ Va e k i ∨ (k = κ ∧ i = e.2.1 κ) := by
  unfold Va
  show (k < 65 ∧ 0 ≤ i ∧ i < (if k = κ then e.2.1 κ + 1 else e.2.1 k)) ↔ _
  by_cases h : k = κ
  · subst h; rw [if_pos rfl]; omega
  · rw [if_neg h]
    constructor
    · intro q; exact Or.inl q
    · intro q; rcases q with q | q
      · exact q
      · exact absurd q.1 h
theorem WX.bump {κ : Nat} {s : Nat} (hA : WX e z) (hk : κ < 65) (h0 : 0 ≤ e.2.1 κ) (ha : e.1 κ (e.2.1 κ) = z.1) : WX (bump e κ) (z.1 + 1, s, z.2.2) := by
  refine ⟨fun k i k' i' a b c => ?_, fun k i h => ?_⟩
  · have c : e.1 k i = e.1 k' i' := c
    rcases (Va.bump hk h0).mp a with a | a <;> rcases (Va.bump hk h0).mp b with b | b
    · exact hA.1 _ _ _ _ a b c
    · exfalso
      have := hA.2 _ _ a
      rw [c, b.1, b.2, ha] at this
      omega
    · exfalso
      have := hA.2 _ _ b
      rw [← c, a.1, a.2, ha] at this
      omega
    · exact ⟨a.1.trans b.1.symm, a.2.trans b.2.symm⟩
  · show e.1 k i < z.1 + 1
    rcases (Va.bump hk h0).mp h with h | h
    · have := hA.2 _ _ h; omega
    · rw [h.1, h.2, ha]; omega
theorem rx_push {κ : Nat} {L : List XE} (hA : WX e z) (hk : κ < 65) (h0 : 0 ≤ e.2.1 κ) (ha : e.1 κ (e.2.1 κ) = z.1) (hL : L.length = kl e κ) : xpush (HX e X z) (kd κ, L) = HX (bump e κ) (nwX X κ (e.2.1 κ) L) (z.1 + 1, z.2.1 + L.length, z.2.2) := by
  have hA' := hA.bump (s := z.2.1 + L.length) hk h0 ha
  unfold xpush HX
  refine Prod.ext ?_ rfl
  funext q
  show (if q = z.1 then some (kd κ, L) else hx e X q) = hx (bump e κ) (nwX X κ (e.2.1 κ) L) q
  by_cases hq : q = z.1
  · rw [if_pos hq, hq, ← ha]
    have := hx_at (X := nwX X κ (e.2.1 κ) L) hA' (k := κ) (i := e.2.1 κ) ((Va.bump hk h0).mpr (Or.inr ⟨rfl, rfl⟩))
    rw [show (bump e κ).1 κ (e.2.1 κ) = e.1 κ (e.2.1 κ) from rfl] at this
    rw [this]
    unfold obx
    congr 2
    apply List.ext_getElem?
    intro n
    rw [List.getElem?_map]
    have hkl : kl (bump e κ) κ = kl e κ := rfl
    by_cases hn : n < kl e κ
    · rw [hkl, List.getElem?_range hn]
      simp only [Option.map_some, nwX, and_self, if_true, Int.toNat_natCast]
      rw [List.getElem?_eq_getElem (by omega)]
      rfl
    · rw [hkl, List.getElem?_eq_none (by omega), List.getElem?_eq_none (by simp; omega)]
      rfl
  · rw [if_neg hq]
    by_cases h : ∃ p : Nat × Int, Va e p.1 p.2 ∧ e.1 p.1 p.2 = q
    · obtain ⟨⟨k, i⟩, h1, h2⟩ := h
      have h1 : Va e k i := h1
      have h2 : e.1 k i = q := h2
      have := hx_at (X := nwX X κ (e.2.1 κ) L) hA' (k := k) (i := i) ((Va.bump hk h0).mpr (Or.inl h1))
      rw [show (bump e κ).1 k i = e.1 k i from rfl, h2] at this
      rw [this, ← h2, hx_at hA h1]
      unfold obx
      congr 2
      show List.map _ (List.range (kl e k)) = List.map _ (List.range (kl e k))
      refine List.map_congr_left (fun j _ => ?_)
      show X k i j = if k = κ ∧ i = e.2.1 κ then _ else X k i j
      rw [if_neg]
      rintro ⟨rfl, rfl⟩
      have := h1.2.2
      omega
    · rw [hx_no (e := e) (fun k i a b => h ⟨(k, i), a, b⟩), hx_no (fun k i a b => ?_)]
      rcases (Va.bump hk h0).mp a with a | a
      · exact h ⟨(k, i), a, b⟩
      · have b : e.1 k i = q := b
        rw [a.1, a.2, ha] at b
        exact hq b.symm
theorem rx_gt (hA : WX e z) {k : Nat} {i j : Int} {t : Nat} {f : Nat} (hv : Va e k i) (ht : kd k = t) (hf : f < kl e k) : xgt (HX e X z) (some (e.1 k i)) t f = some (X k i f) := by
  unfold xgt HX
  simp only [hx_at hA hv, obx, ht, if_true]
  exact rm_get hf
theorem rx_pt (hA : WX e z) {k : Nat} {i : Int} {t f : Nat} {x : XE} (hv : Va e k i) (ht : kd k = t) (hf : f < kl e k) : xpt (HX e X z) (some (e.1 k i)) t f x = some (HX e (upX X k i f x) z) := by
  unfold xpt HX
  simp only [hx_at hA hv, obx, ht, List.length_map, List.length_range, hf, and_self, if_true]
  congr 1
  unfold xset
  refine Prod.ext ?_ rfl
  funext q
  show (if q = e.1 k i then _ else hx e X q) = hx e (upX X k i f x) q
  by_cases hq : q = e.1 k i
  · rw [if_pos hq, hq, hx_at hA hv]
    unfold obx
    rw [ht, rm_set]
    congr 2
    apply List.map_congr_left
    intro n _
    show (if n = f then x else X k i n) = if k = k ∧ i = i ∧ (n : Int) = f then x else X k i n
    by_cases hn : n = f
    · subst hn; simp
    · rw [if_neg hn, if_neg (by omega)]
  · rw [if_neg hq]
    by_cases h : ∃ p : Nat × Int, Va e p.1 p.2 ∧ e.1 p.1 p.2 = q
    · obtain ⟨⟨k', i'⟩, h1, h2⟩ := h
      have h1 : Va e k' i' := h1
      have h2 : e.1 k' i' = q := h2
      rw [← h2, hx_at hA h1, hx_at hA h1]
      unfold obx
      congr 2
      refine List.map_congr_left (fun j _ => ?_)
      show X k' i' j = if k' = k ∧ i' = i ∧ _ then x else X k' i' j
      rw [if_neg]
      rintro ⟨rfl, rfl, -⟩
      exact hq h2.symm
    · rw [hx_no (fun k i a b => h ⟨(k, i), a, b⟩), hx_no (fun k i a b => h ⟨(k, i), a, b⟩)]
theorem rx_gd (hA : WX e z) {k : Nat} {i : Int} {t : Nat} {K : XR} (hv : Va e k i) (ht : kd k = t) : xgd (HX e X z) (some (e.1 k i)) t K = K := by
  unfold xgd HX
  simp only [hx_at hA hv, obx, ht, if_true]
/-- a reference goes into an array of references -/
theorem rx_sr (hA : WX e z) {k k' : Nat} {i i' a : Int} (hv : Va e k i) (hv' : Va e k' i') (ht : 103 ≤ kd k ∧ kd k < 108) (ho : kd k' = xof (kd k)) (a0 : 0 ≤ a) (a1 : a < kl e k) (hl : kl e k ≤ 2147483647) : xsr (HX e X z) (some (e.1 k i)) (xk a) (some (e.1 k' i')) = some (HX e (upX X k i a (.inr (.inr (some (e.1 k' i'))))) z) := by
  obtain ⟨q1, q2⟩ := xk_ix a0 a1 hl
  have hp := rx_pt (X := X) hA hv (t := kd k) (f := a.toNat) (x := .inr (.inr (some (e.1 k' i')))) rfl (by omega)
  rw [Int.toNat_of_nonneg a0] at hp
  unfold xsr HX
  simp only [hx_at hA hv, hx_at hA hv', obx, ht, and_self, if_true, ho]
  refine Eq.trans ?_ hp
  unfold xas xpt HX
  simp only [hx_at hA hv, obx, List.length_map, List.length_range, q1, q2, true_and]
  rw [if_pos trivial, if_pos (by omega)]
end RAW
