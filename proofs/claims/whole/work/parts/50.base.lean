/-! LAYER 2: numbers, runs in the limit of fuel, the heap by names -/
theorem xk_add (a b : Int) : xk a + xk b = xk (a + b) := (Int32.ofInt_add a b).symm
theorem xk_sub (a b : Int) : xk a - xk b = xk (a - b) := (Int32.ofInt_sub a b).symm
theorem xk_mul (a b : Int) : xk a * xk b = xk (a * b) := (Int32.ofInt_mul a b).symm
theorem xk_neg (a : Int) : -xk a = xk (-a) := (Int32.ofInt_neg a).symm
/-- an int's range -/
def i32 (a : Int) : Prop := -2147483648 ≤ a ∧ a < 2147483648
theorem xk_toInt {a : Int} (h : i32 a) : (xk a).toInt = a := Int32.toInt_ofInt_of_le (by have := h.1; omega) (by have := h.2; omega)
theorem xk_inj {a b : Int} (ha : i32 a) (hb : i32 b) : xk a = xk b ↔ a = b := by
  constructor
  · intro h
    rw [← xk_toInt ha, ← xk_toInt hb, h]
  · intro h; rw [h]
theorem xk_lt {a b : Int} (ha : i32 a) (hb : i32 b) : xk a < xk b ↔ a < b := by
  rw [Int32.lt_iff_toInt_lt, xk_toInt ha, xk_toInt hb]
theorem xk_le {a b : Int} (ha : i32 a) (hb : i32 b) : xk a ≤ xk b ↔ a ≤ b := by
  rw [Int32.le_iff_toInt_le, xk_toInt ha, xk_toInt hb]
theorem xk_zero : xk 0 = 0 := by decide +kernel
theorem xk_one : xk 1 = 1 := by decide +kernel
theorem xk_eq0 {a : Int} (ha : i32 a) : xk a = 0 ↔ a = 0 := by
  rw [← xk_zero, xk_inj ha ⟨by decide, by decide⟩]
theorem xk_lt0 {a : Int} (ha : i32 a) : xk a < 0 ↔ a < 0 := by
  rw [← xk_zero, xk_lt ha ⟨by decide, by decide⟩]
theorem xk_0lt {a : Int} (ha : i32 a) : 0 < xk a ↔ 0 < a := by
  rw [← xk_zero, xk_lt ⟨by decide, by decide⟩ ha]
theorem xk_clamp {n : Nat} (h : n < 2147483648) : (xk n).toNatClampNeg = n := by
  have := xk_toInt (a := (n : Int)) ⟨by omega, by omega⟩
  show (xk n).toInt.toNat = n
  rw [this]
  rfl
theorem xk_of (x : Int32) : ∃ a : Int, i32 a ∧ x = xk a := ⟨x.toInt, ⟨Int32.le_toInt x, Int32.toInt_lt x⟩, (Int32.ofInt_toInt x).symm⟩
theorem xk_nI (n : Nat) : nI n = xk n := rfl
theorem xix_k {n N : Nat} (h : n < N) (hN : n < 2147483648) : xix (xk n) N = true := by
  unfold xix
  rw [Bool.and_eq_true, decide_eq_true_eq, decide_eq_true_eq, xk_clamp hN]
  refine ⟨?_, h⟩
  rw [← xk_zero, xk_le ⟨by decide, by decide⟩ ⟨by omega, by omega⟩]
  omega
/-- a run that comes to r, with fuel enough -/
def Ev (f : Nat → XR) (r : XV × XH) : Prop := ∃ N, ∀ F, N ≤ F → f F = some r
theorem Ev.now {f : Nat → XR} {r : XV × XH} (h : ∀ F, f (F + 1) = some r) : Ev f r := ⟨1, fun F hF => by
  obtain ⟨G, rfl⟩ : ∃ G, F = G + 1 := ⟨F - 1, by omega⟩
  exact h G⟩
theorem Ev.step {f g : Nat → XR} {r : XV × XH} (h : ∀ F, f (F + 1) = g F) (hg : Ev g r) : Ev f r := by
  obtain ⟨N, hN⟩ := hg
  refine ⟨N + 1, fun F hF => ?_⟩
  obtain ⟨G, rfl⟩ : ∃ G, F = G + 1 := ⟨F - 1, by omega⟩
  rw [h G]
  exact hN G (by omega)
/-- behind a call -/
theorem Ev.ci {c f : Nat → XR} {k : Nat → Int32 → XH → XR} {x : Int32} {σ : XH} {r : XV × XH} (hc : Ev c (.inl (some (.inl x)), σ)) (hf : ∀ F, f F = xci (c F) (k F)) (hk : Ev (fun F => k F x σ) r) : Ev f r := by
  obtain ⟨N, hN⟩ := hc
  obtain ⟨M, hM⟩ := hk
  refine ⟨N + M, fun F hF => ?_⟩
  rw [hf F, hN F (by omega)]
  exact hM F (by omega)
theorem Ev.cl {c f : Nat → XR} {k : Nat → Int64 → XH → XR} {x : Int64} {σ : XH} {r : XV × XH} (hc : Ev c (.inl (some (.inr (.inl x))), σ)) (hf : ∀ F, f F = xcl (c F) (k F)) (hk : Ev (fun F => k F x σ) r) : Ev f r := by
  obtain ⟨N, hN⟩ := hc
  obtain ⟨M, hM⟩ := hk
  refine ⟨N + M, fun F hF => ?_⟩
  rw [hf F, hN F (by omega)]
  exact hM F (by omega)
theorem Ev.cr {c f : Nat → XR} {k : Nat → Option Nat → XH → XR} {x : Option Nat} {σ : XH} {r : XV × XH} (hc : Ev c (.inl (some (.inr (.inr x))), σ)) (hf : ∀ F, f F = xcr (c F) (k F)) (hk : Ev (fun F => k F x σ) r) : Ev f r := by
  obtain ⟨N, hN⟩ := hc
  obtain ⟨M, hM⟩ := hk
  refine ⟨N + M, fun F hF => ?_⟩
  rw [hf F, hN F (by omega)]
  exact hM F (by omega)
theorem Ev.cv {c f : Nat → XR} {k : Nat → XH → XR} {σ : XH} {r : XV × XH} (hc : Ev c (.inl none, σ)) (hf : ∀ F, f F = xcv (c F) (k F)) (hk : Ev (fun F => k F σ) r) : Ev f r := by
  obtain ⟨N, hN⟩ := hc
  obtain ⟨M, hM⟩ := hk
  refine ⟨N + M, fun F hF => ?_⟩
  rw [hf F, hN F (by omega)]
  exact hM F (by omega)
/-! the heap by names: object i of family k stands at ad k i -/
def up2 {α : Type} (O : Nat → Nat → α) (k i : Nat) (x : α) : Nat → Nat → α := fun k' i' => if k' = k ∧ i' = i then x else O k' i'
theorem up2_s {α : Type} {O : Nat → Nat → α} {k i : Nat} {x : α} : up2 O k i x k i = x := by simp [up2]
theorem up2_n {α : Type} {O : Nat → Nat → α} {k i k' i' : Nat} {x : α} (h : ¬ (k' = k ∧ i' = i)) : up2 O k i x k' i' = O k' i' := by simp [up2, h]
theorem up2_k {α : Type} {O : Nat → Nat → α} {k i k' i' : Nat} {x : α} (h : k' ≠ k) : up2 O k i x k' i' = O k' i' := up2_n (fun q => h q.1)
def TRep (ad : Nat → Nat → Nat) (V : Nat → Nat → Prop) (O : Nat → Nat → XO) (σ : XH) : Prop :=
  (∀ k i, V k i → σ.1 (ad k i) = some (O k i) ∧ ad k i < σ.2.1) ∧ ∀ k i k' i', V k i → V k' i' → ad k i = ad k' i' → k = k' ∧ i = i'
section TH
variable {ad : Nat → Nat → Nat} {V : Nat → Nat → Prop} {O : Nat → Nat → XO} {σ : XH}
theorem TRep.gt (h : TRep ad V O σ) {k i t f : Nat} {x : XE} (hv : V k i) (ht : (O k i).1 = t) (hf : (O k i).2[f]? = some x) : xgt σ (some (ad k i)) t f = some x := by
  unfold xgt
  simp only [(h.1 k i hv).1, ht, if_true, hf]
theorem TRep.gi (h : TRep ad V O σ) {k i t f : Nat} {x : Int32} (hv : V k i) (ht : (O k i).1 = t) (hf : (O k i).2[f]? = some (.inl x)) : xgi σ (some (ad k i)) t f = some x := by
  unfold xgi
  rw [h.gt hv ht hf]
  rfl
theorem TRep.gl (h : TRep ad V O σ) {k i t f : Nat} {x : Int64} (hv : V k i) (ht : (O k i).1 = t) (hf : (O k i).2[f]? = some (.inr (.inl x))) : xgl σ (some (ad k i)) t f = some x := by
  unfold xgl
  rw [h.gt hv ht hf]
  rfl
theorem TRep.gr (h : TRep ad V O σ) {k i t f : Nat} {x : Option Nat} (hv : V k i) (ht : (O k i).1 = t) (hf : (O k i).2[f]? = some (.inr (.inr x))) : xgr σ (some (ad k i)) t f = some x := by
  unfold xgr
  rw [h.gt hv ht hf]
  rfl
theorem TRep.set (h : TRep ad V O σ) {k i : Nat} {o : XO} (hv : V k i) : TRep ad V (up2 O k i o) (xset σ (ad k i) o) := by
  refine ⟨fun k' i' hv' => ⟨?_, (h.1 k' i' hv').2⟩, h.2⟩
  show (if ad k' i' = ad k i then some o else σ.1 (ad k' i')) = some (up2 O k i o k' i')
  by_cases hq : k' = k ∧ i' = i
  · obtain ⟨rfl, rfl⟩ := hq
    rw [if_pos rfl, up2_s]
  · rw [if_neg (fun z => hq (h.2 k' i' k i hv' hv z)), up2_n hq]
    exact (h.1 k' i' hv').1
theorem TRep.pt (h : TRep ad V O σ) {k i t f : Nat} {x : XE} (hv : V k i) (ht : (O k i).1 = t) (hf : f < (O k i).2.length) : xpt σ (some (ad k i)) t f x = some (xset σ (ad k i) (t, (O k i).2.set f x)) := by
  unfold xpt
  simp only [(h.1 k i hv).1, ht, hf, and_self, if_true]
theorem TRep.at (h : TRep ad V O σ) {k i : Nat} {n : Nat} {x : XE} (hv : V k i) (hf : (O k i).2[n]? = some x) (hn : n < 2147483648) : xat σ (some (ad k i)) (xk n) = some ((O k i).1, x) := by
  unfold xat
  have hl : n < (O k i).2.length := (List.getElem?_eq_some_iff.mp hf).1
  simp only [(h.1 k i hv).1, xix_k hl hn, xk_clamp hn, hf, if_true, Option.map_some]
end TH
