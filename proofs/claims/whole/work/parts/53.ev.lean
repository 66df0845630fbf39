/-! numbers as simp takes them; runs -/
def rI (r : Int) (σ : XH) : XV × XH := (.inl (some (.inl (xk r))), σ)
def rL (r : Int) (σ : XH) : XV × XH := (.inl (some (.inr (.inl (Int64.ofInt r)))), σ)
def rR (o : Option Nat) (σ : XH) : XV × XH := (.inl (some (.inr (.inr o))), σ)
def rV (σ : XH) : XV × XH := (.inl none, σ)
def bI (p : Prop) [Decidable p] : Int := if p then 1 else 0
def i64 (a : Int) : Prop := -9223372036854775808 ≤ a ∧ a < 9223372036854775808
theorem lk_toInt {a : Int} (h : i64 a) : (Int64.ofInt a).toInt = a := Int64.toInt_ofInt_of_le (by have := h.1; omega) (by have := h.2; omega)
theorem zk_eq {a b : Int} (a0 : -2147483648 ≤ a) (a1 : a < 2147483648) (b0 : -2147483648 ≤ b) (b1 : b < 2147483648) : (xk a = xk b) = (a = b) := propext (xk_inj ⟨a0, a1⟩ ⟨b0, b1⟩)
theorem zk_lt {a b : Int} (a0 : -2147483648 ≤ a) (a1 : a < 2147483648) (b0 : -2147483648 ≤ b) (b1 : b < 2147483648) : (xk a < xk b) = (a < b) := propext (xk_lt ⟨a0, a1⟩ ⟨b0, b1⟩)
theorem zk_eq0 {a : Int} (a0 : -2147483648 ≤ a) (a1 : a < 2147483648) : (xk a = 0) = (a = 0) := propext (xk_eq0 ⟨a0, a1⟩)
theorem zk_eq1 {a : Int} (a0 : -2147483648 ≤ a) (a1 : a < 2147483648) : (xk a = 1) = (a = 1) := by
  rw [← xk_one]
  exact zk_eq a0 a1 (by decide) (by decide)
theorem zk_lt0 {a : Int} (a0 : -2147483648 ≤ a) (a1 : a < 2147483648) : (xk a < 0) = (a < 0) := propext (xk_lt0 ⟨a0, a1⟩)
theorem zk_0lt {a : Int} (a0 : -2147483648 ≤ a) (a1 : a < 2147483648) : (0 < xk a) = (0 < a) := propext (xk_0lt ⟨a0, a1⟩)
theorem zk_long {a : Int} (a0 : -2147483648 ≤ a) (a1 : a < 2147483648) : (xk a).toInt64 = Int64.ofInt a := by
  apply Int64.toInt_inj.mp
  rw [lk_toInt ⟨by omega, by omega⟩, Int32.toInt_toInt64, xk_toInt ⟨a0, a1⟩]
theorem lN_z (n : Nat) : lN n = Int64.ofInt n := rfl
theorem lk_add (a b : Int) : Int64.ofInt a + Int64.ofInt b = Int64.ofInt (a + b) := (Int64.ofInt_add a b).symm
theorem lz_lt {a b : Int} (a0 : -9223372036854775808 ≤ a) (a1 : a < 9223372036854775808) (b0 : -9223372036854775808 ≤ b) (b1 : b < 9223372036854775808) : (lg_cmp (Int64.ofInt a) (Int64.ofInt b) < 0) = (a < b) := by
  apply propext
  have h := lg_cmp_ge (Int64.ofInt a) (Int64.ofInt b)
  rw [Int64.le_iff_toInt_le, lk_toInt ⟨a0, a1⟩, lk_toInt ⟨b0, b1⟩] at h
  constructor
  · intro q
    by_cases hz : b ≤ a
    · exact absurd q (k2_nlt (h.mpr hz))
    · omega
  · intro q
    exact k2_lt (fun z => by have := h.mp z; omega)
theorem lz_gt {a b : Int} (a0 : -9223372036854775808 ≤ a) (a1 : a < 9223372036854775808) (b0 : -9223372036854775808 ≤ b) (b1 : b < 9223372036854775808) : (0 < lg_cmp (Int64.ofInt a) (Int64.ofInt b)) = (b < a) := by
  apply propext
  have h := lg_cmp_le (Int64.ofInt a) (Int64.ofInt b)
  rw [Int64.le_iff_toInt_le, lk_toInt ⟨a0, a1⟩, lk_toInt ⟨b0, b1⟩] at h
  constructor
  · intro q
    by_cases hz : a ≤ b
    · exact absurd q (k2_nlt (h.mpr hz))
    · omega
  · intro q
    exact k2_lt (fun z => by have := h.mp z; omega)
theorem zmax {a b : Int} (a0 : -9223372036854775808 ≤ a) (a1 : a < 9223372036854775808) (b0 : -9223372036854775808 ≤ b) (b1 : b < 9223372036854775808) : xmax (Int64.ofInt a) (Int64.ofInt b) = Int64.ofInt (max a b) := by
  unfold xmax
  have h : (Int64.ofInt b < Int64.ofInt a) ↔ b < a := by rw [Int64.lt_iff_toInt_lt, lk_toInt ⟨a0, a1⟩, lk_toInt ⟨b0, b1⟩]
  by_cases hb : b < a
  · rw [if_pos (h.mpr hb), show max a b = a by omega]
  · rw [if_neg (fun q => hb (h.mp q)), show max a b = b by omega]
theorem zmin {a b : Int} (a0 : -2147483648 ≤ a) (a1 : a < 2147483648) (b0 : -2147483648 ≤ b) (b1 : b < 2147483648) : xmin (xk a) (xk b) = xk (min a b) := by
  unfold xmin
  simp only [zk_lt b0 b1 a0 a1]
  by_cases hb : b < a
  · rw [if_pos hb, show min a b = b by omega]
  · rw [if_neg hb, show min a b = a by omega]
theorem xk_m1 : xk (-1) = (-1 : Int32) := rfl
theorem zdiv {a b : Int} (a0 : 0 ≤ a) (a1 : a < 2147483648) (b0 : 0 < b) (b1 : b < 2147483648) : xk a / xk b = xk (a / b) := by
  have hq : a / b ≤ a := Int.ediv_le_self b a0
  have hp : 0 ≤ a / b := Int.ediv_nonneg a0 (by omega)
  apply Int32.toInt_inj.mp
  rw [xk_toInt ⟨by omega, by omega⟩, Int32.toInt_div_of_ne_right _ _ (fun z => by
    have := (xk_inj (a := b) (b := -1) ⟨by omega, by omega⟩ ⟨by decide, by decide⟩).mp (z.trans xk_m1.symm)
    omega), xk_toInt ⟨by omega, by omega⟩, xk_toInt ⟨by omega, by omega⟩, Int.tdiv_eq_ediv_of_nonneg a0]
theorem rb1 {A B : XR} : (if xk 1 = 0 ∨ xk 1 = 1 then A else B) = A := if_pos (Or.inr xk_one)
theorem rb0 {A B : XR} : (if xk 0 = 0 ∨ xk 0 = 1 then A else B) = A := if_pos (Or.inl xk_zero)
theorem rbp {p : Prop} [Decidable p] {A B : XR} : (if xk (bI p) = 0 ∨ xk (bI p) = 1 then A else B) = A := by
  by_cases h : p
  · rw [bI, if_pos h, rb1]
  · rw [bI, if_neg h, rb0]
theorem i32_m : (1000000 : Int32) = xk 1000000 := rfl
theorem ll_n1 : (-1 : Int64) = Int64.ofInt (-1) := rfl
theorem ll_n10 : (-10 : Int64) = Int64.ofInt (-10) := rfl
theorem ll_10 : (10 : Int64) = Int64.ofInt (10) := rfl
theorem ll_1000 : (1000 : Int64) = Int64.ofInt (1000) := rfl
theorem ll_10000 : (10000 : Int64) = Int64.ofInt (10000) := rfl
theorem ll_1000000 : (1000000 : Int64) = Int64.ofInt (1000000) := rfl
theorem ll_150 : (150 : Int64) = Int64.ofInt (150) := rfl
theorem ll_20 : (20 : Int64) = Int64.ofInt (20) := rfl
theorem ll_200 : (200 : Int64) = Int64.ofInt (200) := rfl
theorem ll_3 : (3 : Int64) = Int64.ofInt (3) := rfl
theorem ll_4 : (4 : Int64) = Int64.ofInt (4) := rfl
theorem ll_40 : (40 : Int64) = Int64.ofInt (40) := rfl
theorem ll_7 : (7 : Int64) = Int64.ofInt (7) := rfl
theorem ll_79 : (79 : Int64) = Int64.ofInt (79) := rfl
theorem ll_8 : (8 : Int64) = Int64.ofInt (8) := rfl
theorem ll_9 : (9 : Int64) = Int64.ofInt (9) := rfl
theorem Ev.ite {p : Prop} [Decidable p] {a b : Nat → XR} {r : XV × XH} (h1 : p → Ev a r) (h2 : ¬ p → Ev b r) : Ev (fun F => if p then a F else b F) r := by
  by_cases h : p
  · simp only [if_pos h]; exact h1 h
  · simp only [if_neg h]; exact h2 h
theorem Ev.ret {r r' : XV × XH} (h : r = r') : Ev (fun _ => some r) r' := ⟨0, fun _ _ => by rw [h]⟩
theorem Ev.cast {f : Nat → XR} {r r' : XV × XH} (h : Ev f r) (e : r = r') : Ev f r' := e ▸ h
theorem Ev.kI {c : Nat → XR} {k : Nat → Int32 → XH → XR} {x : Int} {σ : XH} {r : XV × XH} (hc : Ev c (rI x σ)) (hk : Ev (fun F => k F (xk x) σ) r) : Ev (fun F => xci (c F) (k F)) r := Ev.ci hc (fun _ => rfl) hk
theorem Ev.kL {c : Nat → XR} {k : Nat → Int64 → XH → XR} {x : Int} {σ : XH} {r : XV × XH} (hc : Ev c (rL x σ)) (hk : Ev (fun F => k F (Int64.ofInt x) σ) r) : Ev (fun F => xcl (c F) (k F)) r := Ev.cl hc (fun _ => rfl) hk
theorem Ev.kR {c : Nat → XR} {k : Nat → Option Nat → XH → XR} {x : Option Nat} {σ : XH} {r : XV × XH} (hc : Ev c (rR x σ)) (hk : Ev (fun F => k F x σ) r) : Ev (fun F => xcr (c F) (k F)) r := Ev.cr hc (fun _ => rfl) hk
theorem Ev.kV {c : Nat → XR} {k : Nat → XH → XR} {σ : XH} {r : XV × XH} (hc : Ev c (rV σ)) (hk : Ev (fun F => k F σ) r) : Ev (fun F => xcv (c F) (k F)) r := Ev.cv hc (fun _ => rfl) hk
theorem Ev.kB {c : Nat → XR} {k : Nat → Int32 → XH → XR} {p : Prop} [Decidable p] {σ : XH} {r : XV × XH} (hc : Ev c (rI (bI p) σ)) (h1 : p → Ev (fun F => k F (xk 1) σ) r) (h2 : ¬ p → Ev (fun F => k F (xk 0) σ) r) : Ev (fun F => xci (c F) (k F)) r := by
  by_cases h : p
  · rw [bI, if_pos h] at hc
    exact Ev.kI hc (h1 h)
  · rw [bI, if_neg h] at hc
    exact Ev.kI hc (h2 h)
theorem bI_t {p : Prop} [Decidable p] (h : p) : bI p = 1 := if_pos h
theorem bI_f {p : Prop} [Decidable p] (h : ¬ p) : bI p = 0 := if_neg h
/-! up -/
theorem up_s {S : ST} {k : Nat} {i j v : Int} : up S k i j v k i j = v := by simp [up]
theorem up_k {S : ST} {k k' : Nat} {i j v i' j' : Int} (h : k' ≠ k) : up S k i j v k' i' j' = S k' i' j' := by simp [up, h]
theorem up_i {S : ST} {k k' : Nat} {i j v i' j' : Int} (h : i' ≠ i) : up S k i j v k' i' j' = S k' i' j' := by simp [up, h]
theorem up_j {S : ST} {k k' : Nat} {i j v i' j' : Int} (h : j' ≠ j) : up S k i j v k' i' j' = S k' i' j' := by simp [up, h]
