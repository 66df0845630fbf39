/-! the reference's small methods -/
def rI (r : Int) (σ : XH) : XV × XH := (.inl (some (.inl (xk r))), σ)
theorem rb1 {A B : XR} : (if xk 1 = 0 ∨ xk 1 = 1 then A else B) = A := if_pos (Or.inr xk_one)
theorem rb0 {A B : XR} : (if xk 0 = 0 ∨ xk 0 = 1 then A else B) = A := if_pos (Or.inl xk_zero)
def i64 (a : Int) : Prop := -9223372036854775808 ≤ a ∧ a < 9223372036854775808
theorem lk_toInt {a : Int} (h : i64 a) : (Int64.ofInt a).toInt = a := Int64.toInt_ofInt_of_le (by have := h.1; omega) (by have := h.2; omega)
theorem xk_long {a : Int} (h : i32 a) : (xk a).toInt64 = Int64.ofInt a := by
  apply Int64.toInt_inj.mp
  rw [lk_toInt ⟨by have := h.1; omega, by have := h.2; omega⟩, Int32.toInt_toInt64, xk_toInt h]
theorem lN_ofInt (n : Nat) : lN n = Int64.ofInt n := rfl
theorem lc_lt {a b : Int} (ha : i64 a) (hb : i64 b) : lg_cmp (Int64.ofInt a) (Int64.ofInt b) < 0 ↔ a < b := by
  have h := lg_cmp_ge (Int64.ofInt a) (Int64.ofInt b)
  rw [Int64.le_iff_toInt_le, lk_toInt ha, lk_toInt hb] at h
  constructor
  · intro q
    by_cases hz : b ≤ a
    · exact absurd q (k2_nlt (h.mpr hz))
    · omega
  · intro q
    exact k2_lt (fun z => by have := h.mp z; omega)
theorem lc_gt {a b : Int} (ha : i64 a) (hb : i64 b) : 0 < lg_cmp (Int64.ofInt a) (Int64.ofInt b) ↔ b < a := by
  have h := lg_cmp_le (Int64.ofInt a) (Int64.ofInt b)
  rw [Int64.le_iff_toInt_le, lk_toInt ha, lk_toInt hb] at h
  constructor
  · intro q
    by_cases hz : a ≤ b
    · exact absurd q (k2_nlt (h.mpr hz))
    · omega
  · intro q
    exact k2_lt (fun z => by have := h.mp z; omega)
theorem in_ev {a b c : Int} {σ : XH} (ha : i64 a) (hb : i64 b) (hc : i64 c) : Ev (fun F => J12_in F (Int64.ofInt a) (Int64.ofInt b) (Int64.ofInt c) σ) (rI (if b ≤ a ∧ a ≤ c then 1 else 0) σ) := by
  refine Ev.now fun F => ?_
  show J12_in (F + 1) _ _ _ σ = _
  rw [E12_in, rb1, rb0]
  simp only [lc_lt ha hb, lc_gt ha hc]
  by_cases h1 : a < b
  · rw [if_pos h1, if_neg (by omega)]; rfl
  · rw [if_neg h1]
    by_cases h2 : c < a
    · rw [if_pos h2, if_neg (by omega)]; rfl
    · rw [if_neg h2, if_pos (by omega)]; rfl
section RF
variable {m : Nat} {ad : Nat → Nat} {I : Nat → Nat → Int} {σ : XH}
theorem isTask_ev {t : Int} (ht : i32 t) (hn : 0 ≤ I 1 0 ∧ I 1 0 ≤ 1000) : Ev (fun F => J12_isTask F (some m) (xk t) (MS m ad I σ)) (rI (if 0 ≤ t ∧ t < I 1 0 then 1 else 0) (MS m ad I σ)) := by
  refine Ev.step (g := fun F => xci (J12_in F (Int64.ofInt t) (Int64.ofInt 0) (Int64.ofInt (I 1 0 - 1)) (MS m ad I σ)) fun v3 s2 => if v3 = 0 ∨ v3 = 1 then some (.inl (some (.inl v3)), s2) else none) (fun F => ?_) ?_
  · rw [E12_isTask, MS.gS (by decide) (by decide), Option.bind_some, xk_sub, xk_long ht, xk_long ⟨by omega, by omega⟩]
    rfl
  · refine Ev.ci (in_ev (a := t) (b := 0) (c := I 1 0 - 1) ⟨by have := ht.1; omega, by have := ht.2; omega⟩ ⟨by decide, by decide⟩ ⟨by omega, by omega⟩) (fun F => rfl) ?_
    refine ⟨0, fun F _ => ?_⟩
    by_cases h : 0 ≤ t ∧ t < I 1 0
    · rw [if_pos (by omega : (0 : Int) ≤ t ∧ t ≤ I 1 0 - 1), if_pos h, rb1]; rfl
    · rw [if_neg (by omega : ¬ ((0 : Int) ≤ t ∧ t ≤ I 1 0 - 1)), if_neg h, rb0]; rfl
/-- a chain outwards: does it come to o -/
def chn (w : Nat → Int) : Nat → Int → Int → Bool
  | 0, _, _ => false
  | n + 1, k, o => if k = -1 then decide (o = -1) else if k = o then true else chn w n (w k.toNat) o
theorem isWithin_ev (hA : MA m ad) (hw : ∀ g, g < 20 → -1 ≤ I 18 g ∧ I 18 g < g) {o : Int} (ho : i32 o) : ∀ (n : Nat) (k : Int), -1 ≤ k → k < n → k < 20 → Ev (fun F => J12_isWithin_2 F (some m) (xk o) (xk k) (MS m ad I σ)) (rI (if chn (I 18) (n + 1) k o then 1 else 0) (MS m ad I σ))
  | n, k, h1, h2, h3 => by
    have hk : i32 k := ⟨by omega, by omega⟩
    by_cases hm1 : k = -1
    · subst hm1
      refine Ev.now fun F => ?_
      show J12_isWithin_2 (F + 1) _ _ _ _ = _
      rw [E12_isWithin_2, if_pos rfl, rb1, rb0]
      simp only [chn, if_true, xk_inj hk ho, decide_eq_true_eq]
      by_cases h : o = -1
      · rw [if_pos h.symm, if_pos h]; rfl
      · rw [if_neg (fun q => h q.symm), if_neg h]; rfl
    · by_cases hko : k = o
      · subst hko
        refine Ev.now fun F => ?_
        show J12_isWithin_2 (F + 1) _ _ _ _ = _
        rw [E12_isWithin_2, if_neg (by rw [xk_inj hk ⟨by decide, by decide⟩]; exact hm1), if_pos rfl, if_pos rfl, rb1]
        simp only [chn, if_neg hm1, if_true]
        rfl
      · obtain ⟨j, rfl⟩ : ∃ j : Nat, k = (j : Int) := ⟨k.toNat, by omega⟩
        have hw1 := hw j (by omega)
        obtain ⟨n, rfl⟩ : ∃ n', n = n' + 1 := ⟨n - 1, by omega⟩
        refine Ev.step (g := fun F => J12_isWithin_2 F (some m) (xk o) (xk (I 18 j)) (MS m ad I σ)) (fun F => ?_) ?_
        · show J12_isWithin_2 (F + 1) _ _ _ _ = _
          rw [E12_isWithin_2, if_neg (by rw [xk_inj hk ⟨by decide, by decide⟩]; exact hm1), if_neg (by rw [xk_inj hk ho]; exact hko), MS.gR (by decide) (by decide), Option.bind_some, MS.aI hA (by decide) (by decide) (show j < mlen 18 by show j < 20; omega), Option.bind_some]
        · have := isWithin_ev hA hw ho n (I 18 j) hw1.1 (by omega) (by omega)
          have e : chn (I 18) (n + 1 + 1) (j : Int) o = chn (I 18) (n + 1) (I 18 j) o := by
            rw [chn, if_neg hm1, if_neg hko]
            rfl
          rw [e]
          exact this
end RF
