/-! the reference's object and arrays as one function of the model I : field, place -> Int -/
def mkind (f : Nat) : Nat := if f = 0 ∨ f = 1 ∨ f = 13 ∨ f = 17 ∨ f = 26 ∨ f = 27 ∨ f = 28 ∨ f = 36 ∨ f = 37 ∨ f = 38 then 0 else if f = 10 ∨ f = 25 then 101 else if f = 9 ∨ f = 30 ∨ f = 39 then 102 else 100
def mlen (f : Nat) : Nat := if f < 12 then 150 else if f = 12 then 3000 else if f < 26 then 20 else if f = 29 then 10 else if f = 39 then 20 else 80
def mval (f : Nat) (x : Int) : XE := if mkind f = 101 then .inr (.inl (Int64.ofInt x)) else .inl (xk x)
def marr (I : Nat → Nat → Int) (f : Nat) : XO := (mkind f, (List.range (mlen f)).map fun i => mval f (I f i))
def mobj (ad : Nat → Nat) (I : Nat → Nat → Int) : XO := (12, (List.range 41).map fun f => if mkind f = 0 then .inl (xk (I f 0)) else .inr (.inr (some (ad f))))
/-- the addresses are apart -/
def MA (m : Nat) (ad : Nat → Nat) : Prop := (∀ f, f < 41 → mkind f ≠ 0 → ad f ≠ m) ∧ ∀ f g, f < 41 → g < 41 → mkind f ≠ 0 → mkind g ≠ 0 → ad f = ad g → f = g
def misA (ad : Nat → Nat) (q f : Nat) : Prop := f < 41 ∧ mkind f ≠ 0 ∧ ad f = q
noncomputable def mkH (m : Nat) (ad : Nat → Nat) (I : Nat → Nat → Int) (h : Nat → Option XO) (q : Nat) : Option XO :=
  if q = m then some (mobj ad I) else @dite (Option XO) (∃ f, misA ad q f) (Classical.propDecidable _) (fun e => some (marr I (Classical.choose e))) (fun _ => h q)
noncomputable def MS (m : Nat) (ad : Nat → Nat) (I : Nat → Nat → Int) (σ : XH) : XH := (mkH m ad I σ.1, σ.2)
section MO
variable {m : Nat} {ad : Nat → Nat} {I : Nat → Nat → Int} {h : Nat → Option XO} {σ : XH}
theorem mkH_m : mkH m ad I h m = some (mobj ad I) := by simp [mkH]
theorem mkH_a (hA : MA m ad) {f : Nat} (hf : f < 41) (hk : mkind f ≠ 0) : mkH m ad I h (ad f) = some (marr I f) := by
  unfold mkH
  rw [if_neg (hA.1 f hf hk)]
  have he : ∃ g, misA ad (ad f) g := ⟨f, hf, hk, rfl⟩
  rw [dif_pos he]
  obtain ⟨h1, h2, h3⟩ := Classical.choose_spec he
  rw [hA.2 _ f h1 hf h2 hk h3]
theorem mkH_o {q : Nat} (h1 : q ≠ m) (h2 : ∀ f, f < 41 → mkind f ≠ 0 → ad f ≠ q) : mkH m ad I h q = h q := by
  unfold mkH
  rw [if_neg h1, dif_neg]
  rintro ⟨f, a, b, c⟩
  exact h2 f a b c
theorem rm_set {α : Type} {L n : Nat} {g : Nat → α} {v : α} : ((List.range L).map g).set n v = (List.range L).map fun i => if i = n then v else g i := by
  apply List.ext_getElem?
  intro j
  rw [List.getElem?_set, List.getElem?_map, List.getElem?_map, List.length_map, List.length_range]
  by_cases hj : j < L
  · rw [List.getElem?_range hj]
    by_cases hn : n = j
    · subst hn; simp [hj]
    · simp [hn, Ne.symm hn]
  · rw [List.getElem?_eq_none (l := List.range L) (by simpa using Nat.le_of_not_lt hj)]
    by_cases hn : n = j
    · subst hn; simp [hj]
    · simp [hn]
theorem rm_get {α : Type} {L n : Nat} {g : Nat → α} (hn : n < L) : ((List.range L).map g)[n]? = some (g n) := by
  rw [List.getElem?_map, List.getElem?_range hn]
  rfl
theorem mlen_lt (f : Nat) : mlen f < 2147483648 := by
  unfold mlen
  repeat' split
  all_goals decide
/-! reads -/
theorem MS.gS {f : Nat} (hf : f < 41) (hk : mkind f = 0) : xgi (MS m ad I σ) (some m) 12 f = some (xk (I f 0)) := by
  unfold xgi xgt MS
  simp only [mkH_m, mobj, if_true]
  rw [rm_get hf]
  simp [hk, xtoI]
theorem MS.gR {f : Nat} (hf : f < 41) (hk : mkind f ≠ 0) : xgr (MS m ad I σ) (some m) 12 f = some (some (ad f)) := by
  unfold xgr xgt MS
  simp only [mkH_m, mobj, if_true]
  rw [rm_get hf]
  simp [hk, xtoR]
theorem MS.gd {K : XR} : xgd (MS m ad I σ) (some m) 12 K = K := by
  unfold xgd MS
  simp only [mkH_m, mobj, if_true]
theorem MS.at (hA : MA m ad) {f n : Nat} (hf : f < 41) (hk : mkind f ≠ 0) (hn : n < mlen f) : xat (MS m ad I σ) (some (ad f)) (xk n) = some (mkind f, mval f (I f n)) := by
  unfold xat MS
  have hl := mlen_lt f
  simp only [mkH_a hA hf hk, marr, List.length_map, List.length_range]
  rw [if_pos (xix_k hn (by omega)), xk_clamp (by omega), rm_get hn]
  rfl
theorem MS.aI (hA : MA m ad) {f n : Nat} (hf : f < 41) (hk : mkind f = 100) (hn : n < mlen f) : xai (MS m ad I σ) (some (ad f)) (xk n) = some (xk (I f n)) := by
  unfold xai
  rw [MS.at hA hf (by omega) hn]
  simp [hk, mval, xtoI]
theorem MS.aZ (hA : MA m ad) {f n : Nat} (hf : f < 41) (hk : mkind f = 102) (hn : n < mlen f) : xaz (MS m ad I σ) (some (ad f)) (xk n) = some (xk (I f n)) := by
  unfold xaz
  rw [MS.at hA hf (by omega) hn]
  simp [hk, mval, xtoI]
theorem MS.aL (hA : MA m ad) {f n : Nat} (hf : f < 41) (hk : mkind f = 101) (hn : n < mlen f) : xal (MS m ad I σ) (some (ad f)) (xk n) = some (Int64.ofInt (I f n)) := by
  unfold xal
  rw [MS.at hA hf (by omega) hn]
  simp [hk, mval, xtoL]
/-! writes -/
theorem marr_other {f n g : Nat} {x : Int} (hg : g ≠ f) : marr (up2 I f n x) g = marr I g := by
  unfold marr
  congr 1
  apply List.map_congr_left
  intro i _
  rw [up2_k hg]
theorem mobj_arr {f n : Nat} {x : Int} (hk : mkind f ≠ 0) : mobj ad (up2 I f n x) = mobj ad I := by
  unfold mobj
  congr 1
  apply List.map_congr_left
  intro g _
  by_cases hg : g = f
  · subst hg
    rw [if_neg hk, if_neg hk]
  · rw [up2_k hg]
theorem MS.sA (hA : MA m ad) {f n : Nat} {x : Int} (hf : f < 41) (hk : mkind f ≠ 0) (hn : n < mlen f) : xas (MS m ad I σ) (some (ad f)) (mkind f) (xk n) (mval f x) = some (MS m ad (up2 I f n x) σ) := by
  have hl := mlen_lt f
  unfold xas MS
  simp only [mkH_a hA hf hk, marr, List.length_map, List.length_range]
  rw [if_pos ⟨trivial, xix_k hn (by omega)⟩, xk_clamp (by omega)]
  unfold xset
  congr 2
  funext q
  unfold xup
  dsimp only
  by_cases hq : q = ad f
  · subst hq
    rw [if_pos rfl, mkH_a hA hf hk, rm_set]
    unfold marr
    congr 2
    apply List.map_congr_left
    intro i _
    by_cases hi : i = n
    · subst hi; rw [if_pos rfl, up2_s]
    · rw [if_neg hi, up2_n (fun z => hi z.2)]
  · rw [if_neg hq]
    by_cases hm : q = m
    · subst hm
      rw [mkH_m, mkH_m, mobj_arr hk]
    · by_cases he : ∃ g, misA ad q g
      · obtain ⟨g, g1, g2, rfl⟩ := he
        rw [mkH_a hA g1 g2, mkH_a hA g1 g2, marr_other (fun z => hq (by rw [z]))]
      · rw [mkH_o hm (fun g a b c => he ⟨g, a, b, c⟩), mkH_o hm (fun g a b c => he ⟨g, a, b, c⟩)]
theorem MS.sI (hA : MA m ad) {f n : Nat} {x : Int} (hf : f < 41) (hk : mkind f = 100) (hn : n < mlen f) : xsi (MS m ad I σ) (some (ad f)) (xk n) (xk x) = some (MS m ad (up2 I f n x) σ) := by
  have := MS.sA (I := I) (σ := σ) hA (x := x) hf (by omega) hn
  rw [hk] at this
  unfold xsi
  rw [← this]
  simp [mval, hk]
theorem MS.sL (hA : MA m ad) {f n : Nat} {x : Int} (hf : f < 41) (hk : mkind f = 101) (hn : n < mlen f) : xsl (MS m ad I σ) (some (ad f)) (xk n) (Int64.ofInt x) = some (MS m ad (up2 I f n x) σ) := by
  have := MS.sA (I := I) (σ := σ) hA (x := x) hf (by omega) hn
  rw [hk] at this
  unfold xsl
  rw [← this]
  simp [mval, hk]
theorem MS.sZ (hA : MA m ad) {f n : Nat} {x : Int} (hf : f < 41) (hk : mkind f = 102) (hn : n < mlen f) (hx : x = 0 ∨ x = 1) : xsz (MS m ad I σ) (some (ad f)) (xk n) (xk x) = some (MS m ad (up2 I f n x) σ) := by
  have := MS.sA (I := I) (σ := σ) hA (x := x) hf (by omega) hn
  rw [hk] at this
  unfold xsz
  have hx2 : xk x = 0 ∨ xk x = 1 := by
    rcases hx with rfl | rfl
    · exact Or.inl xk_zero
    · exact Or.inr xk_one
  rw [if_pos hx2, ← this]
  simp [mval, hk]
theorem MS.sS {f : Nat} {x : Int} (hf : f < 41) (hk : mkind f = 0) : xpt (MS m ad I σ) (some m) 12 f (.inl (xk x)) = some (MS m ad (up2 I f 0 x) σ) := by
  unfold xpt MS
  simp only [mkH_m, mobj, List.length_map, List.length_range]
  rw [if_pos ⟨trivial, hf⟩]
  unfold xset
  congr 2
  funext q
  unfold xup
  dsimp only
  by_cases hq : q = m
  · subst hq
    rw [if_pos rfl, mkH_m, rm_set]
    unfold mobj
    congr 2
    apply List.map_congr_left
    intro g _
    by_cases hg : g = f
    · subst hg; rw [if_pos rfl, if_pos hk, up2_s]
    · rw [if_neg hg, up2_k hg]
  · rw [if_neg hq]
    unfold mkH
    rw [if_neg hq, if_neg hq]
    by_cases he : ∃ g, misA ad q g
    · rw [dif_pos he, dif_pos he]
      have hg := (Classical.choose_spec he).2.1
      rw [marr_other (fun z => hg (by rw [z]; exact hk))]
    · rw [dif_neg he, dif_neg he]
end MO
