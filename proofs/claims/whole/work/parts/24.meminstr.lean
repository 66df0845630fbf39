/-! instructions on memory -/
section XN
variable {p : Program} {l : Launch} {e : Env} {R : Room} {s : State} {m : MethodId} {args : Array Value} {below : List Frame} {meth : Method} {c : Code} {U : State} {D : va_G} {P : State → Prop}
theorem xix_true {i : Int32} {n : Nat} (h : xix i n = true) : ¬ i < 0 ∧ i.toNatClampNeg < n := by
  unfold xix at h
  rw [Bool.and_eq_true, decide_eq_true_eq, decide_eq_true_eq] at h
  exact ⟨k2_nlt h.1, h.2⟩
theorem xat_some {σ : XH} {r : Option Nat} {i : Int32} {q : Nat × XE} (h : xat σ r i = some q) : ∃ a o, r = some a ∧ σ.1 a = some o ∧ q.1 = o.1 ∧ ¬ i < 0 ∧ i.toNatClampNeg < o.2.length ∧ o.2[i.toNatClampNeg]? = some q.2 := by
  cases r with
  | none => cases h
  | some a =>
    have h : (match σ.1 a with
      | none => none
      | some o => if xix i o.2.length then (o.2[i.toNatClampNeg]?).map (fun e => (o.1, e)) else none) = some q := h
    cases ho : σ.1 a with
    | none => rw [ho] at h; cases h
    | some o =>
      rw [ho] at h
      have h : (if xix i o.2.length = true then (o.2[i.toNatClampNeg]?).map (fun e => (o.1, e)) else none) = some q := h
      by_cases ht : xix i o.2.length = true
      · rw [if_pos ht] at h
        obtain ⟨h1, h2⟩ := xix_true ht
        cases hg : o.2[i.toNatClampNeg]? with
        | none => rw [hg] at h; cases h
        | some y => rw [hg] at h; cases h; exact ⟨a, o, rfl, ho, rfl, h1, h2, hg⟩
      · rw [if_neg ht] at h; cases h
theorem xtoI_some {y : XE} {x : Int32} (h : xtoI y = some x) : y = .inl x := by
  rcases y with y | y | y
  · have h : some y = some x := h
    cases h; rfl
  · cases h
  · cases h
theorem xtoL_some {y : XE} {x : Int64} (h : xtoL y = some x) : y = .inr (.inl x) := by
  rcases y with y | y | y
  · cases h
  · have h : some y = some x := h
    cases h; rfl
  · cases h
theorem xtoR_some {y : XE} {x : Option Nat} (h : xtoR y = some x) : y = .inr (.inr x) := by
  rcases y with y | y | y
  · cases h
  · cases h
  · have h : some y = some x := h
    cases h; rfl
theorem xld {α : Type} {σ : XH} {r : Option Nat} {i : Int32} {x : α} {P : Nat → Prop} {f : XE → Option α} {_ : ∀ n, Decidable (P n)} (h : ((xat σ r i).bind fun q => if P q.1 then f q.2 else none) = some x) : ∃ a o y, r = some a ∧ σ.1 a = some o ∧ P o.1 ∧ ¬ i < 0 ∧ i.toNatClampNeg < o.2.length ∧ o.2[i.toNatClampNeg]? = some y ∧ f y = some x := by
  obtain ⟨q, h1, h2⟩ := xbind_some h
  obtain ⟨a, o, g1, g2, g3, g4, g5, g6⟩ := xat_some h1
  have h2 : (if P q.1 then f q.2 else none) = some x := h2
  by_cases hp : P q.1
  · rw [if_pos hp] at h2
    exact ⟨a, o, q.2, g1, g2, g3 ▸ hp, g4, g5, g6, h2⟩
  · rw [if_neg hp] at h2; cases h2
theorem xas_some {σ σ1 : XH} {r : Option Nat} {t : Nat} {i : Int32} {x : XE} (h : xas σ r t i x = some σ1) : ∃ a o, r = some a ∧ σ.1 a = some o ∧ o.1 = t ∧ ¬ i < 0 ∧ i.toNatClampNeg < o.2.length ∧ σ1 = xset σ a (t, o.2.set i.toNatClampNeg x) := by
  cases r with
  | none => cases h
  | some a =>
    have h : (match σ.1 a with
      | none => none
      | some o => if o.1 = t ∧ xix i o.2.length = true then some (xset σ a (t, o.2.set i.toNatClampNeg x)) else none) = some σ1 := h
    cases ho : σ.1 a with
    | none => rw [ho] at h; cases h
    | some o =>
      rw [ho] at h
      have h : (if o.1 = t ∧ xix i o.2.length = true then some (xset σ a (t, o.2.set i.toNatClampNeg x)) else none) = some σ1 := h
      by_cases ht : o.1 = t ∧ xix i o.2.length = true
      · rw [if_pos ht] at h
        cases h
        obtain ⟨h1, h2⟩ := xix_true ht.2
        exact ⟨a, o, rfl, ho, ht.1, h1, h2, rfl⟩
      · rw [if_neg ht] at h; cases h
def xtz (t : Nat) : FieldType := if t = 200 then .int else xty t
theorem xvV {o : List XE} {j : Nat} {x : XE} (h : o[j]? = some x) : vp_V (o.map xv) j = xv x := by
  unfold vp_V
  rw [List.getD_eq_getElem?_getD, List.getElem?_map, h]
  rfl
theorem arrV_congr {cA : ClassId} {N : Nat} {f g : Nat → Value} (h : ∀ j, j < N → f j = g j) : arrV cA N f = arrV cA N g := by
  unfold arrV
  congr 2
  funext j
  exact h j.1 j.2
theorem XRep.cell {σ : XH} {H : Heap} {a : Nat} {o : XO} (hal : U.vm.Alike s.vm) (hR : XRep U D σ H) (ho : σ.1 a = some o) (h0 : 100 ≤ o.1) : ∃ cell : Cell, H[a]? = some cell ∧ s.isArrayOf cell (xtz o.1) ∧ cell.vm ≠ .unknown ∧ (o.2.length ≤ cell.slots.size ∧ cell.slots.size.toInt32 = nI o.2.length) ∧ ∀ (j : Nat) (x : XE), o.2[j]? = some x → cell.slots[j]? = some (xv x) := by
  rcases (hR.2.2.2.2 a o ho).1 with ⟨r', h1, -⟩ | ⟨h1, h2, cA, h3, h4, h5⟩ | ⟨h1, cell, h2, h3, h4, h5, h6⟩
  · have := xcl_lt h1; omega
  · refine ⟨_, h5, ?_, (fun q => by cases q), by rw [arrV_size]; exact ⟨Nat.le_refl _, rfl⟩, fun j x hx => ?_⟩
    · unfold xtz
      rw [if_neg (by omega)]
      exact arrOfT_moved hal h3 _ _
    · rw [arrV_read _ _ (List.getElem?_eq_some_iff.mp hx).1, xvV hx]
  · refine ⟨cell, h2, ?_, h4, h5, fun j x hx => ?_⟩
    · unfold xtz
      rw [if_pos h1]
      exact State.isArrayOf_alike hal h3
    · rw [h6 j (List.getElem?_eq_some_iff.mp hx).1, xvV hx]
theorem XRep.ast {σ : XH} {H : Heap} {a j : Nat} {o : XO} (hR : XRep U D σ H) (ho : σ.1 a = some o) (h1 : 100 ≤ o.1) (h2 : o.1 < 108) (hj : j < o.2.length) : ∃ cA : ClassId, H[a]? = some (arrV cA o.2.length (vp_V (o.2.map xv))) ∧ ArrOfT U cA (xty o.1) ∧ (103 ≤ o.1 → va_RA U cA (xty o.1)) ∧ U.heap.size ≤ a ∧
    ∀ (v : XE) (H1 : Heap), H1[a]? = some ((arrV cA o.2.length (vp_V (o.2.map xv))).setSlot j (xv v)) → H1.size = H.size → (∀ q : Nat, q ≠ a → H1[q]? = H[q]?) → XRep U D (xset σ a (o.1, o.2.set j v)) H1 := by
  have hb0 : U.heap.size ≤ a := by
    rcases (hR.2.2.2.2 a o ho).2 with q | q
    · omega
    · exact q
  rcases (hR.2.2.2.2 a o ho).1 with ⟨r', g1, -⟩ | ⟨-, -, cA, h3, h4, h5⟩ | ⟨g1, -⟩
  · have := xcl_lt g1; omega
  · refine ⟨cA, h5, h3, h4, hb0, fun v H1 e1 e2 e3 => hR.put ho (by omega) (Or.inr (Or.inl ⟨h1, h2, cA, h3, h4, ?_⟩)) e2 e3⟩
    rw [e1, arrV_store, List.length_set]
    congr 2
    funext q
    rw [vp_updV_set (by simpa using hj), List.map_set]
  · omega
theorem xlocs {locs : List Loc} {a i : Nat} (hlc : ∀ q ∈ locs, U.heap.size ≤ q.base) (ha : U.heap.size ≤ a) : ∀ q ∈ locs ++ [(⟨a, i⟩ : Loc)], U.heap.size ≤ q.base := by
  intro q hq
  rcases List.mem_append.mp hq with h | h
  · exact hlc q h
  · rw [List.mem_singleton] at h
    subst h
    exact ha
end XN
