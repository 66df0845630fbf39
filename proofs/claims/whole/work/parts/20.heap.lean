/-! how the machine's heap and locals hold the interpreter's -/
def xv (e : XE) : Value := match e with
  | .inl x => .int x
  | .inr (.inl x) => .long x
  | .inr (.inr r) => va_rf r
theorem xv_i (x : Int32) : xv (.inl x) = .int x := rfl
theorem xv_l (x : Int64) : xv (.inr (.inl x)) = .long x := rfl
theorem xv_r (r : Option Nat) : xv (.inr (.inr r)) = va_rf r := rfl
/-- the component type of an array's kind -/
def xty (t : Nat) : FieldType := match t with
  | 100 => .int
  | 101 => .long
  | 102 => .boolean
  | 103 => .object RX8
  | 104 => .object RX7
  | 105 => .object RX1
  | 106 => .object RX4
  | _ => .object RX10
def XAt (U : State) (D : va_G) (H : Heap) (a : Nat) (o : XO) : Prop :=
  (∃ r : vw_C, vwCl[o.1]? = some r ∧ r.2.2 = o.2.length ∧ t_OB a (D.1 o.1) o.2.length (D.2 o.1) H (vp_V (o.2.map xv))) ∨
  (100 ≤ o.1 ∧ o.1 < 108 ∧ ∃ cA : ClassId, ArrOfT U cA (xty o.1) ∧ (103 ≤ o.1 → va_RA U cA (xty o.1)) ∧ H[a]? = some (arrV cA o.2.length (vp_V (o.2.map xv)))) ∨
  (o.1 = 200 ∧ ∃ cell : Cell, H[a]? = some cell ∧ U.isArrayOf cell .int ∧ cell.vm ≠ .unknown ∧ (o.2.length ≤ cell.slots.size ∧ cell.slots.size.toInt32 = nI o.2.length) ∧ ∀ j, j < o.2.length → cell.slots[j]? = some (vp_V (o.2.map xv) j))
/-- the two static arrays' addresses -/
def XZ (U : State) (z : Nat × Nat) : Prop := va_Z "TaskTrees" "SET_LEAST" "[I" (.ref z.1) (fun q => U.heap.size ≤ q) U U.heap ∧ va_Z "TaskTrees" "SET_MOST" "[I" (.ref z.2) (fun q => U.heap.size ≤ q) U U.heap
def XRep (U : State) (D : va_G) (σ : XH) (H : Heap) : Prop :=
  XZ U σ.2.2.2 ∧ H.size = σ.2.1 ∧ U.heap.size ≤ H.size ∧ (∀ q : Nat, q < U.heap.size → H[q]? = U.heap[q]?) ∧ ∀ (a : Nat) (o : XO), σ.1 a = some o → XAt U D H a o ∧ (o.1 = 200 ∨ U.heap.size ≤ a)
theorem XAt.kept {U : State} {D : va_G} {H H1 : Heap} {a : Nat} {o : XO} (h : XAt U D H a o) (hq : H1[a]? = H[a]?) : XAt U D H1 a o := by
  rcases h with ⟨r, h1, h2, h3⟩ | ⟨h1, h2, cA, h3, h4, h5⟩ | ⟨h1, cell, h2, h3⟩
  · exact Or.inl ⟨r, h1, h2, h3.kept hq⟩
  · exact Or.inr (Or.inl ⟨h1, h2, cA, h3, h4, hq.trans h5⟩)
  · exact Or.inr (Or.inr ⟨h1, cell, hq.trans h2, h3⟩)
theorem XAt.lt {U : State} {D : va_G} {H : Heap} {a : Nat} {o : XO} (h : XAt U D H a o) : a < H.size := by
  rcases h with ⟨r, h1, h2, cell, h3, -⟩ | ⟨h1, h2, cA, h3, h4, h5⟩ | ⟨h1, cell, h2, h3⟩
  · exact (Array.getElem?_eq_some_iff.mp h3).1
  · exact (Array.getElem?_eq_some_iff.mp h5).1
  · exact (Array.getElem?_eq_some_iff.mp h2).1
theorem XRep.put {U : State} {D : va_G} {σ : XH} {H H1 : Heap} {a : Nat} {o o1 : XO} (h : XRep U D σ H) (ha : σ.1 a = some o) (hn : o.1 ≠ 200) (h1 : XAt U D H1 a o1) (z : H1.size = H.size) (oq : ∀ q : Nat, q ≠ a → H1[q]? = H[q]?) : XRep U D (xset σ a o1) H1 := by
  obtain ⟨hz, a1, a2, a3, a4⟩ := h
  have hb : U.heap.size ≤ a := by
    rcases (a4 a o ha).2 with q | q
    · exact absurd q hn
    · exact q
  refine ⟨hz, z.trans a1, by rw [z]; exact a2, fun q hq => (oq q (by omega)).trans (a3 q hq), fun b q hq => ?_⟩
  by_cases hba : b = a
  · subst hba
    have hq : (if b = b then some o1 else σ.1 b) = some q := hq
    rw [if_pos rfl] at hq
    cases hq
    exact ⟨h1, Or.inr hb⟩
  · have hq : (if b = a then some o1 else σ.1 b) = some q := hq
    rw [if_neg hba] at hq
    exact ⟨(a4 b q hq).1.kept (oq b hba), (a4 b q hq).2⟩
theorem XRep.push {U : State} {D : va_G} {σ : XH} {H H1 : Heap} {o1 : XO} (h : XRep U D σ H) (h1 : XAt U D H1 H.size o1) (z : H1.size = H.size + 1) (oq : ∀ q : Nat, q < H.size → H1[q]? = H[q]?) : XRep U D (xpush σ o1) H1 := by
  obtain ⟨hz, a1, a2, a3, a4⟩ := h
  refine ⟨hz, by rw [z, a1]; rfl, by omega, fun q hq => (oq q (by omega)).trans (a3 q hq), fun b q hq => ?_⟩
  by_cases hba : b = σ.2.1
  · have hq : (if b = σ.2.1 then some o1 else σ.1 b) = some q := hq
    rw [if_pos hba] at hq
    cases hq
    rw [hba, ← a1]
    exact ⟨h1, Or.inr a2⟩
  · have hq : (if b = σ.2.1 then some o1 else σ.1 b) = some q := hq
    rw [if_neg hba] at hq
    exact ⟨(a4 b q hq).1.kept (oq b (a4 b q hq).1.lt), (a4 b q hq).2⟩
/-- an exception's cell: nothing that the interpreter sees -/
theorem XRep.skip {U : State} {D : va_G} {σ : XH} {H H1 : Heap} {n : Nat} (h : XRep U D σ H) (z : H1.size = H.size + 1) (oq : ∀ q : Nat, q < H.size → H1[q]? = H[q]?) : XRep U D (σ.1, σ.2.1 + 1, σ.2.2.1 + n, σ.2.2.2) H1 := by
  obtain ⟨hz, a1, a2, a3, a4⟩ := h
  exact ⟨hz, by rw [z, a1], by omega, fun q hq => (oq q (by omega)).trans (a3 q hq), fun b q hq => ⟨(a4 b q hq).1.kept (oq b (a4 b q hq).1.lt), (a4 b q hq).2⟩⟩
/-! the locals -/
def xhl (ls : Array Slot) (n : Nat) (l : XL) : Prop := ls.size = n ∧ lv_wf ls ∧ ∀ (i : Nat) (e : XE), l[i]? = some (some e) → ls[i]? = some (.val (xv e))
def xla (l : XL) : List (Nat × Value) := (List.range l.length).filterMap fun i => match l[i]? with
  | some (some e) => some (i, xv e)
  | _ => none
theorem xla_mem {l : XL} {i : Nat} {v : Value} : (i, v) ∈ xla l ↔ ∃ e, l[i]? = some (some e) ∧ v = xv e := by
  unfold xla
  rw [List.mem_filterMap]
  constructor
  · rintro ⟨j, -, hj⟩
    cases hl : l[j]? with
    | none => rw [hl] at hj; cases hj
    | some q =>
      cases q with
      | none => rw [hl] at hj; cases hj
      | some e => rw [hl] at hj; cases hj; exact ⟨e, hl, rfl⟩
  · rintro ⟨e, he, rfl⟩
    refine ⟨i, List.mem_range.mpr (List.getElem?_eq_some_iff.mp he).1, ?_⟩
    rw [he]
theorem xhl.has {ls : Array Slot} {n : Nat} {l : XL} (h : xhl ls n l) : lv_has ls n (xla l) := by
  refine ⟨h.1, h.2.1, fun q hq => ?_⟩
  obtain ⟨i, v⟩ := q
  obtain ⟨e, he, rfl⟩ := xla_mem.mp hq
  exact h.2.2 i e he
theorem xhl.get {ls : Array Slot} {n : Nat} {l : XL} (h : xhl ls n l) {i : Nat} {e : XE} (hg : xlg l i = some e) : ls[i]? = some (.val (xv e)) := by
  refine h.2.2 i e ?_
  unfold xlg at hg
  split at hg
  · cases hg; assumption
  · cases hg
theorem xlg_lt {l : XL} {i : Nat} {e : XE} (hg : xlg l i = some e) : l[i]? = some (some e) := by
  unfold xlg at hg
  split at hg
  · cases hg; assumption
  · cases hg
theorem xcat2_false {l : XL} {j : Nat} {e : XE} (h : xcat2 l j = false) (he : l[j]? = some (some e)) : (xv e).category = 1 := by
  unfold xcat2 at h
  rw [he] at h
  rcases e with x | x | x
  · rfl
  · cases h
  · cases x <;> rfl
theorem xclr_get {l : XL} {i j : Nat} {e : XE} (h : (xclr l i)[j]? = some (some e)) : l[j]? = some (some e) ∧ (j + 1 = i → (xv e).category = 1) := by
  cases i with
  | zero => exact ⟨h, fun q => by omega⟩
  | succ i =>
    have h : (bif xcat2 l i then l.set i none else l)[j]? = some (some e) := h
    cases hc : xcat2 l i with
    | true =>
      rw [hc] at h
      have h : (l.set i none)[j]? = some (some e) := h
      by_cases hj : i = j
      · subst hj
        rw [List.getElem?_set] at h
        simp at h
      · rw [List.getElem?_set_ne hj] at h
        exact ⟨h, fun q => by omega⟩
    | false =>
      rw [hc] at h
      have h : l[j]? = some (some e) := h
      exact ⟨h, fun q => by have : j = i := by omega
                            subst this; exact xcat2_false hc h⟩
theorem xst1_of {ls : Array Slot} {n : Nat} {l : XL} {i : Nat} {e : XE} (h : lv_has ls n ((i, xv e) :: (xla l).filter (fun q => !(q.1 == i) && !(q.1 + 1 == i && q.2.category == 2)))) : xhl ls n (xst1 l i e) := by
  refine ⟨h.1, h.2.1, fun j e' he => ?_⟩
  unfold xst1 at he
  by_cases hj : i = j
  · subst hj
    rw [List.getElem?_set] at he
    simp only [if_true] at he
    split at he
    · cases he; exact h.2.2 _ List.mem_cons_self
    · cases he
  · rw [List.getElem?_set_ne hj] at he
    obtain ⟨h1, h2⟩ := xclr_get he
    refine h.2.2 (j, xv e') (List.mem_cons_of_mem _ (List.mem_filter.mpr ⟨xla_mem.mpr ⟨e', h1, rfl⟩, ?_⟩))
    by_cases h3 : j + 1 = i
    · simp [h2 h3, Ne.symm hj]
    · simp [h3, Ne.symm hj]
theorem xst2_of {ls : Array Slot} {n : Nat} {l : XL} {i : Nat} {x : Int64} (h : lv_has ls n ((i, .long x) :: (xla l).filter (fun q => !(q.1 == i) && (!(q.1 == i + 1) && !(q.1 + 1 == i && q.2.category == 2))))) : xhl ls n (xst2 l i x) := by
  refine ⟨h.1, h.2.1, fun j e' he => ?_⟩
  unfold xst2 at he
  by_cases h4 : i + 1 = j
  · subst h4
    rw [List.getElem?_set] at he
    simp at he
  rw [List.getElem?_set_ne h4] at he
  by_cases hj : i = j
  · subst hj
    rw [List.getElem?_set] at he
    simp only [if_true] at he
    split at he
    · cases he; exact h.2.2 _ List.mem_cons_self
    · cases he
  · rw [List.getElem?_set_ne hj] at he
    obtain ⟨h1, h2⟩ := xclr_get he
    refine h.2.2 (j, xv e') (List.mem_cons_of_mem _ (List.mem_filter.mpr ⟨xla_mem.mpr ⟨e', h1, rfl⟩, ?_⟩))
    by_cases h3 : j + 1 = i
    · simp [h2 h3, Ne.symm hj, Ne.symm h4]
    · simp [h3, Ne.symm hj, Ne.symm h4]
theorem xmsk_get : ∀ (bs : List Bool) (l : XL) (i : Nat) (e : XE), (xmsk bs l)[i]? = some (some e) → l[i]? = some (some e)
  | [], l, i, e, h => by cases l <;> simp [xmsk] at h
  | b :: bs, [], i, e, h => by simp [xmsk] at h
  | b :: bs, x :: l, 0, e, h => by
    have h : some (bif b then x else none) = some (some e) := h
    cases b with
    | true => exact h
    | false => cases h
  | b :: bs, x :: l, i + 1, e, h => xmsk_get bs l i e h
theorem xhl.msk {ls : Array Slot} {n : Nat} {l : XL} (h : xhl ls n l) (bs : List Bool) : xhl ls n (xmsk bs l) := ⟨h.1, h.2.1, fun i e he => h.2.2 i e (xmsk_get bs l i e he)⟩
/-! the entry -/
theorem xent_get : ∀ (es : List XE) (k i : Nat) (e : XE), (xent es)[i]? = some (some e) → (k + i, xv e) ∈ lv_args k (es.map xv)
  | [], k, i, e, h => by simp [xent] at h
  | x :: es, k, i, e, h => by
    rcases x with x | x | x
    · have h : (some (Sum.inl x) :: xent es)[i]? = some (some e) := h
      show (k + i, xv e) ∈ (k, Value.int x) :: lv_args (k + 1) (es.map xv)
      cases i with
      | zero => cases h; exact List.mem_cons_self
      | succ i =>
        have := xent_get es (k + 1) i e h
        rw [show k + (i + 1) = k + 1 + i by omega]
        exact List.mem_cons_of_mem _ this
    · have h : (some (Sum.inr (Sum.inl x)) :: none :: xent es)[i]? = some (some e) := h
      show (k + i, xv e) ∈ (k, Value.long x) :: lv_args (k + 2) (es.map xv)
      cases i with
      | zero => cases h; exact List.mem_cons_self
      | succ i =>
        cases i with
        | zero => cases h
        | succ i =>
          have := xent_get es (k + 2) i e h
          rw [show k + (i + 1 + 1) = k + 2 + i by omega]
          exact List.mem_cons_of_mem _ this
    · have h : (some (Sum.inr (Sum.inr x)) :: xent es)[i]? = some (some e) := h
      have hc : (va_rf x).category = 1 := by cases x <;> rfl
      show (k + i, xv e) ∈ (k, va_rf x) :: lv_args (if (va_rf x).category = 2 then k + 2 else k + 1) (es.map xv)
      rw [hc]
      cases i with
      | zero => cases h; exact List.mem_cons_self
      | succ i =>
        have := xent_get es (k + 1) i e h
        rw [show k + (i + 1) = k + 1 + i by omega]
        exact List.mem_cons_of_mem _ this
theorem xent_len : ∀ es : List XE, (lg_sl (es.map xv)).length = (xent es).length
  | [] => rfl
  | x :: es => by
    rcases x with x | x | x
    · show (lg_sl (Value.int x :: es.map xv)).length = (xent es).length + 1
      rw [← xent_len es]; simp [lg_sl, Value.category] <;> omega
    · show (lg_sl (Value.long x :: es.map xv)).length = (xent es).length + 1 + 1
      rw [← xent_len es]; simp [lg_sl, Value.category] <;> omega
    · have hc : (va_rf x).category = 1 := by cases x <;> rfl
      show (lg_sl (va_rf x :: es.map xv)).length = (xent es).length + 1
      rw [← xent_len es]; cases x <;> simp [lg_sl, va_rf, Value.category] <;> omega
theorem xhl_entry (es : List XE) {n : Nat} (h : (xent es).length ≤ n) : xhl ((lg_sl (es.map xv) ++ List.replicate (n - (lg_sl (es.map xv)).length) Slot.unset).toArray) n (xpad n (xent es)) := by
  have h1 := lv_entry (es.map xv) (n := n) (by rw [xent_len]; exact h)
  refine ⟨h1.1, h1.2.1, fun i e he => ?_⟩
  unfold xpad at he
  rw [List.getElem?_append] at he
  split at he
  · have := h1.2.2 _ (xent_get es 0 i e he)
    rwa [Nat.zero_add] at this
  · rw [List.getElem?_replicate] at he
    split at he
    · cases he
    · cases he
