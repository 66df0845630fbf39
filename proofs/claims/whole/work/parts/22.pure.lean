/-! the machine follows the interpreter: instructions on stack and locals, branches -/
section XA
variable {p : Program} {l : Launch} {e : Env} {R : Room} {s : State} {m : MethodId} {args : Array Value} {below : List Frame} {meth : Method} {c : Code} {U : State} {D : va_G} {P : State → Prop}
theorem xrf_cat (r : Option Nat) : (va_rf r).category = 1 := by cases r <;> rfl
theorem xj_some {pc : Nat} {off : Int} {k : Nat → XR} {res : XV × XH} (h : xj pc off k = some res) : ∃ t : Nat, (pc : Int) + off = (t : Int) ∧ k t = some res := by
  unfold xj at h
  split at h
  · next t ht => exact ⟨t, ht, h⟩
  · cases h
theorem xj_eq {pc t : Nat} {off : Int} {k : Nat → XR} (h : (pc : Int) + off = (t : Int)) : xj pc off k = k t := by
  unfold xj
  rw [h]
theorem xtgt {pc : Nat} {off : Int} (h : 0 ≤ (pc : Int) + off) : (pc : Int) + off = ((((pc : Int) + off).toNat : Nat) : Int) := (Int.toNat_of_nonneg h).symm
theorem xsw_some {x : Int32} {k : Int → XR} {d : Int} {res : XV × XH} : ∀ (os : List Int) (n : Nat), xsw x k d n os = some res → (∃ (j : Nat) (off : Int), os[j]? = some off ∧ x = nI (n + j) ∧ k off = some res) ∨ ((∀ j, j < os.length → x ≠ nI (n + j)) ∧ k d = some res)
  | [], n, h => Or.inr ⟨fun j hj => absurd hj (Nat.not_lt_zero _), h⟩
  | o :: os, n, h => by
    have h : (if x = nI n then k o else xsw x k d (n + 1) os) = some res := h
    by_cases hc : x = nI n
    · rw [if_pos hc] at h
      exact Or.inl ⟨0, o, rfl, hc, h⟩
    · rw [if_neg hc] at h
      rcases xsw_some os (n + 1) h with ⟨j, off, h1, h2, h3⟩ | ⟨h1, h2⟩
      · exact Or.inl ⟨j + 1, off, h1, by rw [h2, show n + 1 + j = n + (j + 1) by omega], h3⟩
      · refine Or.inr ⟨fun j hj => ?_, h2⟩
        cases j with
        | zero => exact hc
        | succ j =>
          have := h1 j (by simpa using hj)
          rwa [show n + 1 + j = n + (j + 1) by omega] at this

set_option maxHeartbeats 1000000 in
theorem xa_iconst {mi u0 len pc : Nat} {Q : State → Prop} {cal : Nat → List XE → XH → XR} {ls : XL} {st : List XE} {σ : XH} {k : Nat → XL → List XE → XH → XR} {res : XV × XH} {n : Int} (K : XK P U D mi p R s m args meth c) (hd : decode (xcb mi) pc = .ok (.iconst n, len)) (ho : xok mi pc (.iconst n) len = true) (h : xop mi cal (.iconst n) len pc ls st σ k = some res)
    (hk : ∀ pc' ls' st' σ', k pc' ls' st' σ' = some res → XG U D mi p l e R s m args below meth c u0 Q pc' ls' st' σ') : XG U D mi p l e R s m args below meth c u0 Q pc ls st σ := by
  obtain ⟨hx, hb, hml, hown, hts, -⟩ := K
  have hl : len = 1 := by simpa [xok] using ho
  subst hl
  intro H locs la hR hL hlc hs hu
  exact lv_iconst (v := xk n) hx hb hd rfl (hk _ _ _ _ h H locs la hR hL hlc hs hu)

set_option maxHeartbeats 1000000 in
theorem xa_bipush {mi u0 len pc : Nat} {Q : State → Prop} {cal : Nat → List XE → XH → XR} {ls : XL} {st : List XE} {σ : XH} {k : Nat → XL → List XE → XH → XR} {res : XV × XH} {n : Int} (K : XK P U D mi p R s m args meth c) (hd : decode (xcb mi) pc = .ok (.bipush n, len)) (ho : xok mi pc (.bipush n) len = true) (h : xop mi cal (.bipush n) len pc ls st σ k = some res)
    (hk : ∀ pc' ls' st' σ', k pc' ls' st' σ' = some res → XG U D mi p l e R s m args below meth c u0 Q pc' ls' st' σ') : XG U D mi p l e R s m args below meth c u0 Q pc ls st σ := by
  obtain ⟨hx, hb, hml, hown, hts, -⟩ := K
  have hl : len = 2 ∧ (Int8.ofInt n).toInt32 = xk n := by simpa [xok] using ho
  obtain ⟨hl, hv⟩ := hl
  subst hl
  intro H locs la hR hL hlc hs hu
  exact lv_bipush (v := xk n) hx hb hd hv (hk _ _ _ _ h H locs la hR hL hlc hs hu)

set_option maxHeartbeats 1000000 in
theorem xa_sipush {mi u0 len pc : Nat} {Q : State → Prop} {cal : Nat → List XE → XH → XR} {ls : XL} {st : List XE} {σ : XH} {k : Nat → XL → List XE → XH → XR} {res : XV × XH} {n : Int} (K : XK P U D mi p R s m args meth c) (hd : decode (xcb mi) pc = .ok (.sipush n, len)) (ho : xok mi pc (.sipush n) len = true) (h : xop mi cal (.sipush n) len pc ls st σ k = some res)
    (hk : ∀ pc' ls' st' σ', k pc' ls' st' σ' = some res → XG U D mi p l e R s m args below meth c u0 Q pc' ls' st' σ') : XG U D mi p l e R s m args below meth c u0 Q pc ls st σ := by
  obtain ⟨hx, hb, hml, hown, hts, -⟩ := K
  have hl : len = 3 ∧ (Int16.ofInt n).toInt32 = xk n := by simpa [xok] using ho
  obtain ⟨hl, hv⟩ := hl
  subst hl
  intro H locs la hR hL hlc hs hu
  exact lv_sipush (v := xk n) hx hb hd hv (hk _ _ _ _ h H locs la hR hL hlc hs hu)

set_option maxHeartbeats 1000000 in
theorem xa_lconst {mi u0 len pc : Nat} {Q : State → Prop} {cal : Nat → List XE → XH → XR} {ls : XL} {st : List XE} {σ : XH} {k : Nat → XL → List XE → XH → XR} {res : XV × XH} {n : Fin 2} (K : XK P U D mi p R s m args meth c) (hd : decode (xcb mi) pc = .ok (.lconst n, len)) (ho : xok mi pc (.lconst n) len = true) (h : xop mi cal (.lconst n) len pc ls st σ k = some res)
    (hk : ∀ pc' ls' st' σ', k pc' ls' st' σ' = some res → XG U D mi p l e R s m args below meth c u0 Q pc' ls' st' σ') : XG U D mi p l e R s m args below meth c u0 Q pc ls st σ := by
  obtain ⟨hx, hb, hml, hown, hts, -⟩ := K
  have hl : len = 1 := by simpa [xok] using ho
  subst hl
  intro H locs la hR hL hlc hs hu
  exact lv_lconst (v := lN n) hx hb hd rfl (hk _ _ _ _ h H locs la hR hL hlc hs hu)

set_option maxHeartbeats 1000000 in
theorem xa_aconst_null {mi u0 len pc : Nat} {Q : State → Prop} {cal : Nat → List XE → XH → XR} {ls : XL} {st : List XE} {σ : XH} {k : Nat → XL → List XE → XH → XR} {res : XV × XH}  (K : XK P U D mi p R s m args meth c) (hd : decode (xcb mi) pc = .ok (.aconst_null, len)) (ho : xok mi pc (.aconst_null) len = true) (h : xop mi cal (.aconst_null) len pc ls st σ k = some res)
    (hk : ∀ pc' ls' st' σ', k pc' ls' st' σ' = some res → XG U D mi p l e R s m args below meth c u0 Q pc' ls' st' σ') : XG U D mi p l e R s m args below meth c u0 Q pc ls st σ := by
  obtain ⟨hx, hb, hml, hown, hts, -⟩ := K
  have hl : len = 1 := by simpa [xok] using ho
  subst hl
  intro H locs la hR hL hlc hs hu
  exact lv_null hx hb hd (hk _ _ _ _ h H locs la hR hL hlc hs hu)

set_option maxHeartbeats 1000000 in
theorem xa_ldc {mi u0 len pc : Nat} {Q : State → Prop} {cal : Nat → List XE → XH → XR} {ls : XL} {st : List XE} {σ : XH} {k : Nat → XL → List XE → XH → XR} {res : XV × XH} {x : Nat} (K : XK P U D mi p R s m args meth c) (hd : decode (xcb mi) pc = .ok (.ldc x, len)) (ho : xok mi pc (.ldc x) len = true) (hS5 : XS5) (h : xop mi cal (.ldc x) len pc ls st σ k = some res)
    (hk : ∀ pc' ls' st' σ', k pc' ls' st' σ' = some res → XG U D mi p l e R s m args below meth c u0 Q pc' ls' st' σ') : XG U D mi p l e R s m args below meth c u0 Q pc ls st σ := by
  obtain ⟨hx, hb, hml, hown, hts, -⟩ := K
  have hl : len = 2 := by simpa [xok] using ho
  subst hl
  have h : (match xqi (xow mi) x with
    | some v => k (pc + 2) ls (.inl v :: st) σ
    | none => none) = some res := h
  split at h
  · next v hv =>
    intro H locs la hR hL hlc hs hu
    exact lv_ldc (v := v) hx hb hown (hts _ (hS5.1 _ _ _ hv)) hd (hk _ _ _ _ h H locs la hR hL hlc hs hu)
  · cases h

set_option maxHeartbeats 1000000 in
theorem xa_ldc_w {mi u0 len pc : Nat} {Q : State → Prop} {cal : Nat → List XE → XH → XR} {ls : XL} {st : List XE} {σ : XH} {k : Nat → XL → List XE → XH → XR} {res : XV × XH} {x : Nat} (K : XK P U D mi p R s m args meth c) (hd : decode (xcb mi) pc = .ok (.ldc_w x, len)) (ho : xok mi pc (.ldc_w x) len = true) (hS5 : XS5) (h : xop mi cal (.ldc_w x) len pc ls st σ k = some res)
    (hk : ∀ pc' ls' st' σ', k pc' ls' st' σ' = some res → XG U D mi p l e R s m args below meth c u0 Q pc' ls' st' σ') : XG U D mi p l e R s m args below meth c u0 Q pc ls st σ := by
  obtain ⟨hx, hb, hml, hown, hts, -⟩ := K
  have hl : len = 3 := by simpa [xok] using ho
  subst hl
  have h : (match xqi (xow mi) x with
    | some v => k (pc + 3) ls (.inl v :: st) σ
    | none => none) = some res := h
  split at h
  · next v hv =>
    intro H locs la hR hL hlc hs hu
    exact lv_ldcw (v := v) hx hb hown (hts _ (hS5.1 _ _ _ hv)) hd (hk _ _ _ _ h H locs la hR hL hlc hs hu)
  · cases h

set_option maxHeartbeats 1000000 in
theorem xa_ldc2_w {mi u0 len pc : Nat} {Q : State → Prop} {cal : Nat → List XE → XH → XR} {ls : XL} {st : List XE} {σ : XH} {k : Nat → XL → List XE → XH → XR} {res : XV × XH} {x : Nat} (K : XK P U D mi p R s m args meth c) (hd : decode (xcb mi) pc = .ok (.ldc2_w x, len)) (ho : xok mi pc (.ldc2_w x) len = true) (hS5 : XS5) (h : xop mi cal (.ldc2_w x) len pc ls st σ k = some res)
    (hk : ∀ pc' ls' st' σ', k pc' ls' st' σ' = some res → XG U D mi p l e R s m args below meth c u0 Q pc' ls' st' σ') : XG U D mi p l e R s m args below meth c u0 Q pc ls st σ := by
  obtain ⟨hx, hb, hml, hown, hts, -⟩ := K
  have hl : len = 3 := by simpa [xok] using ho
  subst hl
  have h : (match xql (xow mi) x with
    | some v => k (pc + 3) ls (.inr (.inl v) :: st) σ
    | none => none) = some res := h
  split at h
  · next v hv =>
    intro H locs la hR hL hlc hs hu
    exact lv_ldc2 (v := v) hx hb hown (hts _ (hS5.2.1 _ _ _ hv)) hd (hk _ _ _ _ h H locs la hR hL hlc hs hu)
  · cases h

set_option maxHeartbeats 1000000 in
theorem xa_iload {mi u0 len pc : Nat} {Q : State → Prop} {cal : Nat → List XE → XH → XR} {ls : XL} {st : List XE} {σ : XH} {k : Nat → XL → List XE → XH → XR} {res : XV × XH} {j : Nat} (K : XK P U D mi p R s m args meth c) (hd : decode (xcb mi) pc = .ok (.iload j, len)) (ho : xok mi pc (.iload j) len = true) (h : xop mi cal (.iload j) len pc ls st σ k = some res)
    (hk : ∀ pc' ls' st' σ', k pc' ls' st' σ' = some res → XG U D mi p l e R s m args below meth c u0 Q pc' ls' st' σ') : XG U D mi p l e R s m args below meth c u0 Q pc ls st σ := by
  obtain ⟨hx, hb, hml, hown, hts, -⟩ := K
  have hl : len = 2 := by simpa [xok] using ho
  subst hl
  have h : (match xlg ls j with
    | some (.inl v) => k (pc + 2) ls (.inl v :: st) σ
    | _ => none) = some res := h
  split at h
  · next v hv =>
    intro H locs la hR hL hlc hs hu
    exact lv_iload (x := v) hx hb hd (hL.get hv) (hk _ _ _ _ h H locs la hR hL hlc hs hu)
  · cases h

set_option maxHeartbeats 1000000 in
theorem xa_iload_n {mi u0 len pc : Nat} {Q : State → Prop} {cal : Nat → List XE → XH → XR} {ls : XL} {st : List XE} {σ : XH} {k : Nat → XL → List XE → XH → XR} {res : XV × XH} {j : Fin 4} (K : XK P U D mi p R s m args meth c) (hd : decode (xcb mi) pc = .ok (.iload_n j, len)) (ho : xok mi pc (.iload_n j) len = true) (h : xop mi cal (.iload_n j) len pc ls st σ k = some res)
    (hk : ∀ pc' ls' st' σ', k pc' ls' st' σ' = some res → XG U D mi p l e R s m args below meth c u0 Q pc' ls' st' σ') : XG U D mi p l e R s m args below meth c u0 Q pc ls st σ := by
  obtain ⟨hx, hb, hml, hown, hts, -⟩ := K
  have hl : len = 1 := by simpa [xok] using ho
  subst hl
  have h : (match xlg ls j with
    | some (.inl v) => k (pc + 1) ls (.inl v :: st) σ
    | _ => none) = some res := h
  split at h
  · next v hv =>
    intro H locs la hR hL hlc hs hu
    exact lv_iload_n (x := v) hx hb hd rfl (hL.get hv) (hk _ _ _ _ h H locs la hR hL hlc hs hu)
  · cases h

set_option maxHeartbeats 1000000 in
theorem xa_lload {mi u0 len pc : Nat} {Q : State → Prop} {cal : Nat → List XE → XH → XR} {ls : XL} {st : List XE} {σ : XH} {k : Nat → XL → List XE → XH → XR} {res : XV × XH} {j : Nat} (K : XK P U D mi p R s m args meth c) (hd : decode (xcb mi) pc = .ok (.lload j, len)) (ho : xok mi pc (.lload j) len = true) (h : xop mi cal (.lload j) len pc ls st σ k = some res)
    (hk : ∀ pc' ls' st' σ', k pc' ls' st' σ' = some res → XG U D mi p l e R s m args below meth c u0 Q pc' ls' st' σ') : XG U D mi p l e R s m args below meth c u0 Q pc ls st σ := by
  obtain ⟨hx, hb, hml, hown, hts, -⟩ := K
  have hl : len = 2 := by simpa [xok] using ho
  subst hl
  have h : (match xlg ls j with
    | some (.inr (.inl v)) => k (pc + 2) ls (.inr (.inl v) :: st) σ
    | _ => none) = some res := h
  split at h
  · next v hv =>
    intro H locs la hR hL hlc hs hu
    exact lv_lload (x := v) hx hb hd (hL.get hv) (hk _ _ _ _ h H locs la hR hL hlc hs hu)
  · cases h

set_option maxHeartbeats 1000000 in
theorem xa_lload_n {mi u0 len pc : Nat} {Q : State → Prop} {cal : Nat → List XE → XH → XR} {ls : XL} {st : List XE} {σ : XH} {k : Nat → XL → List XE → XH → XR} {res : XV × XH} {j : Fin 4} (K : XK P U D mi p R s m args meth c) (hd : decode (xcb mi) pc = .ok (.lload_n j, len)) (ho : xok mi pc (.lload_n j) len = true) (h : xop mi cal (.lload_n j) len pc ls st σ k = some res)
    (hk : ∀ pc' ls' st' σ', k pc' ls' st' σ' = some res → XG U D mi p l e R s m args below meth c u0 Q pc' ls' st' σ') : XG U D mi p l e R s m args below meth c u0 Q pc ls st σ := by
  obtain ⟨hx, hb, hml, hown, hts, -⟩ := K
  have hl : len = 1 := by simpa [xok] using ho
  subst hl
  have h : (match xlg ls j with
    | some (.inr (.inl v)) => k (pc + 1) ls (.inr (.inl v) :: st) σ
    | _ => none) = some res := h
  split at h
  · next v hv =>
    intro H locs la hR hL hlc hs hu
    exact lv_lload_n (x := v) hx hb hd rfl (hL.get hv) (hk _ _ _ _ h H locs la hR hL hlc hs hu)
  · cases h

set_option maxHeartbeats 1000000 in
theorem xa_aload {mi u0 len pc : Nat} {Q : State → Prop} {cal : Nat → List XE → XH → XR} {ls : XL} {st : List XE} {σ : XH} {k : Nat → XL → List XE → XH → XR} {res : XV × XH} {j : Nat} (K : XK P U D mi p R s m args meth c) (hd : decode (xcb mi) pc = .ok (.aload j, len)) (ho : xok mi pc (.aload j) len = true) (h : xop mi cal (.aload j) len pc ls st σ k = some res)
    (hk : ∀ pc' ls' st' σ', k pc' ls' st' σ' = some res → XG U D mi p l e R s m args below meth c u0 Q pc' ls' st' σ') : XG U D mi p l e R s m args below meth c u0 Q pc ls st σ := by
  obtain ⟨hx, hb, hml, hown, hts, -⟩ := K
  have hl : len = 2 := by simpa [xok] using ho
  subst hl
  have h : (match xlg ls j with
    | some (.inr (.inr v)) => k (pc + 2) ls (.inr (.inr v) :: st) σ
    | _ => none) = some res := h
  split at h
  · next v hv =>
    intro H locs la hR hL hlc hs hu
    cases v with
    | none => exact lv_aloadN hx hb hd (hL.get hv) (hk _ _ _ _ h H locs la hR hL hlc hs hu)
    | some a => exact lv_aload (x := a) hx hb hd (hL.get hv) (hk _ _ _ _ h H locs la hR hL hlc hs hu)
  · cases h

set_option maxHeartbeats 1000000 in
theorem xa_aload_n {mi u0 len pc : Nat} {Q : State → Prop} {cal : Nat → List XE → XH → XR} {ls : XL} {st : List XE} {σ : XH} {k : Nat → XL → List XE → XH → XR} {res : XV × XH} {j : Fin 4} (K : XK P U D mi p R s m args meth c) (hd : decode (xcb mi) pc = .ok (.aload_n j, len)) (ho : xok mi pc (.aload_n j) len = true) (h : xop mi cal (.aload_n j) len pc ls st σ k = some res)
    (hk : ∀ pc' ls' st' σ', k pc' ls' st' σ' = some res → XG U D mi p l e R s m args below meth c u0 Q pc' ls' st' σ') : XG U D mi p l e R s m args below meth c u0 Q pc ls st σ := by
  obtain ⟨hx, hb, hml, hown, hts, -⟩ := K
  have hl : len = 1 := by simpa [xok] using ho
  subst hl
  have h : (match xlg ls j with
    | some (.inr (.inr v)) => k (pc + 1) ls (.inr (.inr v) :: st) σ
    | _ => none) = some res := h
  split at h
  · next v hv =>
    intro H locs la hR hL hlc hs hu
    cases v with
    | none => exact lv_aload_nN hx hb hd rfl (hL.get hv) (hk _ _ _ _ h H locs la hR hL hlc hs hu)
    | some a => exact lv_aload_n (x := a) hx hb hd rfl (hL.get hv) (hk _ _ _ _ h H locs la hR hL hlc hs hu)
  · cases h

set_option maxHeartbeats 1000000 in
theorem xa_istore {mi u0 len pc : Nat} {Q : State → Prop} {cal : Nat → List XE → XH → XR} {ls : XL} {st : List XE} {σ : XH} {k : Nat → XL → List XE → XH → XR} {res : XV × XH} {j : Nat} (K : XK P U D mi p R s m args meth c) (hd : decode (xcb mi) pc = .ok (.istore j, len)) (ho : xok mi pc (.istore j) len = true) (h : xop mi cal (.istore j) len pc ls st σ k = some res)
    (hk : ∀ pc' ls' st' σ', k pc' ls' st' σ' = some res → XG U D mi p l e R s m args below meth c u0 Q pc' ls' st' σ') : XG U D mi p l e R s m args below meth c u0 Q pc ls st σ := by
  obtain ⟨hx, hb, hml, hown, hts, -⟩ := K
  have hl : len = 2 ∧ j < xmx mi := by simpa [xok] using ho
  obtain ⟨hl, hj⟩ := hl
  subst hl
  have h : (match (generalizing := false) st with
    | .inl v :: r => k (pc + 2) (xst1 ls j (.inl v)) r σ
    | _ => none) = some res := h
  split at h
  · next v r _ =>
    intro H locs la hR hL hlc hs hu
    exact lv_istore (x := v) hx hb hd hL.has hj rfl (fun ls1 h1 => hk _ _ _ _ h H locs ls1 hR (xst1_of h1) hlc hs hu)
  · cases h

set_option maxHeartbeats 1000000 in
theorem xa_istore_n {mi u0 len pc : Nat} {Q : State → Prop} {cal : Nat → List XE → XH → XR} {ls : XL} {st : List XE} {σ : XH} {k : Nat → XL → List XE → XH → XR} {res : XV × XH} {j : Fin 4} (K : XK P U D mi p R s m args meth c) (hd : decode (xcb mi) pc = .ok (.istore_n j, len)) (ho : xok mi pc (.istore_n j) len = true) (h : xop mi cal (.istore_n j) len pc ls st σ k = some res)
    (hk : ∀ pc' ls' st' σ', k pc' ls' st' σ' = some res → XG U D mi p l e R s m args below meth c u0 Q pc' ls' st' σ') : XG U D mi p l e R s m args below meth c u0 Q pc ls st σ := by
  obtain ⟨hx, hb, hml, hown, hts, -⟩ := K
  have hl : len = 1 ∧ j.val < xmx mi := by simpa [xok] using ho
  obtain ⟨hl, hj⟩ := hl
  subst hl
  have h : (match (generalizing := false) st with
    | .inl v :: r => k (pc + 1) (xst1 ls j (.inl v)) r σ
    | _ => none) = some res := h
  split at h
  · next v r _ =>
    intro H locs la hR hL hlc hs hu
    exact lv_istore_n (x := v) hx hb hd rfl hL.has hj rfl (fun ls1 h1 => hk _ _ _ _ h H locs ls1 hR (xst1_of h1) hlc hs hu)
  · cases h

set_option maxHeartbeats 1000000 in
theorem xa_lstore {mi u0 len pc : Nat} {Q : State → Prop} {cal : Nat → List XE → XH → XR} {ls : XL} {st : List XE} {σ : XH} {k : Nat → XL → List XE → XH → XR} {res : XV × XH} {j : Nat} (K : XK P U D mi p R s m args meth c) (hd : decode (xcb mi) pc = .ok (.lstore j, len)) (ho : xok mi pc (.lstore j) len = true) (h : xop mi cal (.lstore j) len pc ls st σ k = some res)
    (hk : ∀ pc' ls' st' σ', k pc' ls' st' σ' = some res → XG U D mi p l e R s m args below meth c u0 Q pc' ls' st' σ') : XG U D mi p l e R s m args below meth c u0 Q pc ls st σ := by
  obtain ⟨hx, hb, hml, hown, hts, -⟩ := K
  have hl : len = 2 ∧ j + 1 < xmx mi := by simpa [xok] using ho
  obtain ⟨hl, hj⟩ := hl
  subst hl
  have h : (match (generalizing := false) st with
    | .inr (.inl v) :: r => k (pc + 2) (xst2 ls j v) r σ
    | _ => none) = some res := h
  split at h
  · next v r _ =>
    intro H locs la hR hL hlc hs hu
    exact lv_lstore (x := v) hx hb hd hL.has hj rfl (fun ls1 h1 => hk _ _ _ _ h H locs ls1 hR (xst2_of h1) hlc hs hu)
  · cases h

set_option maxHeartbeats 1000000 in
theorem xa_lstore_n {mi u0 len pc : Nat} {Q : State → Prop} {cal : Nat → List XE → XH → XR} {ls : XL} {st : List XE} {σ : XH} {k : Nat → XL → List XE → XH → XR} {res : XV × XH} {j : Fin 4} (K : XK P U D mi p R s m args meth c) (hd : decode (xcb mi) pc = .ok (.lstore_n j, len)) (ho : xok mi pc (.lstore_n j) len = true) (h : xop mi cal (.lstore_n j) len pc ls st σ k = some res)
    (hk : ∀ pc' ls' st' σ', k pc' ls' st' σ' = some res → XG U D mi p l e R s m args below meth c u0 Q pc' ls' st' σ') : XG U D mi p l e R s m args below meth c u0 Q pc ls st σ := by
  obtain ⟨hx, hb, hml, hown, hts, -⟩ := K
  have hl : len = 1 ∧ j.val + 1 < xmx mi := by simpa [xok] using ho
  obtain ⟨hl, hj⟩ := hl
  subst hl
  have h : (match (generalizing := false) st with
    | .inr (.inl v) :: r => k (pc + 1) (xst2 ls j v) r σ
    | _ => none) = some res := h
  split at h
  · next v r _ =>
    intro H locs la hR hL hlc hs hu
    exact lv_lstore_n (x := v) hx hb hd rfl hL.has hj rfl (fun ls1 h1 => hk _ _ _ _ h H locs ls1 hR (xst2_of h1) hlc hs hu)
  · cases h

set_option maxHeartbeats 1000000 in
theorem xa_astore {mi u0 len pc : Nat} {Q : State → Prop} {cal : Nat → List XE → XH → XR} {ls : XL} {st : List XE} {σ : XH} {k : Nat → XL → List XE → XH → XR} {res : XV × XH} {j : Nat} (K : XK P U D mi p R s m args meth c) (hd : decode (xcb mi) pc = .ok (.astore j, len)) (ho : xok mi pc (.astore j) len = true) (h : xop mi cal (.astore j) len pc ls st σ k = some res)
    (hk : ∀ pc' ls' st' σ', k pc' ls' st' σ' = some res → XG U D mi p l e R s m args below meth c u0 Q pc' ls' st' σ') : XG U D mi p l e R s m args below meth c u0 Q pc ls st σ := by
  obtain ⟨hx, hb, hml, hown, hts, -⟩ := K
  have hl : len = 2 ∧ j < xmx mi := by simpa [xok] using ho
  obtain ⟨hl, hj⟩ := hl
  subst hl
  have h : (match (generalizing := false) st with
    | .inr (.inr v) :: r => k (pc + 2) (xst1 ls j (.inr (.inr v))) r σ
    | _ => none) = some res := h
  split at h
  · next v r _ =>
    intro H locs la hR hL hlc hs hu
    cases v with
    | none => exact lv_astoreN hx hb hd hL.has hj rfl (fun ls1 h1 => hk _ _ _ _ h H locs ls1 hR (xst1_of (e := .inr (.inr none)) h1) hlc hs hu)
    | some a => exact lv_astore (x := a) hx hb hd hL.has hj rfl (fun ls1 h1 => hk _ _ _ _ h H locs ls1 hR (xst1_of (e := .inr (.inr (some a))) h1) hlc hs hu)
  · cases h

set_option maxHeartbeats 1000000 in
theorem xa_astore_n {mi u0 len pc : Nat} {Q : State → Prop} {cal : Nat → List XE → XH → XR} {ls : XL} {st : List XE} {σ : XH} {k : Nat → XL → List XE → XH → XR} {res : XV × XH} {j : Fin 4} (K : XK P U D mi p R s m args meth c) (hd : decode (xcb mi) pc = .ok (.astore_n j, len)) (ho : xok mi pc (.astore_n j) len = true) (h : xop mi cal (.astore_n j) len pc ls st σ k = some res)
    (hk : ∀ pc' ls' st' σ', k pc' ls' st' σ' = some res → XG U D mi p l e R s m args below meth c u0 Q pc' ls' st' σ') : XG U D mi p l e R s m args below meth c u0 Q pc ls st σ := by
  obtain ⟨hx, hb, hml, hown, hts, -⟩ := K
  have hl : len = 1 ∧ j.val < xmx mi := by simpa [xok] using ho
  obtain ⟨hl, hj⟩ := hl
  subst hl
  have h : (match (generalizing := false) st with
    | .inr (.inr v) :: r => k (pc + 1) (xst1 ls j (.inr (.inr v))) r σ
    | _ => none) = some res := h
  split at h
  · next v r _ =>
    intro H locs la hR hL hlc hs hu
    cases v with
    | none => exact lv_astore_nN hx hb hd rfl hL.has hj rfl (fun ls1 h1 => hk _ _ _ _ h H locs ls1 hR (xst1_of (e := .inr (.inr none)) h1) hlc hs hu)
    | some a => exact lv_astore_n (x := a) hx hb hd rfl hL.has hj rfl (fun ls1 h1 => hk _ _ _ _ h H locs ls1 hR (xst1_of (e := .inr (.inr (some a))) h1) hlc hs hu)
  · cases h

set_option maxHeartbeats 1000000 in
theorem xa_iinc {mi u0 len pc : Nat} {Q : State → Prop} {cal : Nat → List XE → XH → XR} {ls : XL} {st : List XE} {σ : XH} {k : Nat → XL → List XE → XH → XR} {res : XV × XH} {j : Nat} {n : Int} (K : XK P U D mi p R s m args meth c) (hd : decode (xcb mi) pc = .ok (.iinc j n, len)) (ho : xok mi pc (.iinc j n) len = true) (h : xop mi cal (.iinc j n) len pc ls st σ k = some res)
    (hk : ∀ pc' ls' st' σ', k pc' ls' st' σ' = some res → XG U D mi p l e R s m args below meth c u0 Q pc' ls' st' σ') : XG U D mi p l e R s m args below meth c u0 Q pc ls st σ := by
  obtain ⟨hx, hb, hml, hown, hts, -⟩ := K
  have hl : len = 3 ∧ j < xmx mi := by simpa [xok] using ho
  obtain ⟨hl, hj⟩ := hl
  subst hl
  have h : (match xlg ls j with
    | some (.inl v) => k (pc + 3) (xst1 ls j (.inl (v + xk n))) st σ
    | _ => none) = some res := h
  split at h
  · next v hv =>
    intro H locs la hR hL hlc hs hu
    obtain ⟨kx, hkx⟩ := List.getElem?_of_mem (xla_mem.mpr ⟨_, xlg_lt hv, rfl⟩)
    exact lv_iinc (k := kx) (x := v) (v := v + xk n) hx hb hd hL.has hkx rfl hj rfl (fun ls1 h1 => hk _ _ _ _ h H locs ls1 hR (xst1_of h1) hlc hs hu)
  · cases h

set_option maxHeartbeats 1000000 in
theorem xa_iadd {mi u0 len pc : Nat} {Q : State → Prop} {cal : Nat → List XE → XH → XR} {ls : XL} {st : List XE} {σ : XH} {k : Nat → XL → List XE → XH → XR} {res : XV × XH}  (K : XK P U D mi p R s m args meth c) (hd : decode (xcb mi) pc = .ok (.iadd, len)) (ho : xok mi pc (.iadd) len = true) (h : xop mi cal (.iadd) len pc ls st σ k = some res)
    (hk : ∀ pc' ls' st' σ', k pc' ls' st' σ' = some res → XG U D mi p l e R s m args below meth c u0 Q pc' ls' st' σ') : XG U D mi p l e R s m args below meth c u0 Q pc ls st σ := by
  obtain ⟨hx, hb, hml, hown, hts, -⟩ := K
  have hl : len = 1 := by simpa [xok] using ho
  subst hl
  have h : (match (generalizing := false) st with
    | .inl y :: .inl x :: r => k (pc + 1) ls (.inl (x + y) :: r) σ
    | _ => none) = some res := h
  split at h
  · next r =>
    intro H locs la hR hL hlc hs hu
    exact lv_iadd hx hb hd (hk _ _ _ _ h H locs la hR hL hlc hs hu)
  · cases h

set_option maxHeartbeats 1000000 in
theorem xa_isub {mi u0 len pc : Nat} {Q : State → Prop} {cal : Nat → List XE → XH → XR} {ls : XL} {st : List XE} {σ : XH} {k : Nat → XL → List XE → XH → XR} {res : XV × XH}  (K : XK P U D mi p R s m args meth c) (hd : decode (xcb mi) pc = .ok (.isub, len)) (ho : xok mi pc (.isub) len = true) (h : xop mi cal (.isub) len pc ls st σ k = some res)
    (hk : ∀ pc' ls' st' σ', k pc' ls' st' σ' = some res → XG U D mi p l e R s m args below meth c u0 Q pc' ls' st' σ') : XG U D mi p l e R s m args below meth c u0 Q pc ls st σ := by
  obtain ⟨hx, hb, hml, hown, hts, -⟩ := K
  have hl : len = 1 := by simpa [xok] using ho
  subst hl
  have h : (match (generalizing := false) st with
    | .inl y :: .inl x :: r => k (pc + 1) ls (.inl (x - y) :: r) σ
    | _ => none) = some res := h
  split at h
  · next r =>
    intro H locs la hR hL hlc hs hu
    exact lv_isub hx hb hd (hk _ _ _ _ h H locs la hR hL hlc hs hu)
  · cases h

set_option maxHeartbeats 1000000 in
theorem xa_imul {mi u0 len pc : Nat} {Q : State → Prop} {cal : Nat → List XE → XH → XR} {ls : XL} {st : List XE} {σ : XH} {k : Nat → XL → List XE → XH → XR} {res : XV × XH}  (K : XK P U D mi p R s m args meth c) (hd : decode (xcb mi) pc = .ok (.imul, len)) (ho : xok mi pc (.imul) len = true) (h : xop mi cal (.imul) len pc ls st σ k = some res)
    (hk : ∀ pc' ls' st' σ', k pc' ls' st' σ' = some res → XG U D mi p l e R s m args below meth c u0 Q pc' ls' st' σ') : XG U D mi p l e R s m args below meth c u0 Q pc ls st σ := by
  obtain ⟨hx, hb, hml, hown, hts, -⟩ := K
  have hl : len = 1 := by simpa [xok] using ho
  subst hl
  have h : (match (generalizing := false) st with
    | .inl y :: .inl x :: r => k (pc + 1) ls (.inl (x * y) :: r) σ
    | _ => none) = some res := h
  split at h
  · next r =>
    intro H locs la hR hL hlc hs hu
    exact lv_imul hx hb hd (hk _ _ _ _ h H locs la hR hL hlc hs hu)
  · cases h

set_option maxHeartbeats 1000000 in
theorem xa_iand {mi u0 len pc : Nat} {Q : State → Prop} {cal : Nat → List XE → XH → XR} {ls : XL} {st : List XE} {σ : XH} {k : Nat → XL → List XE → XH → XR} {res : XV × XH}  (K : XK P U D mi p R s m args meth c) (hd : decode (xcb mi) pc = .ok (.iand, len)) (ho : xok mi pc (.iand) len = true) (h : xop mi cal (.iand) len pc ls st σ k = some res)
    (hk : ∀ pc' ls' st' σ', k pc' ls' st' σ' = some res → XG U D mi p l e R s m args below meth c u0 Q pc' ls' st' σ') : XG U D mi p l e R s m args below meth c u0 Q pc ls st σ := by
  obtain ⟨hx, hb, hml, hown, hts, -⟩ := K
  have hl : len = 1 := by simpa [xok] using ho
  subst hl
  have h : (match (generalizing := false) st with
    | .inl y :: .inl x :: r => k (pc + 1) ls (.inl (x &&& y) :: r) σ
    | _ => none) = some res := h
  split at h
  · next r =>
    intro H locs la hR hL hlc hs hu
    exact lv_iand hx hb hd (hk _ _ _ _ h H locs la hR hL hlc hs hu)
  · cases h

set_option maxHeartbeats 1000000 in
theorem xa_ior {mi u0 len pc : Nat} {Q : State → Prop} {cal : Nat → List XE → XH → XR} {ls : XL} {st : List XE} {σ : XH} {k : Nat → XL → List XE → XH → XR} {res : XV × XH}  (K : XK P U D mi p R s m args meth c) (hd : decode (xcb mi) pc = .ok (.ior, len)) (ho : xok mi pc (.ior) len = true) (h : xop mi cal (.ior) len pc ls st σ k = some res)
    (hk : ∀ pc' ls' st' σ', k pc' ls' st' σ' = some res → XG U D mi p l e R s m args below meth c u0 Q pc' ls' st' σ') : XG U D mi p l e R s m args below meth c u0 Q pc ls st σ := by
  obtain ⟨hx, hb, hml, hown, hts, -⟩ := K
  have hl : len = 1 := by simpa [xok] using ho
  subst hl
  have h : (match (generalizing := false) st with
    | .inl y :: .inl x :: r => k (pc + 1) ls (.inl (x ||| y) :: r) σ
    | _ => none) = some res := h
  split at h
  · next r =>
    intro H locs la hR hL hlc hs hu
    exact lv_ior hx hb hd (hk _ _ _ _ h H locs la hR hL hlc hs hu)
  · cases h

set_option maxHeartbeats 1000000 in
theorem xa_ishr {mi u0 len pc : Nat} {Q : State → Prop} {cal : Nat → List XE → XH → XR} {ls : XL} {st : List XE} {σ : XH} {k : Nat → XL → List XE → XH → XR} {res : XV × XH}  (K : XK P U D mi p R s m args meth c) (hd : decode (xcb mi) pc = .ok (.ishr, len)) (ho : xok mi pc (.ishr) len = true) (h : xop mi cal (.ishr) len pc ls st σ k = some res)
    (hk : ∀ pc' ls' st' σ', k pc' ls' st' σ' = some res → XG U D mi p l e R s m args below meth c u0 Q pc' ls' st' σ') : XG U D mi p l e R s m args below meth c u0 Q pc ls st σ := by
  obtain ⟨hx, hb, hml, hown, hts, -⟩ := K
  have hl : len = 1 := by simpa [xok] using ho
  subst hl
  have h : (match (generalizing := false) st with
    | .inl y :: .inl x :: r => k (pc + 1) ls (.inl (x >>> (y &&& 31)) :: r) σ
    | _ => none) = some res := h
  split at h
  · next r =>
    intro H locs la hR hL hlc hs hu
    exact lv_ishr hx hb hd (hk _ _ _ _ h H locs la hR hL hlc hs hu)
  · cases h

set_option maxHeartbeats 1000000 in
theorem xa_ineg {mi u0 len pc : Nat} {Q : State → Prop} {cal : Nat → List XE → XH → XR} {ls : XL} {st : List XE} {σ : XH} {k : Nat → XL → List XE → XH → XR} {res : XV × XH}  (K : XK P U D mi p R s m args meth c) (hd : decode (xcb mi) pc = .ok (.ineg, len)) (ho : xok mi pc (.ineg) len = true) (h : xop mi cal (.ineg) len pc ls st σ k = some res)
    (hk : ∀ pc' ls' st' σ', k pc' ls' st' σ' = some res → XG U D mi p l e R s m args below meth c u0 Q pc' ls' st' σ') : XG U D mi p l e R s m args below meth c u0 Q pc ls st σ := by
  obtain ⟨hx, hb, hml, hown, hts, -⟩ := K
  have hl : len = 1 := by simpa [xok] using ho
  subst hl
  have h : (match (generalizing := false) st with
    | .inl x :: r => k (pc + 1) ls (.inl (-x) :: r) σ
    | _ => none) = some res := h
  split at h
  · next r =>
    intro H locs la hR hL hlc hs hu
    exact lv_ineg hx hb hd (hk _ _ _ _ h H locs la hR hL hlc hs hu)
  · cases h

set_option maxHeartbeats 1000000 in
theorem xa_ladd {mi u0 len pc : Nat} {Q : State → Prop} {cal : Nat → List XE → XH → XR} {ls : XL} {st : List XE} {σ : XH} {k : Nat → XL → List XE → XH → XR} {res : XV × XH}  (K : XK P U D mi p R s m args meth c) (hd : decode (xcb mi) pc = .ok (.ladd, len)) (ho : xok mi pc (.ladd) len = true) (h : xop mi cal (.ladd) len pc ls st σ k = some res)
    (hk : ∀ pc' ls' st' σ', k pc' ls' st' σ' = some res → XG U D mi p l e R s m args below meth c u0 Q pc' ls' st' σ') : XG U D mi p l e R s m args below meth c u0 Q pc ls st σ := by
  obtain ⟨hx, hb, hml, hown, hts, -⟩ := K
  have hl : len = 1 := by simpa [xok] using ho
  subst hl
  have h : (match (generalizing := false) st with
    | .inr (.inl y) :: .inr (.inl x) :: r => k (pc + 1) ls (.inr (.inl (x + y)) :: r) σ
    | _ => none) = some res := h
  split at h
  · next r =>
    intro H locs la hR hL hlc hs hu
    exact lv_ladd hx hb hd (hk _ _ _ _ h H locs la hR hL hlc hs hu)
  · cases h

set_option maxHeartbeats 1000000 in
theorem xa_lcmp {mi u0 len pc : Nat} {Q : State → Prop} {cal : Nat → List XE → XH → XR} {ls : XL} {st : List XE} {σ : XH} {k : Nat → XL → List XE → XH → XR} {res : XV × XH}  (K : XK P U D mi p R s m args meth c) (hd : decode (xcb mi) pc = .ok (.lcmp, len)) (ho : xok mi pc (.lcmp) len = true) (h : xop mi cal (.lcmp) len pc ls st σ k = some res)
    (hk : ∀ pc' ls' st' σ', k pc' ls' st' σ' = some res → XG U D mi p l e R s m args below meth c u0 Q pc' ls' st' σ') : XG U D mi p l e R s m args below meth c u0 Q pc ls st σ := by
  obtain ⟨hx, hb, hml, hown, hts, -⟩ := K
  have hl : len = 1 := by simpa [xok] using ho
  subst hl
  have h : (match (generalizing := false) st with
    | .inr (.inl y) :: .inr (.inl x) :: r => k (pc + 1) ls (.inl (lg_cmp x y) :: r) σ
    | _ => none) = some res := h
  split at h
  · next r =>
    intro H locs la hR hL hlc hs hu
    exact W.lcmp hx hb hd (hk _ _ _ _ h H locs la hR hL hlc hs hu)
  · cases h

set_option maxHeartbeats 1000000 in
theorem xa_i2l {mi u0 len pc : Nat} {Q : State → Prop} {cal : Nat → List XE → XH → XR} {ls : XL} {st : List XE} {σ : XH} {k : Nat → XL → List XE → XH → XR} {res : XV × XH}  (K : XK P U D mi p R s m args meth c) (hd : decode (xcb mi) pc = .ok (.i2l, len)) (ho : xok mi pc (.i2l) len = true) (h : xop mi cal (.i2l) len pc ls st σ k = some res)
    (hk : ∀ pc' ls' st' σ', k pc' ls' st' σ' = some res → XG U D mi p l e R s m args below meth c u0 Q pc' ls' st' σ') : XG U D mi p l e R s m args below meth c u0 Q pc ls st σ := by
  obtain ⟨hx, hb, hml, hown, hts, -⟩ := K
  have hl : len = 1 := by simpa [xok] using ho
  subst hl
  have h : (match (generalizing := false) st with
    | .inl x :: r => k (pc + 1) ls (.inr (.inl x.toInt64) :: r) σ
    | _ => none) = some res := h
  split at h
  · next r =>
    intro H locs la hR hL hlc hs hu
    exact lv_i2l hx hb hd rfl (hk _ _ _ _ h H locs la hR hL hlc hs hu)
  · cases h

set_option maxHeartbeats 1000000 in
theorem xa_idiv {mi u0 len pc : Nat} {Q : State → Prop} {cal : Nat → List XE → XH → XR} {ls : XL} {st : List XE} {σ : XH} {k : Nat → XL → List XE → XH → XR} {res : XV × XH}  (K : XK P U D mi p R s m args meth c) (hd : decode (xcb mi) pc = .ok (.idiv, len)) (ho : xok mi pc (.idiv) len = true) (h : xop mi cal (.idiv) len pc ls st σ k = some res)
    (hk : ∀ pc' ls' st' σ', k pc' ls' st' σ' = some res → XG U D mi p l e R s m args below meth c u0 Q pc' ls' st' σ') : XG U D mi p l e R s m args below meth c u0 Q pc ls st σ := by
  obtain ⟨hx, hb, hml, hown, hts, -⟩ := K
  have hl : len = 1 := by simpa [xok] using ho
  subst hl
  have h : (match (generalizing := false) st with
    | .inl y :: .inl x :: r => if y = 0 then none else k (pc + 1) ls (.inl (x / y) :: r) σ
    | _ => none) = some res := h
  split at h
  · next y x r =>
    split at h
    · cases h
    · next hy =>
      intro H locs la hR hL hlc hs hu
      exact lv_idiv hx hb hd hy (hk _ _ _ _ h H locs la hR hL hlc hs hu)
  · cases h

set_option maxHeartbeats 1000000 in
theorem xa_irem {mi u0 len pc : Nat} {Q : State → Prop} {cal : Nat → List XE → XH → XR} {ls : XL} {st : List XE} {σ : XH} {k : Nat → XL → List XE → XH → XR} {res : XV × XH}  (K : XK P U D mi p R s m args meth c) (hd : decode (xcb mi) pc = .ok (.irem, len)) (ho : xok mi pc (.irem) len = true) (h : xop mi cal (.irem) len pc ls st σ k = some res)
    (hk : ∀ pc' ls' st' σ', k pc' ls' st' σ' = some res → XG U D mi p l e R s m args below meth c u0 Q pc' ls' st' σ') : XG U D mi p l e R s m args below meth c u0 Q pc ls st σ := by
  obtain ⟨hx, hb, hml, hown, hts, -⟩ := K
  have hl : len = 1 := by simpa [xok] using ho
  subst hl
  have h : (match (generalizing := false) st with
    | .inl y :: .inl x :: r => if y = 0 then none else k (pc + 1) ls (.inl (x - x / y * y) :: r) σ
    | _ => none) = some res := h
  split at h
  · next y x r =>
    split at h
    · cases h
    · next hy =>
      intro H locs la hR hL hlc hs hu
      exact lv_irem hx hb hd hy (hk _ _ _ _ h H locs la hR hL hlc hs hu)
  · cases h

set_option maxHeartbeats 1000000 in
theorem xa_pop {mi u0 len pc : Nat} {Q : State → Prop} {cal : Nat → List XE → XH → XR} {ls : XL} {st : List XE} {σ : XH} {k : Nat → XL → List XE → XH → XR} {res : XV × XH}  (K : XK P U D mi p R s m args meth c) (hd : decode (xcb mi) pc = .ok (.pop, len)) (ho : xok mi pc (.pop) len = true) (h : xop mi cal (.pop) len pc ls st σ k = some res)
    (hk : ∀ pc' ls' st' σ', k pc' ls' st' σ' = some res → XG U D mi p l e R s m args below meth c u0 Q pc' ls' st' σ') : XG U D mi p l e R s m args below meth c u0 Q pc ls st σ := by
  obtain ⟨hx, hb, hml, hown, hts, -⟩ := K
  have hl : len = 1 := by simpa [xok] using ho
  subst hl
  have h : (match (generalizing := false) st with
    | .inl _ :: r => k (pc + 1) ls r σ
    | .inr (.inr _) :: r => k (pc + 1) ls r σ
    | _ => none) = some res := h
  split at h
  · intro H locs la hR hL hlc hs hu
    exact lv_pop hx hb hd rfl (hk _ _ _ _ h H locs la hR hL hlc hs hu)
  · intro H locs la hR hL hlc hs hu
    exact lv_pop hx hb hd (xrf_cat _) (hk _ _ _ _ h H locs la hR hL hlc hs hu)
  · cases h

set_option maxHeartbeats 1000000 in
theorem xa_dup {mi u0 len pc : Nat} {Q : State → Prop} {cal : Nat → List XE → XH → XR} {ls : XL} {st : List XE} {σ : XH} {k : Nat → XL → List XE → XH → XR} {res : XV × XH}  (K : XK P U D mi p R s m args meth c) (hd : decode (xcb mi) pc = .ok (.dup, len)) (ho : xok mi pc (.dup) len = true) (h : xop mi cal (.dup) len pc ls st σ k = some res)
    (hk : ∀ pc' ls' st' σ', k pc' ls' st' σ' = some res → XG U D mi p l e R s m args below meth c u0 Q pc' ls' st' σ') : XG U D mi p l e R s m args below meth c u0 Q pc ls st σ := by
  obtain ⟨hx, hb, hml, hown, hts, -⟩ := K
  have hl : len = 1 := by simpa [xok] using ho
  subst hl
  have h : (match (generalizing := false) st with
    | .inl x :: r => k (pc + 1) ls (.inl x :: .inl x :: r) σ
    | .inr (.inr x) :: r => k (pc + 1) ls (.inr (.inr x) :: .inr (.inr x) :: r) σ
    | _ => none) = some res := h
  split at h
  · intro H locs la hR hL hlc hs hu
    exact lv_dup hx hb hd rfl (hk _ _ _ _ h H locs la hR hL hlc hs hu)
  · intro H locs la hR hL hlc hs hu
    exact lv_dup hx hb hd (xrf_cat _) (hk _ _ _ _ h H locs la hR hL hlc hs hu)
  · cases h

set_option maxHeartbeats 1000000 in
theorem xa_dup_x1 {mi u0 len pc : Nat} {Q : State → Prop} {cal : Nat → List XE → XH → XR} {ls : XL} {st : List XE} {σ : XH} {k : Nat → XL → List XE → XH → XR} {res : XV × XH}  (K : XK P U D mi p R s m args meth c) (hd : decode (xcb mi) pc = .ok (.dup_x1, len)) (ho : xok mi pc (.dup_x1) len = true) (h : xop mi cal (.dup_x1) len pc ls st σ k = some res)
    (hk : ∀ pc' ls' st' σ', k pc' ls' st' σ' = some res → XG U D mi p l e R s m args below meth c u0 Q pc' ls' st' σ') : XG U D mi p l e R s m args below meth c u0 Q pc ls st σ := by
  obtain ⟨hx, hb, hml, hown, hts, -⟩ := K
  have hl : len = 1 := by simpa [xok] using ho
  subst hl
  have h : (match (generalizing := false) st with
    | .inl x :: .inr (.inr y) :: r => k (pc + 1) ls (.inl x :: .inr (.inr y) :: .inl x :: r) σ
    | _ => none) = some res := h
  split at h
  · intro H locs la hR hL hlc hs hu
    exact lv_dup_x1 hx hb hd rfl (xrf_cat _) (hk _ _ _ _ h H locs la hR hL hlc hs hu)
  · cases h

set_option maxHeartbeats 1000000 in
theorem xa_dup2 {mi u0 len pc : Nat} {Q : State → Prop} {cal : Nat → List XE → XH → XR} {ls : XL} {st : List XE} {σ : XH} {k : Nat → XL → List XE → XH → XR} {res : XV × XH}  (K : XK P U D mi p R s m args meth c) (hd : decode (xcb mi) pc = .ok (.dup2, len)) (ho : xok mi pc (.dup2) len = true) (h : xop mi cal (.dup2) len pc ls st σ k = some res)
    (hk : ∀ pc' ls' st' σ', k pc' ls' st' σ' = some res → XG U D mi p l e R s m args below meth c u0 Q pc' ls' st' σ') : XG U D mi p l e R s m args below meth c u0 Q pc ls st σ := by
  obtain ⟨hx, hb, hml, hown, hts, -⟩ := K
  have hl : len = 1 := by simpa [xok] using ho
  subst hl
  have h : (match (generalizing := false) st with
    | .inl x :: .inr (.inr y) :: r => k (pc + 1) ls (.inl x :: .inr (.inr y) :: .inl x :: .inr (.inr y) :: r) σ
    | _ => none) = some res := h
  split at h
  · intro H locs la hR hL hlc hs hu
    exact lv_dup2_11 hx hb hd rfl (xrf_cat _) (hk _ _ _ _ h H locs la hR hL hlc hs hu)
  · cases h

set_option maxHeartbeats 1000000 in
theorem xa_goto {mi u0 len pc : Nat} {Q : State → Prop} {cal : Nat → List XE → XH → XR} {ls : XL} {st : List XE} {σ : XH} {k : Nat → XL → List XE → XH → XR} {res : XV × XH} {off : Int} (K : XK P U D mi p R s m args meth c) (hd : decode (xcb mi) pc = .ok (.goto off, len)) (ho : xok mi pc (.goto off) len = true) (h : xop mi cal (.goto off) len pc ls st σ k = some res)
    (hk : ∀ pc' ls' st' σ', k pc' ls' st' σ' = some res → XG U D mi p l e R s m args below meth c u0 Q pc' ls' st' σ') : XG U D mi p l e R s m args below meth c u0 Q pc ls st σ := by
  obtain ⟨hx, hb, hml, hown, hts, -⟩ := K
  have hl : len = 3 ∧ 0 ≤ (pc : Int) + off := by simpa [xok] using ho
  obtain ⟨hl, hoff⟩ := hl
  subst hl
  have ht := xtgt hoff
  have h : xj pc off (fun t => k t ls st σ) = some res := h
  rw [xj_eq ht] at h
  intro H locs la hR hL hlc hs hu
  exact lv_goto hx hb hd ht (hk _ _ _ _ h H locs la hR hL hlc hs hu)

set_option maxHeartbeats 1000000 in
theorem xa_if_eq {mi u0 len pc : Nat} {Q : State → Prop} {cal : Nat → List XE → XH → XR} {ls : XL} {st : List XE} {σ : XH} {k : Nat → XL → List XE → XH → XR} {res : XV × XH} {off : Int} (K : XK P U D mi p R s m args meth c) (hd : decode (xcb mi) pc = .ok (.ifCond .eq off, len)) (ho : xok mi pc (.ifCond .eq off) len = true) (h : xop mi cal (.ifCond .eq off) len pc ls st σ k = some res)
    (hk : ∀ pc' ls' st' σ', k pc' ls' st' σ' = some res → XG U D mi p l e R s m args below meth c u0 Q pc' ls' st' σ') : XG U D mi p l e R s m args below meth c u0 Q pc ls st σ := by
  obtain ⟨hx, hb, hml, hown, hts, -⟩ := K
  have hl : len = 3 ∧ 0 ≤ (pc : Int) + off := by simpa [xok] using ho
  obtain ⟨hl, hoff⟩ := hl
  subst hl
  have ht := xtgt hoff
  have h : (match (generalizing := false) st with
    | .inl x :: r => if x = 0 then xj pc off fun t => k t ls r σ else k (pc + 3) ls r σ
    | _ => none) = some res := h
  split at h
  · next r =>
    intro H locs la hR hL hlc hs hu
    refine lv_if_eq hx hb hd ht (fun q => ?_) (fun q => ?_)
    · rw [if_pos (q), xj_eq ht] at h
      exact (hk _ _ _ _ h H locs la hR hL hlc hs hu)
    · rw [if_neg (q)] at h
      exact (hk _ _ _ _ h H locs la hR hL hlc hs hu)
  · cases h

set_option maxHeartbeats 1000000 in
theorem xa_if_ne {mi u0 len pc : Nat} {Q : State → Prop} {cal : Nat → List XE → XH → XR} {ls : XL} {st : List XE} {σ : XH} {k : Nat → XL → List XE → XH → XR} {res : XV × XH} {off : Int} (K : XK P U D mi p R s m args meth c) (hd : decode (xcb mi) pc = .ok (.ifCond .ne off, len)) (ho : xok mi pc (.ifCond .ne off) len = true) (h : xop mi cal (.ifCond .ne off) len pc ls st σ k = some res)
    (hk : ∀ pc' ls' st' σ', k pc' ls' st' σ' = some res → XG U D mi p l e R s m args below meth c u0 Q pc' ls' st' σ') : XG U D mi p l e R s m args below meth c u0 Q pc ls st σ := by
  obtain ⟨hx, hb, hml, hown, hts, -⟩ := K
  have hl : len = 3 ∧ 0 ≤ (pc : Int) + off := by simpa [xok] using ho
  obtain ⟨hl, hoff⟩ := hl
  subst hl
  have ht := xtgt hoff
  have h : (match (generalizing := false) st with
    | .inl x :: r => if x = 0 then k (pc + 3) ls r σ else xj pc off fun t => k t ls r σ
    | _ => none) = some res := h
  split at h
  · next r =>
    intro H locs la hR hL hlc hs hu
    refine lv_if_ne hx hb hd ht (fun q => ?_) (fun q => ?_)
    · rw [if_neg (q), xj_eq ht] at h
      exact (hk _ _ _ _ h H locs la hR hL hlc hs hu)
    · rw [if_pos (q)] at h
      exact (hk _ _ _ _ h H locs la hR hL hlc hs hu)
  · cases h

set_option maxHeartbeats 1000000 in
theorem xa_if_lt {mi u0 len pc : Nat} {Q : State → Prop} {cal : Nat → List XE → XH → XR} {ls : XL} {st : List XE} {σ : XH} {k : Nat → XL → List XE → XH → XR} {res : XV × XH} {off : Int} (K : XK P U D mi p R s m args meth c) (hd : decode (xcb mi) pc = .ok (.ifCond .lt off, len)) (ho : xok mi pc (.ifCond .lt off) len = true) (h : xop mi cal (.ifCond .lt off) len pc ls st σ k = some res)
    (hk : ∀ pc' ls' st' σ', k pc' ls' st' σ' = some res → XG U D mi p l e R s m args below meth c u0 Q pc' ls' st' σ') : XG U D mi p l e R s m args below meth c u0 Q pc ls st σ := by
  obtain ⟨hx, hb, hml, hown, hts, -⟩ := K
  have hl : len = 3 ∧ 0 ≤ (pc : Int) + off := by simpa [xok] using ho
  obtain ⟨hl, hoff⟩ := hl
  subst hl
  have ht := xtgt hoff
  have h : (match (generalizing := false) st with
    | .inl x :: r => if x < 0 then xj pc off fun t => k t ls r σ else k (pc + 3) ls r σ
    | _ => none) = some res := h
  split at h
  · next r =>
    intro H locs la hR hL hlc hs hu
    refine lv_if_lt hx hb hd ht (fun q => ?_) (fun q => ?_)
    · rw [if_pos (q), xj_eq ht] at h
      exact (hk _ _ _ _ h H locs la hR hL hlc hs hu)
    · rw [if_neg (q)] at h
      exact (hk _ _ _ _ h H locs la hR hL hlc hs hu)
  · cases h

set_option maxHeartbeats 1000000 in
theorem xa_if_ge {mi u0 len pc : Nat} {Q : State → Prop} {cal : Nat → List XE → XH → XR} {ls : XL} {st : List XE} {σ : XH} {k : Nat → XL → List XE → XH → XR} {res : XV × XH} {off : Int} (K : XK P U D mi p R s m args meth c) (hd : decode (xcb mi) pc = .ok (.ifCond .ge off, len)) (ho : xok mi pc (.ifCond .ge off) len = true) (h : xop mi cal (.ifCond .ge off) len pc ls st σ k = some res)
    (hk : ∀ pc' ls' st' σ', k pc' ls' st' σ' = some res → XG U D mi p l e R s m args below meth c u0 Q pc' ls' st' σ') : XG U D mi p l e R s m args below meth c u0 Q pc ls st σ := by
  obtain ⟨hx, hb, hml, hown, hts, -⟩ := K
  have hl : len = 3 ∧ 0 ≤ (pc : Int) + off := by simpa [xok] using ho
  obtain ⟨hl, hoff⟩ := hl
  subst hl
  have ht := xtgt hoff
  have h : (match (generalizing := false) st with
    | .inl x :: r => if x < 0 then k (pc + 3) ls r σ else xj pc off fun t => k t ls r σ
    | _ => none) = some res := h
  split at h
  · next r =>
    intro H locs la hR hL hlc hs hu
    refine lv_if_ge hx hb hd ht (fun q => ?_) (fun q => ?_)
    · rw [if_neg (k2_nlt q), xj_eq ht] at h
      exact (hk _ _ _ _ h H locs la hR hL hlc hs hu)
    · rw [if_pos (k2_lt q)] at h
      exact (hk _ _ _ _ h H locs la hR hL hlc hs hu)
  · cases h

set_option maxHeartbeats 1000000 in
theorem xa_if_gt {mi u0 len pc : Nat} {Q : State → Prop} {cal : Nat → List XE → XH → XR} {ls : XL} {st : List XE} {σ : XH} {k : Nat → XL → List XE → XH → XR} {res : XV × XH} {off : Int} (K : XK P U D mi p R s m args meth c) (hd : decode (xcb mi) pc = .ok (.ifCond .gt off, len)) (ho : xok mi pc (.ifCond .gt off) len = true) (h : xop mi cal (.ifCond .gt off) len pc ls st σ k = some res)
    (hk : ∀ pc' ls' st' σ', k pc' ls' st' σ' = some res → XG U D mi p l e R s m args below meth c u0 Q pc' ls' st' σ') : XG U D mi p l e R s m args below meth c u0 Q pc ls st σ := by
  obtain ⟨hx, hb, hml, hown, hts, -⟩ := K
  have hl : len = 3 ∧ 0 ≤ (pc : Int) + off := by simpa [xok] using ho
  obtain ⟨hl, hoff⟩ := hl
  subst hl
  have ht := xtgt hoff
  have h : (match (generalizing := false) st with
    | .inl x :: r => if 0 < x then xj pc off fun t => k t ls r σ else k (pc + 3) ls r σ
    | _ => none) = some res := h
  split at h
  · next r =>
    intro H locs la hR hL hlc hs hu
    refine lv_if_gt hx hb hd ht (fun q => ?_) (fun q => ?_)
    · rw [if_pos (q), xj_eq ht] at h
      exact (hk _ _ _ _ h H locs la hR hL hlc hs hu)
    · rw [if_neg (q)] at h
      exact (hk _ _ _ _ h H locs la hR hL hlc hs hu)
  · cases h

set_option maxHeartbeats 1000000 in
theorem xa_if_le {mi u0 len pc : Nat} {Q : State → Prop} {cal : Nat → List XE → XH → XR} {ls : XL} {st : List XE} {σ : XH} {k : Nat → XL → List XE → XH → XR} {res : XV × XH} {off : Int} (K : XK P U D mi p R s m args meth c) (hd : decode (xcb mi) pc = .ok (.ifCond .le off, len)) (ho : xok mi pc (.ifCond .le off) len = true) (h : xop mi cal (.ifCond .le off) len pc ls st σ k = some res)
    (hk : ∀ pc' ls' st' σ', k pc' ls' st' σ' = some res → XG U D mi p l e R s m args below meth c u0 Q pc' ls' st' σ') : XG U D mi p l e R s m args below meth c u0 Q pc ls st σ := by
  obtain ⟨hx, hb, hml, hown, hts, -⟩ := K
  have hl : len = 3 ∧ 0 ≤ (pc : Int) + off := by simpa [xok] using ho
  obtain ⟨hl, hoff⟩ := hl
  subst hl
  have ht := xtgt hoff
  have h : (match (generalizing := false) st with
    | .inl x :: r => if 0 < x then k (pc + 3) ls r σ else xj pc off fun t => k t ls r σ
    | _ => none) = some res := h
  split at h
  · next r =>
    intro H locs la hR hL hlc hs hu
    refine lv_if_le hx hb hd ht (fun q => ?_) (fun q => ?_)
    · rw [if_neg (k2_nlt q), xj_eq ht] at h
      exact (hk _ _ _ _ h H locs la hR hL hlc hs hu)
    · rw [if_pos (k2_lt q)] at h
      exact (hk _ _ _ _ h H locs la hR hL hlc hs hu)
  · cases h

set_option maxHeartbeats 1000000 in
theorem xa_icmp_eq {mi u0 len pc : Nat} {Q : State → Prop} {cal : Nat → List XE → XH → XR} {ls : XL} {st : List XE} {σ : XH} {k : Nat → XL → List XE → XH → XR} {res : XV × XH} {off : Int} (K : XK P U D mi p R s m args meth c) (hd : decode (xcb mi) pc = .ok (.if_icmp .eq off, len)) (ho : xok mi pc (.if_icmp .eq off) len = true) (h : xop mi cal (.if_icmp .eq off) len pc ls st σ k = some res)
    (hk : ∀ pc' ls' st' σ', k pc' ls' st' σ' = some res → XG U D mi p l e R s m args below meth c u0 Q pc' ls' st' σ') : XG U D mi p l e R s m args below meth c u0 Q pc ls st σ := by
  obtain ⟨hx, hb, hml, hown, hts, -⟩ := K
  have hl : len = 3 ∧ 0 ≤ (pc : Int) + off := by simpa [xok] using ho
  obtain ⟨hl, hoff⟩ := hl
  subst hl
  have ht := xtgt hoff
  have h : (match (generalizing := false) st with
    | .inl y :: .inl x :: r => if x = y then xj pc off fun t => k t ls r σ else k (pc + 3) ls r σ
    | _ => none) = some res := h
  split at h
  · next r =>
    intro H locs la hR hL hlc hs hu
    refine lv_icmp_eq hx hb hd ht (fun q => ?_) (fun q => ?_)
    · rw [if_pos (q), xj_eq ht] at h
      exact (hk _ _ _ _ h H locs la hR hL hlc hs hu)
    · rw [if_neg (q)] at h
      exact (hk _ _ _ _ h H locs la hR hL hlc hs hu)
  · cases h

set_option maxHeartbeats 1000000 in
theorem xa_icmp_ne {mi u0 len pc : Nat} {Q : State → Prop} {cal : Nat → List XE → XH → XR} {ls : XL} {st : List XE} {σ : XH} {k : Nat → XL → List XE → XH → XR} {res : XV × XH} {off : Int} (K : XK P U D mi p R s m args meth c) (hd : decode (xcb mi) pc = .ok (.if_icmp .ne off, len)) (ho : xok mi pc (.if_icmp .ne off) len = true) (h : xop mi cal (.if_icmp .ne off) len pc ls st σ k = some res)
    (hk : ∀ pc' ls' st' σ', k pc' ls' st' σ' = some res → XG U D mi p l e R s m args below meth c u0 Q pc' ls' st' σ') : XG U D mi p l e R s m args below meth c u0 Q pc ls st σ := by
  obtain ⟨hx, hb, hml, hown, hts, -⟩ := K
  have hl : len = 3 ∧ 0 ≤ (pc : Int) + off := by simpa [xok] using ho
  obtain ⟨hl, hoff⟩ := hl
  subst hl
  have ht := xtgt hoff
  have h : (match (generalizing := false) st with
    | .inl y :: .inl x :: r => if x = y then k (pc + 3) ls r σ else xj pc off fun t => k t ls r σ
    | _ => none) = some res := h
  split at h
  · next r =>
    intro H locs la hR hL hlc hs hu
    refine lv_icmp_ne hx hb hd ht (fun q => ?_) (fun q => ?_)
    · rw [if_neg (q), xj_eq ht] at h
      exact (hk _ _ _ _ h H locs la hR hL hlc hs hu)
    · rw [if_pos (q)] at h
      exact (hk _ _ _ _ h H locs la hR hL hlc hs hu)
  · cases h

set_option maxHeartbeats 1000000 in
theorem xa_icmp_lt {mi u0 len pc : Nat} {Q : State → Prop} {cal : Nat → List XE → XH → XR} {ls : XL} {st : List XE} {σ : XH} {k : Nat → XL → List XE → XH → XR} {res : XV × XH} {off : Int} (K : XK P U D mi p R s m args meth c) (hd : decode (xcb mi) pc = .ok (.if_icmp .lt off, len)) (ho : xok mi pc (.if_icmp .lt off) len = true) (h : xop mi cal (.if_icmp .lt off) len pc ls st σ k = some res)
    (hk : ∀ pc' ls' st' σ', k pc' ls' st' σ' = some res → XG U D mi p l e R s m args below meth c u0 Q pc' ls' st' σ') : XG U D mi p l e R s m args below meth c u0 Q pc ls st σ := by
  obtain ⟨hx, hb, hml, hown, hts, -⟩ := K
  have hl : len = 3 ∧ 0 ≤ (pc : Int) + off := by simpa [xok] using ho
  obtain ⟨hl, hoff⟩ := hl
  subst hl
  have ht := xtgt hoff
  have h : (match (generalizing := false) st with
    | .inl y :: .inl x :: r => if x < y then xj pc off fun t => k t ls r σ else k (pc + 3) ls r σ
    | _ => none) = some res := h
  split at h
  · next r =>
    intro H locs la hR hL hlc hs hu
    refine lv_icmp_lt hx hb hd ht (fun q => ?_) (fun q => ?_)
    · rw [if_pos (q), xj_eq ht] at h
      exact (hk _ _ _ _ h H locs la hR hL hlc hs hu)
    · rw [if_neg (q)] at h
      exact (hk _ _ _ _ h H locs la hR hL hlc hs hu)
  · cases h

set_option maxHeartbeats 1000000 in
theorem xa_icmp_ge {mi u0 len pc : Nat} {Q : State → Prop} {cal : Nat → List XE → XH → XR} {ls : XL} {st : List XE} {σ : XH} {k : Nat → XL → List XE → XH → XR} {res : XV × XH} {off : Int} (K : XK P U D mi p R s m args meth c) (hd : decode (xcb mi) pc = .ok (.if_icmp .ge off, len)) (ho : xok mi pc (.if_icmp .ge off) len = true) (h : xop mi cal (.if_icmp .ge off) len pc ls st σ k = some res)
    (hk : ∀ pc' ls' st' σ', k pc' ls' st' σ' = some res → XG U D mi p l e R s m args below meth c u0 Q pc' ls' st' σ') : XG U D mi p l e R s m args below meth c u0 Q pc ls st σ := by
  obtain ⟨hx, hb, hml, hown, hts, -⟩ := K
  have hl : len = 3 ∧ 0 ≤ (pc : Int) + off := by simpa [xok] using ho
  obtain ⟨hl, hoff⟩ := hl
  subst hl
  have ht := xtgt hoff
  have h : (match (generalizing := false) st with
    | .inl y :: .inl x :: r => if x < y then k (pc + 3) ls r σ else xj pc off fun t => k t ls r σ
    | _ => none) = some res := h
  split at h
  · next r =>
    intro H locs la hR hL hlc hs hu
    refine lv_icmp_ge hx hb hd ht (fun q => ?_) (fun q => ?_)
    · rw [if_neg (k2_nlt q), xj_eq ht] at h
      exact (hk _ _ _ _ h H locs la hR hL hlc hs hu)
    · rw [if_pos (k2_lt q)] at h
      exact (hk _ _ _ _ h H locs la hR hL hlc hs hu)
  · cases h

set_option maxHeartbeats 1000000 in
theorem xa_icmp_gt {mi u0 len pc : Nat} {Q : State → Prop} {cal : Nat → List XE → XH → XR} {ls : XL} {st : List XE} {σ : XH} {k : Nat → XL → List XE → XH → XR} {res : XV × XH} {off : Int} (K : XK P U D mi p R s m args meth c) (hd : decode (xcb mi) pc = .ok (.if_icmp .gt off, len)) (ho : xok mi pc (.if_icmp .gt off) len = true) (h : xop mi cal (.if_icmp .gt off) len pc ls st σ k = some res)
    (hk : ∀ pc' ls' st' σ', k pc' ls' st' σ' = some res → XG U D mi p l e R s m args below meth c u0 Q pc' ls' st' σ') : XG U D mi p l e R s m args below meth c u0 Q pc ls st σ := by
  obtain ⟨hx, hb, hml, hown, hts, -⟩ := K
  have hl : len = 3 ∧ 0 ≤ (pc : Int) + off := by simpa [xok] using ho
  obtain ⟨hl, hoff⟩ := hl
  subst hl
  have ht := xtgt hoff
  have h : (match (generalizing := false) st with
    | .inl y :: .inl x :: r => if y < x then xj pc off fun t => k t ls r σ else k (pc + 3) ls r σ
    | _ => none) = some res := h
  split at h
  · next r =>
    intro H locs la hR hL hlc hs hu
    refine lv_icmp_gt hx hb hd ht (fun q => ?_) (fun q => ?_)
    · rw [if_pos (q), xj_eq ht] at h
      exact (hk _ _ _ _ h H locs la hR hL hlc hs hu)
    · rw [if_neg (q)] at h
      exact (hk _ _ _ _ h H locs la hR hL hlc hs hu)
  · cases h

set_option maxHeartbeats 1000000 in
theorem xa_icmp_le {mi u0 len pc : Nat} {Q : State → Prop} {cal : Nat → List XE → XH → XR} {ls : XL} {st : List XE} {σ : XH} {k : Nat → XL → List XE → XH → XR} {res : XV × XH} {off : Int} (K : XK P U D mi p R s m args meth c) (hd : decode (xcb mi) pc = .ok (.if_icmp .le off, len)) (ho : xok mi pc (.if_icmp .le off) len = true) (h : xop mi cal (.if_icmp .le off) len pc ls st σ k = some res)
    (hk : ∀ pc' ls' st' σ', k pc' ls' st' σ' = some res → XG U D mi p l e R s m args below meth c u0 Q pc' ls' st' σ') : XG U D mi p l e R s m args below meth c u0 Q pc ls st σ := by
  obtain ⟨hx, hb, hml, hown, hts, -⟩ := K
  have hl : len = 3 ∧ 0 ≤ (pc : Int) + off := by simpa [xok] using ho
  obtain ⟨hl, hoff⟩ := hl
  subst hl
  have ht := xtgt hoff
  have h : (match (generalizing := false) st with
    | .inl y :: .inl x :: r => if y < x then k (pc + 3) ls r σ else xj pc off fun t => k t ls r σ
    | _ => none) = some res := h
  split at h
  · next r =>
    intro H locs la hR hL hlc hs hu
    refine lv_icmp_le hx hb hd ht (fun q => ?_) (fun q => ?_)
    · rw [if_neg (k2_nlt q), xj_eq ht] at h
      exact (hk _ _ _ _ h H locs la hR hL hlc hs hu)
    · rw [if_pos (k2_lt q)] at h
      exact (hk _ _ _ _ h H locs la hR hL hlc hs hu)
  · cases h

set_option maxHeartbeats 1000000 in
theorem xa_acmp_eq {mi u0 len pc : Nat} {Q : State → Prop} {cal : Nat → List XE → XH → XR} {ls : XL} {st : List XE} {σ : XH} {k : Nat → XL → List XE → XH → XR} {res : XV × XH} {off : Int} (K : XK P U D mi p R s m args meth c) (hd : decode (xcb mi) pc = .ok (.if_acmp .eq off, len)) (ho : xok mi pc (.if_acmp .eq off) len = true) (h : xop mi cal (.if_acmp .eq off) len pc ls st σ k = some res)
    (hk : ∀ pc' ls' st' σ', k pc' ls' st' σ' = some res → XG U D mi p l e R s m args below meth c u0 Q pc' ls' st' σ') : XG U D mi p l e R s m args below meth c u0 Q pc ls st σ := by
  obtain ⟨hx, hb, hml, hown, hts, -⟩ := K
  have hl : len = 3 ∧ 0 ≤ (pc : Int) + off := by simpa [xok] using ho
  obtain ⟨hl, hoff⟩ := hl
  subst hl
  have ht := xtgt hoff
  have h : (match (generalizing := false) st with
    | .inr (.inr y) :: .inr (.inr x) :: r => if x = y then xj pc off fun t => k t ls r σ else k (pc + 3) ls r σ
    | _ => none) = some res := h
  split at h
  · next r =>
    intro H locs la hR hL hlc hs hu
    refine lv_acmp_eq hx hb hd ht (fun q => ?_) (fun q => ?_)
    · rw [if_pos (q), xj_eq ht] at h
      exact (hk _ _ _ _ h H locs la hR hL hlc hs hu)
    · rw [if_neg (q)] at h
      exact (hk _ _ _ _ h H locs la hR hL hlc hs hu)
  · cases h

set_option maxHeartbeats 1000000 in
theorem xa_acmp_ne {mi u0 len pc : Nat} {Q : State → Prop} {cal : Nat → List XE → XH → XR} {ls : XL} {st : List XE} {σ : XH} {k : Nat → XL → List XE → XH → XR} {res : XV × XH} {off : Int} (K : XK P U D mi p R s m args meth c) (hd : decode (xcb mi) pc = .ok (.if_acmp .ne off, len)) (ho : xok mi pc (.if_acmp .ne off) len = true) (h : xop mi cal (.if_acmp .ne off) len pc ls st σ k = some res)
    (hk : ∀ pc' ls' st' σ', k pc' ls' st' σ' = some res → XG U D mi p l e R s m args below meth c u0 Q pc' ls' st' σ') : XG U D mi p l e R s m args below meth c u0 Q pc ls st σ := by
  obtain ⟨hx, hb, hml, hown, hts, -⟩ := K
  have hl : len = 3 ∧ 0 ≤ (pc : Int) + off := by simpa [xok] using ho
  obtain ⟨hl, hoff⟩ := hl
  subst hl
  have ht := xtgt hoff
  have h : (match (generalizing := false) st with
    | .inr (.inr y) :: .inr (.inr x) :: r => if x = y then k (pc + 3) ls r σ else xj pc off fun t => k t ls r σ
    | _ => none) = some res := h
  split at h
  · next r =>
    intro H locs la hR hL hlc hs hu
    refine lv_acmp_ne hx hb hd ht (fun q => ?_) (fun q => ?_)
    · rw [if_neg (q), xj_eq ht] at h
      exact (hk _ _ _ _ h H locs la hR hL hlc hs hu)
    · rw [if_pos (q)] at h
      exact (hk _ _ _ _ h H locs la hR hL hlc hs hu)
  · cases h

set_option maxHeartbeats 1000000 in
theorem xa_ifnull {mi u0 len pc : Nat} {Q : State → Prop} {cal : Nat → List XE → XH → XR} {ls : XL} {st : List XE} {σ : XH} {k : Nat → XL → List XE → XH → XR} {res : XV × XH} {off : Int} (K : XK P U D mi p R s m args meth c) (hd : decode (xcb mi) pc = .ok (.ifnull off, len)) (ho : xok mi pc (.ifnull off) len = true) (h : xop mi cal (.ifnull off) len pc ls st σ k = some res)
    (hk : ∀ pc' ls' st' σ', k pc' ls' st' σ' = some res → XG U D mi p l e R s m args below meth c u0 Q pc' ls' st' σ') : XG U D mi p l e R s m args below meth c u0 Q pc ls st σ := by
  obtain ⟨hx, hb, hml, hown, hts, -⟩ := K
  have hl : len = 3 ∧ 0 ≤ (pc : Int) + off := by simpa [xok] using ho
  obtain ⟨hl, hoff⟩ := hl
  subst hl
  have ht := xtgt hoff
  have h : (match (generalizing := false) st with
    | .inr (.inr x) :: r => if x = none then xj pc off fun t => k t ls r σ else k (pc + 3) ls r σ
    | _ => none) = some res := h
  split at h
  · next x r _ =>
    intro H locs la hR hL hlc hs hu
    cases x with
    | none =>
      rw [if_pos rfl] at h
      rw [xj_eq ht] at h
      exact lv_ifnullN hx hb hd ht (hk _ _ _ _ h H locs la hR hL hlc hs hu)
    | some a =>
      rw [if_neg (by intro q; cases q)] at h
      exact lv_ifnull hx hb hd (hk _ _ _ _ h H locs la hR hL hlc hs hu)
  · cases h

set_option maxHeartbeats 1000000 in
theorem xa_ifnonnull {mi u0 len pc : Nat} {Q : State → Prop} {cal : Nat → List XE → XH → XR} {ls : XL} {st : List XE} {σ : XH} {k : Nat → XL → List XE → XH → XR} {res : XV × XH} {off : Int} (K : XK P U D mi p R s m args meth c) (hd : decode (xcb mi) pc = .ok (.ifnonnull off, len)) (ho : xok mi pc (.ifnonnull off) len = true) (h : xop mi cal (.ifnonnull off) len pc ls st σ k = some res)
    (hk : ∀ pc' ls' st' σ', k pc' ls' st' σ' = some res → XG U D mi p l e R s m args below meth c u0 Q pc' ls' st' σ') : XG U D mi p l e R s m args below meth c u0 Q pc ls st σ := by
  obtain ⟨hx, hb, hml, hown, hts, -⟩ := K
  have hl : len = 3 ∧ 0 ≤ (pc : Int) + off := by simpa [xok] using ho
  obtain ⟨hl, hoff⟩ := hl
  subst hl
  have ht := xtgt hoff
  have h : (match (generalizing := false) st with
    | .inr (.inr x) :: r => if x = none then k (pc + 3) ls r σ else xj pc off fun t => k t ls r σ
    | _ => none) = some res := h
  split at h
  · next x r _ =>
    intro H locs la hR hL hlc hs hu
    cases x with
    | none =>
      rw [if_pos rfl] at h
      exact lv_ifnonnullN hx hb hd (hk _ _ _ _ h H locs la hR hL hlc hs hu)
    | some a =>
      rw [if_neg (by intro q; cases q)] at h
      rw [xj_eq ht] at h
      exact lv_ifnonnull hx hb hd ht (hk _ _ _ _ h H locs la hR hL hlc hs hu)
  · cases h

set_option maxHeartbeats 1000000 in
theorem xa_tableswitch {mi u0 len pc : Nat} {Q : State → Prop} {cal : Nat → List XE → XH → XR} {ls : XL} {st : List XE} {σ : XH} {k : Nat → XL → List XE → XH → XR} {res : XV × XH} {d lo hi : Int} {offs : Array Int} (K : XK P U D mi p R s m args meth c) (hd : decode (xcb mi) pc = .ok (.tableswitch d lo hi offs, len)) (ho : xok mi pc (.tableswitch d lo hi offs) len = true) (h : xop mi cal (.tableswitch d lo hi offs) len pc ls st σ k = some res)
    (hk : ∀ pc' ls' st' σ', k pc' ls' st' σ' = some res → XG U D mi p l e R s m args below meth c u0 Q pc' ls' st' σ') : XG U D mi p l e R s m args below meth c u0 Q pc ls st σ := by
  obtain ⟨hx, hb, hml, hown, hts, -⟩ := K
  have hl : lo = 0 ∧ hi + 1 = (offs.size : Int) ∧ offs.size < 1000 ∧ 0 ≤ (pc : Int) + d ∧ ∀ (j : Nat) (hj : j < offs.size), 0 ≤ (pc : Int) + offs[j] := by
    simpa [xok, and_assoc] using ho
  obtain ⟨rfl, hhi, hsz, hd0, hoff⟩ := hl
  have h : (match (generalizing := false) st with
    | .inl x :: r => xsw x (fun off => xj pc off fun t => k t ls r σ) d 0 offs.toList
    | _ => none) = some res := h
  split at h
  · next x r _ =>
    intro H locs la hR hL hlc hs hu
    rcases xsw_some _ _ h with ⟨j, off, h1, h2, h3⟩ | ⟨h1, h2⟩
    · rw [Array.getElem?_toList] at h1
      have hj : j < offs.size := (Array.getElem?_eq_some_iff.mp h1).1
      have hm : offs[j] = off := (Array.getElem?_eq_some_iff.mp h1).2
      have ht := xtgt (hm ▸ hoff j hj)
      rw [xj_eq ht] at h3
      have hxi : x.toInt = (j : Int) := by rw [h2, Nat.zero_add, nI_toInt (by omega)]
      exact lv_tableIn hx hb hd (by omega) (by omega) (by rw [hxi]; simpa using h1) ht (hk _ _ _ _ h3 H locs la hR hL hlc hs hu)
    · have ht := xtgt hd0
      rw [xj_eq ht] at h2
      refine lv_tableOut hx hb hd ?_ ht (hk _ _ _ _ h2 H locs la hR hL hlc hs hu)
      by_cases hn : x < 0
      · left
        have := Int32.lt_iff_toInt_lt.mp hn
        simpa using this
      · right
        obtain ⟨j, hj, rfl⟩ := nI_of hn
        rw [nI_toInt hj]
        by_cases hjs : j < offs.size
        · exact absurd (by rw [Nat.zero_add]) (h1 j (by simpa using hjs))
        · omega
  · cases h

end XA
