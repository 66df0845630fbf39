/-! the machine follows the interpreter: fields, arrays, new objects -/
section XM
variable {p : Program} {l : Launch} {e : Env} {R : Room} {s : State} {m : MethodId} {args : Array Value} {below : List Frame} {meth : Method} {c : Code} {U : State} {D : va_G} {P : State → Prop}
theorem xcl_lt {t : Nat} {r : vw_C} (h : vwCl[t]? = some r) : t < 13 := (List.getElem?_eq_some_iff.mp h).1
theorem xgt_some {σ : XH} {r : Option Nat} {t k : Nat} {x : XE} (h : xgt σ r t k = some x) : ∃ a o, r = some a ∧ σ.1 a = some o ∧ o.1 = t ∧ o.2[k]? = some x := by
  cases r with
  | none => cases h
  | some a =>
    have h : (match σ.1 a with
      | none => none
      | some o => if o.1 = t then o.2[k]? else none) = some x := h
    cases ho : σ.1 a with
    | none => rw [ho] at h; cases h
    | some o =>
      rw [ho] at h
      have h : (if o.1 = t then o.2[k]? else none) = some x := h
      by_cases ht : o.1 = t
      · rw [if_pos ht] at h
        exact ⟨a, o, rfl, ho, ht, h⟩
      · rw [if_neg ht] at h; cases h
theorem xgi_some {σ : XH} {r : Option Nat} {t k : Nat} {x : Int32} (h : xgi σ r t k = some x) : xgt σ r t k = some (.inl x) := by
  unfold xgi at h
  cases hg : xgt σ r t k with
  | none => rw [hg] at h; cases h
  | some q =>
    rw [hg] at h
    rcases q with q | q | q
    · have h : some q = some x := h
      cases h; rfl
    · cases h
    · cases h
theorem xgl_some {σ : XH} {r : Option Nat} {t k : Nat} {x : Int64} (h : xgl σ r t k = some x) : xgt σ r t k = some (.inr (.inl x)) := by
  unfold xgl at h
  cases hg : xgt σ r t k with
  | none => rw [hg] at h; cases h
  | some q =>
    rw [hg] at h
    rcases q with q | q | q
    · cases h
    · have h : some q = some x := h
      cases h; rfl
    · cases h
theorem xgr_some {σ : XH} {r : Option Nat} {t k : Nat} {x : Option Nat} (h : xgr σ r t k = some x) : xgt σ r t k = some (.inr (.inr x)) := by
  unfold xgr at h
  cases hg : xgt σ r t k with
  | none => rw [hg] at h; cases h
  | some q =>
    rw [hg] at h
    rcases q with q | q | q
    · cases h
    · cases h
    · have h : some q = some x := h
      cases h; rfl
theorem xpt_some {σ σ1 : XH} {r : Option Nat} {t k : Nat} {x : XE} (h : xpt σ r t k x = some σ1) : ∃ a o, r = some a ∧ σ.1 a = some o ∧ o.1 = t ∧ k < o.2.length ∧ σ1 = xset σ a (t, o.2.set k x) := by
  cases r with
  | none => cases h
  | some a =>
    have h : (match σ.1 a with
      | none => none
      | some o => if o.1 = t ∧ k < o.2.length then some (xset σ a (t, o.2.set k x)) else none) = some σ1 := h
    cases ho : σ.1 a with
    | none => rw [ho] at h; cases h
    | some o =>
      rw [ho] at h
      have h : (if o.1 = t ∧ k < o.2.length then some (xset σ a (t, o.2.set k x)) else none) = some σ1 := h
      by_cases ht : o.1 = t ∧ k < o.2.length
      · rw [if_pos ht] at h
        cases h
        exact ⟨a, o, rfl, ho, ht.1, ht.2, rfl⟩
      · rw [if_neg ht] at h; cases h
theorem xbind_some {α β : Type} {x : Option α} {f : α → Option β} {y : β} (h : x.bind f = some y) : ∃ a, x = some a ∧ f a = some y := by
  cases x with
  | none => cases h
  | some a => exact ⟨a, rfl, h⟩
/-- an object of a class of ours -/
theorem XRep.obj {σ : XH} {H : Heap} {a : Nat} {o : XO} {r : vw_C} (hR : XRep U D σ H) (ho : σ.1 a = some o) (hc : vwCl[o.1]? = some r) : r.2.2 = o.2.length ∧ t_OB a (D.1 o.1) o.2.length (D.2 o.1) H (vp_V (o.2.map xv)) := by
  have hl := xcl_lt hc
  rcases (hR.2.2.2.2 a o ho).1 with ⟨r', h1, h2, h3⟩ | ⟨h1, -⟩ | ⟨h1, -⟩
  · cases Option.some.inj (hc.symm.trans h1)
    exact ⟨h2, h3⟩
  · omega
  · omega
theorem xw_get {mi pc x t f : Nat} {C : String} {T : u_T} {N : Nat} {Q : State → Prop} {H : Heap} {locs : List Loc} {cells slots : Nat} {la : Array Slot} {rest : List Value} {σ : XH} {a : Nat} {o : XO} {v : XE} (K : XK P U D mi p R s m args meth c) (hS3 : XS3) (hc : vwCl[t]? = some (C, T, N)) (hf : f < N) (hw : Cond.fieldLink (xnm (xow mi)) x (T f).1 (T f).2.1 (T f).2.2.1 ∈ xTs)
    (hR : XRep U D σ H) (ho : σ.1 a = some o) (ht : o.1 = t) (hv : o.2[f]? = some v) (hd : decode (xcb mi) pc = .ok (.getfield x, 3)) (kk : W p l e R s m args below meth c H locs cells slots Q (F0 m (pc + 3) la (xv v :: rest))) : W p l e R s m args below meth c H locs cells slots Q (F0 m pc la (.ref a :: rest)) := by
  obtain ⟨hx, hb, hml, hown, hts, -, -, -, -, -, hal, hK, -⟩ := K
  subst ht
  obtain ⟨h1, h2⟩ := hR.obj ho hc
  have h1 : N = o.2.length := h1
  subst h1
  have hP : va_P D vwCl [(a, .inr (o.1, o.2.map xv))] H := by
    intro k q hk
    cases k with
    | zero => cases hk; exact ⟨_, hc, h2⟩
    | succ k => cases hk
  exact va_get (D := D) (ci := o.1) (v := xv v) (C := C) (T := T) hx hb hts (hS3 _ _ _ _ hc).1 hown hK hP 0 rfl hc f hf (hts _ hw) (fun _ h9 => h9) (by rw [List.getElem?_map, hv]; rfl) hd kk
theorem xw_put {mi pc x t f : Nat} {C : String} {T : u_T} {N : Nat} {Q : State → Prop} {H : Heap} {locs : List Loc} {cells slots : Nat} {la : Array Slot} {rest : List Value} {σ : XH} {a : Nat} {o : XO} {v : XE} {ty : FieldType} (K : XK P U D mi p R s m args meth c) (hS3 : XS3) (hc : vwCl[t]? = some (C, T, N)) (hf : f < N) (hw : Cond.fieldLink (xnm (xow mi)) x (T f).1 (T f).2.1 (T f).2.2.1 ∈ xTs)
    (hfin : (T f).2.2.2 = false ∨ ((T f).2.2.2 = true ∧ mi ∈ xinis ∧ (T f).1 = xnm (xow mi))) (hde : parseFieldDescriptor (T f).2.2.1 = some ty) (hn : narrow ty (xv v) = xv v) (hfit : fits ty (xv v) = true)
    (hR : XRep U D σ H) (ho : σ.1 a = some o) (ht : o.1 = t) (hd : decode (xcb mi) pc = .ok (.putfield x, 3)) (hlc : ∀ q ∈ locs, U.heap.size ≤ q.base)
    (kk : ∀ (H1 : Heap) (locs1 : List Loc), XRep U D (xset σ a (t, o.2.set f v)) H1 → (∀ q ∈ locs1, U.heap.size ≤ q.base) → W p l e R s m args below meth c H1 locs1 cells slots Q (F0 m (pc + 3) la rest)) : W p l e R s m args below meth c H locs cells slots Q (F0 m pc la (xv v :: .ref a :: rest)) := by
  obtain ⟨hx, hb, hml, hown, hts, -, -, hin2, -, -, hal, hK, -⟩ := K
  subst ht
  obtain ⟨h1, cell, q1, q2, q3, q4⟩ := hR.obj ho hc
  have h1 : N = o.2.length := h1
  subst h1
  obtain ⟨hin, hty, hnm, -⟩ := hS3 _ _ _ _ hc
  have hap := va_apart (own := xnm (xow mi)) hts hin (xtf o.1) hty hnm hK hc
  obtain ⟨hS, hfc, kC, hkC, hkind⟩ := hK.1 o.1 _ hc
  obtain ⟨cf, kf, fi, fd, hi, hsl⟩ := hS f hf
  have hlay := hts _ (hin _ (u_in_lay hf))
  have hst := (u_facts hfc hkC (u_lays hts hin hf) hi).1
  have hb0 : U.heap.size ≤ a := by
    rcases (hR.2.2.2.2 a o ho).2 with q | q
    · have := xcl_lt hc; omega
    · exact q
  have end_ : ∀ H1 : Heap, H1[a]? = some (cell.setSlot (D.2 o.1 f) (xv v)) → H1.size = H.size → (∀ q : Nat, q ≠ a → H1[q]? = H[q]?) → W p l e R s m args below meth c H1 (locs ++ [⟨a, D.2 o.1 f⟩]) cells slots Q (F0 m (pc + 3) la rest) := by
    intro H1 e1 e2 e3
    refine kk H1 _ (hR.put ho (by have := xcl_lt hc; omega) (Or.inl ⟨_, hc, by simp, ?_⟩) e2 e3) (fun q hq => ?_)
    · refine t_OB.to (V := updV (vp_V (o.2.map xv)) f (xv v)) ⟨_, e1, q2, q3, ?_⟩ (fun j _ => ?_)
      · show ∀ k, k < (o.2.set f v).length → _
        rw [List.length_set]
        exact t_set q4 hap hf (xv v)
      · rw [vp_updV_set (by simpa using hf), List.map_set]
    · rcases List.mem_append.mp hq with h | h
      · exact hlc q h
      · rw [List.mem_singleton] at h
        subst h
        exact hb0
  rcases hfin with hfin | ⟨hfin, hmi, hdecl⟩
  · unfold u_lay at hlay
    rw [if_neg (by rw [hfin]; decide)] at hlay
    have h6 := u_store hfc hkC hkind hlay hi hde hn hfit
    refine W.putK hx hb (f := fd) ⟨hown, hts _ hw, ⟨_, _, _, hi⟩, hst⟩ (by rw [q2]; exact h6) q1 q3 (by rw [hsl]; exact k2_hasslot (q4 f hf)) rfl rfl hd fun H' e1 e2 e3 => ?_
    rw [hsl] at e1 ⊢
    exact end_ H' e1 e2 e3
  · unfold u_lay at hlay
    rw [if_pos hfin] at hlay
    have hcf : m.cls = cf := by
      obtain ⟨_, _, c', _, _, _, -, -, hf', -, -, -, hown2, -⟩ := Cond.laysFinal_spec hlay
      have e1 : c' = cf := by have := hi.symm.trans hf'; simp at this; exact this.1.symm
      rw [hdecl] at hown2
      rw [← e1]; exact Option.some.inj (hown.symm.trans hown2)
    have h6 := u_fits hfc hkC hkind (Or.inr hlay) hi hde hn hfit
    refine W.putFinK hx hb hown (hts _ hw) hi hst hcf (hin2 hmi) (by rw [q2]; exact h6) q1 q3 (by rw [hsl]; exact k2_hasslot (q4 f hf)) rfl rfl hd fun H' e1 e2 e3 => ?_
    rw [hsl] at e1 ⊢
    exact end_ H' e1 e2 e3
end XM
