/-! the machine follows the interpreter: references stored, statics, new objects, answers -/
def XS6 : Prop := (∀ o x, xsd o x = some 0 → Cond.fieldLink (xnm o) x "TaskTrees" "SET_LEAST" "[I" ∈ xTs) ∧ (∀ o x j, xsd o x = some j → j ≠ 0 → Cond.fieldLink (xnm o) x "TaskTrees" "SET_MOST" "[I" ∈ xTs)
/-- what the moving predicate says of array classes -/
def XPo (P : State → Prop) : Prop := ∀ s, P s → ∀ c, c = 8 ∨ c = 7 ∨ c = 1 ∨ c = 4 ∨ c = 10 → va_AO (xnm c) s
section XP
variable {p : Program} {l : Launch} {e : Env} {R : Room} {s : State} {m : MethodId} {args : Array Value} {below : List Frame} {meth : Method} {c : Code} {U : State} {D : va_G} {P : State → Prop}

theorem xrk_1 {mi : Nat} (h : xrk mi = 1) : xrt mi = some .int := by
  unfold xrk at h
  split at h <;> first | assumption | (exact absurd h (by decide))
theorem xrk_2 {mi : Nat} (h : xrk mi = 2) : xrt mi = some .long := by
  unfold xrk at h
  split at h <;> first | assumption | (exact absurd h (by decide))
theorem xrk_4 {mi : Nat} (h : xrk mi = 4) : xrt mi = some .boolean := by
  unfold xrk at h
  split at h <;> first | assumption | (exact absurd h (by decide))
theorem xrk_0 {mi : Nat} (h : xrk mi = 0) : xrt mi = none := by
  unfold xrk at h
  split at h <;> first | assumption | (exact absurd h (by decide))
theorem xrk_3 {mi : Nat} (h : xrk mi = 3) : ∃ n, xrt mi = some (.object n) := by
  unfold xrk at h
  split at h <;> first | exact ⟨_, by assumption⟩ | (exact absurd h (by decide))

theorem xsr_some {σ σ1 : XH} {r : Option Nat} {i : Int32} {x : Option Nat} (h : xsr σ r i x = some σ1) : ∃ a o, r = some a ∧ σ.1 a = some o ∧ (103 ≤ o.1 ∧ o.1 < 108) ∧ ¬ i < 0 ∧ i.toNatClampNeg < o.2.length ∧ σ1 = xset σ a (o.1, o.2.set i.toNatClampNeg (.inr (.inr x))) ∧ (∀ b, x = some b → ∃ q, σ.1 b = some q ∧ q.1 = xof o.1) := by
  cases r with
  | none => cases h
  | some a =>
    cases ho : σ.1 a with
    | none =>
      have h : (match σ.1 a with
        | none => none
        | some o => if 103 ≤ o.1 ∧ o.1 < 108 then (match (generalizing := false) x with
          | none => xas σ (some a) o.1 i (.inr (.inr none))
          | some b => match σ.1 b with
            | none => none
            | some q => if q.1 = xof o.1 then xas σ (some a) o.1 i (.inr (.inr (some b))) else none) else none) = some σ1 := h
      rw [ho] at h; cases h
    | some o =>
      have h : (match σ.1 a with
        | none => none
        | some o => if 103 ≤ o.1 ∧ o.1 < 108 then (match (generalizing := false) x with
          | none => xas σ (some a) o.1 i (.inr (.inr none))
          | some b => match σ.1 b with
            | none => none
            | some q => if q.1 = xof o.1 then xas σ (some a) o.1 i (.inr (.inr (some b))) else none) else none) = some σ1 := h
      rw [ho] at h
      have h : (if 103 ≤ o.1 ∧ o.1 < 108 then (match (generalizing := false) x with
          | none => xas σ (some a) o.1 i (.inr (.inr none))
          | some b => match σ.1 b with
            | none => none
            | some q => if q.1 = xof o.1 then xas σ (some a) o.1 i (.inr (.inr (some b))) else none) else none) = some σ1 := h
      by_cases ht : 103 ≤ o.1 ∧ o.1 < 108
      · rw [if_pos ht] at h
        cases x with
        | none =>
          obtain ⟨b, q, g1, g2, g3, g4, g5, g6⟩ := xas_some h
          cases g1
          cases ho.symm.trans g2
          exact ⟨a, o, rfl, ho, ht, g4, g5, g6, fun b hb => by cases hb⟩
        | some b =>
          have h : (match σ.1 b with
            | none => none
            | some q => if q.1 = xof o.1 then xas σ (some a) o.1 i (.inr (.inr (some b))) else none) = some σ1 := h
          cases hb : σ.1 b with
          | none => rw [hb] at h; cases h
          | some q =>
            rw [hb] at h
            have h : (if q.1 = xof o.1 then xas σ (some a) o.1 i (.inr (.inr (some b))) else none) = some σ1 := h
            by_cases hq : q.1 = xof o.1
            · rw [if_pos hq] at h
              obtain ⟨b', q', g1, g2, g3, g4, g5, g6⟩ := xas_some h
              cases g1
              cases ho.symm.trans g2
              exact ⟨a, o, rfl, ho, ht, g4, g5, g6, fun b2 hb2 => by cases hb2; exact ⟨q, hb, hq⟩⟩
            · rw [if_neg hq] at h; cases h
      · rw [if_neg ht] at h; cases h

set_option maxHeartbeats 1000000 in
theorem xb_aastore {mi u0 len pc : Nat} {Q : State → Prop} {cal : Nat → List XE → XH → XR} {ls : XL} {st : List XE} {σ : XH} {k : Nat → XL → List XE → XH → XR} {res : XV × XH}  (K : XK P U D mi p R s m args meth c) (hd : decode (xcb mi) pc = .ok (.aastore, len)) (ho : xok mi pc (.aastore) len = true) (h : xop mi cal (.aastore) len pc ls st σ k = some res)
    (hk : ∀ pc' ls' st' σ', k pc' ls' st' σ' = some res → XG U D mi p l e R s m args below meth c u0 Q pc' ls' st' σ') : XG U D mi p l e R s m args below meth c u0 Q pc ls st σ := by
  have hl : len = 1 := by simpa [xok] using ho
  subst hl
  have h : (match (generalizing := false) st with
    | .inr (.inr v) :: .inl j :: .inr (.inr a) :: r => (xsr σ a j v).bind fun σ' => k (pc + 1) ls r σ'
    | _ => none) = some res := h
  split at h
  · next v j a r _ =>
    obtain ⟨σ1, h1, hh⟩ := xbind_some h
    intro H locs la hR hL hlc hs hu
    obtain ⟨b, o, rfl, g2, g3, g4, g5, rfl, g7⟩ := xsr_some h1
    obtain ⟨cA, c1, c2, c3, c4, c5⟩ := hR.ast g2 (by omega) (by omega) g5
    obtain ⟨hx, hb, -, -, hts, -, -, -, -, -, hal, hK, -⟩ := K
    obtain ⟨rc, t1, t2⟩ := xty_ref g3
    have c2 := arrOfT_moved hal c2
    have c3 := (c3 g3.1).moved hal
    rw [t1] at c2 c3
    cases v with
    | none =>
      refine va_WaastN (C := rc.1) hx hb c1 (c2 _ _) (fun q => by cases q) (by rw [arrV_size]; intro q; rcases q with q | q; exact g4 q; omega) rfl rfl hd fun H1 e1 z1 o1 => ?_
      exact hk _ _ _ _ hh H1 _ la (c5 (.inr (.inr none)) H1 e1 z1 o1) hL (xlocs hlc c4) hs hu
    | some y =>
      obtain ⟨q, q1, q2⟩ := g7 y rfl
      have q3 := hR.obj (r := rc) q1 (by rw [q2]; exact t2)
      obtain ⟨-, cv, v1, v2, v3, -⟩ := q3
      have hcls := (hK.1 (xof o.1) rc t2).2
      obtain ⟨kA, comp, k1, k2, k3, -⟩ := c3
      have hcomp : comp = D.1 (xof o.1) := Option.some.inj (k3.symm.trans hcls.1)
      subst hcomp
      obtain ⟨kC, hkC, -⟩ := hcls.2
      rw [q2] at v2
      refine W.aast hx hb c1 (fun q h => by cases h) (fun h => by cases h) k1 k2 rfl hkC ⟨g4, by rw [arrV_size]; exact g5⟩ v1 (fun q h => by rw [v3] at h; cases h) (by rw [v2]; exact hkC) (by rw [v2]; exact va_assign hcls) rfl rfl hd fun H1 e1 z1 o1 => ?_
      exact hk _ _ _ _ hh H1 _ la (c5 (.inr (.inr (some y))) H1 e1 z1 o1) hL (xlocs hlc c4) hs hu
  · cases h

set_option maxHeartbeats 1000000 in
theorem xb_getstatic {mi u0 len pc : Nat} {Q : State → Prop} {cal : Nat → List XE → XH → XR} {ls : XL} {st : List XE} {σ : XH} {k : Nat → XL → List XE → XH → XR} {res : XV × XH} {x : Nat} (K : XK P U D mi p R s m args meth c) (hS6 : XS6) (hd : decode (xcb mi) pc = .ok (.getstatic x, len)) (ho : xok mi pc (.getstatic x) len = true) (h : xop mi cal (.getstatic x) len pc ls st σ k = some res)
    (hk : ∀ pc' ls' st' σ', k pc' ls' st' σ' = some res → XG U D mi p l e R s m args below meth c u0 Q pc' ls' st' σ') : XG U D mi p l e R s m args below meth c u0 Q pc ls st σ := by
  have hl : len = 3 := by simpa [xok] using ho
  subst hl
  have h : (match (generalizing := false) xsd (xow mi) x with
    | some j => k (pc + 3) ls (.inr (.inr (some (xgs σ j))) :: st) σ
    | none => none) = some res := h
  split at h
  · next j hj =>
    intro H locs la hR hL hlc hs hu
    obtain ⟨hx, hb, -, hown, hts, -, -, -, -, -, hal, hK, -⟩ := K
    obtain ⟨⟨z1, z2⟩, r1, r2, r3, -⟩ := id hR
    have fin : ∀ {n : String} {a : Nat}, va_Z "TaskTrees" n "[I" (.ref a) (fun q => U.heap.size ≤ q) U U.heap → Cond.fieldLink (xnm (xow mi)) x "TaskTrees" n "[I" ∈ xTs → W p l e R s m args below meth c H locs (σ.2.1 - s.heap.size) (σ.2.2.1 - u0) Q (F0 m (pc + 3) la (.ref a :: st.map xv)) → W p l e R s m args below meth c H locs (σ.2.1 - s.heap.size) (σ.2.2.1 - u0) Q (F0 m pc la (st.map xv)) := by
      intro n a hz hw kk
      obtain ⟨cf, kf, fi, f, a1, cell, h1, h2, h3, h4, h5, h6, h7, h8⟩ := hz.moved hal
      have hlt : a1 < U.heap.size := (Array.getElem?_eq_some_iff.mp h5).1
      exact W.gets hx hb hown (hts _ hw) h1 h2 h3 h4 (by rw [r3 a1 hlt]; exact h5) (fun e => by rw [e] at h6; cases h6) h7 rfl hd kk
    cases j with
    | zero => exact fin z1 (hS6.1 _ _ hj) (hk _ _ _ _ h H locs la hR hL hlc hs hu)
    | succ j => exact fin z2 (hS6.2 _ _ _ hj (by omega)) (hk _ _ _ _ h H locs la hR hL hlc hs hu)
  · cases h

set_option maxHeartbeats 1000000 in
theorem xb_new {mi u0 len pc : Nat} {Q : State → Prop} {cal : Nat → List XE → XH → XR} {ls : XL} {st : List XE} {σ : XH} {k : Nat → XL → List XE → XH → XR} {res : XV × XH} {x : Nat} (K : XK P U D mi p R s m args meth c) (hS3 : XS3) (hS4 : XS4) (hne : ∀ c, xcd (xow mi) x = some c → c ≠ 50 ∧ c ≠ 51 ∧ c < 13) (hd : decode (xcb mi) pc = .ok (.new x, len)) (ho : xok mi pc (.new x) len = true) (h : xop mi cal (.new x) len pc ls st σ k = some res)
    (hk : ∀ pc' ls' st' σ', k pc' ls' st' σ' = some res → XG U D mi p l e R s m args below meth c u0 Q pc' ls' st' σ')
    (hm : ∀ pc' ls' st' σ', k pc' ls' st' σ' = some res → σ'.2.1 ≤ R.cells + s.heap.size ∧ σ'.2.2.1 ≤ R.slots + u0) : XG U D mi p l e R s m args below meth c u0 Q pc ls st σ := by
  have hl : len = 3 := by simpa [xok] using ho
  subst hl
  have h : (match (generalizing := false) xcd (xow mi) x with
    | some c => (match (generalizing := false) c with
      | 50 => xth σ st 50
      | 51 => xth σ st 51
      | c => xnw σ (c, xdf c) fun a σ' => k (pc + 3) ls (.inr (.inr (some a)) :: st) σ')
    | none => none) = some res := h
  split at h
  · next ci hj =>
    obtain ⟨n1, n2, n3⟩ := hne _ hj
    split at h
    · exact absurd rfl n1
    · exact absurd rfl n2
    · have h : k (pc + 3) ls (.inr (.inr (some σ.2.1)) :: st) (xpush σ (ci, xdf ci)) = some res := h
      intro H locs la hR hL hlc hs hu
      obtain ⟨hx, hb, -, hown, hts, -, -, -, -, -, hal, hK, -⟩ := K
      obtain ⟨C, T, N, hc⟩ : ∃ C T N, vwCl[ci]? = some (C, T, N) := ⟨_, _, _, List.getElem?_eq_getElem (show ci < vwCl.length from n3)⟩
      obtain ⟨s1, s2, s3, s4, s5, s6, s7, s8⟩ := hS3 _ _ _ _ hc
      have hw := hS4 _ _ _ hj n3
      rw [← s8] at hw
      have hKn := hK.1 ci _ hc
      obtain ⟨m1, m2⟩ := hm _ _ _ _ h
      have m1 : σ.2.1 + 1 ≤ R.cells + s.heap.size := m1
      have m2 : σ.2.2.1 + (xdf ci).length ≤ R.slots + u0 := m2
      have hsz : H.size = σ.2.1 := hR.2.1
      refine W.newcK hx hb hown (hts _ hw) (hts _ s4) (hts _ s5) rfl hd (by omega) (by omega) hKn.2.1 hsz fun H1 kC hkC e1 z1 o1 => ?_
      have hR1 : XRep U D (xpush σ (ci, xdf ci)) H1 := by
        refine hR.push ?_ (by rw [z1, hsz]) (fun q hq => o1 q (by rw [← hsz]; exact hq))
        rw [hsz]
        refine Or.inl ⟨_, hc, s6.symm, ?_⟩
        show t_OB σ.2.1 (D.1 ci) (xdf ci).length (D.2 ci) H1 (vp_V ((xdf ci).map xv))
        rw [s6]
        exact (u_born (xtf ci) hts s1 hKn hkC e1 s2).to s7
      have hc1 : σ.2.1 - s.heap.size + 1 = (xpush σ (ci, xdf ci)).2.1 - s.heap.size := by
        show _ = σ.2.1 + 1 - s.heap.size
        omega
      have hc2 : σ.2.2.1 - u0 + N = (xpush σ (ci, xdf ci)).2.2.1 - u0 := by
        show _ = σ.2.2.1 + (xdf ci).length - u0
        omega
      exact W.cs hc1 hc2 (hk _ _ _ _ h H1 locs la hR1 hL hlc (by show s.heap.size ≤ σ.2.1 + 1; omega) (by show u0 ≤ σ.2.2.1 + (xdf ci).length; omega))
  · cases h

/-- behind a new array -/
theorem xnwa_some {σ : XH} {t : Nat} {d : XE} {n : Int32} {K : Nat → XH → XR} {res : XV × XH} (h : xnwa σ t d n K = some res) : ¬ n < 0 ∧ n.toNatClampNeg ≤ 100000 ∧ K σ.2.1 (xpush σ (t, List.replicate n.toNatClampNeg d)) = some res := by
  unfold xnwa at h
  split at h
  · cases h
  · next h1 =>
    split at h
    · cases h
    · next h2 => exact ⟨h1, by omega, h⟩
theorem xrep_V {n j : Nat} {d : XE} (h : j < n) : vp_V ((List.replicate n d).map xv) j = xv d := by
  refine xvV ?_
  rw [List.getElem?_replicate, if_pos h]

set_option maxHeartbeats 1000000 in
theorem xb_newarray {mi u0 len pc : Nat} {Q : State → Prop} {cal : Nat → List XE → XH → XR} {ls : XL} {st : List XE} {σ : XH} {k : Nat → XL → List XE → XH → XR} {res : XV × XH} {ty : ArrayType} (K : XK P U D mi p R s m args meth c) (hS5 : XS5) (hd : decode (xcb mi) pc = .ok (.newarray ty, len)) (ho : xok mi pc (.newarray ty) len = true) (h : xop mi cal (.newarray ty) len pc ls st σ k = some res)
    (hk : ∀ pc' ls' st' σ', k pc' ls' st' σ' = some res → XG U D mi p l e R s m args below meth c u0 Q pc' ls' st' σ')
    (hm : ∀ pc' ls' st' σ', k pc' ls' st' σ' = some res → σ'.2.1 ≤ R.cells + s.heap.size ∧ σ'.2.2.1 ≤ R.slots + u0) : XG U D mi p l e R s m args below meth c u0 Q pc ls st σ := by
  have hl : len = 2 := by simpa [xok] using ho
  subst hl
  have h : (match (generalizing := false) st with
    | .inl n :: r => (match (generalizing := false) ty with
      | .int => xnwa σ 100 (.inl 0) n fun a σ' => k (pc + 2) ls (.inr (.inr (some a)) :: r) σ'
      | .long => xnwa σ 101 (.inr (.inl 0)) n fun a σ' => k (pc + 2) ls (.inr (.inr (some a)) :: r) σ'
      | .boolean => xnwa σ 102 (.inl 0) n fun a σ' => k (pc + 2) ls (.inr (.inr (some a)) :: r) σ'
      | _ => none)
    | _ => none) = some res := h
  split at h
  · next n r _ =>
    intro H locs la hR hL hlc hs hu
    obtain ⟨hx, hb, -, hown, hts, -, -, -, -, -, hal, hK, -⟩ := K
    have hsz : H.size = σ.2.1 := hR.2.1
    cases ty with
    | int =>
      have h : xnwa σ 100 (.inl 0) n (fun a σ' => k (pc + 2) ls (.inr (.inr (some a)) :: r) σ') = some res := h
      obtain ⟨n1, n2, h⟩ := xnwa_some h
      have h : k (pc + 2) ls (.inr (.inr (some σ.2.1)) :: r) (xpush σ (100, List.replicate n.toNatClampNeg (.inl 0))) = some res := h
      obtain ⟨m1, m2⟩ := hm _ _ _ _ h
      have m1 : σ.2.1 + 1 ≤ R.cells + s.heap.size := m1
      have m2 : σ.2.2.1 + (List.replicate n.toNatClampNeg (.inl 0 : XE)).length ≤ R.slots + u0 := m2
      rw [List.length_replicate] at m2
      refine W.newaK (atype := .int) (N := n.toNatClampNeg) hx hb (hts _ hS5.2.2.1) rfl hd rfl n1 rfl (by show n.toNatClampNeg * 4 ≤ 536870912; omega) (by omega) (by omega) hsz fun H1 cA e1 z1 o1 hA => ?_
      have hR1 : XRep U D (xpush σ (100, List.replicate n.toNatClampNeg (.inl 0))) H1 := by
        refine hR.push ?_ (by rw [z1, hsz]) (fun q hq => o1 q (by rw [← hsz]; exact hq))
        rw [hsz]
        refine Or.inr (Or.inl ⟨(by decide : 100 ≤ 100), (by decide : 100 < 108), cA, arrOfT_moved hal.symm hA, fun q => absurd (show 103 ≤ 100 from q) (by decide), ?_⟩)
        rw [e1]
        show some (arrV cA n.toNatClampNeg _) = some (arrV cA (List.replicate n.toNatClampNeg (.inl 0 : XE)).length _)
        rw [List.length_replicate]
        exact congrArg some (arrV_congr fun j hj => by rw [xrep_V hj]; rfl)
      have hc1 : σ.2.1 - s.heap.size + 1 = (xpush σ (100, List.replicate n.toNatClampNeg (.inl 0))).2.1 - s.heap.size := by
        show _ = σ.2.1 + 1 - s.heap.size
        omega
      have hc2 : σ.2.2.1 - u0 + n.toNatClampNeg = (xpush σ (100, List.replicate n.toNatClampNeg (.inl 0))).2.2.1 - u0 := by
        show _ = σ.2.2.1 + (List.replicate n.toNatClampNeg (.inl 0 : XE)).length - u0
        rw [List.length_replicate]
        omega
      exact W.cs hc1 hc2 (hk _ _ _ _ h H1 locs la hR1 hL hlc (by show s.heap.size ≤ σ.2.1 + 1; omega) (by show u0 ≤ σ.2.2.1 + _; omega))
    | long =>
      have h : xnwa σ 101 (.inr (.inl 0)) n (fun a σ' => k (pc + 2) ls (.inr (.inr (some a)) :: r) σ') = some res := h
      obtain ⟨n1, n2, h⟩ := xnwa_some h
      have h : k (pc + 2) ls (.inr (.inr (some σ.2.1)) :: r) (xpush σ (101, List.replicate n.toNatClampNeg (.inr (.inl 0)))) = some res := h
      obtain ⟨m1, m2⟩ := hm _ _ _ _ h
      have m1 : σ.2.1 + 1 ≤ R.cells + s.heap.size := m1
      have m2 : σ.2.2.1 + (List.replicate n.toNatClampNeg (.inr (.inl 0) : XE)).length ≤ R.slots + u0 := m2
      rw [List.length_replicate] at m2
      refine W.newaK (atype := .long) (N := n.toNatClampNeg) hx hb (hts _ hS5.2.2.2.1) rfl hd rfl n1 rfl (by show n.toNatClampNeg * 8 ≤ 536870912; omega) (by omega) (by omega) hsz fun H1 cA e1 z1 o1 hA => ?_
      have hR1 : XRep U D (xpush σ (101, List.replicate n.toNatClampNeg (.inr (.inl 0)))) H1 := by
        refine hR.push ?_ (by rw [z1, hsz]) (fun q hq => o1 q (by rw [← hsz]; exact hq))
        rw [hsz]
        refine Or.inr (Or.inl ⟨(by decide : 100 ≤ 101), (by decide : 101 < 108), cA, arrOfT_moved hal.symm hA, fun q => absurd (show 103 ≤ 101 from q) (by decide), ?_⟩)
        rw [e1]
        show some (arrV cA n.toNatClampNeg _) = some (arrV cA (List.replicate n.toNatClampNeg (.inr (.inl 0) : XE)).length _)
        rw [List.length_replicate]
        exact congrArg some (arrV_congr fun j hj => by rw [xrep_V hj]; rfl)
      have hc1 : σ.2.1 - s.heap.size + 1 = (xpush σ (101, List.replicate n.toNatClampNeg (.inr (.inl 0)))).2.1 - s.heap.size := by
        show _ = σ.2.1 + 1 - s.heap.size
        omega
      have hc2 : σ.2.2.1 - u0 + n.toNatClampNeg = (xpush σ (101, List.replicate n.toNatClampNeg (.inr (.inl 0)))).2.2.1 - u0 := by
        show _ = σ.2.2.1 + (List.replicate n.toNatClampNeg (.inr (.inl 0) : XE)).length - u0
        rw [List.length_replicate]
        omega
      exact W.cs hc1 hc2 (hk _ _ _ _ h H1 locs la hR1 hL hlc (by show s.heap.size ≤ σ.2.1 + 1; omega) (by show u0 ≤ σ.2.2.1 + _; omega))
    | boolean =>
      have h : xnwa σ 102 (.inl 0) n (fun a σ' => k (pc + 2) ls (.inr (.inr (some a)) :: r) σ') = some res := h
      obtain ⟨n1, n2, h⟩ := xnwa_some h
      have h : k (pc + 2) ls (.inr (.inr (some σ.2.1)) :: r) (xpush σ (102, List.replicate n.toNatClampNeg (.inl 0))) = some res := h
      obtain ⟨m1, m2⟩ := hm _ _ _ _ h
      have m1 : σ.2.1 + 1 ≤ R.cells + s.heap.size := m1
      have m2 : σ.2.2.1 + (List.replicate n.toNatClampNeg (.inl 0 : XE)).length ≤ R.slots + u0 := m2
      rw [List.length_replicate] at m2
      refine W.newaK (atype := .boolean) (N := n.toNatClampNeg) hx hb (hts _ hS5.2.2.2.2) rfl hd rfl n1 rfl (by show n.toNatClampNeg * 1 ≤ 536870912; omega) (by omega) (by omega) hsz fun H1 cA e1 z1 o1 hA => ?_
      have hR1 : XRep U D (xpush σ (102, List.replicate n.toNatClampNeg (.inl 0))) H1 := by
        refine hR.push ?_ (by rw [z1, hsz]) (fun q hq => o1 q (by rw [← hsz]; exact hq))
        rw [hsz]
        refine Or.inr (Or.inl ⟨(by decide : 100 ≤ 102), (by decide : 102 < 108), cA, arrOfT_moved hal.symm hA, fun q => absurd (show 103 ≤ 102 from q) (by decide), ?_⟩)
        rw [e1]
        show some (arrV cA n.toNatClampNeg _) = some (arrV cA (List.replicate n.toNatClampNeg (.inl 0 : XE)).length _)
        rw [List.length_replicate]
        exact congrArg some (arrV_congr fun j hj => by rw [xrep_V hj]; rfl)
      have hc1 : σ.2.1 - s.heap.size + 1 = (xpush σ (102, List.replicate n.toNatClampNeg (.inl 0))).2.1 - s.heap.size := by
        show _ = σ.2.1 + 1 - s.heap.size
        omega
      have hc2 : σ.2.2.1 - u0 + n.toNatClampNeg = (xpush σ (102, List.replicate n.toNatClampNeg (.inl 0))).2.2.1 - u0 := by
        show _ = σ.2.2.1 + (List.replicate n.toNatClampNeg (.inl 0 : XE)).length - u0
        rw [List.length_replicate]
        omega
      exact W.cs hc1 hc2 (hk _ _ _ _ h H1 locs la hR1 hL hlc (by show s.heap.size ≤ σ.2.1 + 1; omega) (by show u0 ≤ σ.2.2.1 + _; omega))
    | _ => cases h
  · cases h

set_option maxHeartbeats 1000000 in
theorem xb_anewarray {mi u0 len pc : Nat} {Q : State → Prop} {cal : Nat → List XE → XH → XR} {ls : XL} {st : List XE} {σ : XH} {k : Nat → XL → List XE → XH → XR} {res : XV × XH} {x : Nat} (K : XK P U D mi p R s m args meth c) (hS4 : XS4) (hPo : XPo P) (hd : decode (xcb mi) pc = .ok (.anewarray x, len)) (ho : xok mi pc (.anewarray x) len = true) (h : xop mi cal (.anewarray x) len pc ls st σ k = some res)
    (hk : ∀ pc' ls' st' σ', k pc' ls' st' σ' = some res → XG U D mi p l e R s m args below meth c u0 Q pc' ls' st' σ')
    (hm : ∀ pc' ls' st' σ', k pc' ls' st' σ' = some res → σ'.2.1 ≤ R.cells + s.heap.size ∧ σ'.2.2.1 ≤ R.slots + u0) : XG U D mi p l e R s m args below meth c u0 Q pc ls st σ := by
  have ho2 := ho
  unfold xok at ho2
  rw [Bool.and_eq_true] at ho2
  obtain ⟨hl, hne⟩ := ho2
  have hl : len = 3 := by simpa using hl
  subst hl
  have h : (match (generalizing := false) xcd (xow mi) x, st with
    | some c, .inl n :: r => xnwa σ (xoa c) (.inr (.inr none)) n fun a σ' => k (pc + 3) ls (.inr (.inr (some a)) :: r) σ'
    | _, _ => none) = some res := h
  split at h
  · next ci n r hj _ =>
    obtain ⟨n1, n2, h⟩ := xnwa_some h
    have h : k (pc + 3) ls (.inr (.inr (some σ.2.1)) :: r) (xpush σ (xoa ci, List.replicate n.toNatClampNeg (.inr (.inr none)))) = some res := h
    intro H locs la hR hL hlc hs hu
    obtain ⟨hx, hb, -, hown, hts, -, -, -, -, -, hal, hK, -, hpp⟩ := K
    have hsz : H.size = σ.2.1 := hR.2.1
    have hci : ci = 8 ∨ ci = 7 ∨ ci = 1 ∨ ci = 4 ∨ ci = 10 := by rw [hj] at hne; simpa using hne
    have w1 := hS4 _ _ _ hj (by omega)
    have w2 := hPo s hpp ci hci
    have hty : xty (xoa ci) = .object (xnm ci) ∧ 103 ≤ xoa ci ∧ xoa ci < 108 := by
      rcases hci with rfl | rfl | rfl | rfl | rfl <;> exact ⟨rfl, by decide, by decide⟩
    obtain ⟨m1, m2⟩ := hm _ _ _ _ h
    have m1 : σ.2.1 + 1 ≤ R.cells + s.heap.size := m1
    have m2 : σ.2.2.1 + (List.replicate n.toNatClampNeg (.inr (.inr none) : XE)).length ≤ R.slots + u0 := m2
    rw [List.length_replicate] at m2
    refine W.anew hx hb hown (hts _ w1) (va_AO.use w2) rfl hd rfl n1 (by omega) (by omega) (by omega) fun cA kA comp f1 f2 f3 f4 => ?_
    generalize hH1 : H.push ({ cls := cA, slots := Array.replicate n.toNatClampNeg .null, vm := .none } : Cell) = H1
    have z1 : H1.size = H.size + 1 := by rw [← hH1, Array.size_push]
    have e1 : H1[H.size]? = some (arrV cA n.toNatClampNeg (fun _ => .null)) := by rw [← hH1, Array.getElem?_push_size, ← arrV_new]
    have o1 : ∀ q : Nat, q < H.size → H1[q]? = H[q]? := fun q hq => by rw [← hH1, Array.getElem?_push, if_neg (Nat.ne_of_lt hq)]
    have hAr : ArrOfT s cA (.object (xnm ci)) := fun N z => ⟨(fun k h => by cases h), kA, f2, comp, f3⟩
    have hRA : va_RA s cA (.object (xnm ci)) := ⟨kA, comp, f2, f3, f4, f1⟩
    have hR1 : XRep U D (xpush σ (xoa ci, List.replicate n.toNatClampNeg (.inr (.inr none)))) H1 := by
      refine hR.push ?_ z1 o1
      refine Or.inr (Or.inl ⟨by show 100 ≤ xoa ci; omega, hty.2.2, cA, by show ArrOfT U cA (xty (xoa ci)); rw [hty.1]; exact arrOfT_moved hal.symm hAr, fun _ => by show va_RA U cA (xty (xoa ci)); rw [hty.1]; exact hRA.moved hal.symm, ?_⟩)
      rw [e1]
      show some (arrV cA n.toNatClampNeg _) = some (arrV cA (List.replicate n.toNatClampNeg (.inr (.inr none) : XE)).length _)
      rw [List.length_replicate]
      exact congrArg some (arrV_congr fun j hj => by rw [xrep_V hj]; rfl)
    have hc1 : σ.2.1 - s.heap.size + 1 = (xpush σ (xoa ci, List.replicate n.toNatClampNeg (.inr (.inr none)))).2.1 - s.heap.size := by
      show _ = σ.2.1 + 1 - s.heap.size
      omega
    have hc2 : σ.2.2.1 - u0 + n.toNatClampNeg = (xpush σ (xoa ci, List.replicate n.toNatClampNeg (.inr (.inr none)))).2.2.1 - u0 := by
      show _ = σ.2.2.1 + (List.replicate n.toNatClampNeg (.inr (.inr none) : XE)).length - u0
      rw [List.length_replicate]
      omega
    have kk := hk _ _ _ _ h H1 locs la hR1 hL hlc (by show s.heap.size ≤ σ.2.1 + 1; omega) (by show u0 ≤ σ.2.2.1 + _; omega)
    rw [hsz]
    exact W.cs hc1 hc2 kk
  · cases h

theorem xb_ireturn {mi u0 len pc : Nat} {cal : Nat → List XE → XH → XR} {ls : XL} {st : List XE} {σ σ' : XH} {k : Nat → XL → List XE → XH → XR} {v : Option XE} (K : XK P U D mi p R s m args meth c) (hd : decode (xcb mi) pc = .ok (.ireturn, len)) (ho : xok mi pc .ireturn len = true) (h : xop mi cal .ireturn len pc ls st σ k = some (.inl v, σ')) : XG U D mi p l e R s m args below meth c u0 (XQ U D below args s u0 v σ') pc ls st σ := by
  have hl : len = 1 := by simpa [xok] using ho
  subst hl
  have h : ((match (generalizing := false) st with
    | [.inl v] => (match (generalizing := false) xrk mi with
      | 1 => some (.inl (some (.inl v)), σ)
      | 4 => if v = 0 ∨ v = 1 then some (.inl (some (.inl v)), σ) else none
      | _ => none)
    | _ => none) : XR) = some (.inl v, σ') := h
  obtain ⟨hx, hb, -, hown, hts, hr, hlk, -⟩ := K
  split at h
  · split at h
    · next hrk =>
      cases h
      intro H locs la hR hL hlc hs hu
      exact W.iret hx hb (hr.trans (xrk_1 hrk)) (fun t ht hW => ⟨rfl, by rw [ht]; exact hR⟩) hlc hd hlk
    · next hrk =>
      split at h
      · next hv =>
        cases h
        intro H locs la hR hL hlc hs hu
        exact W.zret hx hb (hr.trans (xrk_4 hrk)) (xnar_b hv).1 (fun t ht hW => ⟨rfl, by rw [ht]; exact hR⟩) hlc hd hlk
      · cases h
    · cases h
  · cases h
theorem xb_lreturn {mi u0 len pc : Nat} {cal : Nat → List XE → XH → XR} {ls : XL} {st : List XE} {σ σ' : XH} {k : Nat → XL → List XE → XH → XR} {v : Option XE} (K : XK P U D mi p R s m args meth c) (hd : decode (xcb mi) pc = .ok (.lreturn, len)) (ho : xok mi pc .lreturn len = true) (h : xop mi cal .lreturn len pc ls st σ k = some (.inl v, σ')) : XG U D mi p l e R s m args below meth c u0 (XQ U D below args s u0 v σ') pc ls st σ := by
  have hl : len = 1 := by simpa [xok] using ho
  subst hl
  have h : ((match (generalizing := false) st with
    | [.inr (.inl v)] => (match (generalizing := false) xrk mi with
      | 2 => some (.inl (some (.inr (.inl v))), σ)
      | _ => none)
    | _ => none) : XR) = some (.inl v, σ') := h
  obtain ⟨hx, hb, -, hown, hts, hr, hlk, -⟩ := K
  split at h
  · split at h
    · next hrk =>
      cases h
      intro H locs la hR hL hlc hs hu
      exact W.lret hx hb (hr.trans (xrk_2 hrk)) (fun t ht hW => ⟨rfl, by rw [ht]; exact hR⟩) hlc hd hlk
    · cases h
  · cases h
theorem xb_areturn {mi u0 len pc : Nat} {cal : Nat → List XE → XH → XR} {ls : XL} {st : List XE} {σ σ' : XH} {k : Nat → XL → List XE → XH → XR} {v : Option XE} (K : XK P U D mi p R s m args meth c) (hd : decode (xcb mi) pc = .ok (.areturn, len)) (ho : xok mi pc .areturn len = true) (h : xop mi cal .areturn len pc ls st σ k = some (.inl v, σ')) : XG U D mi p l e R s m args below meth c u0 (XQ U D below args s u0 v σ') pc ls st σ := by
  have hl : len = 1 := by simpa [xok] using ho
  subst hl
  have h : ((match (generalizing := false) st with
    | [.inr (.inr v)] => (match (generalizing := false) xrk mi with
      | 3 => some (.inl (some (.inr (.inr v))), σ)
      | _ => none)
    | _ => none) : XR) = some (.inl v, σ') := h
  obtain ⟨hx, hb, -, hown, hts, hr, hlk, -⟩ := K
  split at h
  · next v _ =>
    split at h
    · next hrk =>
      cases h
      intro H locs la hR hL hlc hs hu
      obtain ⟨n, hn⟩ := xrk_3 hrk
      exact W.aret hx hb (hr.trans hn) (Or.inl ⟨n, rfl⟩) (by cases v with | none => exact Or.inl rfl | some a => exact Or.inr ⟨a, rfl⟩) (fun t ht hW => ⟨rfl, by rw [ht]; exact hR⟩) hlc hd hlk
    · cases h
  · cases h
theorem xb_return_ {mi u0 len pc : Nat} {cal : Nat → List XE → XH → XR} {ls : XL} {st : List XE} {σ σ' : XH} {k : Nat → XL → List XE → XH → XR} {v : Option XE} (K : XK P U D mi p R s m args meth c) (hd : decode (xcb mi) pc = .ok (.return_, len)) (ho : xok mi pc .return_ len = true) (h : xop mi cal .return_ len pc ls st σ k = some (.inl v, σ')) : XG U D mi p l e R s m args below meth c u0 (XQ U D below args s u0 v σ') pc ls st σ := by
  have hl : len = 1 := by simpa [xok] using ho
  subst hl
  have h : ((match (generalizing := false) st with
    | [] => (match (generalizing := false) xrk mi with
      | 0 => some (.inl none, σ)
      | _ => none)
    | _ => none) : XR) = some (.inl v, σ') := h
  obtain ⟨hx, hb, -, hown, hts, hr, hlk, -⟩ := K
  split at h
  · split at h
    · next hrk =>
      cases h
      intro H locs la hR hL hlc hs hu
      exact W.vret hx hb (hr.trans (xrk_0 hrk)) (fun t ht hW => ⟨rfl, by rw [ht]; exact hR⟩) hlc hd hlk
    · cases h
  · cases h
end XP
