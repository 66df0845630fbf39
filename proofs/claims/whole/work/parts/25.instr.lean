/-! the machine follows the interpreter: instructions on memory, and answers -/
section XO
variable {p : Program} {l : Launch} {e : Env} {R : Room} {s : State} {m : MethodId} {args : Array Value} {below : List Frame} {meth : Method} {c : Code} {U : State} {D : va_G} {P : State → Prop}
theorem xnar_b {x : Int32} (h : x = 0 ∨ x = 1) : narrow .boolean (.int x) = .int x ∧ fits .boolean (.int x) = true := by
  rcases h with rfl | rfl
  · exact ⟨by decide +kernel, by decide +kernel⟩
  · exact ⟨by decide +kernel, by decide +kernel⟩
theorem xnar_r {ty : FieldType} (h : (∃ n, ty = .object n) ∨ ∃ t, ty = .array t) (r : Option Nat) : narrow ty (va_rf r) = va_rf r ∧ fits ty (va_rf r) = true := by
  rcases h with ⟨n, rfl⟩ | ⟨t, rfl⟩
  · cases r <;> exact ⟨rfl, rfl⟩
  · cases r <;> exact ⟨rfl, rfl⟩
theorem xkd_0 {d : String} (h : xkd 0 d = true) : parseFieldDescriptor d = some .int := by
  unfold xkd at h
  split at h <;> first | assumption | (simp at h)
theorem xkd_1 {d : String} (h : xkd 1 d = true) : parseFieldDescriptor d = some .long := by
  unfold xkd at h
  split at h <;> first | assumption | (simp at h)
theorem xkd_3 {d : String} (h : xkd 3 d = true) : parseFieldDescriptor d = some .boolean := by
  unfold xkd at h
  split at h <;> first | assumption | (simp at h)
theorem xkd_2 {d : String} (h : xkd 2 d = true) : ∃ ty, parseFieldDescriptor d = some ty ∧ ((∃ n, ty = .object n) ∨ ∃ t, ty = .array t) := by
  unfold xkd at h
  split at h
  · simp at h
  · simp at h
  · simp at h
  · next n hn => exact ⟨_, hn, Or.inl ⟨n, rfl⟩⟩
  · next n hn => exact ⟨_, hn, Or.inr ⟨n, rfl⟩⟩
  · simp at h
/-- what a walk that has an answer ends in -/
def XQc (U : State) (D : va_G) (v : Option XE) (σ : XH) : Array Value → State → Outcome → State → Prop := fun _ _ o t => o = .returned (v.map xv) ∧ XRep U D σ t.heap
def XQ (U : State) (D : va_G) (below : List Frame) (args : Array Value) (s : State) (u0 : Nat) (v : Option XE) (σ : XH) : State → Prop := MQ below (XQc U D v σ) args s (σ.2.1 - s.heap.size) (σ.2.2.1 - u0) (fun q => U.heap.size ≤ q)

theorem xtz_ref {t : Nat} (h : 103 ≤ t ∧ t < 108) : (xtz t).isReference = true := by
  rcases (by omega : t = 103 ∨ t = 104 ∨ t = 105 ∨ t = 106 ∨ t = 107) with rfl | rfl | rfl | rfl | rfl <;> rfl
theorem xty_ref {t : Nat} (h : 103 ≤ t ∧ t < 108) : ∃ r : vw_C, xty t = .object r.1 ∧ vwCl[xof t]? = some r := by
  rcases (by omega : t = 103 ∨ t = 104 ∨ t = 105 ∨ t = 106 ∨ t = 107) with rfl | rfl | rfl | rfl | rfl <;> exact ⟨_, rfl, rfl⟩

set_option maxHeartbeats 1000000 in
theorem xb_getfield {mi u0 len pc : Nat} {Q : State → Prop} {cal : Nat → List XE → XH → XR} {ls : XL} {st : List XE} {σ : XH} {k : Nat → XL → List XE → XH → XR} {res : XV × XH} {x : Nat} (K : XK P U D mi p R s m args meth c) (hS2 : XS2) (hS3 : XS3) (hd : decode (xcb mi) pc = .ok (.getfield x, len)) (ho : xok mi pc (.getfield x) len = true) (h : xop mi cal (.getfield x) len pc ls st σ k = some res)
    (hk : ∀ pc' ls' st' σ', k pc' ls' st' σ' = some res → XG U D mi p l e R s m args below meth c u0 Q pc' ls' st' σ') : XG U D mi p l e R s m args below meth c u0 Q pc ls st σ := by
  have hl : len = 3 := by simpa [xok] using ho
  subst hl
  cases hf : xfd (xow mi) x with
  | none =>
    have h : (match (generalizing := false) xfd (xow mi) x, st with
      | some (t, f, q), .inr (.inr a) :: r => (match (generalizing := false) q with
        | 1 => (xgl σ a t f).bind fun v => k (pc + 3) ls (.inr (.inl v) :: r) σ
        | 2 => (xgr σ a t f).bind fun v => k (pc + 3) ls (.inr (.inr v) :: r) σ
        | _ => (xgi σ a t f).bind fun v => k (pc + 3) ls (.inl v :: r) σ)
      | _, _ => none) = some res := h
    rw [hf] at h
    cases h
  | some tq =>
    obtain ⟨t, f, q⟩ := tq
    have h : (match (generalizing := false) xfd (xow mi) x, st with
      | some (t, f, q), .inr (.inr a) :: r => (match (generalizing := false) q with
        | 1 => (xgl σ a t f).bind fun v => k (pc + 3) ls (.inr (.inl v) :: r) σ
        | 2 => (xgr σ a t f).bind fun v => k (pc + 3) ls (.inr (.inr v) :: r) σ
        | _ => (xgi σ a t f).bind fun v => k (pc + 3) ls (.inl v :: r) σ)
      | _, _ => none) = some res := h
    rw [hf] at h
    obtain ⟨C, T, N, hc, hfN, hw, hkd⟩ := hS2 _ _ _ _ _ hf
    rcases st with _ | ⟨(v | v | a), r⟩
    · cases h
    · cases h
    · cases h
    · have h : (match (generalizing := false) q with
        | 1 => (xgl σ a t f).bind fun v => k (pc + 3) ls (.inr (.inl v) :: r) σ
        | 2 => (xgr σ a t f).bind fun v => k (pc + 3) ls (.inr (.inr v) :: r) σ
        | _ => (xgi σ a t f).bind fun v => k (pc + 3) ls (.inl v :: r) σ) = some res := h
      intro H locs la hR hL hlc hs hu
      split at h
      · obtain ⟨v, h1, hh⟩ := xbind_some h
        obtain ⟨b, o, rfl, h3, h4, h5⟩ := xgt_some (xgl_some h1)
        exact xw_get K hS3 hc hfN hw hR h3 h4 h5 hd (hk _ _ _ _ hh H locs la hR hL hlc hs hu)
      · obtain ⟨v, h1, hh⟩ := xbind_some h
        obtain ⟨b, o, rfl, h3, h4, h5⟩ := xgt_some (xgr_some h1)
        exact xw_get K hS3 hc hfN hw hR h3 h4 h5 hd (hk _ _ _ _ hh H locs la hR hL hlc hs hu)
      · obtain ⟨v, h1, hh⟩ := xbind_some h
        obtain ⟨b, o, rfl, h3, h4, h5⟩ := xgt_some (xgi_some h1)
        exact xw_get K hS3 hc hfN hw hR h3 h4 h5 hd (hk _ _ _ _ hh H locs la hR hL hlc hs hu)

set_option maxHeartbeats 1000000 in
theorem xb_putfield {mi u0 len pc : Nat} {Q : State → Prop} {cal : Nat → List XE → XH → XR} {ls : XL} {st : List XE} {σ : XH} {k : Nat → XL → List XE → XH → XR} {res : XV × XH} {x : Nat} (K : XK P U D mi p R s m args meth c) (hS2 : XS2) (hS3 : XS3) (hd : decode (xcb mi) pc = .ok (.putfield x, len)) (ho : xok mi pc (.putfield x) len = true) (h : xop mi cal (.putfield x) len pc ls st σ k = some res)
    (hk : ∀ pc' ls' st' σ', k pc' ls' st' σ' = some res → XG U D mi p l e R s m args below meth c u0 Q pc' ls' st' σ') : XG U D mi p l e R s m args below meth c u0 Q pc ls st σ := by
  cases hf : xfd (xow mi) x with
  | none =>
    simp [xok, hf] at ho
  | some tq =>
    obtain ⟨t, f, q⟩ := tq
    obtain ⟨C, T, N, hc, hfN, hw, hkd⟩ := hS2 _ _ _ _ _ hf
    have hl : len = 3 ∧ ((T f).2.2.2 = false ∨ ((xrk mi = 0 ∧ t = xow mi) ∧ mi ∈ xinis) ∧ (T f).1 = xnm t) := by
      simpa [xok, hf, hc] using ho
    obtain ⟨hl, hfin⟩ := hl
    subst hl
    have hfin : (T f).2.2.2 = false ∨ ((T f).2.2.2 = true ∧ mi ∈ xinis ∧ (T f).1 = xnm (xow mi)) := by
      cases hz : (T f).2.2.2 with
      | false => exact Or.inl rfl
      | true =>
        rcases hfin with q | ⟨⟨⟨-, q1⟩, q2⟩, q3⟩
        · rw [hz] at q; cases q
        · exact Or.inr ⟨rfl, q2, q1 ▸ q3⟩
    have h : (match (generalizing := false) xfd (xow mi) x, st with
      | some (t, f, q), e :: .inr (.inr a) :: r => (match (generalizing := false) q, e with
        | 0, .inl v => (xpt σ a t f (.inl v)).bind fun σ' => k (pc + 3) ls r σ'
        | 1, .inr (.inl v) => (xpt σ a t f (.inr (.inl v))).bind fun σ' => k (pc + 3) ls r σ'
        | 2, .inr (.inr v) => (xpt σ a t f (.inr (.inr v))).bind fun σ' => k (pc + 3) ls r σ'
        | 3, .inl v => (xpz σ a t f v).bind fun σ' => k (pc + 3) ls r σ'
        | _, _ => none)
      | _, _ => none) = some res := h
    rw [hf] at h
    rcases st with _ | ⟨v, _ | ⟨(y | y | a), r⟩⟩
    · cases h
    · cases h
    · cases h
    · cases h
    · have h : (match (generalizing := false) q, v with
        | 0, .inl v => (xpt σ a t f (.inl v)).bind fun σ' => k (pc + 3) ls r σ'
        | 1, .inr (.inl v) => (xpt σ a t f (.inr (.inl v))).bind fun σ' => k (pc + 3) ls r σ'
        | 2, .inr (.inr v) => (xpt σ a t f (.inr (.inr v))).bind fun σ' => k (pc + 3) ls r σ'
        | 3, .inl v => (xpz σ a t f v).bind fun σ' => k (pc + 3) ls r σ'
        | _, _ => none) = some res := h
      intro H locs la hR hL hlc hs hu
      split at h
      · obtain ⟨σ1, h1, h⟩ := xbind_some h
        obtain ⟨b, o, rfl, h3, h4, h5, rfl⟩ := xpt_some h1
        exact xw_put K hS3 hc hfN hw hfin (xkd_0 hkd) rfl rfl hR h3 h4 hd hlc fun H1 locs1 hR1 hlc1 => hk _ _ _ _ h H1 locs1 la hR1 hL hlc1 hs hu
      · obtain ⟨σ1, h1, h⟩ := xbind_some h
        obtain ⟨b, o, rfl, h3, h4, h5, rfl⟩ := xpt_some h1
        exact xw_put K hS3 hc hfN hw hfin (xkd_1 hkd) rfl rfl hR h3 h4 hd hlc fun H1 locs1 hR1 hlc1 => hk _ _ _ _ h H1 locs1 la hR1 hL hlc1 hs hu
      · obtain ⟨σ1, h1, h⟩ := xbind_some h
        obtain ⟨b, o, rfl, h3, h4, h5, rfl⟩ := xpt_some h1
        obtain ⟨ty, t1, t2⟩ := xkd_2 hkd
        exact xw_put K hS3 hc hfN hw hfin t1 (xnar_r t2 _).1 (xnar_r t2 _).2 hR h3 h4 hd hlc fun H1 locs1 hR1 hlc1 => hk _ _ _ _ h H1 locs1 la hR1 hL hlc1 hs hu
      · obtain ⟨σ1, h1, h⟩ := xbind_some h
        unfold xpz at h1
        split at h1
        · next hz =>
          obtain ⟨b, o, rfl, h3, h4, h5, rfl⟩ := xpt_some h1
          exact xw_put K hS3 hc hfN hw hfin (xkd_3 hkd) (xnar_b hz).1 (xnar_b hz).2 hR h3 h4 hd hlc fun H1 locs1 hR1 hlc1 => hk _ _ _ _ h H1 locs1 la hR1 hL hlc1 hs hu
        · cases h1
      · cases h

set_option maxHeartbeats 1000000 in
theorem xb_iaload {mi u0 len pc : Nat} {Q : State → Prop} {cal : Nat → List XE → XH → XR} {ls : XL} {st : List XE} {σ : XH} {k : Nat → XL → List XE → XH → XR} {res : XV × XH}  (K : XK P U D mi p R s m args meth c) (hd : decode (xcb mi) pc = .ok (.iaload, len)) (ho : xok mi pc (.iaload) len = true) (h : xop mi cal (.iaload) len pc ls st σ k = some res)
    (hk : ∀ pc' ls' st' σ', k pc' ls' st' σ' = some res → XG U D mi p l e R s m args below meth c u0 Q pc' ls' st' σ') : XG U D mi p l e R s m args below meth c u0 Q pc ls st σ := by
  have hl : len = 1 := by simpa [xok] using ho
  subst hl
  have h : (match (generalizing := false) st with
    | .inl j :: .inr (.inr a) :: r => (xai σ a j).bind fun v => k (pc + 1) ls (.inl v :: r) σ
    | _ => none) = some res := h
  split at h
  · next j a r _ =>
    obtain ⟨v, h1, hh⟩ := xbind_some h
    intro H locs la hR hL hlc hs hu
    obtain ⟨b, o, y, rfl, g2, g3, g4, g5, g6, g7⟩ := xld (P := fun n => n = 100 ∨ n = 200) (f := xtoI) h1
    have g7 := xtoI_some g7
    subst g7
    obtain ⟨hx, hb, -, -, hts, -, -, -, -, -, hal, -⟩ := K
    obtain ⟨cell, c1, c2, c3, c4, c5⟩ := hR.cell (s := s) hal g2 (by omega)
    exact W.iald hx hb c1 (by rcases g3 with g3 | g3 <;> (rw [g3] at c2; exact c2)) c3 (by intro q; rcases q with q | q; exact g4 q; have := c4.1; omega) (c5 _ _ g6) rfl rfl hd (hk _ _ _ _ hh H locs la hR hL hlc hs hu)
  · cases h

set_option maxHeartbeats 1000000 in
theorem xb_laload {mi u0 len pc : Nat} {Q : State → Prop} {cal : Nat → List XE → XH → XR} {ls : XL} {st : List XE} {σ : XH} {k : Nat → XL → List XE → XH → XR} {res : XV × XH}  (K : XK P U D mi p R s m args meth c) (hd : decode (xcb mi) pc = .ok (.laload, len)) (ho : xok mi pc (.laload) len = true) (h : xop mi cal (.laload) len pc ls st σ k = some res)
    (hk : ∀ pc' ls' st' σ', k pc' ls' st' σ' = some res → XG U D mi p l e R s m args below meth c u0 Q pc' ls' st' σ') : XG U D mi p l e R s m args below meth c u0 Q pc ls st σ := by
  have hl : len = 1 := by simpa [xok] using ho
  subst hl
  have h : (match (generalizing := false) st with
    | .inl j :: .inr (.inr a) :: r => (xal σ a j).bind fun v => k (pc + 1) ls (.inr (.inl v) :: r) σ
    | _ => none) = some res := h
  split at h
  · next j a r _ =>
    obtain ⟨v, h1, hh⟩ := xbind_some h
    intro H locs la hR hL hlc hs hu
    obtain ⟨b, o, y, rfl, g2, g3, g4, g5, g6, g7⟩ := xld (P := fun n => n = 101) (f := xtoL) h1
    have g7 := xtoL_some g7
    subst g7
    obtain ⟨hx, hb, -, -, hts, -, -, -, -, -, hal, -⟩ := K
    obtain ⟨cell, c1, c2, c3, c4, c5⟩ := hR.cell (s := s) hal g2 (by omega)
    exact W.lald hx hb c1 (by rw [g3] at c2; exact c2) c3 (by intro q; rcases q with q | q; exact g4 q; have := c4.1; omega) (c5 _ _ g6) rfl rfl hd (hk _ _ _ _ hh H locs la hR hL hlc hs hu)
  · cases h

set_option maxHeartbeats 1000000 in
theorem xb_baload {mi u0 len pc : Nat} {Q : State → Prop} {cal : Nat → List XE → XH → XR} {ls : XL} {st : List XE} {σ : XH} {k : Nat → XL → List XE → XH → XR} {res : XV × XH}  (K : XK P U D mi p R s m args meth c) (hd : decode (xcb mi) pc = .ok (.baload, len)) (ho : xok mi pc (.baload) len = true) (h : xop mi cal (.baload) len pc ls st σ k = some res)
    (hk : ∀ pc' ls' st' σ', k pc' ls' st' σ' = some res → XG U D mi p l e R s m args below meth c u0 Q pc' ls' st' σ') : XG U D mi p l e R s m args below meth c u0 Q pc ls st σ := by
  have hl : len = 1 := by simpa [xok] using ho
  subst hl
  have h : (match (generalizing := false) st with
    | .inl j :: .inr (.inr a) :: r => (xaz σ a j).bind fun v => k (pc + 1) ls (.inl v :: r) σ
    | _ => none) = some res := h
  split at h
  · next j a r _ =>
    obtain ⟨v, h1, hh⟩ := xbind_some h
    intro H locs la hR hL hlc hs hu
    obtain ⟨b, o, y, rfl, g2, g3, g4, g5, g6, g7⟩ := xld (P := fun n => n = 102) (f := xtoI) h1
    have g7 := xtoI_some g7
    subst g7
    obtain ⟨hx, hb, -, -, hts, -, -, -, -, -, hal, -⟩ := K
    obtain ⟨cell, c1, c2, c3, c4, c5⟩ := hR.cell (s := s) hal g2 (by omega)
    exact W.zald hx hb c1 (by rw [g3] at c2; exact c2) c3 (by intro q; rcases q with q | q; exact g4 q; have := c4.1; omega) (c5 _ _ g6) rfl rfl hd (hk _ _ _ _ hh H locs la hR hL hlc hs hu)
  · cases h

set_option maxHeartbeats 1000000 in
theorem xb_aaload {mi u0 len pc : Nat} {Q : State → Prop} {cal : Nat → List XE → XH → XR} {ls : XL} {st : List XE} {σ : XH} {k : Nat → XL → List XE → XH → XR} {res : XV × XH}  (K : XK P U D mi p R s m args meth c) (hd : decode (xcb mi) pc = .ok (.aaload, len)) (ho : xok mi pc (.aaload) len = true) (h : xop mi cal (.aaload) len pc ls st σ k = some res)
    (hk : ∀ pc' ls' st' σ', k pc' ls' st' σ' = some res → XG U D mi p l e R s m args below meth c u0 Q pc' ls' st' σ') : XG U D mi p l e R s m args below meth c u0 Q pc ls st σ := by
  have hl : len = 1 := by simpa [xok] using ho
  subst hl
  have h : (match (generalizing := false) st with
    | .inl j :: .inr (.inr a) :: r => (xar σ a j).bind fun v => k (pc + 1) ls (.inr (.inr v) :: r) σ
    | _ => none) = some res := h
  split at h
  · next j a r _ =>
    obtain ⟨v, h1, hh⟩ := xbind_some h
    intro H locs la hR hL hlc hs hu
    obtain ⟨b, o, y, rfl, g2, g3, g4, g5, g6, g7⟩ := xld (P := fun n => 103 ≤ n ∧ n < 108) (f := xtoR) h1
    have g7 := xtoR_some g7
    subst g7
    obtain ⟨hx, hb, -, -, hts, -, -, -, -, -, hal, -⟩ := K
    obtain ⟨cell, c1, c2, c3, c4, c5⟩ := hR.cell (s := s) hal g2 (by omega)
    exact W.aald hx hb c1 (c2) (xtz_ref g3) c3 (by intro q; rcases q with q | q; exact g4 q; have := c4.1; omega) (c5 _ _ g6) rfl rfl hd (hk _ _ _ _ hh H locs la hR hL hlc hs hu)
  · cases h

set_option maxHeartbeats 1000000 in
theorem xb_arraylength {mi u0 len pc : Nat} {Q : State → Prop} {cal : Nat → List XE → XH → XR} {ls : XL} {st : List XE} {σ : XH} {k : Nat → XL → List XE → XH → XR} {res : XV × XH}  (K : XK P U D mi p R s m args meth c) (hd : decode (xcb mi) pc = .ok (.arraylength, len)) (ho : xok mi pc (.arraylength) len = true) (h : xop mi cal (.arraylength) len pc ls st σ k = some res)
    (hk : ∀ pc' ls' st' σ', k pc' ls' st' σ' = some res → XG U D mi p l e R s m args below meth c u0 Q pc' ls' st' σ') : XG U D mi p l e R s m args below meth c u0 Q pc ls st σ := by
  have hl : len = 1 := by simpa [xok] using ho
  subst hl
  have h : (match (generalizing := false) st with
    | .inr (.inr a) :: r => (xln σ a).bind fun v => k (pc + 1) ls (.inl v :: r) σ
    | _ => none) = some res := h
  split at h
  · next a r _ =>
    obtain ⟨v, h1, h⟩ := xbind_some h
    intro H locs la hR hL hlc hs hu
    cases a with
    | none => cases h1
    | some a =>
      have h1 : (match (generalizing := false) σ.1 a with
        | none => none
        | some o => if 100 ≤ o.1 then some (nI o.2.length) else none) = some v := h1
      cases ho2 : σ.1 a with
      | none => rw [ho2] at h1; cases h1
      | some o =>
        rw [ho2] at h1
        have h1 : (if 100 ≤ o.1 then some (nI o.2.length) else none) = some v := h1
        split at h1
        · next hz =>
          cases h1
          obtain ⟨hx, hb, -, -, hts, -, -, -, -, -, hal, -⟩ := K
          obtain ⟨cell, c1, c2, c3, c4, c5⟩ := hR.cell (s := s) hal ho2 hz
          exact W.alen hx hb c1 c2 c4.2 rfl rfl hd (hk _ _ _ _ h H locs la hR hL hlc hs hu)
        · cases h1
  · cases h

set_option maxHeartbeats 1000000 in
theorem xb_iastore {mi u0 len pc : Nat} {Q : State → Prop} {cal : Nat → List XE → XH → XR} {ls : XL} {st : List XE} {σ : XH} {k : Nat → XL → List XE → XH → XR} {res : XV × XH}  (K : XK P U D mi p R s m args meth c) (hd : decode (xcb mi) pc = .ok (.iastore, len)) (ho : xok mi pc (.iastore) len = true) (h : xop mi cal (.iastore) len pc ls st σ k = some res)
    (hk : ∀ pc' ls' st' σ', k pc' ls' st' σ' = some res → XG U D mi p l e R s m args below meth c u0 Q pc' ls' st' σ') : XG U D mi p l e R s m args below meth c u0 Q pc ls st σ := by
  have hl : len = 1 := by simpa [xok] using ho
  subst hl
  have h : (match (generalizing := false) st with
    | .inl v :: .inl j :: .inr (.inr a) :: r => (xsi σ a j v).bind fun σ' => k (pc + 1) ls r σ'
    | _ => none) = some res := h
  split at h
  · next v j a r _ =>
    obtain ⟨σ1, h1, h⟩ := xbind_some h
    intro H locs la hR hL hlc hs hu
    unfold xsi at h1
    obtain ⟨b, o, rfl, g2, g3, g4, g5, rfl⟩ := xas_some h1
    obtain ⟨cA, c1, c2, -, c4, c5⟩ := hR.ast g2 (by omega) (by omega) g5
    obtain ⟨hx, hb, -, -, hts, -, -, -, -, -, hal, -⟩ := K
    have c2 := arrOfT_moved hal c2
    refine W.iast hx hb c1 (by rw [g3] at c2; exact c2 _ _) (fun q => by cases q) (by rw [arrV_size]; intro q; rcases q with q | q; exact g4 q; omega) rfl rfl hd fun H1 e1 z1 o1 => ?_
    have := c5 (.inl v) H1 e1 z1 o1
    rw [g3] at this
    exact hk _ _ _ _ h H1 _ la this hL (xlocs hlc c4) hs hu
  · cases h

set_option maxHeartbeats 1000000 in
theorem xb_lastore {mi u0 len pc : Nat} {Q : State → Prop} {cal : Nat → List XE → XH → XR} {ls : XL} {st : List XE} {σ : XH} {k : Nat → XL → List XE → XH → XR} {res : XV × XH}  (K : XK P U D mi p R s m args meth c) (hd : decode (xcb mi) pc = .ok (.lastore, len)) (ho : xok mi pc (.lastore) len = true) (h : xop mi cal (.lastore) len pc ls st σ k = some res)
    (hk : ∀ pc' ls' st' σ', k pc' ls' st' σ' = some res → XG U D mi p l e R s m args below meth c u0 Q pc' ls' st' σ') : XG U D mi p l e R s m args below meth c u0 Q pc ls st σ := by
  have hl : len = 1 := by simpa [xok] using ho
  subst hl
  have h : (match (generalizing := false) st with
    | .inr (.inl v) :: .inl j :: .inr (.inr a) :: r => (xsl σ a j v).bind fun σ' => k (pc + 1) ls r σ'
    | _ => none) = some res := h
  split at h
  · next v j a r _ =>
    obtain ⟨σ1, h1, h⟩ := xbind_some h
    intro H locs la hR hL hlc hs hu
    unfold xsl at h1
    obtain ⟨b, o, rfl, g2, g3, g4, g5, rfl⟩ := xas_some h1
    obtain ⟨cA, c1, c2, -, c4, c5⟩ := hR.ast g2 (by omega) (by omega) g5
    obtain ⟨hx, hb, -, -, hts, -, -, -, -, -, hal, -⟩ := K
    have c2 := arrOfT_moved hal c2
    refine W.last hx hb c1 (by rw [g3] at c2; exact c2 _ _) (fun q => by cases q) (by rw [arrV_size]; intro q; rcases q with q | q; exact g4 q; omega) rfl rfl hd fun H1 e1 z1 o1 => ?_
    have := c5 (.inr (.inl v)) H1 e1 z1 o1
    rw [g3] at this
    exact hk _ _ _ _ h H1 _ la this hL (xlocs hlc c4) hs hu
  · cases h

set_option maxHeartbeats 1000000 in
theorem xb_bastore {mi u0 len pc : Nat} {Q : State → Prop} {cal : Nat → List XE → XH → XR} {ls : XL} {st : List XE} {σ : XH} {k : Nat → XL → List XE → XH → XR} {res : XV × XH}  (K : XK P U D mi p R s m args meth c) (hd : decode (xcb mi) pc = .ok (.bastore, len)) (ho : xok mi pc (.bastore) len = true) (h : xop mi cal (.bastore) len pc ls st σ k = some res)
    (hk : ∀ pc' ls' st' σ', k pc' ls' st' σ' = some res → XG U D mi p l e R s m args below meth c u0 Q pc' ls' st' σ') : XG U D mi p l e R s m args below meth c u0 Q pc ls st σ := by
  have hl : len = 1 := by simpa [xok] using ho
  subst hl
  have h : (match (generalizing := false) st with
    | .inl v :: .inl j :: .inr (.inr a) :: r => (xsz σ a j v).bind fun σ' => k (pc + 1) ls r σ'
    | _ => none) = some res := h
  split at h
  · next v j a r _ =>
    obtain ⟨σ1, h1, h⟩ := xbind_some h
    intro H locs la hR hL hlc hs hu
    unfold xsz at h1
    split at h1
    · next hz =>
      obtain ⟨b, o, rfl, g2, g3, g4, g5, rfl⟩ := xas_some h1
      obtain ⟨cA, c1, c2, -, c4, c5⟩ := hR.ast g2 (by omega) (by omega) g5
      obtain ⟨hx, hb, -, -, hts, -, -, -, -, -, hal, -⟩ := K
      have c2 := arrOfT_moved hal c2
      refine W.zast hx hb c1 (by rw [g3] at c2; exact c2 _ _) (fun q => by cases q) (by rw [arrV_size]; intro q; rcases q with q | q; exact g4 q; omega) rfl rfl hd fun H1 e1 z1 o1 => ?_
      rw [(xnar_b hz).1] at e1
      have := c5 (.inl v) H1 e1 z1 o1
      rw [g3] at this
      exact hk _ _ _ _ h H1 _ la this hL (xlocs hlc c4) hs hu
    · cases h1
  · cases h

end XO
