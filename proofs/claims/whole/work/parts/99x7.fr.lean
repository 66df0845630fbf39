/-! a run that does not see an object is the same where the object is -/
def XQo (Q : Nat) (σ : XH) : Prop := σ.1 Q = none ∧ Q < σ.2.1
def RQ (Q : Nat) (o : XO) (r r' : XR) : Prop := ∀ v ρ, r = some (v, ρ) → r' = some (v, xset ρ Q o) ∧ XQo Q ρ
section FR
variable {Q : Nat} {o : XO} {σ : XH}
theorem RQ.no {r' : XR} : RQ Q o none r' := fun v ρ h => by cases h
theorem RQ.ret {v : XV} (h : XQo Q σ) : RQ Q o (some (v, σ)) (some (v, xset σ Q o)) := fun v' ρ e => by
  cases e
  exact ⟨rfl, h⟩
theorem XQo.at (h : XQo Q σ) {a : Nat} {q : XO} (ha : σ.1 a = some q) : (xset σ Q o).1 a = some q := by
  have : a ≠ Q := fun e => by rw [e, h.1] at ha; cases ha
  show (if a = Q then some o else σ.1 a) = some q
  rw [if_neg this, ha]
theorem XQo.ne (h : XQo Q σ) {a : Nat} {q : XO} (ha : σ.1 a = some q) : a ≠ Q := fun e => by rw [e, h.1] at ha; cases ha
theorem xset_cm {a : Nat} {p : XO} (h : a ≠ Q) : xset (xset σ Q o) a p = xset (xset σ a p) Q o := by
  refine Prod.ext ?_ rfl
  funext q
  show (if q = a then some p else if q = Q then some o else σ.1 q) = if q = Q then some o else if q = a then some p else σ.1 q
  by_cases h1 : q = a
  · subst h1
    rw [if_pos rfl, if_neg h, if_pos rfl]
  · rw [if_neg h1, if_neg h1]
theorem XQo.set (h : XQo Q σ) {a : Nat} {p : XO} (ha : a ≠ Q) : XQo Q (xset σ a p) := by
  refine ⟨?_, h.2⟩
  show (if Q = a then some p else σ.1 Q) = none
  rw [if_neg (fun e => ha e.symm)]
  exact h.1
theorem XQo.push (h : XQo Q σ) {p : XO} : xpush (xset σ Q o) p = xset (xpush σ p) Q o ∧ XQo Q (xpush σ p) := by
  have hne : σ.2.1 ≠ Q := fun e => by have := h.2; omega
  refine ⟨?_, ?_, Nat.lt_succ_of_lt h.2⟩
  · refine Prod.ext ?_ rfl
    funext q
    show (if q = σ.2.1 then some p else if q = Q then some o else σ.1 q) = if q = Q then some o else if q = σ.2.1 then some p else σ.1 q
    by_cases h1 : q = σ.2.1
    · rw [h1, if_pos rfl, if_neg hne, if_pos rfl]
    · rw [if_neg h1, if_neg h1]
  · show (if Q = σ.2.1 then some p else σ.1 Q) = none
    rw [if_neg (fun e => hne e.symm)]
    exact h.1
theorem xgt_q (h : XQo Q σ) {r : Option Nat} {t k : Nat} {x : XE} (e : xgt σ r t k = some x) : xgt (xset σ Q o) r t k = some x := by
  cases r with
  | none => cases e
  | some a =>
    unfold xgt at e ⊢
    cases ha : σ.1 a with
    | none => simp only [ha] at e; cases e
    | some q =>
      simp only [ha] at e
      simp only [h.at ha]
      exact e
theorem bnd_some {α β : Type} {a : Option α} {f : α → Option β} {y : β} (h : a.bind f = some y) : ∃ x, a = some x ∧ f x = some y := by
  cases a with
  | none => cases h
  | some x => exact ⟨x, rfl, h⟩
theorem xgi_q (h : XQo Q σ) {r : Option Nat} {t k : Nat} {x : Int32} (e : xgi σ r t k = some x) : xgi (xset σ Q o) r t k = some x := by
  obtain ⟨y, e1, e2⟩ := bnd_some e
  show (xgt _ r t k).bind xtoI = _
  rw [xgt_q h e1]; exact e2
theorem xgl_q (h : XQo Q σ) {r : Option Nat} {t k : Nat} {x : Int64} (e : xgl σ r t k = some x) : xgl (xset σ Q o) r t k = some x := by
  obtain ⟨y, e1, e2⟩ := bnd_some e
  show (xgt _ r t k).bind xtoL = _
  rw [xgt_q h e1]; exact e2
theorem xgr_q (h : XQo Q σ) {r : Option Nat} {t k : Nat} {x : Option Nat} (e : xgr σ r t k = some x) : xgr (xset σ Q o) r t k = some x := by
  obtain ⟨y, e1, e2⟩ := bnd_some e
  show (xgt _ r t k).bind xtoR = _
  rw [xgt_q h e1]; exact e2
theorem xat_q (h : XQo Q σ) {r : Option Nat} {i : Int32} {x : Nat × XE} (e : xat σ r i = some x) : xat (xset σ Q o) r i = some x := by
  cases r with
  | none => cases e
  | some a =>
    unfold xat at e ⊢
    cases ha : σ.1 a with
    | none => simp only [ha] at e; cases e
    | some q =>
      simp only [ha] at e
      simp only [h.at ha]
      exact e
theorem xai_q (h : XQo Q σ) {r : Option Nat} {i x : Int32} (e : xai σ r i = some x) : xai (xset σ Q o) r i = some x := by
  obtain ⟨y, e1, e2⟩ := bnd_some e
  unfold xai
  rw [xat_q h e1]; exact e2
theorem xal_q (h : XQo Q σ) {r : Option Nat} {i : Int32} {x : Int64} (e : xal σ r i = some x) : xal (xset σ Q o) r i = some x := by
  obtain ⟨y, e1, e2⟩ := bnd_some e
  unfold xal
  rw [xat_q h e1]; exact e2
theorem xaz_q (h : XQo Q σ) {r : Option Nat} {i x : Int32} (e : xaz σ r i = some x) : xaz (xset σ Q o) r i = some x := by
  obtain ⟨y, e1, e2⟩ := bnd_some e
  unfold xaz
  rw [xat_q h e1]; exact e2
theorem xar_q (h : XQo Q σ) {r : Option Nat} {i : Int32} {x : Option Nat} (e : xar σ r i = some x) : xar (xset σ Q o) r i = some x := by
  obtain ⟨y, e1, e2⟩ := bnd_some e
  unfold xar
  rw [xat_q h e1]; exact e2
theorem xln_q (h : XQo Q σ) {r : Option Nat} {x : Int32} (e : xln σ r = some x) : xln (xset σ Q o) r = some x := by
  cases r with
  | none => cases e
  | some a =>
    unfold xln at e ⊢
    cases ha : σ.1 a with
    | none => simp only [ha] at e; cases e
    | some q =>
      simp only [ha] at e
      simp only [h.at ha]
      exact e
theorem xpt_q (h : XQo Q σ) {r : Option Nat} {t k : Nat} {x : XE} {σ1 : XH} (e : xpt σ r t k x = some σ1) : xpt (xset σ Q o) r t k x = some (xset σ1 Q o) ∧ XQo Q σ1 := by
  cases r with
  | none => cases e
  | some a =>
    unfold xpt at e ⊢
    cases ha : σ.1 a with
    | none => simp only [ha] at e; cases e
    | some q =>
      simp only [ha] at e
      simp only [h.at ha]
      split at e
      · rename_i hc
        cases e
        rw [if_pos hc, xset_cm (h.ne ha)]
        exact ⟨rfl, h.set (h.ne ha)⟩
      · cases e
theorem xpz_q (h : XQo Q σ) {r : Option Nat} {t k : Nat} {x : Int32} {σ1 : XH} (e : xpz σ r t k x = some σ1) : xpz (xset σ Q o) r t k x = some (xset σ1 Q o) ∧ XQo Q σ1 := by
  unfold xpz at e ⊢
  split at e
  · rename_i hc
    rw [if_pos hc]
    exact xpt_q h e
  · cases e
theorem xas_q (h : XQo Q σ) {r : Option Nat} {t : Nat} {i : Int32} {x : XE} {σ1 : XH} (e : xas σ r t i x = some σ1) : xas (xset σ Q o) r t i x = some (xset σ1 Q o) ∧ XQo Q σ1 := by
  cases r with
  | none => cases e
  | some a =>
    unfold xas at e ⊢
    cases ha : σ.1 a with
    | none => simp only [ha] at e; cases e
    | some q =>
      simp only [ha] at e
      simp only [h.at ha]
      split at e
      · rename_i hc
        cases e
        rw [if_pos hc, xset_cm (h.ne ha)]
        exact ⟨rfl, h.set (h.ne ha)⟩
      · cases e
theorem xsz_q (h : XQo Q σ) {r : Option Nat} {i x : Int32} {σ1 : XH} (e : xsz σ r i x = some σ1) : xsz (xset σ Q o) r i x = some (xset σ1 Q o) ∧ XQo Q σ1 := by
  unfold xsz at e ⊢
  split at e
  · rename_i hc
    rw [if_pos hc]
    exact xas_q h e
  · cases e
theorem xsr_q (h : XQo Q σ) {r : Option Nat} {i : Int32} {x : Option Nat} {σ1 : XH} (e : xsr σ r i x = some σ1) : xsr (xset σ Q o) r i x = some (xset σ1 Q o) ∧ XQo Q σ1 := by
  cases r with
  | none => cases e
  | some a =>
    unfold xsr at e ⊢
    cases ha : σ.1 a with
    | none => simp only [ha] at e; cases e
    | some q =>
      simp only [ha] at e
      simp only [h.at ha]
      split at e
      · rename_i hc
        rw [if_pos hc]
        cases x with
        | none => exact xas_q h e
        | some b =>
          simp only at e ⊢
          cases hb : σ.1 b with
          | none => simp only [hb] at e; cases e
          | some q' =>
            simp only [hb] at e
            simp only [h.at hb]
            split at e
            · rename_i hc2
              rw [if_pos hc2]
              exact xas_q h e
            · cases e
      · cases e
theorem RQ.bn {α : Type} {a a' : Option α} {k k' : α → XR} (h : ∀ x, a = some x → a' = some x) (hk : ∀ x, RQ Q o (k x) (k' x)) : RQ Q o (a.bind k) (a'.bind k') := fun v ρ e => by
  obtain ⟨x, e1, e2⟩ := bnd_some e
  rw [h x e1]
  exact hk x v ρ e2
theorem RQ.bh {a a' : Option XH} {k k' : XH → XR} (h : ∀ σ1, a = some σ1 → a' = some (xset σ1 Q o) ∧ XQo Q σ1) (hk : ∀ σ1, XQo Q σ1 → RQ Q o (k σ1) (k' (xset σ1 Q o))) : RQ Q o (a.bind k) (a'.bind k') := fun v ρ e => by
  obtain ⟨x, e1, e2⟩ := bnd_some e
  obtain ⟨h1, h2⟩ := h x e1
  rw [h1]
  exact hk x h2 v ρ e2
theorem RQ.cv {r r' : XR} {k k' : XH → XR} (h : RQ Q o r r') (hk : ∀ σ1, XQo Q σ1 → RQ Q o (k σ1) (k' (xset σ1 Q o))) : RQ Q o (xcv r k) (xcv r' k') := fun v ρ e => by
  unfold xcv at e
  split at e
  · obtain ⟨h1, h2⟩ := h _ _ rfl
    rw [h1]
    exact hk _ h2 v ρ e
  · cases e
theorem RQ.ci {r r' : XR} {k k' : Int32 → XH → XR} (h : RQ Q o r r') (hk : ∀ x σ1, XQo Q σ1 → RQ Q o (k x σ1) (k' x (xset σ1 Q o))) : RQ Q o (xci r k) (xci r' k') := fun v ρ e => by
  unfold xci at e
  split at e
  · obtain ⟨h1, h2⟩ := h _ _ rfl
    rw [h1]
    exact hk _ _ h2 v ρ e
  · cases e
theorem RQ.cl {r r' : XR} {k k' : Int64 → XH → XR} (h : RQ Q o r r') (hk : ∀ x σ1, XQo Q σ1 → RQ Q o (k x σ1) (k' x (xset σ1 Q o))) : RQ Q o (xcl r k) (xcl r' k') := fun v ρ e => by
  unfold xcl at e
  split at e
  · obtain ⟨h1, h2⟩ := h _ _ rfl
    rw [h1]
    exact hk _ _ h2 v ρ e
  · cases e
theorem RQ.cr {r r' : XR} {k k' : Option Nat → XH → XR} (h : RQ Q o r r') (hk : ∀ x σ1, XQo Q σ1 → RQ Q o (k x σ1) (k' x (xset σ1 Q o))) : RQ Q o (xcr r k) (xcr r' k') := fun v ρ e => by
  unfold xcr at e
  split at e
  · obtain ⟨h1, h2⟩ := h _ _ rfl
    rw [h1]
    exact hk _ _ h2 v ρ e
  · cases e
theorem RQ.cx {r r' : XR} {kx kx' : Nat → Nat → XH → XR} {k k' : Int32 → XH → XR} (h : RQ Q o r r') (hx : ∀ E q σ1, XQo Q σ1 → RQ Q o (kx E q σ1) (kx' E q (xset σ1 Q o))) (hk : ∀ x σ1, XQo Q σ1 → RQ Q o (k x σ1) (k' x (xset σ1 Q o))) : RQ Q o (xcx r kx k) (xcx r' kx' k') := fun v ρ e => by
  unfold xcx at e
  split at e
  · obtain ⟨h1, h2⟩ := h _ _ rfl
    rw [h1]
    exact hk _ _ h2 v ρ e
  · obtain ⟨h1, h2⟩ := h _ _ rfl
    rw [h1]
    exact hx _ _ _ h2 v ρ e
  · cases e
theorem RQ.gd {x : Option Nat} {c : Nat} {K K' : XR} (h : XQo Q σ) (hk : RQ Q o K K') : RQ Q o (xgd σ x c K) (xgd (xset σ Q o) x c K') := fun v ρ e => by
  cases x with
  | none => cases e
  | some a =>
    unfold xgd at e ⊢
    cases ha : σ.1 a with
    | none => simp only [ha] at e; cases e
    | some q =>
      simp only [ha] at e
      simp only [h.at ha]
      split at e
      · rename_i hc
        rw [if_pos hc]
        exact hk v ρ e
      · cases e
theorem RQ.j {pc : Nat} {off : Int} {k k' : Nat → XR} (hk : ∀ t, RQ Q o (k t) (k' t)) : RQ Q o (xj pc off k) (xj pc off k') := by
  unfold xj
  split
  · exact hk _
  · exact RQ.no
theorem RQ.sw {x : Int32} {k k' : Int → XR} {d : Int} (hk : ∀ t, RQ Q o (k t) (k' t)) : ∀ (l : List Int) (n : Nat), RQ Q o (xsw x k d n l) (xsw x k' d n l)
  | [], n => hk d
  | a :: l, n => by
    unfold xsw
    split
    · exact hk a
    · exact RQ.sw hk l (n + 1)
theorem RQ.hd {mi E : Nat} {K K' : Nat → Nat → XR} (hk : ∀ t j, RQ Q o (K t j) (K' t j)) : RQ Q o (xhd mi E K) (xhd mi E K') := by
  unfold xhd
  simp only [cond_eq_ite]
  repeat' split
  all_goals first | exact hk _ _ | exact RQ.no
theorem RQ.nw {p : XO} {k k' : Nat → XH → XR} (h : XQo Q σ) (hk : ∀ a σ1, XQo Q σ1 → RQ Q o (k a σ1) (k' a (xset σ1 Q o))) : RQ Q o (xnw σ p k) (xnw (xset σ Q o) p k') := by
  unfold xnw
  obtain ⟨h1, h2⟩ := h.push (o := o) (p := p)
  rw [h1]
  exact hk _ _ h2
theorem RQ.nwa {t : Nat} {d : XE} {n : Int32} {k k' : Nat → XH → XR} (h : XQo Q σ) (hk : ∀ a σ1, XQo Q σ1 → RQ Q o (k a σ1) (k' a (xset σ1 Q o))) : RQ Q o (xnwa σ t d n k) (xnwa (xset σ Q o) t d n k') := by
  unfold xnwa
  split
  · exact RQ.no
  · split
    · exact RQ.no
    · obtain ⟨h1, h2⟩ := h.push (o := o) (p := (t, List.replicate n.toNatClampNeg d))
      rw [h1]
      exact hk _ _ h2
theorem RQ.th {st : List XE} {E : Nat} (h : XQo Q σ) : RQ Q o (xth σ st E) (xth (xset σ Q o) st E) := by
  unfold xth
  split
  · refine fun v ρ e => ?_
    unfold xthr at e
    cases e
    exact ⟨rfl, h.1, Nat.lt_succ_of_lt h.2⟩
  · exact RQ.no
theorem RQ.rt {mi pc q : Nat} {ls : XL} {r r' : XR} {rest : List XE} {k k' : Nat → XL → List XE → XH → XR} (h : RQ Q o r r') (hk : ∀ a b c σ1, XQo Q σ1 → RQ Q o (k a b c σ1) (k' a b c (xset σ1 Q o))) : RQ Q o (xret mi pc ls r q rest k) (xret mi pc ls r' q rest k') := by
  unfold xret
  simp only [cond_eq_ite]
  split
  · split
    · exact RQ.cv h (fun σ1 a => hk _ _ _ _ a)
    · split
      · exact RQ.cx h (fun E q σ1 a => RQ.hd (fun t j => hk _ _ _ _ a)) (fun x σ1 a => hk _ _ _ _ a)
      · exact RQ.ci h (fun x σ1 a => hk _ _ _ _ a)
    · exact RQ.cl h (fun x σ1 a => hk _ _ _ _ a)
    · exact RQ.cr h (fun x σ1 a => hk _ _ _ _ a)
  · exact RQ.no
theorem RQ.iv {mi pc : Nat} {cal cal' : Nat → List XE → XH → XR} {ls : XL} {y : Option (Nat × Nat × Nat × Nat)} {st : List XE} {k k' : Nat → XL → List XE → XH → XR} (h : XQo Q σ) (hc : ∀ a b σ1, XQo Q σ1 → RQ Q o (cal a b σ1) (cal' a b (xset σ1 Q o))) (hk : ∀ a b c σ1, XQo Q σ1 → RQ Q o (k a b c σ1) (k' a b c (xset σ1 Q o))) : RQ Q o (xinv mi cal pc ls y st σ k) (xinv mi cal' pc ls y st (xset σ Q o) k') := by
  unfold xinv
  simp only [cond_eq_ite]
  repeat' split
  all_goals first
    | exact RQ.no
    | exact RQ.rt (hc _ _ _ h) hk
    | exact hk _ _ _ _ h
    | exact RQ.gd h (RQ.rt (hc _ _ _ h) hk)
set_option maxHeartbeats 2000000 in
theorem RQ.op {mi len pc : Nat} {cal cal' : Nat → List XE → XH → XR} {i : Instr} {ls : XL} {st : List XE} {k k' : Nat → XL → List XE → XH → XR} (h : XQo Q σ) (hc : ∀ a b σ1, XQo Q σ1 → RQ Q o (cal a b σ1) (cal' a b (xset σ1 Q o))) (hk : ∀ a b c σ1, XQo Q σ1 → RQ Q o (k a b c σ1) (k' a b c (xset σ1 Q o))) : RQ Q o (xop mi cal i len pc ls st σ k) (xop mi cal' i len pc ls st (xset σ Q o) k') := by
  have hgs : ∀ j, xgs (xset σ Q o) j = xgs σ j := fun j => by cases j <;> rfl
  cases i
  all_goals simp only [xop]
  all_goals first | exact RQ.no | exact RQ.iv h hc hk | exact hk _ _ _ _ h | exact RQ.j (fun t => hk _ _ _ _ h) | skip
  all_goals (repeat' split)
  all_goals first
    | exact RQ.no
    | exact hk _ _ _ _ h
    | exact RQ.ret h
    | exact RQ.j (fun t => hk _ _ _ _ h)
    | exact RQ.sw (fun off => RQ.j (fun t => hk _ _ _ _ h)) _ _
    | exact RQ.bn (fun x e => xgl_q h e) (fun x => hk _ _ _ _ h)
    | exact RQ.bn (fun x e => xgr_q h e) (fun x => hk _ _ _ _ h)
    | exact RQ.bn (fun x e => xgi_q h e) (fun x => hk _ _ _ _ h)
    | exact RQ.bn (fun x e => xln_q h e) (fun x => hk _ _ _ _ h)
    | exact RQ.bn (fun x e => xai_q h e) (fun x => hk _ _ _ _ h)
    | exact RQ.bn (fun x e => xal_q h e) (fun x => hk _ _ _ _ h)
    | exact RQ.bn (fun x e => xaz_q h e) (fun x => hk _ _ _ _ h)
    | exact RQ.bn (fun x e => xar_q h e) (fun x => hk _ _ _ _ h)
    | exact RQ.bh (fun x e => xpt_q h e) (fun x a => hk _ _ _ _ a)
    | exact RQ.bh (fun x e => xpz_q h e) (fun x a => hk _ _ _ _ a)
    | exact RQ.bh (fun x e => xas_q h e) (fun x a => hk _ _ _ _ a)
    | exact RQ.bh (fun x e => xsz_q h e) (fun x a => hk _ _ _ _ a)
    | exact RQ.bh (fun x e => xsr_q h e) (fun x a => hk _ _ _ _ a)
    | exact RQ.th h
    | exact RQ.nw h (fun a σ1 b => hk _ _ _ _ b)
    | exact RQ.nwa h (fun a σ1 b => hk _ _ _ _ b)
    | (rw [hgs]; exact hk _ _ _ _ h)
theorem RQ.in {rec rec' : Nat → XL → List XE → XH → XR} {cal cal' : Nat → List XE → XH → XR} {mi : Nat} (hr : ∀ a b c σ1, XQo Q σ1 → RQ Q o (rec a b c σ1) (rec' a b c (xset σ1 Q o))) (hc : ∀ a b σ1, XQo Q σ1 → RQ Q o (cal a b σ1) (cal' a b (xset σ1 Q o))) : ∀ (n pc : Nat) (ls : XL) (st : List XE) (σ : XH), XQo Q σ → RQ Q o (xin rec cal mi n pc ls st σ) (xin rec' cal' mi n pc ls st (xset σ Q o))
  | 0, _, _, _, _, _ => RQ.no
  | n + 1, pc, ls, st, σ, h => by
    unfold xin
    split
    · exact RQ.no
    · refine RQ.op h hc (fun a b c σ1 h1 => ?_)
      split
      · exact hr _ _ _ _ h1
      · exact RQ.in hr hc n _ _ _ _ h1
theorem RQ.run : ∀ (F mi pc : Nat) (ls : XL) (st : List XE) (σ : XH), XQo Q σ → RQ Q o (xrun F mi pc ls st σ) (xrun F mi pc ls st (xset σ Q o))
  | 0, _, _, _, _, _, _ => RQ.no
  | F + 1, mi, pc, ls, st, σ, h => by
    unfold xrun
    refine RQ.in (fun a b c σ1 h1 => RQ.run F mi a b c σ1 h1) (fun a b σ1 h1 => ?_) _ _ _ _ _ h
    simp only [cond_eq_ite]
    split
    · exact RQ.run F _ _ _ _ _ h1
    · exact RQ.no
theorem Ev.fr {f f' : Nat → XR} {v : XV} {ρ : XH} (hf : ∀ F, RQ Q o (f F) (f' F)) (h : Ev f (v, ρ)) : Ev f' (v, xset ρ Q o) ∧ XQo Q ρ := by
  obtain ⟨N, hN⟩ := h
  exact ⟨⟨N, fun F hF => (hf F v ρ (hN F hF)).1⟩, (hf N v ρ (hN N (Nat.le_refl _))).2⟩
end FR
