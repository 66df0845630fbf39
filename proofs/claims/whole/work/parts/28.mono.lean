/-! room only grows; what a call's end says -/
def xle (σ ρ : XH) : Prop := σ.2.1 ≤ ρ.2.1 ∧ σ.2.2.1 ≤ ρ.2.2.1
theorem xle.rf {σ : XH} : xle σ σ := ⟨Nat.le_refl _, Nat.le_refl _⟩
theorem xle.tr {σ ρ τ : XH} (h : xle σ ρ) (h2 : xle ρ τ) : xle σ τ := ⟨Nat.le_trans h.1 h2.1, Nat.le_trans h.2 h2.2⟩
theorem xle.sz {σ σ1 ρ : XH} (e : σ1.2 = σ.2) (h : xle σ1 ρ) : xle σ ρ := by
  unfold xle at *
  rw [e] at h
  exact h
theorem xpt_sz {σ σ1 : XH} {r : Option Nat} {t k : Nat} {x : XE} (h : xpt σ r t k x = some σ1) : σ1.2 = σ.2 := by
  obtain ⟨a, o, -, -, -, -, rfl⟩ := xpt_some h
  rfl
theorem xpz_sz {σ σ1 : XH} {r : Option Nat} {t k : Nat} {x : Int32} (h : xpz σ r t k x = some σ1) : σ1.2 = σ.2 := by
  unfold xpz at h
  split at h
  · exact xpt_sz h
  · cases h
theorem xas_sz {σ σ1 : XH} {r : Option Nat} {t : Nat} {i : Int32} {x : XE} (h : xas σ r t i x = some σ1) : σ1.2 = σ.2 := by
  obtain ⟨a, o, -, -, -, -, -, rfl⟩ := xas_some h
  rfl
theorem xsi_sz {σ σ1 : XH} {r : Option Nat} {i x : Int32} (h : xsi σ r i x = some σ1) : σ1.2 = σ.2 := xas_sz h
theorem xsl_sz {σ σ1 : XH} {r : Option Nat} {i : Int32} {x : Int64} (h : xsl σ r i x = some σ1) : σ1.2 = σ.2 := xas_sz h
theorem xsz_sz {σ σ1 : XH} {r : Option Nat} {i x : Int32} (h : xsz σ r i x = some σ1) : σ1.2 = σ.2 := by
  unfold xsz at h
  split at h
  · exact xas_sz h
  · cases h
theorem xsr_sz {σ σ1 : XH} {r : Option Nat} {i : Int32} {x : Option Nat} (h : xsr σ r i x = some σ1) : σ1.2 = σ.2 := by
  obtain ⟨a, o, -, -, -, -, -, rfl, -⟩ := xsr_some h
  rfl
theorem xpush_le {σ : XH} {o : XO} : xle σ (xpush σ o) := ⟨Nat.le_succ _, Nat.le_add_right _ _⟩
theorem xcv_some {r : XR} {k : XH → XR} {res : XV × XH} (h : xcv r k = some res) : ∃ σ, r = some (.inl none, σ) ∧ k σ = some res := by
  unfold xcv at h
  split at h
  · exact ⟨_, rfl, h⟩
  · cases h
theorem xci_some {r : XR} {k : Int32 → XH → XR} {res : XV × XH} (h : xci r k = some res) : ∃ x σ, r = some (.inl (some (.inl x)), σ) ∧ k x σ = some res := by
  unfold xci at h
  split at h
  · exact ⟨_, _, rfl, h⟩
  · cases h
theorem xcl_some {r : XR} {k : Int64 → XH → XR} {res : XV × XH} (h : xcl r k = some res) : ∃ x σ, r = some (.inl (some (.inr (.inl x))), σ) ∧ k x σ = some res := by
  unfold xcl at h
  split at h
  · exact ⟨_, _, rfl, h⟩
  · cases h
theorem xcr_some {r : XR} {k : Option Nat → XH → XR} {res : XV × XH} (h : xcr r k = some res) : ∃ x σ, r = some (.inl (some (.inr (.inr x))), σ) ∧ k x σ = some res := by
  unfold xcr at h
  split at h
  · exact ⟨_, _, rfl, h⟩
  · cases h
theorem xcx_some {r : XR} {kx : Nat → Nat → XH → XR} {k : Int32 → XH → XR} {res : XV × XH} (h : xcx r kx k = some res) : (∃ x σ, r = some (.inl (some (.inl x)), σ) ∧ k x σ = some res) ∨ ∃ E q σ, r = some (.inr (E, q), σ) ∧ kx E q σ = some res := by
  unfold xcx at h
  split at h
  · exact Or.inl ⟨_, _, rfl, h⟩
  · exact Or.inr ⟨_, _, _, rfl, h⟩
  · cases h
theorem xgd_some {σ : XH} {x : Option Nat} {c : Nat} {K : XR} {res : XV × XH} (h : xgd σ x c K = some res) : ∃ b o, x = some b ∧ σ.1 b = some o ∧ o.1 = c ∧ K = some res := by
  cases x with
  | none => cases h
  | some b =>
    have h : (match σ.1 b with
      | none => none
      | some o => if o.1 = c then K else none) = some res := h
    cases ho : σ.1 b with
    | none => rw [ho] at h; cases h
    | some o =>
      rw [ho] at h
      have h : (if o.1 = c then K else none) = some res := h
      by_cases hc : o.1 = c
      · rw [if_pos hc] at h
        exact ⟨b, o, rfl, ho, hc, h⟩
      · rw [if_neg hc] at h; cases h
theorem xhd_some {mi E : Nat} {K : Nat → Nat → XR} {res : XV × XH} (h : xhd mi E K = some res) : ∃ t j, K t j = some res := by
  unfold xhd at h
  simp only [cond_eq_ite] at h
  repeat' split at h
  all_goals first | exact ⟨_, _, h⟩ | cases h
/-- behind a call, in general -/
theorem xret_le {mi pc q : Nat} {ls : XL} {r : XR} {rest : List XE} {k : Nat → XL → List XE → XH → XR} {res : XV × XH} {σ : XH} (h : xret mi pc ls r q rest k = some res) (hr : ∀ v σ', r = some (v, σ') → xle σ σ') (hk : ∀ pc' ls' st' σ', k pc' ls' st' σ' = some res → xle σ' res.2) : xle σ res.2 := by
  unfold xret at h
  cases hb : Nat.ble (xwd rest) 8 with
  | false => rw [hb] at h; cases h
  | true =>
    rw [hb] at h
    have h : (match (generalizing := false) q with
      | 0 => xcv r fun σ' => k (pc + 3) ls rest σ'
      | 1 => bif xhs mi then xcx r (fun E _ σ' => xhd mi E fun h j => k h (xst0 ls j) [] σ') fun v σ' => k (pc + 3) ls (.inl v :: rest) σ' else xci r fun v σ' => k (pc + 3) ls (.inl v :: rest) σ'
      | 2 => xcl r fun v σ' => k (pc + 3) ls (.inr (.inl v) :: rest) σ'
      | _ => xcr r fun v σ' => k (pc + 3) ls (.inr (.inr v) :: rest) σ') = some res := h
    split at h
    · obtain ⟨σ', e1, e2⟩ := xcv_some h
      exact (hr _ _ e1).tr (hk _ _ _ _ e2)
    · cases hh : xhs mi with
      | false =>
        rw [hh] at h
        obtain ⟨x, σ', e1, e2⟩ := xci_some h
        exact (hr _ _ e1).tr (hk _ _ _ _ e2)
      | true =>
        rw [hh] at h
        rcases xcx_some h with ⟨x, σ', e1, e2⟩ | ⟨E, a, σ', e1, e2⟩
        · exact (hr _ _ e1).tr (hk _ _ _ _ e2)
        · obtain ⟨t, j, e3⟩ := xhd_some e2
          exact (hr _ _ e1).tr (hk _ _ _ _ e3)
    · obtain ⟨x, σ', e1, e2⟩ := xcl_some h
      exact (hr _ _ e1).tr (hk _ _ _ _ e2)
    · obtain ⟨x, σ', e1, e2⟩ := xcr_some h
      exact (hr _ _ e1).tr (hk _ _ _ _ e2)
/-- behind a call in a method without handlers -/
theorem xret_some {mi pc q : Nat} {ls : XL} {r : XR} {rest : List XE} {k : Nat → XL → List XE → XH → XR} {res : XV × XH} (hh : xhs mi = false) (h : xret mi pc ls r q rest k = some res) : xwd rest ≤ 8 ∧ ∃ v σ', r = some (.inl v, σ') ∧ k (pc + 3) ls (v.toList ++ rest) σ' = some res := by
  unfold xret at h
  cases hb : Nat.ble (xwd rest) 8 with
  | false => rw [hb] at h; cases h
  | true =>
    refine ⟨Nat.le_of_ble_eq_true hb, ?_⟩
    rw [hb] at h
    have h : (match (generalizing := false) q with
      | 0 => xcv r fun σ' => k (pc + 3) ls rest σ'
      | 1 => bif xhs mi then xcx r (fun E _ σ' => xhd mi E fun h j => k h (xst0 ls j) [] σ') fun v σ' => k (pc + 3) ls (.inl v :: rest) σ' else xci r fun v σ' => k (pc + 3) ls (.inl v :: rest) σ'
      | 2 => xcl r fun v σ' => k (pc + 3) ls (.inr (.inl v) :: rest) σ'
      | _ => xcr r fun v σ' => k (pc + 3) ls (.inr (.inr v) :: rest) σ') = some res := h
    split at h
    · obtain ⟨σ', e1, e2⟩ := xcv_some h
      exact ⟨_, _, e1, e2⟩
    · rw [hh] at h
      obtain ⟨x, σ', e1, e2⟩ := xci_some h
      exact ⟨_, _, e1, e2⟩
    · obtain ⟨x, σ', e1, e2⟩ := xcl_some h
      exact ⟨_, _, e1, e2⟩
    · obtain ⟨x, σ', e1, e2⟩ := xcr_some h
      exact ⟨_, _, e1, e2⟩
theorem xinv_le {mi pc : Nat} {cal : Nat → List XE → XH → XR} {ls : XL} {y : Option (Nat × Nat × Nat × Nat)} {st : List XE} {σ : XH} {k : Nat → XL → List XE → XH → XR} {res : XV × XH} (h : xinv mi cal pc ls y st σ k = some res) (hc : ∀ mj as σ v σ', cal mj as σ = some (v, σ') → xle σ σ') (hk : ∀ pc' ls' st' σ', k pc' ls' st' σ' = some res → xle σ' res.2) : xle σ res.2 := by
  unfold xinv at h
  split at h
  · cases h
  · split at h
    · simp only [cond_eq_ite] at h
      split at h
      · exact xret_le h (fun v σ' e => hc _ _ _ _ _ e) hk
      · cases h
    · split at h
      · exact xret_le h (fun v σ' e => hc _ _ _ _ _ e) hk
      · cases h
    · split at h
      · exact xret_le h (fun v σ' e => hc _ _ _ _ _ e) hk
      · cases h
    · simp only [cond_eq_ite] at h
      split at h
      · exact xret_le h (fun v σ' e => hc _ _ _ _ _ e) hk
      · cases h
    · split at h
      · split at h
        · cases h
        · simp only [cond_eq_ite] at h
          split at h
          · exact hk _ _ _ _ h
          · cases h
      · cases h
    · split at h
      · simp only [cond_eq_ite] at h
        split at h
        · exact hk _ _ _ _ h
        · cases h
      · cases h
    · split at h
      · simp only [cond_eq_ite] at h
        split at h
        · exact hk _ _ _ _ h
        · cases h
      · cases h
    · split at h
      · obtain ⟨b, o, -, -, -, h⟩ := xgd_some h
        exact xret_le h (fun v σ' e => hc _ _ _ _ _ e) hk
      · cases h
set_option maxHeartbeats 4000000 in
theorem xop_le {mi len pc : Nat} {cal : Nat → List XE → XH → XR} {i : Instr} {ls : XL} {st : List XE} {σ : XH} {k : Nat → XL → List XE → XH → XR} {res : XV × XH} (h : xop mi cal i len pc ls st σ k = some res) (hc : ∀ mj as σ v σ', cal mj as σ = some (v, σ') → xle σ σ') (hk : ∀ pc' ls' st' σ', k pc' ls' st' σ' = some res → xle σ' res.2) : xle σ res.2 := by
  cases i
  case tableswitch d lo hi offs =>
    simp only [xop] at h
    split at h
    · split at h
      · rcases xsw_some _ _ h with ⟨j, off, -, -, h3⟩ | ⟨-, h3⟩
        · obtain ⟨t, -, h4⟩ := xj_some h3
          exact hk _ _ _ _ h4
        · obtain ⟨t, -, h4⟩ := xj_some h3
          exact hk _ _ _ _ h4
      · cases h
    · cases h
  case invokevirtual x => exact xinv_le h hc hk
  case invokestatic x => exact xinv_le h hc hk
  case invokespecial x => exact xinv_le h hc hk
  case newarray t =>
    simp only [xop] at h
    split at h
    · split at h
      · obtain ⟨-, -, h⟩ := xnwa_some h
        exact xpush_le.tr (hk _ _ _ _ h)
      · obtain ⟨-, -, h⟩ := xnwa_some h
        exact xpush_le.tr (hk _ _ _ _ h)
      · obtain ⟨-, -, h⟩ := xnwa_some h
        exact xpush_le.tr (hk _ _ _ _ h)
      · cases h
    · cases h
  case anewarray x =>
    simp only [xop] at h
    split at h
    · obtain ⟨-, -, h⟩ := xnwa_some h
      exact xpush_le.tr (hk _ _ _ _ h)
    · cases h
  case new x =>
    simp only [xop] at h
    split at h
    · split at h
      · unfold xth xthr at h
        split at h
        · cases h
          exact ⟨Nat.le_succ _, Nat.le_add_right _ _⟩
        · cases h
      · unfold xth xthr at h
        split at h
        · cases h
          exact ⟨Nat.le_succ _, Nat.le_add_right _ _⟩
        · cases h
      · exact xpush_le.tr (hk _ _ _ _ h)
    · cases h
  all_goals simp only [xop] at h
  all_goals first | (cases h; done) | skip
  all_goals (repeat' split at h)
  all_goals first
    | exact hk _ _ _ _ h
    | (obtain ⟨t, -, h4⟩ := xj_some h; exact hk _ _ _ _ h4)
    | (cases h; exact xle.rf)
    | (cases h; done)
    | (obtain ⟨σ1, h1, h2⟩ := xbind_some h; first
        | exact hk _ _ _ _ h2
        | exact xle.sz (xpt_sz h1) (hk _ _ _ _ h2)
        | exact xle.sz (xpz_sz h1) (hk _ _ _ _ h2)
        | exact xle.sz (xsi_sz h1) (hk _ _ _ _ h2)
        | exact xle.sz (xsl_sz h1) (hk _ _ _ _ h2)
        | exact xle.sz (xsz_sz h1) (hk _ _ _ _ h2)
        | exact xle.sz (xsr_sz h1) (hk _ _ _ _ h2))
theorem xin_le {rec : Nat → XL → List XE → XH → XR} {cal : Nat → List XE → XH → XR} {mi : Nat} (hr : ∀ pc ls st σ v σ', rec pc ls st σ = some (v, σ') → xle σ σ') (hc : ∀ mj as σ v σ', cal mj as σ = some (v, σ') → xle σ σ') : ∀ (n pc : Nat) (ls : XL) (st : List XE) (σ : XH) (res : XV × XH), xin rec cal mi n pc ls st σ = some res → xle σ res.2
  | 0, _, _, _, _, _, h => by cases h
  | n + 1, pc, ls, st, σ, res, h => by
    unfold xin at h
    split at h
    · cases h
    · refine xop_le h hc fun pc' ls' st' σ' h => ?_
      split at h
      · exact hr _ _ _ _ res.1 res.2 h
      · exact xin_le hr hc n _ _ _ _ _ h
theorem xrun_le : ∀ (F mi pc : Nat) (ls : XL) (st : List XE) (σ : XH) (v : XV) (σ' : XH), xrun F mi pc ls st σ = some (v, σ') → xle σ σ'
  | 0, _, _, _, _, _, _, _, h => by cases h
  | F + 1, mi, pc, ls, st, σ, v, σ', h => by
    unfold xrun at h
    refine xin_le (fun pc ls st σ v σ' h => xrun_le F mi pc ls st σ v σ' h) (fun mj as σ v σ' h => ?_) _ _ _ _ _ _ h
    simp only [cond_eq_ite] at h
    split at h
    · exact xrun_le F _ _ _ _ _ _ _ h
    · cases h
