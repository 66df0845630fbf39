/-! the law's helpers: their walks, their contracts, their calls -/
def XS9 : Prop := ∀ o x E, xcd o x = some E → E = 50 ∨ E = 51 → o = 11
def XS10 : Prop := ∀ mi p i len, xhs mi = true → xtb mi p = some (i, len) → (∀ x, i ≠ .invokestatic x) ∧ (∀ x, i ≠ .invokespecial x)
theorem xret_someH {mi pc q : Nat} {ls : XL} {r : XR} {rest : List XE} {k : Nat → XL → List XE → XH → XR} {res : XV × XH} (hh : xhs mi = true) (h : xret mi pc ls r q rest k = some res) : xwd rest ≤ 8 ∧ ((∃ v σ', r = some (.inl v, σ') ∧ k (pc + 3) ls (v.toList ++ rest) σ' = some res) ∨ ∃ E a σ', r = some (.inr (E, a), σ') ∧ xhd mi E (fun h j => k h (xst0 ls j) [] σ') = some res) := by
  unfold xret at h
  cases hb : Nat.ble (xwd rest) 8 with
  | false => rw [hb] at h; cases h
  | true =>
    refine ⟨Nat.le_of_ble_eq_true hb, ?_⟩
    rw [hb] at h
    have h : (match (generalizing := false) q with
      | 0 => xcv r fun σ' => k (pc + 3) ls rest σ'
      | 1 => bif xhs mi then xcx r (fun E _ σ' => xhd mi E fun h j => k h (xst0 ls j) [] σ') fun v σ' => k (pc + 3) ls (.inl v :: rest) σ' else xci r fun v σ' => k (pc + 3) ls (.inl v :: rest) σ'
      | 2 => xcl r fun v σ' => k (pc + 3) ls (.inr (.inl v) :: rest) σ'
      | _ => xcr r fun v σ' => k (pc + 3) ls (.inr (.inr v) :: rest) σ') = some res := h
    split at h
    · obtain ⟨σ', e1, e2⟩ := xcv_some h
      exact Or.inl ⟨_, _, e1, e2⟩
    · rw [hh] at h
      rcases xcx_some h with ⟨x, σ', e1, e2⟩ | ⟨E, a, σ', e1, e2⟩
      · exact Or.inl ⟨_, _, e1, e2⟩
      · exact Or.inr ⟨E, a, σ', e1, e2⟩
    · obtain ⟨x, σ', e1, e2⟩ := xcl_some h
      exact Or.inl ⟨_, _, e1, e2⟩
    · obtain ⟨x, σ', e1, e2⟩ := xcr_some h
      exact Or.inl ⟨_, _, e1, e2⟩
section XHM
variable {p : Program} {l : Launch} {e : Env} {R : Room} {s : State} {m : MethodId} {args : Array Value} {below : List Frame} {meth : Method} {c : Code} {U : State} {D : va_G} {P : State → Prop}
/-- what is caught in a method with handlers, and where -/
def XCt (mi : Nat) (p : Program) (l : Launch) (e : Env) (R : Room) (s : State) (m : MethodId) (args : Array Value) (below : List Frame) (meth : Method) (c : Code) : Prop :=
  ∀ (pc x E : Nat) (K' : Nat → Nat → XR) (res : XV × XH), xtb mi pc = some (.invokevirtual x, 3) → xhd mi E K' = some res → ∃ hp j, K' hp j = some res ∧
    ∀ (H : Heap) (locs : List Loc) (cells slots : Nat) (la : Array Slot) (ls : XL) (rest : List Value) (q : Addr) (ce : Cell) (Q : State → Prop), xhl la (xmx mi) ls → H[q]? = some ce → ce.vm = .none → s.vm.findClass (xen E) = some ce.cls → (∀ la1 : Array Slot, xhl la1 (xmx mi) (xst0 ls j) → W p l e R s m args below meth c H locs cells slots Q (F0 m hp la1 [])) → vx_W p l e R s m args below meth c H locs cells slots Q (F0 m pc la rest) q
set_option maxHeartbeats 2000000 in
theorem xd_virtualH {mi u0 len pc x : Nat} {Q : State → Prop} {cal : Nat → List XE → XH → XR} {ls : XL} {st : List XE} {σ : XH} {k : Nat → XL → List XE → XH → XR} {res : XV × XH} (K : XK P U D mi p R s m args meth c) (hP : XPw P) (hS3 : XS3) (hS7 : XS7) (hhs : xhs mi = true) (hct : XCt mi p l e R s m args below meth c) (htb : xtb mi pc = some (.invokevirtual x, len)) (hd : decode (xcb mi) pc = .ok (.invokevirtual x, len)) (ho : xok mi pc (.invokevirtual x) len = true) (h : xop mi cal (.invokevirtual x) len pc ls st σ k = some res)
    (hcal : ∀ mj n as σ v σ', XCm mj n → cal mj as σ = some (.inl v, σ') → XM P l U D mj as σ v σ') (hcalT : ∀ mj n as σ E a σ', XCm mj n → cal mj as σ = some (.inr (E, a), σ') → XMT P l U D mj as σ E σ')
    (hk : ∀ pc' ls' st' σ', k pc' ls' st' σ' = some res → XG U D mi p l e R s m args below meth c u0 Q pc' ls' st' σ')
    (hm : ∀ pc' ls' st' σ', k pc' ls' st' σ' = some res → σ'.2.1 ≤ R.cells + s.heap.size ∧ σ'.2.2.1 ≤ R.slots + u0) : XG U D mi p l e R s m args below meth c u0 Q pc ls st σ := by
  have h9 : xinv mi cal pc ls (xmd (xow mi) x) st σ k = some res := h
  clear h
  have h := h9
  clear h9
  cases hx : xmd (xow mi) x with
  | none => rw [hx] at h; cases h
  | some y =>
    obtain ⟨mj, n, q, ci⟩ := y
    rw [hx] at h
    have hl : len = 3 ∧ ci < 13 ∧ xdp mj + 1 ≤ xdp mi := by simpa [xok, hx] using ho
    obtain ⟨hl, hci, hdep⟩ := hl
    subst hl
    obtain ⟨h7, -⟩ := hS7 _ _ _ _ _ _ hx
    obtain ⟨a1, a2, a3, a4, a5, a6⟩ := h7 hci
    obtain ⟨C, T, N, hc⟩ : ∃ C T N, vwCl[ci]? = some (C, T, N) := ⟨_, _, _, List.getElem?_eq_getElem (show ci < vwCl.length from hci)⟩
    have hC := (hS3 _ _ _ _ hc).2.2.2.2.2.2.2
    have h : (match (generalizing := false) st.drop n with
      | .inr (.inr x) :: r => xgd σ x ci (xret mi pc ls (cal mj (.inr (.inr x) :: (st.take n).reverse) σ) q r k)
      | _ => none) = some res := by
      unfold xinv at h
      dsimp only at h
      split at h <;> first | (exact h) | (exfalso; omega)
    split at h
    · next z r hst =>
      obtain ⟨b, o, rfl, g1, g2, g3⟩ := xgd_some h
      obtain ⟨g4, g5⟩ := xret_someH hhs g3
      rcases g5 with ⟨v, σ', g5, g6⟩ | ⟨E, a, σ', g5, g6⟩
      · exact xc_virt K hP hd hdep a1 a2 a3 a4 a5 a6 hc hC hst g1 g2 g4 (hcal _ _ _ _ _ _ a1 g5) (hm _ _ _ _ g6) (hk _ _ _ _ g6)
      · obtain ⟨hp, j, g7, g8⟩ := hct pc x E _ res htb g6
        exact xc_thrown K hP hd hdep a1 a2 a3 a4 a5 a6 hc hC hst g1 g2 g4 (hcalT _ _ _ _ _ _ _ a1 g5) (hm _ _ _ _ g7) (hk _ _ _ _ g7) (fun H locs cells slots la rest q ce => g8 H locs cells slots la ls rest q ce Q)
    · cases h
theorem xin_simH {mi u0 : Nat} {rec : Nat → XL → List XE → XH → XR} {cal : Nat → List XE → XH → XR} {σ' : XH} {v : Option XE} (St : XSt) (S9 : XS9) (S10 : XS10) (K : XK P U D mi p R s m args meth c) (hP : XPw P) (hPo : XPo P) (hhs : xhs mi = true) (h13 : xow mi = 13) (hct : XCt mi p l e R s m args below meth c) (hcap : σ'.2.1 ≤ R.cells + s.heap.size ∧ σ'.2.2.1 ≤ R.slots + u0)
    (hrl : ∀ pc ls st σ v σ', rec pc ls st σ = some (v, σ') → xle σ σ') (hcl : ∀ mj as σ v σ', cal mj as σ = some (v, σ') → xle σ σ')
    (hcal : ∀ mj n as σ v σ', XCm mj n → cal mj as σ = some (.inl v, σ') → XM P l U D mj as σ v σ') (hcalT : ∀ mj n as σ E a σ', XCm mj n → cal mj as σ = some (.inr (E, a), σ') → XMT P l U D mj as σ E σ')
    (hrec : ∀ pc ls st ρ, rec pc ls st ρ = some (.inl v, σ') → XG U D mi p l e R s m args below meth c u0 (XQ U D below args s u0 v σ') pc ls st ρ) :
    ∀ (n pc : Nat) (ls : XL) (st : List XE) (σ : XH), xin rec cal mi n pc ls st σ = some (.inl v, σ') → XG U D mi p l e R s m args below meth c u0 (XQ U D below args s u0 v σ') pc ls st σ
  | 0, _, _, _, _, h => by cases h
  | n + 1, pc, ls, st, σ, h => by
    unfold xin at h
    split at h
    · cases h
    · next i len htb =>
      have step : ∀ (pc' : Nat) (ls' : XL) (st' : List XE) (ρ : XH), (match xct mi pc' with
          | some bs => rec pc' (xmsk bs ls') st' ρ
          | none => xin rec cal mi n pc' ls' st' ρ) = some (.inl v, σ') → XG U D mi p l e R s m args below meth c u0 (XQ U D below args s u0 v σ') pc' ls' st' ρ ∧ xle ρ σ' := by
        intro pc' ls' st' ρ h
        split at h
        · next bs hbs =>
          refine ⟨?_, hrl _ _ _ _ _ _ h⟩
          intro H locs la hR hL hlc hs hu
          exact hrec _ _ _ _ h H locs la hR (hL.msk bs) hlc hs hu
        · exact ⟨xin_simH St S9 S10 K hP hPo hhs h13 hct hcap hrl hcl hcal hcalT hrec n _ _ _ _ h, xin_le hrl hcl n _ _ _ _ _ h⟩
      have hk := fun pc' ls' st' ρ hh => (step pc' ls' st' ρ hh).1
      have hm : ∀ pc' ls' st' ρ, (match xct mi pc' with
          | some bs => rec pc' (xmsk bs ls') st' ρ
          | none => xin rec cal mi n pc' ls' st' ρ) = some (.inl v, σ') → ρ.2.1 ≤ R.cells + s.heap.size ∧ ρ.2.2.1 ≤ R.slots + u0 := fun pc' ls' st' ρ hh => by
        have := (step pc' ls' st' ρ hh).2
        exact ⟨Nat.le_trans this.1 hcap.1, Nat.le_trans this.2 hcap.2⟩
      obtain ⟨hd, ho⟩ := St.1 _ _ _ _ htb
      have hno := S10 _ _ _ _ hhs htb
      refine xop_simG St K hPo htb h hk hm (fun x hi => ?_) (fun hi => ?_) (fun x E' hi hx hE => ?_)
      · rcases hi with rfl | rfl | rfl
        · exact xd_virtualH K hP St.2.2.1 St.2.2.2.2.2.2.1 hhs hct htb hd ho h hcal hcalT hk hm
        · exact absurd rfl (hno.1 x)
        · exact absurd rfl (hno.2 x)
      · rcases hi with rfl | rfl | rfl | rfl
        · exact xb_ireturn K hd ho h
        · exact xb_lreturn K hd ho h
        · exact xb_areturn K hd ho h
        · exact xb_return_ K hd ho h
      · have := S9 _ _ _ hx hE
        omega
end XHM
