/-! the machine follows the interpreter: one instruction -/
def XS4b : Prop := ∀ o x c, xcd o x = some c → c < 13 ∨ c = 50 ∨ c = 51
def XS7 : Prop := ∀ o x mj n q ci, xmd o x = some (mj, n, q, ci) →
  (ci < 13 → XCm mj n ∧ Cond.methodLink (xnm o) x (xyn mj) ∈ xTs ∧ Cond.instanceMethod (xyn mj) ∈ xTs ∧ Cond.selects (xnm ci) (xyn mj) (xyn mj) ∈ xTs ∧ Cond.initialized (xnm ci) ∈ xTs ∧ (xyn mj).cls = xnm ci) ∧
  (ci = 90 → XCm mj n ∧ Cond.methodLink (xnm o) x (xyn mj) ∈ xTs ∧ Cond.static (xyn mj) ∈ xTs ∧ Cond.initialized (xnm o) ∈ xTs ∧ (xyn mj).cls = xnm o) ∧
  (ci = 91 ∨ ci = 95 → XCm mj n ∧ (ci = 91 → Cond.methodLink (xnm o) x (xyn mj) ∈ xTs) ∧ Cond.instanceMethod (xyn mj) ∈ xTs ∧ Cond.initialized (xyn mj).cls ∈ xTs ∧ (xyn mj).name = "<init>" ∧ xrt mj = none) ∧
  (ci = 92 → Cond.methodLink (xnm o) x Lib.objectInit ∈ xTs ∧ Cond.instanceMethod Lib.objectInit ∈ xTs ∧ Cond.code Lib.objectInit ⟨#[0xb1]⟩ 1 none ∈ xTs) ∧
  (ci = 93 → Cond.methodLink (xnm o) x Lib.Math.min.name ∈ xTs ∧ Cond.static Lib.Math.min.name ∈ xTs ∧ Cond.initialized "java/lang/Math" ∈ xTs ∧ Cond.code Lib.Math.min.name Lib.Math.min.code 2 (some .int) ∈ xTs) ∧
  (ci = 94 → Cond.methodLink (xnm o) x Lib.MathLoose.max_long.x ∈ xTs ∧ Cond.static Lib.MathLoose.max_long.x ∈ xTs ∧ Cond.initialized "java/lang/Math" ∈ xTs ∧ Cond.code Lib.MathLoose.max_long.x Lib.MathLoose.max_long.code 4 (some .long) ∈ xTs)
/-- all static facts -/
def XSt : Prop := XS1 ∧ XS2 ∧ XS3 ∧ XS4 ∧ XS5 ∧ XS6 ∧ XS7 ∧ XS4b
/-- what the moving predicate says of constructors of nest mates -/
def XPn (P : State → Prop) : Prop := XPo P ∧ ∀ s, P s → ∀ o x mj n q, xmd o x = some (mj, n, q, 95) → ∃ host, va_Nw (.methodLinkNest (xnm o) x (xyn mj) host) s
section XSM
variable {p : Program} {l : Launch} {e : Env} {R : Room} {s : State} {m : MethodId} {args : Array Value} {below : List Frame} {meth : Method} {c : Code} {U : State} {D : va_G} {P : State → Prop}
set_option maxHeartbeats 2000000 in
theorem xd_virtual {mi u0 len pc x : Nat} {Q : State → Prop} {cal : Nat → List XE → XH → XR} {ls : XL} {st : List XE} {σ : XH} {k : Nat → XL → List XE → XH → XR} {res : XV × XH} (K : XK P U D mi p R s m args meth c) (hP : XPw P) (hS3 : XS3) (hS7 : XS7) (hhs : xhs mi = false) (hd : decode (xcb mi) pc = .ok (.invokevirtual x, len)) (ho : xok mi pc (.invokevirtual x) len = true) (h : xop mi cal (.invokevirtual x) len pc ls st σ k = some res)
    (hcal : ∀ mj n as σ v σ', XCm mj n → cal mj as σ = some (.inl v, σ') → XM P l U D mj as σ v σ')
    (hk : ∀ pc' ls' st' σ', k pc' ls' st' σ' = some res → XG U D mi p l e R s m args below meth c u0 Q pc' ls' st' σ')
    (hm : ∀ pc' ls' st' σ', k pc' ls' st' σ' = some res → σ'.2.1 ≤ R.cells + s.heap.size ∧ σ'.2.2.1 ≤ R.slots + u0) : XG U D mi p l e R s m args below meth c u0 Q pc ls st σ := by
  have h9 : xinv mi cal pc ls (xmd (xow mi) x) st σ k = some res := h
  clear h
  have h := h9
  clear h9
  cases hx : xmd (xow mi) x with
  | none => rw [hx] at h; cases h
  | some y =>
    obtain ⟨mj, n, q, ci⟩ := y
    rw [hx] at h
    have hl : len = 3 ∧ ci < 13 ∧ xdp mj + 1 ≤ xdp mi := by simpa [xok, hx] using ho
    obtain ⟨hl, hci, hdep⟩ := hl
    subst hl
    obtain ⟨h7, -⟩ := hS7 _ _ _ _ _ _ hx
    obtain ⟨a1, a2, a3, a4, a5, a6⟩ := h7 hci
    obtain ⟨C, T, N, hc⟩ : ∃ C T N, vwCl[ci]? = some (C, T, N) := ⟨_, _, _, List.getElem?_eq_getElem (show ci < vwCl.length from hci)⟩
    have hC := (hS3 _ _ _ _ hc).2.2.2.2.2.2.2
    have h : (match (generalizing := false) st.drop n with
      | .inr (.inr x) :: r => xgd σ x ci (xret mi pc ls (cal mj (.inr (.inr x) :: (st.take n).reverse) σ) q r k)
      | _ => none) = some res := by
      unfold xinv at h
      dsimp only at h
      split at h <;> first | (exact h) | (exfalso; omega)
    split at h
    · next z r hst =>
      obtain ⟨b, o, rfl, g1, g2, g3⟩ := xgd_some h
      obtain ⟨g4, v, σ', g5, g6⟩ := xret_some hhs g3
      exact xc_virt K hP hd hdep a1 a2 a3 a4 a5 a6 hc hC hst g1 g2 g4 (hcal _ _ _ _ _ _ a1 g5) (hm _ _ _ _ g6) (hk _ _ _ _ g6)
    · cases h
set_option maxHeartbeats 2000000 in
theorem xd_static {mi u0 len pc x : Nat} {Q : State → Prop} {cal : Nat → List XE → XH → XR} {ls : XL} {st : List XE} {σ : XH} {k : Nat → XL → List XE → XH → XR} {res : XV × XH} (K : XK P U D mi p R s m args meth c) (hP : XPw P) (hS7 : XS7) (hhs : xhs mi = false) (hd : decode (xcb mi) pc = .ok (.invokestatic x, len)) (ho : xok mi pc (.invokestatic x) len = true) (h : xop mi cal (.invokestatic x) len pc ls st σ k = some res)
    (hcal : ∀ mj n as σ v σ', XCm mj n → cal mj as σ = some (.inl v, σ') → XM P l U D mj as σ v σ')
    (h96 : ∀ mj n q v σ', xmd (xow mi) x = some (mj, n, q, 96) → decode (xcb mi) pc = .ok (.invokestatic x, 3) → xdp mj + 1 ≤ xdp mi → n ≤ st.length → cal mj (st.take n).reverse σ = some (.inl v, σ') → xwd (st.drop n) ≤ 8 → σ'.2.1 ≤ R.cells + s.heap.size ∧ σ'.2.2.1 ≤ R.slots + u0 → XG U D mi p l e R s m args below meth c u0 Q (pc + 3) ls (v.toList ++ st.drop n) σ' → XG U D mi p l e R s m args below meth c u0 Q pc ls st σ)
    (hk : ∀ pc' ls' st' σ', k pc' ls' st' σ' = some res → XG U D mi p l e R s m args below meth c u0 Q pc' ls' st' σ')
    (hm : ∀ pc' ls' st' σ', k pc' ls' st' σ' = some res → σ'.2.1 ≤ R.cells + s.heap.size ∧ σ'.2.2.1 ≤ R.slots + u0) : XG U D mi p l e R s m args below meth c u0 Q pc ls st σ := by
  have h9 : xinv mi cal pc ls (xmd (xow mi) x) st σ k = some res := h
  clear h
  have h := h9
  clear h9
  cases hx : xmd (xow mi) x with
  | none => rw [hx] at h; cases h
  | some y =>
    obtain ⟨mj, n, q, ci⟩ := y
    rw [hx] at h
    have hl : len = 3 ∧ ((ci = 90 ∧ xdp mj + 1 ≤ xdp mi ∨ ci = 96 ∧ xdp mj + 1 ≤ xdp mi) ∨ (ci = 93 ∨ ci = 94) ∧ 1 ≤ xdp mi) := by simpa [xok, hx] using ho
    obtain ⟨hl, hci⟩ := hl
    subst hl
    obtain ⟨-, h7, -, -, h93, h94⟩ := hS7 _ _ _ _ _ _ hx
    rcases hci with (⟨rfl, hdep⟩ | ⟨rfl, hdep⟩) | ⟨rfl | rfl, hdep⟩
    · obtain ⟨a1, a2, a3, a4, a5⟩ := h7 rfl
      have h : (bif Nat.ble n st.length then xret mi pc ls (cal mj (st.take n).reverse σ) q (st.drop n) k else none) = some res := h
      cases hb : Nat.ble n st.length with
      | false => rw [hb] at h; cases h
      | true =>
        rw [hb] at h
        obtain ⟨g4, v, σ', g5, g6⟩ := xret_some hhs h
        exact xc_stat K hP hd hdep a1 a2 a3 a4 a5 (Nat.le_of_ble_eq_true hb) g4 (hcal _ _ _ _ _ _ a1 g5) (hm _ _ _ _ g6) (hk _ _ _ _ g6)
    · have h : (bif Nat.ble n st.length then xret mi pc ls (cal mj (st.take n).reverse σ) q (st.drop n) k else none) = some res := h
      cases hb : Nat.ble n st.length with
      | false => rw [hb] at h; cases h
      | true =>
        rw [hb] at h
        obtain ⟨g4, v, σ', g5, g6⟩ := xret_some hhs h
        exact h96 mj n q v σ' hx hd hdep (Nat.le_of_ble_eq_true hb) g5 g4 (hm _ _ _ _ g6) (hk _ _ _ _ g6)
    · obtain ⟨a1, a2, a3, a4⟩ := h93 rfl
      have h : (match (generalizing := false) st with
        | .inl y :: .inl x :: r => bif Nat.ble (xwd r) 8 then k (pc + 3) ls (.inl (xmin x y) :: r) σ else none
        | _ => none) = some res := h
      split at h
      · next y z r _ =>
        cases hb : Nat.ble (xwd r) 8 with
        | false => rw [hb] at h; cases h
        | true =>
          rw [hb] at h
          have hw := Nat.le_of_ble_eq_true hb
          have hm1 := hm _ _ _ _ h
          intro H locs la hR hL hlc hs hu
          obtain ⟨hx', hb', hml, hown, hts, -, -, -, hfr, hlo, -⟩ := K
          exact va_mmin hx' hb' (hml.trans hL.1.symm) hown (hts _ a1) (hts _ a2) (hts _ a3) (hts _ a4) (by omega) (by rw [xwd_sum]; omega) (by omega) (by omega) hd (hk _ _ _ _ h H locs la hR hL hlc hs hu)
      · cases h
    · obtain ⟨a1, a2, a3, a4⟩ := h94 rfl
      have h : (match (generalizing := false) st with
        | .inr (.inl y) :: .inr (.inl x) :: r => bif Nat.ble (xwd r) 8 then k (pc + 3) ls (.inr (.inl (xmax x y)) :: r) σ else none
        | _ => none) = some res := h
      split at h
      · next y z r _ =>
        cases hb : Nat.ble (xwd r) 8 with
        | false => rw [hb] at h; cases h
        | true =>
          rw [hb] at h
          have hw := Nat.le_of_ble_eq_true hb
          have hm1 := hm _ _ _ _ h
          intro H locs la hR hL hlc hs hu
          obtain ⟨hx', hb', hml, hown, hts, -, -, -, hfr, hlo, -⟩ := K
          exact va_mmax_long hx' hb' (hml.trans hL.1.symm) hown (hts _ a1) (hts _ a2) (hts _ a3) (hts _ a4) (by omega) (by rw [xwd_sum]; omega) (by omega) (by omega) hd (hk _ _ _ _ h H locs la hR hL hlc hs hu)
      · cases h
set_option maxHeartbeats 2000000 in
theorem xd_special {mi u0 len pc x : Nat} {Q : State → Prop} {cal : Nat → List XE → XH → XR} {ls : XL} {st : List XE} {σ : XH} {k : Nat → XL → List XE → XH → XR} {res : XV × XH} (K : XK P U D mi p R s m args meth c) (hP : XPw P) (hPn : XPn P) (hS7 : XS7) (hhs : xhs mi = false) (hd : decode (xcb mi) pc = .ok (.invokespecial x, len)) (ho : xok mi pc (.invokespecial x) len = true) (h : xop mi cal (.invokespecial x) len pc ls st σ k = some res)
    (hcal : ∀ mj n as σ v σ', XCm mj n → cal mj as σ = some (.inl v, σ') → XM P l U D mj as σ v σ')
    (hk : ∀ pc' ls' st' σ', k pc' ls' st' σ' = some res → XG U D mi p l e R s m args below meth c u0 Q pc' ls' st' σ')
    (hm : ∀ pc' ls' st' σ', k pc' ls' st' σ' = some res → σ'.2.1 ≤ R.cells + s.heap.size ∧ σ'.2.2.1 ≤ R.slots + u0) : XG U D mi p l e R s m args below meth c u0 Q pc ls st σ := by
  have h9 : xinv mi cal pc ls (xmd (xow mi) x) st σ k = some res := h
  clear h
  have h := h9
  clear h9
  cases hx : xmd (xow mi) x with
  | none => rw [hx] at h; cases h
  | some y =>
    obtain ⟨mj, n, q, ci⟩ := y
    rw [hx] at h
    have hl : len = 3 ∧ ((ci = 91 ∨ ci = 95) ∧ xdp mj + 1 ≤ xdp mi ∨ ci = 92 ∧ 1 ≤ xdp mi) := by simpa [xok, hx] using ho
    obtain ⟨hl, hci⟩ := hl
    subst hl
    obtain ⟨-, -, h7, h92, -⟩ := hS7 _ _ _ _ _ _ hx
    rcases hci with ⟨hci, hdep⟩ | ⟨rfl, hdep⟩
    · obtain ⟨a1, a2, a3, a4, a5, a6⟩ := h7 hci
      have h : (match (generalizing := false) st.drop n with
        | .inr (.inr (some a)) :: r => xret mi pc ls (cal mj (.inr (.inr (some a)) :: (st.take n).reverse) σ) q r k
        | _ => none) = some res := by
        rcases hci with rfl | rfl <;> exact h
      split at h
      · next b r hst =>
        obtain ⟨g4, v, σ', g5, g6⟩ := xret_some hhs h
        refine xc_init K hP hd hdep a1 ?_ a3 a4 a5 a6 hst g4 (hcal _ _ _ _ _ _ a1 g5) (hm _ _ _ _ g6) (hk _ _ _ _ g6)
        rcases hci with rfl | rfl
        · exact Or.inl (a2 rfl)
        · exact Or.inr (hPn.2 s K.2.2.2.2.2.2.2.2.2.2.2.2.2 _ _ _ _ _ hx)
      · cases h
    · obtain ⟨a1, a2, a3⟩ := h92 rfl
      have h : (match (generalizing := false) st with
        | .inr (.inr x) :: r => if x = none then none else bif Nat.ble (xwd r) 8 then k (pc + 3) ls r σ else none
        | _ => none) = some res := h
      split at h
      · next z r _ =>
        cases z with
        | none => rw [if_pos rfl] at h; cases h
        | some b =>
          rw [if_neg (by intro q; cases q)] at h
          cases hb : Nat.ble (xwd r) 8 with
          | false => rw [hb] at h; cases h
          | true =>
            rw [hb] at h
            have hw := Nat.le_of_ble_eq_true hb
            intro H locs la hR hL hlc hs hu
            obtain ⟨hx', hb', hml, hown, hts, -, -, -, hfr, hlo, -⟩ := K
            exact W.objInit hx' hb' hown (hts _ a1) (hts _ a2) (hts _ a3) rfl (hL.1.trans hml.symm) rfl hd (by omega) (by show 2 * 0 + _ + 12 ≤ _; rw [xwd_sum]; omega) (hk _ _ _ _ h H locs la hR hL hlc hs hu)
      · cases h
end XSM
