/-! whole_start, open: out of LawRuns -/
set_option maxHeartbeats 4000000 in
set_option maxRecDepth 100000 in
theorem whole_start_open (hLaw : LawRuns) {p : Program} {e : Env} {s : State} {m : MethodId} {below : List Frame} {meth : Method} {c : Code} (l : Launch) (hl : l.stackTraces = false) {b L : Nat} {xs : Nat → Int32} (hL : L ≤ 2560) (C0 : lw_At p s m meth c b L xs) : W p l e room_1 s m #[Value.ref b] below meth c s.heap [] 0 0 (lw_Z below #[Value.ref b] s) (entryFrame m ([Value.ref b] : List Value).toArray 7) := by
  obtain ⟨hx, hb, hr, hml, hown, hts, hX, hbl, hlk, hgv⟩ := C0
  have hs := flat_of_before _ hgv
  obtain ⟨⟨aL, zL, tL⟩, ⟨aM, zM, tM⟩⟩ := xstat_start hts hs
  have hTs : ∀ w ∈ xTs, w.before #[Value.ref b] s = true := fun w hw => hts w (List.mem_filter.mp hw).1
  obtain ⟨D, hK⟩ := xknown hTs
  have hA : ∀ a : Nat, a < s.heap.size → ¬ (fun q => s.heap.size ≤ q) a := fun a h q => Nat.not_le.mpr h q
  have zU : vx_Zq Bundle.tN "UNASSIGNED_STACK" Bundle.steD (fun q => s.heap.size ≤ q) s s.heap := vx_Zqof (hts _ (List.mem_of_getElem? (i := 747) rfl)) (hts _ (List.mem_of_getElem? (i := 67) rfl)) (hs _ (by decide +kernel)) hA
  have zN : vx_Zq Bundle.tN "SUPPRESSED_SENTINEL" Bundle.listD (fun q => s.heap.size ≤ q) s s.heap := vx_Zqof (hts _ (List.mem_of_getElem? (i := 749) rfl)) (hts _ (List.mem_of_getElem? (i := 67) rfl)) (hs _ (by decide +kernel)) hA
  have atL : XAt s D s.heap aL (200, xleast) := xT_at (l4 := [0, 0, 1, 0]) rfl tL
  have atM : XAt s D s.heap aM (200, xmost) := xT_at (l4 := [1000000, 150, 1000, 20]) rfl tM
  have atS : XAt s D s.heap b (200, xscr L xs) := by
    obtain ⟨scr, x1, x2, x3, x4, x5⟩ := hX
    refine Or.inr (Or.inr ⟨rfl, scr, x1, x2, x3, ⟨?_, ?_⟩, fun j hj => ?_⟩)
    · show (xscr L xs).length ≤ _
      rw [xscr_len, x4]; exact Nat.le_refl _
    · show _ = nI (xscr L xs).length
      rw [xscr_len, x4]; rfl
    · have hj : j < (xscr L xs).length := hj
      rw [xscr_len] at hj
      rw [x5 j hj]
      show _ = some (vp_V ((xscr L xs).map xv) j)
      rw [xvV (xscr_get hj)]
      rfl
  have same4 : ∀ (t : Nat) (l4 : List Int32), l4.length = 4 → va_T .int t 4 (fun j => .int (l4.getD j 0)) (fun q => s.heap.size ≤ q) s s.heap → b = t → xscr L xs = l4.map fun x => .inl x := by
    intro t l4 h4 ht hbt
    subst hbt
    obtain ⟨scr, x1, x2, x3, x4, x5⟩ := hX
    obtain ⟨cell, y1, y2, y3, y4, y5, y6, -⟩ := ht
    cases Option.some.inj (x1.symm.trans y1)
    have hL4 : L = 4 := by
      rw [x4] at y5
      have := (nI_eq (a := L) (b := 4) (by omega) (by decide)).mp y5
      exact this
    subst hL4
    apply List.ext_getElem?
    intro j
    by_cases hj : j < 4
    · rw [xscr_get hj, List.getElem?_map, List.getElem?_eq_getElem (by omega)]
      have h1 := x5 j hj
      have h2 := y6 j hj
      rw [h1] at h2
      have h3 : xs j = l4.getD j 0 := by simpa using h2
      rw [h3, List.getD_eq_getElem?_getD, List.getElem?_eq_getElem (by omega)]
      rfl
    · rw [List.getElem?_eq_none (by rw [xscr_len]; omega), List.getElem?_eq_none (by rw [List.length_map]; omega)]
  have hLM : aL ≠ aM := by
    intro h
    subst h
    obtain ⟨cell, y1, -, -, -, -, y6, -⟩ := tL
    obtain ⟨cell', z1, -, -, -, -, z6, -⟩ := tM
    cases Option.some.inj (y1.symm.trans z1)
    have h1 := y6 0 (by decide)
    have h2 := z6 0 (by decide)
    rw [h1] at h2
    revert h2
    decide
  obtain ⟨σ0, hσ0⟩ : ∃ σ0 : XH, σ0 = (fun q => if q = b then some (200, xscr L xs) else if q = aL then some (200, xleast) else if q = aM then some (200, xmost) else none, s.heap.size, 0, aL, aM) := ⟨_, rfl⟩
  have hlt : ∀ (a : Nat) (q : XO), XAt s D s.heap a q → a < s.heap.size := fun a q h => h.lt
  have hstart : XStart b L xs σ0 := by
    subst hσ0
    refine ⟨aL, aM, if_pos rfl, ?_, ?_, fun q h1 h2 h3 => ?_, hlt _ _ atS, hlt _ _ atL, hlt _ _ atM, rfl, rfl⟩
    · show (if aL = b then some (200, xscr L xs) else if aL = aL then some (200, xleast) else _) = _
      by_cases h : aL = b
      · rw [if_pos h, same4 aL [0, 0, 1, 0] rfl tL h.symm]; rfl
      · rw [if_neg h, if_pos rfl]
    · show (if aM = b then some (200, xscr L xs) else if aM = aL then some (200, xleast) else if aM = aM then some (200, xmost) else none) = _
      by_cases h : aM = b
      · rw [if_pos h, same4 aM [1000000, 150, 1000, 20] rfl tM h.symm]; rfl
      · rw [if_neg h, if_neg (Ne.symm hLM), if_pos rfl]
    · show (if q = b then _ else if q = aL then _ else if q = aM then _ else none) = none
      rw [if_neg h1, if_neg h2, if_neg h3]
  have hRep : XRep s D σ0 s.heap := by
    subst hσ0
    refine ⟨⟨zL, zM⟩, rfl, Nat.le_refl _, fun _ _ => rfl, fun a q hq => ?_⟩
    have hq : (if a = b then some (200, xscr L xs) else if a = aL then some (200, xleast) else if a = aM then some (200, xmost) else none) = some q := hq
    split at hq
    · next h => cases hq; subst h; exact ⟨atS, Or.inl rfl⟩
    · split at hq
      · next h => cases hq; subst h; exact ⟨atL, Or.inl rfl⟩
      · split at hq
        · next h => cases hq; subst h; exact ⟨atM, Or.inl rfl⟩
        · cases hq
  obtain ⟨F, σ', hrun, h1, h2⟩ := hLaw b L xs σ0 hL hstart
  have hsz : σ0.2.1 = s.heap.size := by rw [hσ0]
  have hu0 : σ0.2.2.1 = 0 := by rw [hσ0]
  have hrun : xrun F 194 0 (xpad 7 (xent [.inr (.inr (some b))])) [] σ0 = some (.inl (some (.inl 1)), σ') := hrun
  have K : XK XPP s D 194 p room_1 s m #[Value.ref b] meth c := ⟨hx, hb, hml, hown, hTs, hr, hlk, fun h => absurd h (by decide), by decide, by decide, Vm.Alike.refl _, hK, ⟨Nat.le_refl _, fun _ _ => rfl⟩, xpp_start hts hs⟩
  have hG := xlaw xst xs8 xs9 xs10 xs11 xpp_w xpp_n (xts hl zU zN) (xca xpp_c) F 0 _ [] σ0 _ σ' hrun p e room_1 s m _ below meth c 0 K ⟨by show σ'.2.1 ≤ 601024 + s.heap.size; omega, by show σ'.2.2.1 ≤ 7293034 + 0; omega⟩
  have hW := hG s.heap [] _ hRep (xhl_entry [.inr (.inr (some b))] (n := 7) (show 1 ≤ 7 by decide)) (fun q hq => by cases hq) (by omega) (Nat.zero_le _)
  rw [hsz, hu0, Nat.sub_self, Nat.sub_zero] at hW
  rw [lg_entry_eq]
  intro T hT X
  obtain ⟨t, st, o, q1, q2, ⟨q3, -⟩, Ls, ⟨⟨v, q4⟩, q5, q6⟩, q7⟩ := hW T hT X
  refine ⟨t, st, o, q1, q2, q3, ⟨v, q4⟩, q5, q6.weaken (fun y hy hlt' => ?_) (by omega) (by omega)⟩
  exact absurd (q7 y hy) (Nat.not_le.mpr hlt')
