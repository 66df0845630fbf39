/-! the start: from the heap at the law's entry to the law's loop -/
section INI
variable {C I : ST} {N b aL aM L : Nat} {s3 s4 : Int} {sc : Int → Int} {xs : Nat → Int32} {σ : XH}
theorem iE_va {k : Nat} {i : Int} (h : Va (iE N b aL aM L (if b = aL then 0 else 1) (if b = aM then 0 else 1)) k i) : i = 0 ∧ (k = 62 ∨ (k = 63 ∧ b ≠ aL) ∨ (k = 64 ∧ b ≠ aM)) := by
  obtain ⟨h1, h2, h3⟩ := h
  have h3 : i < iN (if b = aL then 0 else 1) (if b = aM then 0 else 1) k := h3
  unfold iN at h3
  by_cases k62 : k = 62
  · rw [if_pos k62] at h3
    exact ⟨by omega, Or.inl k62⟩
  rw [if_neg k62] at h3
  by_cases k63 : k = 63
  · rw [if_pos k63] at h3
    by_cases q : b = aL
    · rw [if_pos q] at h3; omega
    · rw [if_neg q] at h3
      exact ⟨by omega, Or.inr (Or.inl ⟨k63, q⟩)⟩
  rw [if_neg k63] at h3
  by_cases k64 : k = 64
  · rw [if_pos k64] at h3
    by_cases q : b = aM
    · rw [if_pos q] at h3; omega
    · rw [if_neg q] at h3
      exact ⟨by omega, Or.inr (Or.inr ⟨k64, q⟩)⟩
  rw [if_neg k64] at h3
  omega
theorem iE_wx (hne : aL ≠ aM) (b1 : b < N) (l1 : aL < N) (m1 : aM < N) : WX (iE N b aL aM L (if b = aL then 0 else 1) (if b = aM then 0 else 1)) (N, 0, aL, aM) := by
  refine ⟨fun k i k' i' h h' q => ?_, fun k i h => ?_⟩
  · obtain ⟨rfl, a⟩ := iE_va h
    obtain ⟨rfl, a'⟩ := iE_va h'
    refine ⟨?_, rfl⟩
    rcases a with rfl | ⟨rfl, a⟩ | ⟨rfl, a⟩ <;> rcases a' with rfl | ⟨rfl, a'⟩ | ⟨rfl, a'⟩
    · rfl
    · exact absurd (show b = aL from q) a'
    · exact absurd (show b = aM from q) a'
    · exact absurd (show aL = b from q).symm a
    · rfl
    · exact absurd (show aL = aM from q) hne
    · exact absurd (show aM = b from q).symm a
    · exact absurd (show aM = aL from q).symm hne
    · rfl
  · obtain ⟨rfl, a⟩ := iE_va h
    rcases a with rfl | ⟨rfl, a⟩ | ⟨rfl, a⟩
    · exact b1
    · exact l1
    · exact m1
theorem iE_hx (hb : σ.1 b = some (200, (List.range L).map fun j => .inl (xs j))) (hL : σ.1 aL = some (200, [.inl 0, .inl 0, .inl 1, .inl 0])) (hM : σ.1 aM = some (200, [.inl 1000000, .inl 150, .inl 1000, .inl 20])) (hn : ∀ q, q ≠ b → q ≠ aL → q ≠ aM → σ.1 q = none) (b1 : b < σ.2.1) (l1 : aL < σ.2.1) (m1 : aM < σ.2.1) (hs : σ.2.2.1 = 0) (ht : σ.2.2.2 = (aL, aM)) : aL ≠ aM ∧ σ = HX (iE σ.2.1 b aL aM L (if b = aL then 0 else 1) (if b = aM then 0 else 1)) (iX fun j => (xs j.toNat).toInt) (σ.2.1, 0, aL, aM) := by
  have hne : aL ≠ aM := fun q => by
    rw [q, hM] at hL
    have := congrArg (fun o : Option XO => o.map (fun x => x.2)) hL
    simp at this
  refine ⟨hne, ?_⟩
  have hW := iE_wx (L := L) hne b1 l1 m1
  refine Prod.ext ?_ ?_
  · funext q
    show σ.1 q = hx _ _ q
    by_cases qb : q = b
    · subst qb
      have := hx_at (X := iX fun j => (xs j.toNat).toInt) hW (k := 62) (i := 0) ⟨by decide, by decide, (by decide : (0 : Int) < 1)⟩
      refine hb.trans (Eq.trans ?_ this.symm)
      refine congrArg (fun l => some (200, l)) ?_
      refine List.map_congr_left (fun j _ => ?_)
      show Sum.inl (xs j) = Sum.inl (xk (xs (j : Int).toNat).toInt)
      rw [show (j : Int).toNat = j by omega]
      exact congrArg Sum.inl (Int32.ofInt_toInt (xs j)).symm
    by_cases qL : q = aL
    · subst qL
      have nb : ¬ b = q := fun y => qb y.symm
      have := hx_at (X := iX fun j => (xs j.toNat).toInt) hW (k := 63) (i := 0) ⟨by decide, by decide, by
        show (0 : Int) < if b = q then 0 else 1
        rw [if_neg nb]; decide⟩
      refine hL.trans (Eq.trans ?_ this.symm)
      refine congrArg (fun l => some (200, l)) ?_
      show ([.inl 0, .inl 0, .inl 1, .inl 0] : List XE) = [.inl (xk 0), .inl (xk 0), .inl (xk 1), .inl (xk 0)]
      decide +kernel
    by_cases qM : q = aM
    · subst qM
      have nb : ¬ b = q := fun y => qb y.symm
      have := hx_at (X := iX fun j => (xs j.toNat).toInt) hW (k := 64) (i := 0) ⟨by decide, by decide, by
        show (0 : Int) < if b = q then 0 else 1
        rw [if_neg nb]; decide⟩
      refine hM.trans (Eq.trans ?_ this.symm)
      refine congrArg (fun l => some (200, l)) ?_
      show ([.inl 1000000, .inl 150, .inl 1000, .inl 20] : List XE) = [.inl (xk 1000000), .inl (xk 150), .inl (xk 1000), .inl (xk 20)]
      decide +kernel
    · rw [hn q qb qL qM, hx_no]
      intro k i h y
      obtain ⟨rfl, a⟩ := iE_va h
      rcases a with rfl | ⟨rfl, a⟩ | ⟨rfl, a⟩
      · exact qb y.symm
      · exact qL y.symm
      · exact qM y.symm
  · show σ.2 = (σ.2.1, 0, aL, aM)
    refine Prod.ext rfl (Prod.ext hs ht)
theorem e5_n {k : Nat} (h : k ≠ 7) (h1 : k ≠ 15) (h2 : k ≠ 1) (h3 : k ≠ 10) (h4 : k ≠ 8) {a : Nat} {e : EN} : (iE5 e a).2.1 k = e.2.1 k := by
  unfold iE5 spE
  rw [exE_n, if_neg h4, exE_n, if_neg h3, exE_n, if_neg h2, exE_n, if_neg h1, exE_n, if_neg h]
theorem e5_a {k : Nat} {i : Int} (h : k ≠ 7) (h1 : k ≠ 15) (h2 : k ≠ 1) (h3 : k ≠ 10) (h4 : k ≠ 8) {a : Nat} {e : EN} : (iE5 e a).1 k i = e.1 k i := by
  unfold iE5 spE
  rw [exE_a, if_neg (fun q => h4 q.1), exE_a, if_neg (fun q => h3 q.1), exE_a, if_neg (fun q => h2 q.1), exE_a, if_neg (fun q => h1 q.1), exE_a, if_neg (fun q => h q.1)]
theorem rk_c {k : Nat} (h : rl k) : (k ≤ 32 ∧ rk k = k - 21) ∨ (34 ≤ k ∧ k ≤ 36 ∧ rk k = k - 22) ∨ (38 ≤ k ∧ k ≤ 45 ∧ rk k = k - 23) ∨ (49 ≤ k ∧ k ≤ 55 ∧ rk k = k - 26) ∨ (59 ≤ k ∧ k ≤ 60 ∧ rk k = k - 29) := by
  unfold rl at h
  unfold rk
  by_cases a : k ≤ 32
  · rw [if_pos a]; omega
  rw [if_neg a]
  by_cases b : k ≤ 36
  · rw [if_pos b]; omega
  rw [if_neg b]
  by_cases c : k ≤ 45
  · rw [if_pos c]; omega
  rw [if_neg c]
  by_cases d : k ≤ 55
  · rw [if_pos d]; omega
  rw [if_neg d]; omega
theorem rE_va {e : EN} {k : Nat} {i : Int} (cn : ∀ k, rl k → e.2.1 k = 0) (c12 : e.2.1 12 = 0) (h : Va (rE e 61) k i) : (Va e k i ∧ k ≠ 12 ∧ ¬ rl k) ∨ (k = 12 ∧ i = 0) ∨ (rl k ∧ i = 0) := by
  obtain ⟨h1, h2, h3⟩ := h
  by_cases k12 : k = 12
  · subst k12
    rw [rE_12] at h3
    exact Or.inr (Or.inl ⟨rfl, by omega⟩)
  by_cases q : rl k
  · rw [rE_y q (by unfold rl at q; omega)] at h3
    exact Or.inr (Or.inr ⟨q, by omega⟩)
  · rw [rE_n k12 (fun y => q y.1)] at h3
    exact Or.inl ⟨⟨h1, h2, h3⟩, k12, q⟩
theorem rE_wx {e : EN} {M s s' : Nat} {t : Nat × Nat} (hA : WX e (M, s, t)) (cn : ∀ k, rl k → e.2.1 k = 0) (c12 : e.2.1 12 = 0) (a12 : e.1 12 0 = M) (ca : ∀ k, rl k → e.1 k 0 = M + rk k) : WX (rE e 61) (M + 32, s', t) := by
  refine ⟨fun k i k' i' h h' q => ?_, fun k i h => ?_⟩
  · have q : e.1 k i = e.1 k' i' := q
    rcases rE_va cn c12 h with ⟨a, _⟩ | ⟨rfl, rfl⟩ | ⟨a, rfl⟩ <;> rcases rE_va cn c12 h' with ⟨a', _⟩ | ⟨rfl, rfl⟩ | ⟨a', rfl⟩
    · exact hA.1 _ _ _ _ a a' q
    · have := hA.2 _ _ a
      rw [q, a12] at this
      exact absurd this (Nat.lt_irrefl _)
    · have := hA.2 _ _ a
      rw [q, ca _ a'] at this
      exact absurd this (by show ¬ M + rk k' < M; omega)
    · have := hA.2 _ _ a'
      rw [← q, a12] at this
      exact absurd this (Nat.lt_irrefl _)
    · exact ⟨rfl, rfl⟩
    · rw [a12, ca _ a'] at q
      have := rk_c a'
      unfold rl at a'
      omega
    · have := hA.2 _ _ a'
      rw [← q, ca _ a] at this
      exact absurd this (by show ¬ M + rk k < M; omega)
    · rw [a12, ca _ a] at q
      have := rk_c a
      unfold rl at a
      omega
    · rw [ca _ a, ca _ a'] at q
      have r1 := rk_c a
      have r2 := rk_c a'
      unfold rl at a a'
      exact ⟨by omega, rfl⟩
  · show e.1 k i < M + 32
    rcases rE_va cn c12 h with ⟨a, _⟩ | ⟨rfl, rfl⟩ | ⟨a, rfl⟩
    · have := hA.2 _ _ a
      have : e.1 k i < M := this
      omega
    · rw [a12]; omega
    · rw [ca _ a]
      have := rk_c a
      unfold rl at a
      omega
theorem law_go {e5 : EN} (hE : e5 = iE5 (iF N b aL aM L s3 s4) (N + 172)) (hA5 : WA e5 (N + 177, 2299, aL, aM)) (hM : CM e5 (iC5 (fun _ => -1) (fun _ => 1) (iS sc)) iJ) : OK 0 (rE e5 61) (iC5 (fun _ => -1) (fun _ => 1) (iS sc)) (iS sc) (N + 210, 7651, aL, aM) ∧ XQo (N + 209) (HS (rE e5 61) (iC5 (fun _ => -1) (fun _ => 1) (iS sc)) (iS sc) (N + 210, 7651, aL, aM)) ∧ ((rE e5 61).2.1 62 = 1 ∧ (rE e5 61).2.1 63 = s3 ∧ (rE e5 61).2.1 64 = s4 ∧ (rE e5 61).2.2 = L ∧ (rE e5 61).1 62 0 = b ∧ (rE e5 61).1 11 0 = N ∧ (rE e5 61).1 12 0 = N + 177) ∧ ∀ r, Ev (fun F => JL_law_23 F (some b) (some N) (some (N + 177)) (some (N + 209)) (xk 0) (xset (HS (rE e5 61) (iC5 (fun _ => -1) (fun _ => 1) (iS sc)) (iS sc) (N + 210, 7651, aL, aM)) (N + 209) (101, [.inr (.inl 0)]))) r → Ev (fun F => xnw (HS e5 (iC5 (fun _ => -1) (fun _ => 1) (iS sc)) (iI sc) (N + 177, 2299, aL, aM)) (12, xdf 12) fun a4 s5 => xcv (J12_init F (some a4) s5) fun s6 => xnwa s6 101 (.inr (.inl 0)) (xk 1) fun a7 s8 => JL_law_23 F (some b) (some N) (some a4) (some a7) (xk 0) s8) r := by
  have cn : ∀ k, rl k → e5.2.1 k = 0 := fun k hk => by
    unfold rl at hk
    rw [hE, e5_n (by omega) (by omega) (by omega) (by omega) (by omega)]
    show iM s3 s4 k = 0
    unfold iM
    rw [if_neg (by omega), if_neg (by omega), if_neg (by omega), if_neg (by omega), if_neg (by omega)]
  have ca : ∀ k, rl k → e5.1 k 0 = N + 177 + rk k := fun k hk => by
    unfold rl at hk
    rw [hE, e5_a (by omega) (by omega) (by omega) (by omega) (by omega)]
    show iA N b aL aM k 0 = _
    unfold iA
    repeat (rw [if_neg (by omega)])
  have c12 : e5.2.1 12 = 0 := by rw [hE]; rfl
  have a12 : e5.1 12 0 = N + 177 := by rw [hE]; rfl
  have n8 : e5.2.1 8 = 1 := by rw [hE]; rfl
  have n7 : e5.2.1 7 = 1 := by rw [hE]; rfl
  have n1 : e5.2.1 1 = 1 := by rw [hE]; rfl
  have c62 : e5.2.1 62 = 1 := by rw [hE]; rfl
  have c63 : e5.2.1 63 = s3 := by rw [hE]; rfl
  have c64 : e5.2.1 64 = s4 := by rw [hE]; rfl
  have cL : e5.2.2 = L := by rw [hE]; rfl
  have a62 : e5.1 62 0 = b := by rw [hE]; rfl
  have a11 : e5.1 11 0 = N := by rw [hE]; rfl
  clear hE
  generalize hCC : iC5 (fun _ => -1) (fun _ => 1) (iS sc) = C at *
  have rn : ∀ k, k ≠ 12 → ¬ rl k → (rE e5 61).2.1 k = e5.2.1 k := fun k a q => rE_n a (fun y => q y.1)
  have nl : ∀ k, k < 22 ∨ 61 ≤ k → ¬ rl k := fun k h q => by unfold rl at q; omega
  -- what the arrays leave
  have w12 : WX (rE e5 22) (N + 177 + 1, 2299 + 41, aL, aM) := by
    rw [← r12 c12]
    exact WX.bump hA5.wx (by decide) (by omega) (by rw [c12]; exact a12)
  have w61 : ∀ s, WX (rE e5 61) (N + 209, s, aL, aM) := fun s => rE_wx hA5.wx cn c12 a12 ca
  have hA : ∀ n s, N + 209 ≤ n → WA (rE e5 61) (n, s, aL, aM) := fun n s hn => by
    refine ⟨(w61 0).1, fun k i h => Nat.lt_of_lt_of_le ((w61 0).2 k i h) hn, fun k h => ?_, ?_, hA5.2.2.2.2⟩
    · have hk : k = 0 ∨ k = 2 ∨ k = 3 ∨ k = 5 ∨ k = 6 ∨ k = 9 ∨ k = 11 ∨ k = 13 ∨ k = 14 ∨ k = 16 ∨ k = 18 ∨ k = 19 := by
        simpa [sg, or_assoc] using h
      rw [rn k (by omega) (nl k (by omega))]
      exact hA5.2.2.1 k h
    · rw [rn 4 (by decide) (nl _ (by omega)), rn 17 (by decide) (nl _ (by omega)), rn 15 (by decide) (nl _ (by omega)), rn 7 (by decide) (nl _ (by omega))]
      exact hA5.2.2.2.1
  have hR : WR (rE e5 61) := fun k hk => by
    rcases hk with rfl | hk
    · exact rE_12
    · exact rE_y hk hk.2.1
  have hCpl : Cpl (rE e5 61) C (iS sc) := by
    rw [← hCC] at hM ⊢
    exact iS_cpl (hM.ec (rn 10 (by decide) (nl _ (by omega)))) (by rw [rn 8 (by decide) (nl _ (by omega))]; exact n8) (by rw [rn 7 (by decide) (nl _ (by omega))]; exact n7) (by rw [rn 1 (by decide) (nl _ (by omega))]; exact n1)
  refine ⟨⟨hA _ _ (by omega), hR, hCpl, iS_inv⟩, ⟨?_, by show N + 209 < N + 210; omega⟩, ⟨by rw [rn 62 (by decide) (nl _ (by omega))]; exact c62, by rw [rn 63 (by decide) (nl _ (by omega))]; exact c63, by rw [rn 64 (by decide) (nl _ (by omega))]; exact c64, cL, a62, a11, a12⟩, fun r hr => ?_⟩
  · show hp (rE e5 61) (mx C (iS sc)) (N + 209) = none
    refine hp_no (fun k i h q => ?_)
    have := (w61 0).2 k i h
    rw [q] at this
    exact absurd this (Nat.lt_irrefl _)
  · rw [HS_HX]
    refine Ev.nw (κ := 12) (L := xdf 12) hA5.wx (by decide) c12 (by decide) a12 rfl rfl (fun _ _ => ?_)
    have hE12 : HX (bump e5 12) (nwX (rwX e5 (mx C (iI sc))) 12 0 (xdf 12)) (N + 177 + 1, 2299 + (xdf 12).length, aL, aM) = HX (rE e5 22) (rX e5 (rwX e5 (mx C (iI sc))) 22) (N + 177 + 1, 2299 + 41, aL, aM) := by
      rw [r12 c12]
      refine HX_c w12 (fun k i hv j hj => ?_)
      by_cases k12 : k = 12
      · subst k12
        have hv2 := hv.2
        rw [rE_12] at hv2
        have i0 : i = 0 := by omega
        subst i0
        exact rx12 hj
      · have q : ¬ rl k := fun q => by
          have hv2 := hv.2
          rw [rE_n k12 (fun y => by have := y.1; unfold rl at this; omega), cn k q] at hv2
          omega
        unfold rX nwX
        rw [if_neg (fun y => k12 y.1), if_neg k12, if_neg q]
    have hj : Ev (fun F => J12_init F (some (e5.1 12 0)) (HX (rE e5 22) (rX e5 (rwX e5 (mx C (iI sc))) 22) (N + 177 + 1, 2299 + 41, aL, aM))) (rV (HS (rE e5 61) C (iS sc) (N + 209, 7650, aL, aM))) := by
      refine j12i w12 cn (fun k hk => by rw [ca k hk]; show N + 177 + rk k + 1 = N + 177 + 1 + rk k; omega) _ (fun _ => ?_)
      have h61 := r61 (C := C) (I := iI sc) (w61 7650) (fun k j hk => by
        rcases hk with rfl | hk
        · rfl
        · have : cf k = false := by
            unfold rl at hk
            unfold cf
            have a : Nat.blt k 12 = false := by rw [← Bool.not_eq_true, Nat.blt_eq]; omega
            have b : Nat.blt k 20 = false := by rw [← Bool.not_eq_true, Nat.blt_eq]; omega
            rw [a, b]; simp
          unfold mx
          rw [this]
          show iI sc k 0 j = 0
          unfold iI
          rw [if_neg (by unfold rl at hk; omega)])
      have z61 : ((N + 177 + 1, 2299 + 41, aL, aM) : Nat × Nat × Nat × Nat).1 + 31 = N + 209 := by show N + 177 + 1 + 31 = N + 209; omega
      refine Ev.hx (σ' := HS (rE e5 61) C (iI sc) (N + 209, 7650, aL, aM)) ?_ ?_
      · exact h61
      · have r12' : some (e5.1 12 0) = rf (rE e5 61) 12 0 := by rw [rf_v (by decide)]; rfl
        rw [r12']
        exact iR_ev (hA _ _ (by omega)) hR
    refine Ev.kV (c := fun F => J12_init F (some (e5.1 12 0)) (HX (bump e5 12) (nwX (rwX e5 (mx C (iI sc))) 12 0 (xdf 12)) (N + 177 + 1, 2299 + (xdf 12).length, aL, aM))) (by rw [hE12]; exact hj) ?_
    rw [a12]
    unfold xnwa
    refine Ev.ite (fun q => absurd q (by decide +kernel)) (fun _ => ?_)
    refine Ev.ite (fun q => absurd q (by decide +kernel)) (fun _ => ?_)
    exact hr
end INI
