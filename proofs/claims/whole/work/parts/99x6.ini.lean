/-! the start: joined -/
section INI
variable {e e' : EN} {C I : ST} {X : RS} {z : Nat × Nat × Nat × Nat} {N b aL aM L : Nat} {s3 s4 : Int} {sc : Int → Int}
theorem cvc {k j : Nat} {i v : Int} (h1 : e'.1 = e.1) (hn : ∀ t, t = 1 ∨ t = 4 ∨ t = 7 ∨ t = 8 ∨ t = 10 → e'.2.1 t = e.2.1 t) (hk : k < 65) : cv e' (ky k j) i j v = cv e (ky k j) i j v := by
  have a2 : ∀ k : Fin 65, 13 ≤ k.val → (Nat.blt (ky k 0) 600 || Nat.ble 900 (ky k 0) || Nat.beq (ky k 0) 601 || Nat.beq (ky k 0) 604 || Nat.beq (ky k 0) 607 || Nat.beq (ky k 0) 608 || Nat.beq (ky k 0) 610 || Nat.beq (ky k 0) 801 || Nat.beq (ky k 0) 807 || Nat.beq (ky k 0) 808 || Nat.beq (ky k 0) 810) = true := by decide +kernel
  have p := kyA (P := fun k j c => (Nat.blt c 600 || Nat.ble 900 c || Nat.beq c 601 || Nat.beq c 604 || Nat.beq c 607 || Nat.beq c 608 || Nat.beq c 610 || Nat.beq c 801 || Nat.beq c 807 || Nat.beq c 808 || Nat.beq c 810)) (by decide +kernel) (fun k hk j => a2 k hk) (fun k j => rfl) k j hk
  simp only [Bool.or_eq_true, Nat.blt_eq, Nat.ble_eq, Nat.beq_eq] at p
  have hr : ∀ t v, rf e' t v = rf e t v := fun t v => by unfold rf; rw [h1]
  generalize ky k j = c at *
  unfold cv
  simp only [hr]
  by_cases q : 600 ≤ c ∧ c < 900
  · have n1 := hn (c - 600)
    have n2 := hn (c - 800)
    by_cases q2 : c < 800
    · rw [n1 (by omega)]
      simp only [if_pos q2]
    · rw [n2 (by omega)]
      have : ¬ c < 800 := q2
      simp only [if_neg this]
  · by_cases q3 : c < 600
    · simp only [if_pos q3]
    · have a1 : ¬ c < 800 := by omega
      have a2 : ¬ c < 900 := by omega
      simp only [if_neg a1, if_neg a2]
theorem r12 (h0 : e.2.1 12 = 0) : bump e 12 = rE e 22 := by
  refine Prod.ext rfl (Prod.ext ?_ rfl)
  funext k
  show (if k = 12 then e.2.1 12 + 1 else e.2.1 k) = (rE e 22).2.1 k
  by_cases k12 : k = 12
  · subst k12
    rw [if_pos rfl, rE_12, h0]; rfl
  · rw [if_neg k12, rE_n k12 (fun q => by have := q.1; unfold rl at this; omega)]
theorem rx12 {j : Nat} (hj : j < 41) : nwX X 12 0 (xdf 12) 12 0 j = rX e X 22 12 0 j := by
  have hc : j = 0 ∨ j = 1 ∨ j = 2 ∨ j = 3 ∨ j = 4 ∨ j = 5 ∨ j = 6 ∨ j = 7 ∨ j = 8 ∨ j = 9 ∨ j = 10 ∨ j = 11 ∨ j = 12 ∨ j = 13 ∨ j = 14 ∨ j = 15 ∨ j = 16 ∨ j = 17 ∨ j = 18 ∨ j = 19 ∨ j = 20 ∨ j = 21 ∨ j = 22 ∨ j = 23 ∨ j = 24 ∨ j = 25 ∨ j = 26 ∨ j = 27 ∨ j = 28 ∨ j = 29 ∨ j = 30 ∨ j = 31 ∨ j = 32 ∨ j = 33 ∨ j = 34 ∨ j = 35 ∨ j = 36 ∨ j = 37 ∨ j = 38 ∨ j = 39 ∨ j = 40 := by omega
  rcases hc with rfl | rfl | rfl | rfl | rfl | rfl | rfl | rfl | rfl | rfl | rfl | rfl | rfl | rfl | rfl | rfl | rfl | rfl | rfl | rfl | rfl | rfl | rfl | rfl | rfl | rfl | rfl | rfl | rfl | rfl | rfl | rfl | rfl | rfl | rfl | rfl | rfl | rfl | rfl | rfl | rfl
  · have q : ¬ rl 20 := by unfold rl; omega
    have r : rX e X 22 12 0 ((0 : Nat) : Int) = @ite XE (rl 20) (Classical.propDecidable _) (if 20 < 22 then .inr (.inr (some (e.1 20 0))) else .inr (.inr none)) (.inl 0) := rfl
    rw [r, if_neg q]
    rfl
  · have q : ¬ rl 21 := by unfold rl; omega
    have r : rX e X 22 12 0 ((1 : Nat) : Int) = @ite XE (rl 21) (Classical.propDecidable _) (if 21 < 22 then .inr (.inr (some (e.1 21 0))) else .inr (.inr none)) (.inl 0) := rfl
    rw [r, if_neg q]
    rfl
  · have q : rl 22 := rl_d _ rfl
    have r : rX e X 22 12 0 ((2 : Nat) : Int) = @ite XE (rl 22) (Classical.propDecidable _) (if 22 < 22 then .inr (.inr (some (e.1 22 0))) else .inr (.inr none)) (.inl 0) := rfl
    rw [r, if_pos q]
    rfl
  · have q : rl 23 := rl_d _ rfl
    have r : rX e X 22 12 0 ((3 : Nat) : Int) = @ite XE (rl 23) (Classical.propDecidable _) (if 23 < 22 then .inr (.inr (some (e.1 23 0))) else .inr (.inr none)) (.inl 0) := rfl
    rw [r, if_pos q]
    rfl
  · have q : rl 24 := rl_d _ rfl
    have r : rX e X 22 12 0 ((4 : Nat) : Int) = @ite XE (rl 24) (Classical.propDecidable _) (if 24 < 22 then .inr (.inr (some (e.1 24 0))) else .inr (.inr none)) (.inl 0) := rfl
    rw [r, if_pos q]
    rfl
  · have q : rl 25 := rl_d _ rfl
    have r : rX e X 22 12 0 ((5 : Nat) : Int) = @ite XE (rl 25) (Classical.propDecidable _) (if 25 < 22 then .inr (.inr (some (e.1 25 0))) else .inr (.inr none)) (.inl 0) := rfl
    rw [r, if_pos q]
    rfl
  · have q : rl 26 := rl_d _ rfl
    have r : rX e X 22 12 0 ((6 : Nat) : Int) = @ite XE (rl 26) (Classical.propDecidable _) (if 26 < 22 then .inr (.inr (some (e.1 26 0))) else .inr (.inr none)) (.inl 0) := rfl
    rw [r, if_pos q]
    rfl
  · have q : rl 27 := rl_d _ rfl
    have r : rX e X 22 12 0 ((7 : Nat) : Int) = @ite XE (rl 27) (Classical.propDecidable _) (if 27 < 22 then .inr (.inr (some (e.1 27 0))) else .inr (.inr none)) (.inl 0) := rfl
    rw [r, if_pos q]
    rfl
  · have q : rl 28 := rl_d _ rfl
    have r : rX e X 22 12 0 ((8 : Nat) : Int) = @ite XE (rl 28) (Classical.propDecidable _) (if 28 < 22 then .inr (.inr (some (e.1 28 0))) else .inr (.inr none)) (.inl 0) := rfl
    rw [r, if_pos q]
    rfl
  · have q : rl 29 := rl_d _ rfl
    have r : rX e X 22 12 0 ((9 : Nat) : Int) = @ite XE (rl 29) (Classical.propDecidable _) (if 29 < 22 then .inr (.inr (some (e.1 29 0))) else .inr (.inr none)) (.inl 0) := rfl
    rw [r, if_pos q]
    rfl
  · have q : rl 30 := rl_d _ rfl
    have r : rX e X 22 12 0 ((10 : Nat) : Int) = @ite XE (rl 30) (Classical.propDecidable _) (if 30 < 22 then .inr (.inr (some (e.1 30 0))) else .inr (.inr none)) (.inl 0) := rfl
    rw [r, if_pos q]
    rfl
  · have q : rl 31 := rl_d _ rfl
    have r : rX e X 22 12 0 ((11 : Nat) : Int) = @ite XE (rl 31) (Classical.propDecidable _) (if 31 < 22 then .inr (.inr (some (e.1 31 0))) else .inr (.inr none)) (.inl 0) := rfl
    rw [r, if_pos q]
    rfl
  · have q : rl 32 := rl_d _ rfl
    have r : rX e X 22 12 0 ((12 : Nat) : Int) = @ite XE (rl 32) (Classical.propDecidable _) (if 32 < 22 then .inr (.inr (some (e.1 32 0))) else .inr (.inr none)) (.inl 0) := rfl
    rw [r, if_pos q]
    rfl
  · have q : ¬ rl 33 := by unfold rl; omega
    have r : rX e X 22 12 0 ((13 : Nat) : Int) = @ite XE (rl 33) (Classical.propDecidable _) (if 33 < 22 then .inr (.inr (some (e.1 33 0))) else .inr (.inr none)) (.inl 0) := rfl
    rw [r, if_neg q]
    rfl
  · have q : rl 34 := rl_d _ rfl
    have r : rX e X 22 12 0 ((14 : Nat) : Int) = @ite XE (rl 34) (Classical.propDecidable _) (if 34 < 22 then .inr (.inr (some (e.1 34 0))) else .inr (.inr none)) (.inl 0) := rfl
    rw [r, if_pos q]
    rfl
  · have q : rl 35 := rl_d _ rfl
    have r : rX e X 22 12 0 ((15 : Nat) : Int) = @ite XE (rl 35) (Classical.propDecidable _) (if 35 < 22 then .inr (.inr (some (e.1 35 0))) else .inr (.inr none)) (.inl 0) := rfl
    rw [r, if_pos q]
    rfl
  · have q : rl 36 := rl_d _ rfl
    have r : rX e X 22 12 0 ((16 : Nat) : Int) = @ite XE (rl 36) (Classical.propDecidable _) (if 36 < 22 then .inr (.inr (some (e.1 36 0))) else .inr (.inr none)) (.inl 0) := rfl
    rw [r, if_pos q]
    rfl
  · have q : ¬ rl 37 := by unfold rl; omega
    have r : rX e X 22 12 0 ((17 : Nat) : Int) = @ite XE (rl 37) (Classical.propDecidable _) (if 37 < 22 then .inr (.inr (some (e.1 37 0))) else .inr (.inr none)) (.inl 0) := rfl
    rw [r, if_neg q]
    rfl
  · have q : rl 38 := rl_d _ rfl
    have r : rX e X 22 12 0 ((18 : Nat) : Int) = @ite XE (rl 38) (Classical.propDecidable _) (if 38 < 22 then .inr (.inr (some (e.1 38 0))) else .inr (.inr none)) (.inl 0) := rfl
    rw [r, if_pos q]
    rfl
  · have q : rl 39 := rl_d _ rfl
    have r : rX e X 22 12 0 ((19 : Nat) : Int) = @ite XE (rl 39) (Classical.propDecidable _) (if 39 < 22 then .inr (.inr (some (e.1 39 0))) else .inr (.inr none)) (.inl 0) := rfl
    rw [r, if_pos q]
    rfl
  · have q : rl 40 := rl_d _ rfl
    have r : rX e X 22 12 0 ((20 : Nat) : Int) = @ite XE (rl 40) (Classical.propDecidable _) (if 40 < 22 then .inr (.inr (some (e.1 40 0))) else .inr (.inr none)) (.inl 0) := rfl
    rw [r, if_pos q]
    rfl
  · have q : rl 41 := rl_d _ rfl
    have r : rX e X 22 12 0 ((21 : Nat) : Int) = @ite XE (rl 41) (Classical.propDecidable _) (if 41 < 22 then .inr (.inr (some (e.1 41 0))) else .inr (.inr none)) (.inl 0) := rfl
    rw [r, if_pos q]
    rfl
  · have q : rl 42 := rl_d _ rfl
    have r : rX e X 22 12 0 ((22 : Nat) : Int) = @ite XE (rl 42) (Classical.propDecidable _) (if 42 < 22 then .inr (.inr (some (e.1 42 0))) else .inr (.inr none)) (.inl 0) := rfl
    rw [r, if_pos q]
    rfl
  · have q : rl 43 := rl_d _ rfl
    have r : rX e X 22 12 0 ((23 : Nat) : Int) = @ite XE (rl 43) (Classical.propDecidable _) (if 43 < 22 then .inr (.inr (some (e.1 43 0))) else .inr (.inr none)) (.inl 0) := rfl
    rw [r, if_pos q]
    rfl
  · have q : rl 44 := rl_d _ rfl
    have r : rX e X 22 12 0 ((24 : Nat) : Int) = @ite XE (rl 44) (Classical.propDecidable _) (if 44 < 22 then .inr (.inr (some (e.1 44 0))) else .inr (.inr none)) (.inl 0) := rfl
    rw [r, if_pos q]
    rfl
  · have q : rl 45 := rl_d _ rfl
    have r : rX e X 22 12 0 ((25 : Nat) : Int) = @ite XE (rl 45) (Classical.propDecidable _) (if 45 < 22 then .inr (.inr (some (e.1 45 0))) else .inr (.inr none)) (.inl 0) := rfl
    rw [r, if_pos q]
    rfl
  · have q : ¬ rl 46 := by unfold rl; omega
    have r : rX e X 22 12 0 ((26 : Nat) : Int) = @ite XE (rl 46) (Classical.propDecidable _) (if 46 < 22 then .inr (.inr (some (e.1 46 0))) else .inr (.inr none)) (.inl 0) := rfl
    rw [r, if_neg q]
    rfl
  · have q : ¬ rl 47 := by unfold rl; omega
    have r : rX e X 22 12 0 ((27 : Nat) : Int) = @ite XE (rl 47) (Classical.propDecidable _) (if 47 < 22 then .inr (.inr (some (e.1 47 0))) else .inr (.inr none)) (.inl 0) := rfl
    rw [r, if_neg q]
    rfl
  · have q : ¬ rl 48 := by unfold rl; omega
    have r : rX e X 22 12 0 ((28 : Nat) : Int) = @ite XE (rl 48) (Classical.propDecidable _) (if 48 < 22 then .inr (.inr (some (e.1 48 0))) else .inr (.inr none)) (.inl 0) := rfl
    rw [r, if_neg q]
    rfl
  · have q : rl 49 := rl_d _ rfl
    have r : rX e X 22 12 0 ((29 : Nat) : Int) = @ite XE (rl 49) (Classical.propDecidable _) (if 49 < 22 then .inr (.inr (some (e.1 49 0))) else .inr (.inr none)) (.inl 0) := rfl
    rw [r, if_pos q]
    rfl
  · have q : rl 50 := rl_d _ rfl
    have r : rX e X 22 12 0 ((30 : Nat) : Int) = @ite XE (rl 50) (Classical.propDecidable _) (if 50 < 22 then .inr (.inr (some (e.1 50 0))) else .inr (.inr none)) (.inl 0) := rfl
    rw [r, if_pos q]
    rfl
  · have q : rl 51 := rl_d _ rfl
    have r : rX e X 22 12 0 ((31 : Nat) : Int) = @ite XE (rl 51) (Classical.propDecidable _) (if 51 < 22 then .inr (.inr (some (e.1 51 0))) else .inr (.inr none)) (.inl 0) := rfl
    rw [r, if_pos q]
    rfl
  · have q : rl 52 := rl_d _ rfl
    have r : rX e X 22 12 0 ((32 : Nat) : Int) = @ite XE (rl 52) (Classical.propDecidable _) (if 52 < 22 then .inr (.inr (some (e.1 52 0))) else .inr (.inr none)) (.inl 0) := rfl
    rw [r, if_pos q]
    rfl
  · have q : rl 53 := rl_d _ rfl
    have r : rX e X 22 12 0 ((33 : Nat) : Int) = @ite XE (rl 53) (Classical.propDecidable _) (if 53 < 22 then .inr (.inr (some (e.1 53 0))) else .inr (.inr none)) (.inl 0) := rfl
    rw [r, if_pos q]
    rfl
  · have q : rl 54 := rl_d _ rfl
    have r : rX e X 22 12 0 ((34 : Nat) : Int) = @ite XE (rl 54) (Classical.propDecidable _) (if 54 < 22 then .inr (.inr (some (e.1 54 0))) else .inr (.inr none)) (.inl 0) := rfl
    rw [r, if_pos q]
    rfl
  · have q : rl 55 := rl_d _ rfl
    have r : rX e X 22 12 0 ((35 : Nat) : Int) = @ite XE (rl 55) (Classical.propDecidable _) (if 55 < 22 then .inr (.inr (some (e.1 55 0))) else .inr (.inr none)) (.inl 0) := rfl
    rw [r, if_pos q]
    rfl
  · have q : ¬ rl 56 := by unfold rl; omega
    have r : rX e X 22 12 0 ((36 : Nat) : Int) = @ite XE (rl 56) (Classical.propDecidable _) (if 56 < 22 then .inr (.inr (some (e.1 56 0))) else .inr (.inr none)) (.inl 0) := rfl
    rw [r, if_neg q]
    rfl
  · have q : ¬ rl 57 := by unfold rl; omega
    have r : rX e X 22 12 0 ((37 : Nat) : Int) = @ite XE (rl 57) (Classical.propDecidable _) (if 57 < 22 then .inr (.inr (some (e.1 57 0))) else .inr (.inr none)) (.inl 0) := rfl
    rw [r, if_neg q]
    rfl
  · have q : ¬ rl 58 := by unfold rl; omega
    have r : rX e X 22 12 0 ((38 : Nat) : Int) = @ite XE (rl 58) (Classical.propDecidable _) (if 58 < 22 then .inr (.inr (some (e.1 58 0))) else .inr (.inr none)) (.inl 0) := rfl
    rw [r, if_neg q]
    rfl
  · have q : rl 59 := rl_d _ rfl
    have r : rX e X 22 12 0 ((39 : Nat) : Int) = @ite XE (rl 59) (Classical.propDecidable _) (if 59 < 22 then .inr (.inr (some (e.1 59 0))) else .inr (.inr none)) (.inl 0) := rfl
    rw [r, if_pos q]
    rfl
  · have q : rl 60 := rl_d _ rfl
    have r : rX e X 22 12 0 ((40 : Nat) : Int) = @ite XE (rl 60) (Classical.propDecidable _) (if 60 < 22 then .inr (.inr (some (e.1 60 0))) else .inr (.inr none)) (.inl 0) := rfl
    rw [r, if_pos q]
    rfl
theorem ry12 {j : Nat} (hj : j < 41) (hI : ∀ j, mx C I 12 0 j = 0) : rX e X 61 12 0 j = rwX (rE e 61) (mx C I) 12 0 j := by
  have hc : j = 0 ∨ j = 1 ∨ j = 2 ∨ j = 3 ∨ j = 4 ∨ j = 5 ∨ j = 6 ∨ j = 7 ∨ j = 8 ∨ j = 9 ∨ j = 10 ∨ j = 11 ∨ j = 12 ∨ j = 13 ∨ j = 14 ∨ j = 15 ∨ j = 16 ∨ j = 17 ∨ j = 18 ∨ j = 19 ∨ j = 20 ∨ j = 21 ∨ j = 22 ∨ j = 23 ∨ j = 24 ∨ j = 25 ∨ j = 26 ∨ j = 27 ∨ j = 28 ∨ j = 29 ∨ j = 30 ∨ j = 31 ∨ j = 32 ∨ j = 33 ∨ j = 34 ∨ j = 35 ∨ j = 36 ∨ j = 37 ∨ j = 38 ∨ j = 39 ∨ j = 40 := by omega
  rcases hc with rfl | rfl | rfl | rfl | rfl | rfl | rfl | rfl | rfl | rfl | rfl | rfl | rfl | rfl | rfl | rfl | rfl | rfl | rfl | rfl | rfl | rfl | rfl | rfl | rfl | rfl | rfl | rfl | rfl | rfl | rfl | rfl | rfl | rfl | rfl | rfl | rfl | rfl | rfl | rfl | rfl
  · have q : ¬ rl 20 := by unfold rl; omega
    have r : rX e X 61 12 0 ((0 : Nat) : Int) = @ite XE (rl 20) (Classical.propDecidable _) (if 20 < 61 then .inr (.inr (some (e.1 20 0))) else .inr (.inr none)) (.inl 0) := rfl
    rw [r, if_neg q]
    have r2 : rwX (rE e 61) (mx C I) 12 0 ((0 : Nat) : Int) = .inl (xk (mx C I 12 0 0)) := rfl
    rw [r2, hI, xk_zero]
  · have q : ¬ rl 21 := by unfold rl; omega
    have r : rX e X 61 12 0 ((1 : Nat) : Int) = @ite XE (rl 21) (Classical.propDecidable _) (if 21 < 61 then .inr (.inr (some (e.1 21 0))) else .inr (.inr none)) (.inl 0) := rfl
    rw [r, if_neg q]
    have r2 : rwX (rE e 61) (mx C I) 12 0 ((1 : Nat) : Int) = .inl (xk (mx C I 12 0 1)) := rfl
    rw [r2, hI, xk_zero]
  · have q : rl 22 := rl_d _ rfl
    have r : rX e X 61 12 0 ((2 : Nat) : Int) = @ite XE (rl 22) (Classical.propDecidable _) (if 22 < 61 then .inr (.inr (some (e.1 22 0))) else .inr (.inr none)) (.inl 0) := rfl
    rw [r, if_pos q]
    rfl
  · have q : rl 23 := rl_d _ rfl
    have r : rX e X 61 12 0 ((3 : Nat) : Int) = @ite XE (rl 23) (Classical.propDecidable _) (if 23 < 61 then .inr (.inr (some (e.1 23 0))) else .inr (.inr none)) (.inl 0) := rfl
    rw [r, if_pos q]
    rfl
  · have q : rl 24 := rl_d _ rfl
    have r : rX e X 61 12 0 ((4 : Nat) : Int) = @ite XE (rl 24) (Classical.propDecidable _) (if 24 < 61 then .inr (.inr (some (e.1 24 0))) else .inr (.inr none)) (.inl 0) := rfl
    rw [r, if_pos q]
    rfl
  · have q : rl 25 := rl_d _ rfl
    have r : rX e X 61 12 0 ((5 : Nat) : Int) = @ite XE (rl 25) (Classical.propDecidable _) (if 25 < 61 then .inr (.inr (some (e.1 25 0))) else .inr (.inr none)) (.inl 0) := rfl
    rw [r, if_pos q]
    rfl
  · have q : rl 26 := rl_d _ rfl
    have r : rX e X 61 12 0 ((6 : Nat) : Int) = @ite XE (rl 26) (Classical.propDecidable _) (if 26 < 61 then .inr (.inr (some (e.1 26 0))) else .inr (.inr none)) (.inl 0) := rfl
    rw [r, if_pos q]
    rfl
  · have q : rl 27 := rl_d _ rfl
    have r : rX e X 61 12 0 ((7 : Nat) : Int) = @ite XE (rl 27) (Classical.propDecidable _) (if 27 < 61 then .inr (.inr (some (e.1 27 0))) else .inr (.inr none)) (.inl 0) := rfl
    rw [r, if_pos q]
    rfl
  · have q : rl 28 := rl_d _ rfl
    have r : rX e X 61 12 0 ((8 : Nat) : Int) = @ite XE (rl 28) (Classical.propDecidable _) (if 28 < 61 then .inr (.inr (some (e.1 28 0))) else .inr (.inr none)) (.inl 0) := rfl
    rw [r, if_pos q]
    rfl
  · have q : rl 29 := rl_d _ rfl
    have r : rX e X 61 12 0 ((9 : Nat) : Int) = @ite XE (rl 29) (Classical.propDecidable _) (if 29 < 61 then .inr (.inr (some (e.1 29 0))) else .inr (.inr none)) (.inl 0) := rfl
    rw [r, if_pos q]
    rfl
  · have q : rl 30 := rl_d _ rfl
    have r : rX e X 61 12 0 ((10 : Nat) : Int) = @ite XE (rl 30) (Classical.propDecidable _) (if 30 < 61 then .inr (.inr (some (e.1 30 0))) else .inr (.inr none)) (.inl 0) := rfl
    rw [r, if_pos q]
    rfl
  · have q : rl 31 := rl_d _ rfl
    have r : rX e X 61 12 0 ((11 : Nat) : Int) = @ite XE (rl 31) (Classical.propDecidable _) (if 31 < 61 then .inr (.inr (some (e.1 31 0))) else .inr (.inr none)) (.inl 0) := rfl
    rw [r, if_pos q]
    rfl
  · have q : rl 32 := rl_d _ rfl
    have r : rX e X 61 12 0 ((12 : Nat) : Int) = @ite XE (rl 32) (Classical.propDecidable _) (if 32 < 61 then .inr (.inr (some (e.1 32 0))) else .inr (.inr none)) (.inl 0) := rfl
    rw [r, if_pos q]
    rfl
  · have q : ¬ rl 33 := by unfold rl; omega
    have r : rX e X 61 12 0 ((13 : Nat) : Int) = @ite XE (rl 33) (Classical.propDecidable _) (if 33 < 61 then .inr (.inr (some (e.1 33 0))) else .inr (.inr none)) (.inl 0) := rfl
    rw [r, if_neg q]
    have r2 : rwX (rE e 61) (mx C I) 12 0 ((13 : Nat) : Int) = .inl (xk (mx C I 12 0 13)) := rfl
    rw [r2, hI, xk_zero]
  · have q : rl 34 := rl_d _ rfl
    have r : rX e X 61 12 0 ((14 : Nat) : Int) = @ite XE (rl 34) (Classical.propDecidable _) (if 34 < 61 then .inr (.inr (some (e.1 34 0))) else .inr (.inr none)) (.inl 0) := rfl
    rw [r, if_pos q]
    rfl
  · have q : rl 35 := rl_d _ rfl
    have r : rX e X 61 12 0 ((15 : Nat) : Int) = @ite XE (rl 35) (Classical.propDecidable _) (if 35 < 61 then .inr (.inr (some (e.1 35 0))) else .inr (.inr none)) (.inl 0) := rfl
    rw [r, if_pos q]
    rfl
  · have q : rl 36 := rl_d _ rfl
    have r : rX e X 61 12 0 ((16 : Nat) : Int) = @ite XE (rl 36) (Classical.propDecidable _) (if 36 < 61 then .inr (.inr (some (e.1 36 0))) else .inr (.inr none)) (.inl 0) := rfl
    rw [r, if_pos q]
    rfl
  · have q : ¬ rl 37 := by unfold rl; omega
    have r : rX e X 61 12 0 ((17 : Nat) : Int) = @ite XE (rl 37) (Classical.propDecidable _) (if 37 < 61 then .inr (.inr (some (e.1 37 0))) else .inr (.inr none)) (.inl 0) := rfl
    rw [r, if_neg q]
    have r2 : rwX (rE e 61) (mx C I) 12 0 ((17 : Nat) : Int) = .inl (xk (mx C I 12 0 17)) := rfl
    rw [r2, hI, xk_zero]
  · have q : rl 38 := rl_d _ rfl
    have r : rX e X 61 12 0 ((18 : Nat) : Int) = @ite XE (rl 38) (Classical.propDecidable _) (if 38 < 61 then .inr (.inr (some (e.1 38 0))) else .inr (.inr none)) (.inl 0) := rfl
    rw [r, if_pos q]
    rfl
  · have q : rl 39 := rl_d _ rfl
    have r : rX e X 61 12 0 ((19 : Nat) : Int) = @ite XE (rl 39) (Classical.propDecidable _) (if 39 < 61 then .inr (.inr (some (e.1 39 0))) else .inr (.inr none)) (.inl 0) := rfl
    rw [r, if_pos q]
    rfl
  · have q : rl 40 := rl_d _ rfl
    have r : rX e X 61 12 0 ((20 : Nat) : Int) = @ite XE (rl 40) (Classical.propDecidable _) (if 40 < 61 then .inr (.inr (some (e.1 40 0))) else .inr (.inr none)) (.inl 0) := rfl
    rw [r, if_pos q]
    rfl
  · have q : rl 41 := rl_d _ rfl
    have r : rX e X 61 12 0 ((21 : Nat) : Int) = @ite XE (rl 41) (Classical.propDecidable _) (if 41 < 61 then .inr (.inr (some (e.1 41 0))) else .inr (.inr none)) (.inl 0) := rfl
    rw [r, if_pos q]
    rfl
  · have q : rl 42 := rl_d _ rfl
    have r : rX e X 61 12 0 ((22 : Nat) : Int) = @ite XE (rl 42) (Classical.propDecidable _) (if 42 < 61 then .inr (.inr (some (e.1 42 0))) else .inr (.inr none)) (.inl 0) := rfl
    rw [r, if_pos q]
    rfl
  · have q : rl 43 := rl_d _ rfl
    have r : rX e X 61 12 0 ((23 : Nat) : Int) = @ite XE (rl 43) (Classical.propDecidable _) (if 43 < 61 then .inr (.inr (some (e.1 43 0))) else .inr (.inr none)) (.inl 0) := rfl
    rw [r, if_pos q]
    rfl
  · have q : rl 44 := rl_d _ rfl
    have r : rX e X 61 12 0 ((24 : Nat) : Int) = @ite XE (rl 44) (Classical.propDecidable _) (if 44 < 61 then .inr (.inr (some (e.1 44 0))) else .inr (.inr none)) (.inl 0) := rfl
    rw [r, if_pos q]
    rfl
  · have q : rl 45 := rl_d _ rfl
    have r : rX e X 61 12 0 ((25 : Nat) : Int) = @ite XE (rl 45) (Classical.propDecidable _) (if 45 < 61 then .inr (.inr (some (e.1 45 0))) else .inr (.inr none)) (.inl 0) := rfl
    rw [r, if_pos q]
    rfl
  · have q : ¬ rl 46 := by unfold rl; omega
    have r : rX e X 61 12 0 ((26 : Nat) : Int) = @ite XE (rl 46) (Classical.propDecidable _) (if 46 < 61 then .inr (.inr (some (e.1 46 0))) else .inr (.inr none)) (.inl 0) := rfl
    rw [r, if_neg q]
    have r2 : rwX (rE e 61) (mx C I) 12 0 ((26 : Nat) : Int) = .inl (xk (mx C I 12 0 26)) := rfl
    rw [r2, hI, xk_zero]
  · have q : ¬ rl 47 := by unfold rl; omega
    have r : rX e X 61 12 0 ((27 : Nat) : Int) = @ite XE (rl 47) (Classical.propDecidable _) (if 47 < 61 then .inr (.inr (some (e.1 47 0))) else .inr (.inr none)) (.inl 0) := rfl
    rw [r, if_neg q]
    have r2 : rwX (rE e 61) (mx C I) 12 0 ((27 : Nat) : Int) = .inl (xk (mx C I 12 0 27)) := rfl
    rw [r2, hI, xk_zero]
  · have q : ¬ rl 48 := by unfold rl; omega
    have r : rX e X 61 12 0 ((28 : Nat) : Int) = @ite XE (rl 48) (Classical.propDecidable _) (if 48 < 61 then .inr (.inr (some (e.1 48 0))) else .inr (.inr none)) (.inl 0) := rfl
    rw [r, if_neg q]
    have r2 : rwX (rE e 61) (mx C I) 12 0 ((28 : Nat) : Int) = .inl (xk (mx C I 12 0 28)) := rfl
    rw [r2, hI, xk_zero]
  · have q : rl 49 := rl_d _ rfl
    have r : rX e X 61 12 0 ((29 : Nat) : Int) = @ite XE (rl 49) (Classical.propDecidable _) (if 49 < 61 then .inr (.inr (some (e.1 49 0))) else .inr (.inr none)) (.inl 0) := rfl
    rw [r, if_pos q]
    rfl
  · have q : rl 50 := rl_d _ rfl
    have r : rX e X 61 12 0 ((30 : Nat) : Int) = @ite XE (rl 50) (Classical.propDecidable _) (if 50 < 61 then .inr (.inr (some (e.1 50 0))) else .inr (.inr none)) (.inl 0) := rfl
    rw [r, if_pos q]
    rfl
  · have q : rl 51 := rl_d _ rfl
    have r : rX e X 61 12 0 ((31 : Nat) : Int) = @ite XE (rl 51) (Classical.propDecidable _) (if 51 < 61 then .inr (.inr (some (e.1 51 0))) else .inr (.inr none)) (.inl 0) := rfl
    rw [r, if_pos q]
    rfl
  · have q : rl 52 := rl_d _ rfl
    have r : rX e X 61 12 0 ((32 : Nat) : Int) = @ite XE (rl 52) (Classical.propDecidable _) (if 52 < 61 then .inr (.inr (some (e.1 52 0))) else .inr (.inr none)) (.inl 0) := rfl
    rw [r, if_pos q]
    rfl
  · have q : rl 53 := rl_d _ rfl
    have r : rX e X 61 12 0 ((33 : Nat) : Int) = @ite XE (rl 53) (Classical.propDecidable _) (if 53 < 61 then .inr (.inr (some (e.1 53 0))) else .inr (.inr none)) (.inl 0) := rfl
    rw [r, if_pos q]
    rfl
  · have q : rl 54 := rl_d _ rfl
    have r : rX e X 61 12 0 ((34 : Nat) : Int) = @ite XE (rl 54) (Classical.propDecidable _) (if 54 < 61 then .inr (.inr (some (e.1 54 0))) else .inr (.inr none)) (.inl 0) := rfl
    rw [r, if_pos q]
    rfl
  · have q : rl 55 := rl_d _ rfl
    have r : rX e X 61 12 0 ((35 : Nat) : Int) = @ite XE (rl 55) (Classical.propDecidable _) (if 55 < 61 then .inr (.inr (some (e.1 55 0))) else .inr (.inr none)) (.inl 0) := rfl
    rw [r, if_pos q]
    rfl
  · have q : ¬ rl 56 := by unfold rl; omega
    have r : rX e X 61 12 0 ((36 : Nat) : Int) = @ite XE (rl 56) (Classical.propDecidable _) (if 56 < 61 then .inr (.inr (some (e.1 56 0))) else .inr (.inr none)) (.inl 0) := rfl
    rw [r, if_neg q]
    have r2 : rwX (rE e 61) (mx C I) 12 0 ((36 : Nat) : Int) = .inl (xk (mx C I 12 0 36)) := rfl
    rw [r2, hI, xk_zero]
  · have q : ¬ rl 57 := by unfold rl; omega
    have r : rX e X 61 12 0 ((37 : Nat) : Int) = @ite XE (rl 57) (Classical.propDecidable _) (if 57 < 61 then .inr (.inr (some (e.1 57 0))) else .inr (.inr none)) (.inl 0) := rfl
    rw [r, if_neg q]
    have r2 : rwX (rE e 61) (mx C I) 12 0 ((37 : Nat) : Int) = .inl (xk (mx C I 12 0 37)) := rfl
    rw [r2, hI, xk_zero]
  · have q : ¬ rl 58 := by unfold rl; omega
    have r : rX e X 61 12 0 ((38 : Nat) : Int) = @ite XE (rl 58) (Classical.propDecidable _) (if 58 < 61 then .inr (.inr (some (e.1 58 0))) else .inr (.inr none)) (.inl 0) := rfl
    rw [r, if_neg q]
    have r2 : rwX (rE e 61) (mx C I) 12 0 ((38 : Nat) : Int) = .inl (xk (mx C I 12 0 38)) := rfl
    rw [r2, hI, xk_zero]
  · have q : rl 59 := rl_d _ rfl
    have r : rX e X 61 12 0 ((39 : Nat) : Int) = @ite XE (rl 59) (Classical.propDecidable _) (if 59 < 61 then .inr (.inr (some (e.1 59 0))) else .inr (.inr none)) (.inl 0) := rfl
    rw [r, if_pos q]
    rfl
  · have q : rl 60 := rl_d _ rfl
    have r : rX e X 61 12 0 ((40 : Nat) : Int) = @ite XE (rl 60) (Classical.propDecidable _) (if 60 < 61 then .inr (.inr (some (e.1 60 0))) else .inr (.inr none)) (.inl 0) := rfl
    rw [r, if_pos q]
    rfl
theorem ryl {k j : Nat} (hk : rl k) (hI : mx C I k 0 j = 0) : rX e X 61 k 0 j = rwX (rE e 61) (mx C I) k 0 j := by
  have k12 : k ≠ 12 := by unfold rl at hk; omega
  have r : rX e X 61 k 0 j = rdf k := by
    unfold rX
    rw [if_neg k12, if_pos hk]
  rw [r]
  have hc : k = 22 ∨ k = 23 ∨ k = 24 ∨ k = 25 ∨ k = 26 ∨ k = 27 ∨ k = 28 ∨ k = 29 ∨ k = 30 ∨ k = 31 ∨ k = 32 ∨ k = 34 ∨ k = 35 ∨ k = 36 ∨ k = 38 ∨ k = 39 ∨ k = 40 ∨ k = 41 ∨ k = 42 ∨ k = 43 ∨ k = 44 ∨ k = 45 ∨ k = 49 ∨ k = 50 ∨ k = 51 ∨ k = 52 ∨ k = 53 ∨ k = 54 ∨ k = 55 ∨ k = 59 ∨ k = 60 := by unfold rl at hk; omega
  have e1 : ∀ c, c = 0 → cv (rE e 61) c 0 j (mx C I k 0 j) = .inl 0 := fun c q => by
    subst q
    rw [hI]
    exact congrArg Sum.inl xk_zero
  have e2 : ∀ c, c = 1 → cv (rE e 61) c 0 j (mx C I k 0 j) = .inr (.inl 0) := fun c q => by
    subst q
    rw [hI]
    rfl
  rcases hc with rfl | rfl | rfl | rfl | rfl | rfl | rfl | rfl | rfl | rfl | rfl | rfl | rfl | rfl | rfl | rfl | rfl | rfl | rfl | rfl | rfl | rfl | rfl | rfl | rfl | rfl | rfl | rfl | rfl | rfl | rfl
  · exact (e1 _ rfl).symm
  · exact (e1 _ rfl).symm
  · exact (e1 _ rfl).symm
  · exact (e1 _ rfl).symm
  · exact (e1 _ rfl).symm
  · exact (e1 _ rfl).symm
  · exact (e1 _ rfl).symm
  · exact (e1 _ rfl).symm
  · exact (e2 _ rfl).symm
  · exact (e1 _ rfl).symm
  · exact (e1 _ rfl).symm
  · exact (e1 _ rfl).symm
  · exact (e1 _ rfl).symm
  · exact (e1 _ rfl).symm
  · exact (e1 _ rfl).symm
  · exact (e1 _ rfl).symm
  · exact (e1 _ rfl).symm
  · exact (e1 _ rfl).symm
  · exact (e1 _ rfl).symm
  · exact (e1 _ rfl).symm
  · exact (e1 _ rfl).symm
  · exact (e2 _ rfl).symm
  · exact (e1 _ rfl).symm
  · exact (e1 _ rfl).symm
  · exact (e1 _ rfl).symm
  · exact (e1 _ rfl).symm
  · exact (e1 _ rfl).symm
  · exact (e1 _ rfl).symm
  · exact (e1 _ rfl).symm
  · exact (e1 _ rfl).symm
  · exact (e1 _ rfl).symm
theorem r61 (hW : WX (rE e 61) z) (hI : ∀ k j, k = 12 ∨ rl k → mx C I k 0 j = 0) : HX (rE e 61) (rX e (rwX e (mx C I)) 61) z = HS (rE e 61) C I z := by
  rw [HS_HX]
  refine HX_c hW (fun k i hv j hj => ?_)
  have hv2 := hv.2
  by_cases k12 : k = 12
  · subst k12
    rw [rE_12] at hv2
    have i0 : i = 0 := by omega
    subst i0
    exact ry12 hj (fun j => hI 12 j (Or.inl rfl))
  · by_cases q : rl k
    · rw [rE_y q (by unfold rl at q; omega)] at hv2
      have i0 : i = 0 := by omega
      subst i0
      exact ryl q (hI k j (Or.inr q))
    · have r : rX e (rwX e (mx C I)) 61 k i j = rwX e (mx C I) k i j := by
        unfold rX
        rw [if_neg k12, if_neg q]
      rw [r]
      have jt : (j : Int).toNat = j := by omega
      show cv e (ky k (j : Int).toNat) i j _ = cv (rE e 61) (ky k (j : Int).toNat) i j _
      rw [jt]
      exact (cvc (e := e) (e' := rE e 61) rfl (fun t ht => rE_n (by omega) (fun q => by have := q.1; unfold rl at this; omega)) hv.1).symm
theorem iR_ev (hA : WA e z) (hR : WR e) : Ev (fun F => iR F (rf e 12 0) (HS e C (iI sc) z)) (rV (HS e C (iS sc) z)) := by
  have one : ∀ j, iI sc 12 0 j = 0 := fun j => rfl
  have m1 : (1000000 : Int32) = xk 1000000 := by decide +kernel
  unfold iR
  refine Ev.bs (p_12_13 hA hR) (Ev.bs (g_12_14 hA hR) (Ev.bs (s_34 hA hR (by decide) (by decide)) (Ev.xg (d_12 hA hR) ?_)))
  refine Ev.kI (x := 0) (σ := HS e C (up (up (up (up (up (up (up (up (iI sc) 12 0 13 1) 34 0 0 (-1)) 12 0 17 1) 38 0 0 (-1)) 40 0 0 1000000) 39 0 0 150) 41 0 0 100) 45 0 0 0) z) (Ev.step (fun F => E12_newGroup F _ _ _) ?_) ?_
  · have g17 : up (up (iI sc) 12 0 13 1) 34 0 0 (-1) 12 0 17 = 0 := rfl
    refine Ev.bs (g_12_17 hA hR) ?_
    rw [g17, xk_add, m1, lN_z]
    refine Ev.bs (p_12_17 hA hR) (Ev.bs (g_12_18 hA hR) (Ev.bs (s_38 hA hR (by decide) (by decide)) ?_))
    refine Ev.bs (g_12_20 hA hR) (Ev.bs (s_40 hA hR (by decide) (by decide)) ?_)
    refine Ev.bs (g_12_19 hA hR) (Ev.bs (s_39 hA hR (by decide) (by decide)) ?_)
    refine Ev.bs (g_12_21 hA hR) (Ev.bs (s_41 hA hR (by decide) (by decide)) ?_)
    exact Ev.bs (g_12_25 hA hR) (Ev.bs (s_45 hA hR (by decide) (by decide)) (Ev.ret rfl))
  refine Ev.bs (p_12_28 hA hR) (Ev.xg (d_12 hA hR) ?_)
  refine Ev.kI (x := 0) (σ := HS e C (up (up (up (up (up (up (up (up (up (up (up (up (up (up (up (up (iI sc) 12 0 13 1) 34 0 0 (-1)) 12 0 17 1) 38 0 0 (-1)) 40 0 0 1000000) 39 0 0 150) 41 0 0 100) 45 0 0 0) 12 0 28 1) 50 0 0 1) 51 0 0 0) 52 0 0 (-1)) 53 0 0 0) 54 0 0 0) 55 0 0 0) 49 0 0 0) z) (Ev.step (fun F => E12_make F _ _ _ _ _ _ _) (Ev.step (fun F => E12_make_3 F _ _ _ _ _ _ _ _) ?_)) ?_
  · have g50 : up (up (up (up (up (up (up (up (up (iI sc) 12 0 13 1) 34 0 0 (-1)) 12 0 17 1) 38 0 0 (-1)) 40 0 0 1000000) 39 0 0 150) 41 0 0 100) 45 0 0 0) 12 0 28 1 50 0 0 = 0 := rfl
    refine Ev.bs (g_12_30 hA hR) (Ev.bs (a_50 hA hR (by decide) (by decide)) ?_)
    rw [g50]
    refine Ev.ite (fun _ => ?_) (fun q => absurd k00 q)
    refine Ev.bs (g_12_30 hA hR) (Ev.bs (s_50 hA hR (by decide) (by decide) (Or.inr rfl)) ?_)
    refine Ev.bs (g_12_31 hA hR) (Ev.bs (s_51 hA hR (by decide) (by decide)) ?_)
    refine Ev.bs (g_12_32 hA hR) (Ev.bs (s_52 hA hR (by decide) (by decide)) ?_)
    refine Ev.bs (g_12_33 hA hR) (Ev.bs (s_53 hA hR (by decide) (by decide)) ?_)
    refine Ev.bs (g_12_34 hA hR) (Ev.bs (s_54 hA hR (by decide) (by decide)) ?_)
    refine Ev.bs (g_12_35 hA hR) (Ev.bs (s_55 hA hR (by decide) (by decide)) ?_)
    refine Ev.ite (fun _ => ?_) (fun q => absurd rfl q)
    exact Ev.bs (g_12_29 hA hR) (Ev.bs (s_49 hA hR (by decide) (by decide)) (Ev.ret rfl))
  refine Ev.bs (p_12_1 hA hR) (Ev.bs (g_12_3 hA hR) (Ev.bs (s_23 hA hR (by decide) (by decide)) ?_))
  refine Ev.bs (g_12_16 hA hR) (Ev.bs (s_36 hA hR (by decide) (by decide)) ?_)
  refine Ev.bs (g_12_12 hA hR) (Ev.bs (s_32 hA hR (by decide) (by decide)) (Ev.ret ?_))
  have fin : up (up (up (up (up (up (up (up (up (up (up (up (up (up (up (up (up (up (up (up (iI sc) 12 0 13 1) 34 0 0 (-1)) 12 0 17 1) 38 0 0 (-1)) 40 0 0 1000000) 39 0 0 150) 41 0 0 100) 45 0 0 0) 12 0 28 1) 50 0 0 1) 51 0 0 0) 52 0 0 (-1)) 53 0 0 0) 54 0 0 0) 55 0 0 0) 49 0 0 0) 12 0 1 1) 23 0 0 (-1)) 36 0 0 1) 32 0 0 1 = iS sc := by
    funext k i j
    by_cases hi : i = 0
    · subst hi
      by_cases k12 : k = 12
      · subst k12
        simp only [up, iS, iI]
        by_cases j1 : j = 1
        · simp [j1]
        by_cases j13 : j = 13
        · simp [j13]
        by_cases j17 : j = 17
        · simp [j17]
        by_cases j28 : j = 28
        · simp [j28]
        · simp [j1, j13, j17, j28]
      · by_cases hj : j = 0
        · subst hj
          by_cases k34 : k = 34
          · subst k34; rfl
          by_cases k38 : k = 38
          · subst k38; rfl
          by_cases k40 : k = 40
          · subst k40; rfl
          by_cases k39 : k = 39
          · subst k39; rfl
          by_cases k41 : k = 41
          · subst k41; rfl
          by_cases k45 : k = 45
          · subst k45; rfl
          by_cases k50 : k = 50
          · subst k50; rfl
          by_cases k51 : k = 51
          · subst k51; rfl
          by_cases k52 : k = 52
          · subst k52; rfl
          by_cases k53 : k = 53
          · subst k53; rfl
          by_cases k54 : k = 54
          · subst k54; rfl
          by_cases k55 : k = 55
          · subst k55; rfl
          by_cases k49 : k = 49
          · subst k49; rfl
          by_cases k23 : k = 23
          · subst k23; rfl
          by_cases k36 : k = 36
          · subst k36; rfl
          by_cases k32 : k = 32
          · subst k32; rfl
          by_cases k62 : k = 62
          · subst k62; rfl
          simp [up, iS, iI, k12, k34, k38, k40, k39, k41, k45, k50, k51, k52, k53, k54, k55, k49, k23, k36, k32, k62]
        · by_cases k62 : k = 62
          · subst k62; simp [up, iS, iI]
          · simp [up, iS, iI, k12, hj, k62]
    · by_cases k62 : k = 62
      · subst k62; simp [up, iS, iI]
      · simp [up, iS, iI, hi, k62]
  rw [← fin]
  rfl
end INI
