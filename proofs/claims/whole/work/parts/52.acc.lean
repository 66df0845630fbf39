/-! one row for each field and each array (printed) -/
theorem WA.s {e : EN} {z : Nat × Nat × Nat × Nat} (hA : WA e z) {k : Nat} (h : sg k = true) : (0 : Int) < e.2.1 k := by rw [hA.2.2.1 k h]; decide
theorem WS.s {e : EN} (hS : WS e) {k : Nat} (h : 61 ≤ k) (h' : k < 65) : (0 : Int) < e.2.1 k := by rw [hS k h h']; decide
theorem WR.s {e : EN} (hR : WR e) {k : Nat} (h : k = 12 ∨ (22 ≤ k ∧ k < 61 ∧ k ≠ 33 ∧ k ≠ 37 ∧ k ≠ 46 ∧ k ≠ 47 ∧ k ≠ 48 ∧ k ≠ 56 ∧ k ≠ 57 ∧ k ≠ 58)) : (0 : Int) < e.2.1 k := by rw [hR k h]; decide
theorem cv6 {e : EN} {c k : Nat} {i j v : Int} (h : c = k + 600) (hk : k < 100) : cv e c i j v = .inr (.inr (rf e k (if j < e.2.1 k then j else -1))) := by
  subst h
  unfold cv
  rw [if_neg (by omega), if_neg (by omega), if_neg (by omega), if_neg (by omega), if_neg (by omega), if_neg (by omega), if_pos (by omega), Nat.add_sub_cancel]
/-- families of the class; all others are the reference's and the law's -/
def cf (k : Nat) : Bool := Nat.blt k 12 || (Nat.blt 12 k && Nat.blt k 20)
def mx (C I : ST) : ST := fun k i j => bif cf k then C k i j else I k i j
noncomputable def HS (e : EN) (C I : ST) (z : Nat × Nat × Nat × Nat) : XH := H0 e (mx C I) z
theorem mx_c {C I : ST} {k : Nat} {i j v : Int} (h : cf k = true) : up (mx C I) k i j v = mx (up C k i j v) I := by
  funext k' i' j'
  unfold up mx
  by_cases hk : k' = k
  · subst hk; simp [h]
  · simp [hk]
theorem mx_i {C I : ST} {k : Nat} {i j v : Int} (h : cf k = false) : up (mx C I) k i j v = mx C (up I k i j v) := by
  funext k' i' j'
  unfold up mx
  by_cases hk : k' = k
  · subst hk; simp [h]
  · simp [hk]
section AC
variable {e : EN} {C I : ST} {z : Nat × Nat × Nat × Nat}
theorem d_0 (hA : WA e z) {K : XR} : xgd (HS e C I z) (rf e 0 0) 0 K = K := H0.gd hA (by decide) (Int.le_refl 0) (WA.s hA rfl) rfl
theorem g_0_0 (hA : WA e z) : xgr (HS e C I z) (rf e 0 0) 0 0 = some (rf e 9 0) := H0.gr hA (by decide) (Int.le_refl 0) (WA.s hA rfl) rfl (by show 0 < 3; decide) rfl
theorem g_0_1 (hA : WA e z) : xgr (HS e C I z) (rf e 0 0) 0 1 = some (rf e 2 0) := H0.gr hA (by decide) (Int.le_refl 0) (WA.s hA rfl) rfl (by show 1 < 3; decide) rfl
theorem g_0_2 (hA : WA e z) : xgi (HS e C I z) (rf e 0 0) 0 2 = some (xk (C 0 0 2)) := H0.gi hA (by decide) (Int.le_refl 0) (WA.s hA rfl) rfl (by show 2 < 3; decide) rfl
theorem p_0_2 (hA : WA e z) {v : Int} : xpt (HS e C I z) (rf e 0 0) 0 2 (.inl (xk v)) = some (HS e (up C 0 0 2 v) I z) := (H0.pt hA (by decide) (Int.le_refl 0) (WA.s hA rfl) rfl (by show 2 < 3; decide) rfl).trans (congrArg (fun S => some (H0 e S z)) (mx_c rfl))
theorem d_1 (hA : WA e z) {i : Int} (h0 : 0 ≤ i) (h1 : i < e.2.1 1) {K : XR} : xgd (HS e C I z) (rf e 1 i) 1 K = K := H0.gd hA (by decide) (h0) h1 rfl
theorem g_1_0 (hA : WA e z) {i : Int} (h0 : 0 ≤ i) (h1 : i < e.2.1 1) : xgi (HS e C I z) (rf e 1 i) 1 0 = some (xk i) := H0.gi hA (by decide) (h0) h1 rfl (by show 0 < 14; decide) rfl
theorem g_1_1 (hA : WA e z) {i : Int} (h0 : 0 ≤ i) (h1 : i < e.2.1 1) : xgr (HS e C I z) (rf e 1 i) 1 1 = some (rf e 1 (C 1 i 1)) := H0.gr hA (by decide) (h0) h1 rfl (by show 1 < 14; decide) rfl
theorem p_1_1 (hA : WA e z) {i : Int} (h0 : 0 ≤ i) (h1 : i < e.2.1 1) {v : Int} : xpt (HS e C I z) (rf e 1 i) 1 1 (.inr (.inr (rf e 1 v))) = some (HS e (up C 1 i 1 v) I z) := (H0.pt hA (by decide) (h0) h1 rfl (by show 1 < 14; decide) rfl).trans (congrArg (fun S => some (H0 e S z)) (mx_c rfl))
theorem g_1_2 (hA : WA e z) {i : Int} (h0 : 0 ≤ i) (h1 : i < e.2.1 1) : xgi (HS e C I z) (rf e 1 i) 1 2 = some (xk (C 1 i 2)) := H0.gi hA (by decide) (h0) h1 rfl (by show 2 < 14; decide) rfl
theorem p_1_2 (hA : WA e z) {i : Int} (h0 : 0 ≤ i) (h1 : i < e.2.1 1) {v : Int} : xpt (HS e C I z) (rf e 1 i) 1 2 (.inl (xk v)) = some (HS e (up C 1 i 2 v) I z) := (H0.pt hA (by decide) (h0) h1 rfl (by show 2 < 14; decide) rfl).trans (congrArg (fun S => some (H0 e S z)) (mx_c rfl))
theorem g_1_3 (hA : WA e z) {i : Int} (h0 : 0 ≤ i) (h1 : i < e.2.1 1) : xgi (HS e C I z) (rf e 1 i) 1 3 = some (xk (C 1 i 3)) := H0.gi hA (by decide) (h0) h1 rfl (by show 3 < 14; decide) rfl
theorem p_1_3 (hA : WA e z) {i : Int} (h0 : 0 ≤ i) (h1 : i < e.2.1 1) {v : Int} : xpt (HS e C I z) (rf e 1 i) 1 3 (.inl (xk v)) = some (HS e (up C 1 i 3 v) I z) := (H0.pt hA (by decide) (h0) h1 rfl (by show 3 < 14; decide) rfl).trans (congrArg (fun S => some (H0 e S z)) (mx_c rfl))
theorem g_1_4 (hA : WA e z) {i : Int} (h0 : 0 ≤ i) (h1 : i < e.2.1 1) : xgi (HS e C I z) (rf e 1 i) 1 4 = some (xk (C 1 i 4)) := H0.gi hA (by decide) (h0) h1 rfl (by show 4 < 14; decide) rfl
theorem p_1_4 (hA : WA e z) {i : Int} (h0 : 0 ≤ i) (h1 : i < e.2.1 1) {v : Int} : xpt (HS e C I z) (rf e 1 i) 1 4 (.inl (xk v)) = some (HS e (up C 1 i 4 v) I z) := (H0.pt hA (by decide) (h0) h1 rfl (by show 4 < 14; decide) rfl).trans (congrArg (fun S => some (H0 e S z)) (mx_c rfl))
theorem g_1_5 (hA : WA e z) {i : Int} (h0 : 0 ≤ i) (h1 : i < e.2.1 1) : xgi (HS e C I z) (rf e 1 i) 1 5 = some (xk (C 1 i 5)) := H0.gi hA (by decide) (h0) h1 rfl (by show 5 < 14; decide) rfl
theorem p_1_5 (hA : WA e z) {i : Int} (h0 : 0 ≤ i) (h1 : i < e.2.1 1) {v : Int} : xpt (HS e C I z) (rf e 1 i) 1 5 (.inl (xk v)) = some (HS e (up C 1 i 5 v) I z) := (H0.pt hA (by decide) (h0) h1 rfl (by show 5 < 14; decide) rfl).trans (congrArg (fun S => some (H0 e S z)) (mx_c rfl))
theorem g_1_6 (hA : WA e z) {i : Int} (h0 : 0 ≤ i) (h1 : i < e.2.1 1) : xgi (HS e C I z) (rf e 1 i) 1 6 = some (xk (C 1 i 6)) := H0.gi hA (by decide) (h0) h1 rfl (by show 6 < 14; decide) rfl
theorem p_1_6 (hA : WA e z) {i : Int} (h0 : 0 ≤ i) (h1 : i < e.2.1 1) {v : Int} : xpt (HS e C I z) (rf e 1 i) 1 6 (.inl (xk v)) = some (HS e (up C 1 i 6 v) I z) := (H0.pt hA (by decide) (h0) h1 rfl (by show 6 < 14; decide) rfl).trans (congrArg (fun S => some (H0 e S z)) (mx_c rfl))
theorem g_1_7 (hA : WA e z) {i : Int} (h0 : 0 ≤ i) (h1 : i < e.2.1 1) : xgi (HS e C I z) (rf e 1 i) 1 7 = some (xk (C 1 i 7)) := H0.gi hA (by decide) (h0) h1 rfl (by show 7 < 14; decide) rfl
theorem p_1_7 (hA : WA e z) {i : Int} (h0 : 0 ≤ i) (h1 : i < e.2.1 1) {v : Int} : xpt (HS e C I z) (rf e 1 i) 1 7 (.inl (xk v)) = some (HS e (up C 1 i 7 v) I z) := (H0.pt hA (by decide) (h0) h1 rfl (by show 7 < 14; decide) rfl).trans (congrArg (fun S => some (H0 e S z)) (mx_c rfl))
theorem g_1_8 (hA : WA e z) {i : Int} (h0 : 0 ≤ i) (h1 : i < e.2.1 1) : xgi (HS e C I z) (rf e 1 i) 1 8 = some (xk (C 1 i 8)) := H0.gi hA (by decide) (h0) h1 rfl (by show 8 < 14; decide) rfl
theorem p_1_8 (hA : WA e z) {i : Int} (h0 : 0 ≤ i) (h1 : i < e.2.1 1) {v : Int} : xpt (HS e C I z) (rf e 1 i) 1 8 (.inl (xk v)) = some (HS e (up C 1 i 8 v) I z) := (H0.pt hA (by decide) (h0) h1 rfl (by show 8 < 14; decide) rfl).trans (congrArg (fun S => some (H0 e S z)) (mx_c rfl))
theorem g_1_9 (hA : WA e z) {i : Int} (h0 : 0 ≤ i) (h1 : i < e.2.1 1) : xgi (HS e C I z) (rf e 1 i) 1 9 = some (xk (C 1 i 9)) := H0.gi hA (by decide) (h0) h1 rfl (by show 9 < 14; decide) rfl
theorem p_1_9 (hA : WA e z) {i : Int} (h0 : 0 ≤ i) (h1 : i < e.2.1 1) {v : Int} : xpt (HS e C I z) (rf e 1 i) 1 9 (.inl (xk v)) = some (HS e (up C 1 i 9 v) I z) := (H0.pt hA (by decide) (h0) h1 rfl (by show 9 < 14; decide) rfl).trans (congrArg (fun S => some (H0 e S z)) (mx_c rfl))
theorem g_1_10 (hA : WA e z) {i : Int} (h0 : 0 ≤ i) (h1 : i < e.2.1 1) : xgi (HS e C I z) (rf e 1 i) 1 10 = some (xk (C 1 i 10)) := H0.gi hA (by decide) (h0) h1 rfl (by show 10 < 14; decide) rfl
theorem p_1_10 (hA : WA e z) {i : Int} (h0 : 0 ≤ i) (h1 : i < e.2.1 1) {v : Int} : xpt (HS e C I z) (rf e 1 i) 1 10 (.inl (xk v)) = some (HS e (up C 1 i 10 v) I z) := (H0.pt hA (by decide) (h0) h1 rfl (by show 10 < 14; decide) rfl).trans (congrArg (fun S => some (H0 e S z)) (mx_c rfl))
theorem g_1_11 (hA : WA e z) {i : Int} (h0 : 0 ≤ i) (h1 : i < e.2.1 1) : xgl (HS e C I z) (rf e 1 i) 1 11 = some (Int64.ofInt (C 1 i 11)) := H0.gl hA (by decide) (h0) h1 rfl (by show 11 < 14; decide) rfl
theorem p_1_11 (hA : WA e z) {i : Int} (h0 : 0 ≤ i) (h1 : i < e.2.1 1) {v : Int} : xpt (HS e C I z) (rf e 1 i) 1 11 (.inr (.inl (Int64.ofInt v))) = some (HS e (up C 1 i 11 v) I z) := (H0.pt hA (by decide) (h0) h1 rfl (by show 11 < 14; decide) rfl).trans (congrArg (fun S => some (H0 e S z)) (mx_c rfl))
theorem g_1_12 (hA : WA e z) {i : Int} (h0 : 0 ≤ i) (h1 : i < e.2.1 1) : xgr (HS e C I z) (rf e 1 i) 1 12 = some (rf e 8 (C 1 i 12)) := H0.gr hA (by decide) (h0) h1 rfl (by show 12 < 14; decide) rfl
theorem p_1_12 (hA : WA e z) {i : Int} (h0 : 0 ≤ i) (h1 : i < e.2.1 1) {v : Int} : xpt (HS e C I z) (rf e 1 i) 1 12 (.inr (.inr (rf e 8 v))) = some (HS e (up C 1 i 12 v) I z) := (H0.pt hA (by decide) (h0) h1 rfl (by show 12 < 14; decide) rfl).trans (congrArg (fun S => some (H0 e S z)) (mx_c rfl))
theorem g_1_13 (hA : WA e z) {i : Int} (h0 : 0 ≤ i) (h1 : i < e.2.1 1) : xgr (HS e C I z) (rf e 1 i) 1 13 = some (rf e 1 (C 1 i 13)) := H0.gr hA (by decide) (h0) h1 rfl (by show 13 < 14; decide) rfl
theorem p_1_13 (hA : WA e z) {i : Int} (h0 : 0 ≤ i) (h1 : i < e.2.1 1) {v : Int} : xpt (HS e C I z) (rf e 1 i) 1 13 (.inr (.inr (rf e 1 v))) = some (HS e (up C 1 i 13 v) I z) := (H0.pt hA (by decide) (h0) h1 rfl (by show 13 < 14; decide) rfl).trans (congrArg (fun S => some (H0 e S z)) (mx_c rfl))
theorem d_2 (hA : WA e z) {K : XR} : xgd (HS e C I z) (rf e 2 0) 2 K = K := H0.gd hA (by decide) (Int.le_refl 0) (WA.s hA rfl) rfl
theorem g_2_0 (hA : WA e z) : xgr (HS e C I z) (rf e 2 0) 2 0 = some (rf e 16 0) := H0.gr hA (by decide) (Int.le_refl 0) (WA.s hA rfl) rfl (by show 0 < 2; decide) rfl
theorem g_2_1 (hA : WA e z) : xgi (HS e C I z) (rf e 2 0) 2 1 = some (xk (e.2.1 1)) := H0.gi hA (by decide) (Int.le_refl 0) (WA.s hA rfl) rfl (by show 1 < 2; decide) rfl
theorem d_3 (hA : WA e z) {K : XR} : xgd (HS e C I z) (rf e 3 0) 3 K = K := H0.gd hA (by decide) (Int.le_refl 0) (WA.s hA rfl) rfl
theorem g_3_0 (hA : WA e z) : xgr (HS e C I z) (rf e 3 0) 3 0 = some (rf e 9 0) := H0.gr hA (by decide) (Int.le_refl 0) (WA.s hA rfl) rfl (by show 0 < 3; decide) rfl
theorem g_3_1 (hA : WA e z) : xgr (HS e C I z) (rf e 3 0) 3 1 = some (rf e 2 0) := H0.gr hA (by decide) (Int.le_refl 0) (WA.s hA rfl) rfl (by show 1 < 3; decide) rfl
theorem g_3_2 (hA : WA e z) : xgi (HS e C I z) (rf e 3 0) 3 2 = some (xk (C 3 0 2)) := H0.gi hA (by decide) (Int.le_refl 0) (WA.s hA rfl) rfl (by show 2 < 3; decide) rfl
theorem p_3_2 (hA : WA e z) {v : Int} : xpt (HS e C I z) (rf e 3 0) 3 2 (.inl (xk v)) = some (HS e (up C 3 0 2 v) I z) := (H0.pt hA (by decide) (Int.le_refl 0) (WA.s hA rfl) rfl (by show 2 < 3; decide) rfl).trans (congrArg (fun S => some (H0 e S z)) (mx_c rfl))
theorem d_4 (hA : WA e z) {i : Int} (h0 : 0 ≤ i) (h1 : i < e.2.1 4) {K : XR} : xgd (HS e C I z) (rf e 4 i) 4 K = K := H0.gd hA (by decide) (h0) h1 rfl
theorem g_4_0 (hA : WA e z) {i : Int} (h0 : 0 ≤ i) (h1 : i < e.2.1 4) : xgi (HS e C I z) (rf e 4 i) 4 0 = some (xk i) := H0.gi hA (by decide) (h0) h1 rfl (by show 0 < 9; decide) rfl
theorem g_4_1 (hA : WA e z) {i : Int} (h0 : 0 ≤ i) (h1 : i < e.2.1 4) : xgr (HS e C I z) (rf e 4 i) 4 1 = some (rf e 17 i) := H0.gr hA (by decide) (h0) h1 rfl (by show 1 < 9; decide) rfl
theorem g_4_2 (hA : WA e z) {i : Int} (h0 : 0 ≤ i) (h1 : i < e.2.1 4) : xgr (HS e C I z) (rf e 4 i) 4 2 = some (rf e 10 (C 4 i 2)) := H0.gr hA (by decide) (h0) h1 rfl (by show 2 < 9; decide) rfl
theorem p_4_2 (hA : WA e z) {i : Int} (h0 : 0 ≤ i) (h1 : i < e.2.1 4) {v : Int} : xpt (HS e C I z) (rf e 4 i) 4 2 (.inr (.inr (rf e 10 v))) = some (HS e (up C 4 i 2 v) I z) := (H0.pt hA (by decide) (h0) h1 rfl (by show 2 < 9; decide) rfl).trans (congrArg (fun S => some (H0 e S z)) (mx_c rfl))
theorem g_4_3 (hA : WA e z) {i : Int} (h0 : 0 ≤ i) (h1 : i < e.2.1 4) : xgr (HS e C I z) (rf e 4 i) 4 3 = some (rf e 4 (C 4 i 3)) := H0.gr hA (by decide) (h0) h1 rfl (by show 3 < 9; decide) rfl
theorem p_4_3 (hA : WA e z) {i : Int} (h0 : 0 ≤ i) (h1 : i < e.2.1 4) {v : Int} : xpt (HS e C I z) (rf e 4 i) 4 3 (.inr (.inr (rf e 4 v))) = some (HS e (up C 4 i 3 v) I z) := (H0.pt hA (by decide) (h0) h1 rfl (by show 3 < 9; decide) rfl).trans (congrArg (fun S => some (H0 e S z)) (mx_c rfl))
theorem g_4_4 (hA : WA e z) {i : Int} (h0 : 0 ≤ i) (h1 : i < e.2.1 4) : xgi (HS e C I z) (rf e 4 i) 4 4 = some (xk (C 4 i 4)) := H0.gi hA (by decide) (h0) h1 rfl (by show 4 < 9; decide) rfl
theorem p_4_4 (hA : WA e z) {i : Int} (h0 : 0 ≤ i) (h1 : i < e.2.1 4) {v : Int} : xpt (HS e C I z) (rf e 4 i) 4 4 (.inl (xk v)) = some (HS e (up C 4 i 4 v) I z) := (H0.pt hA (by decide) (h0) h1 rfl (by show 4 < 9; decide) rfl).trans (congrArg (fun S => some (H0 e S z)) (mx_c rfl))
theorem g_4_5 (hA : WA e z) {i : Int} (h0 : 0 ≤ i) (h1 : i < e.2.1 4) : xgi (HS e C I z) (rf e 4 i) 4 5 = some (xk (C 4 i 5)) := H0.gi hA (by decide) (h0) h1 rfl (by show 5 < 9; decide) rfl
theorem p_4_5 (hA : WA e z) {i : Int} (h0 : 0 ≤ i) (h1 : i < e.2.1 4) {v : Int} : xpt (HS e C I z) (rf e 4 i) 4 5 (.inl (xk v)) = some (HS e (up C 4 i 5 v) I z) := (H0.pt hA (by decide) (h0) h1 rfl (by show 5 < 9; decide) rfl).trans (congrArg (fun S => some (H0 e S z)) (mx_c rfl))
theorem g_4_6 (hA : WA e z) {i : Int} (h0 : 0 ≤ i) (h1 : i < e.2.1 4) : xgi (HS e C I z) (rf e 4 i) 4 6 = some (xk (C 4 i 6)) := H0.gi hA (by decide) (h0) h1 rfl (by show 6 < 9; decide) rfl
theorem p_4_6 (hA : WA e z) {i : Int} (h0 : 0 ≤ i) (h1 : i < e.2.1 4) {v : Int} : xpt (HS e C I z) (rf e 4 i) 4 6 (.inl (xk v)) = some (HS e (up C 4 i 6 v) I z) := (H0.pt hA (by decide) (h0) h1 rfl (by show 6 < 9; decide) rfl).trans (congrArg (fun S => some (H0 e S z)) (mx_c rfl))
theorem g_4_7 (hA : WA e z) {i : Int} (h0 : 0 ≤ i) (h1 : i < e.2.1 4) : xgi (HS e C I z) (rf e 4 i) 4 7 = some (xk (C 4 i 7)) := H0.gi hA (by decide) (h0) h1 rfl (by show 7 < 9; decide) rfl
theorem p_4_7 (hA : WA e z) {i : Int} (h0 : 0 ≤ i) (h1 : i < e.2.1 4) {v : Int} : xpt (HS e C I z) (rf e 4 i) 4 7 (.inl (xk v)) = some (HS e (up C 4 i 7 v) I z) := (H0.pt hA (by decide) (h0) h1 rfl (by show 7 < 9; decide) rfl).trans (congrArg (fun S => some (H0 e S z)) (mx_c rfl))
theorem g_4_8 (hA : WA e z) {i : Int} (h0 : 0 ≤ i) (h1 : i < e.2.1 4) : xgr (HS e C I z) (rf e 4 i) 4 8 = some (rf e 4 (C 4 i 8)) := H0.gr hA (by decide) (h0) h1 rfl (by show 8 < 9; decide) rfl
theorem p_4_8 (hA : WA e z) {i : Int} (h0 : 0 ≤ i) (h1 : i < e.2.1 4) {v : Int} : xpt (HS e C I z) (rf e 4 i) 4 8 (.inr (.inr (rf e 4 v))) = some (HS e (up C 4 i 8 v) I z) := (H0.pt hA (by decide) (h0) h1 rfl (by show 8 < 9; decide) rfl).trans (congrArg (fun S => some (H0 e S z)) (mx_c rfl))
theorem d_5 (hA : WA e z) {K : XR} : xgd (HS e C I z) (rf e 5 0) 5 K = K := H0.gd hA (by decide) (Int.le_refl 0) (WA.s hA rfl) rfl
theorem g_5_0 (hA : WA e z) : xgr (HS e C I z) (rf e 5 0) 5 0 = some (rf e 18 0) := H0.gr hA (by decide) (Int.le_refl 0) (WA.s hA rfl) rfl (by show 0 < 6; decide) rfl
theorem g_5_1 (hA : WA e z) : xgr (HS e C I z) (rf e 5 0) 5 1 = some (rf e 19 0) := H0.gr hA (by decide) (Int.le_refl 0) (WA.s hA rfl) rfl (by show 1 < 6; decide) rfl
theorem g_5_2 (hA : WA e z) : xgr (HS e C I z) (rf e 5 0) 5 2 = some (rf e 6 0) := H0.gr hA (by decide) (Int.le_refl 0) (WA.s hA rfl) rfl (by show 2 < 6; decide) rfl
theorem g_5_3 (hA : WA e z) : xgi (HS e C I z) (rf e 5 0) 5 3 = some (xk (C 5 0 3)) := H0.gi hA (by decide) (Int.le_refl 0) (WA.s hA rfl) rfl (by show 3 < 6; decide) rfl
theorem p_5_3 (hA : WA e z) {v : Int} : xpt (HS e C I z) (rf e 5 0) 5 3 (.inl (xk v)) = some (HS e (up C 5 0 3 v) I z) := (H0.pt hA (by decide) (Int.le_refl 0) (WA.s hA rfl) rfl (by show 3 < 6; decide) rfl).trans (congrArg (fun S => some (H0 e S z)) (mx_c rfl))
theorem g_5_4 (hA : WA e z) : xgi (HS e C I z) (rf e 5 0) 5 4 = some (xk (e.2.1 10)) := H0.gi hA (by decide) (Int.le_refl 0) (WA.s hA rfl) rfl (by show 4 < 6; decide) rfl
theorem g_5_5 (hA : WA e z) : xgi (HS e C I z) (rf e 5 0) 5 5 = some (xk (C 5 0 5)) := H0.gi hA (by decide) (Int.le_refl 0) (WA.s hA rfl) rfl (by show 5 < 6; decide) rfl
theorem p_5_5 (hA : WA e z) {v : Int} : xpt (HS e C I z) (rf e 5 0) 5 5 (.inl (xk v)) = some (HS e (up C 5 0 5 v) I z) := (H0.pt hA (by decide) (Int.le_refl 0) (WA.s hA rfl) rfl (by show 5 < 6; decide) rfl).trans (congrArg (fun S => some (H0 e S z)) (mx_c rfl))
theorem d_6 (hA : WA e z) {K : XR} : xgd (HS e C I z) (rf e 6 0) 6 K = K := H0.gd hA (by decide) (Int.le_refl 0) (WA.s hA rfl) rfl
theorem g_6_0 (hA : WA e z) : xgr (HS e C I z) (rf e 6 0) 6 0 = some (rf e 4 (C 6 0 0)) := H0.gr hA (by decide) (Int.le_refl 0) (WA.s hA rfl) rfl (by show 0 < 2; decide) rfl
theorem p_6_0 (hA : WA e z) {v : Int} : xpt (HS e C I z) (rf e 6 0) 6 0 (.inr (.inr (rf e 4 v))) = some (HS e (up C 6 0 0 v) I z) := (H0.pt hA (by decide) (Int.le_refl 0) (WA.s hA rfl) rfl (by show 0 < 2; decide) rfl).trans (congrArg (fun S => some (H0 e S z)) (mx_c rfl))
theorem g_6_1 (hA : WA e z) : xgi (HS e C I z) (rf e 6 0) 6 1 = some (xk (C 6 0 1)) := H0.gi hA (by decide) (Int.le_refl 0) (WA.s hA rfl) rfl (by show 1 < 2; decide) rfl
theorem p_6_1 (hA : WA e z) {v : Int} : xpt (HS e C I z) (rf e 6 0) 6 1 (.inl (xk v)) = some (HS e (up C 6 0 1 v) I z) := (H0.pt hA (by decide) (Int.le_refl 0) (WA.s hA rfl) rfl (by show 1 < 2; decide) rfl).trans (congrArg (fun S => some (H0 e S z)) (mx_c rfl))
theorem d_7 (hA : WA e z) {i : Int} (h0 : 0 ≤ i) (h1 : i < e.2.1 7) {K : XR} : xgd (HS e C I z) (rf e 7 i) 7 K = K := H0.gd hA (by decide) (h0) h1 rfl
theorem g_7_0 (hA : WA e z) {i : Int} (h0 : 0 ≤ i) (h1 : i < e.2.1 7) : xgi (HS e C I z) (rf e 7 i) 7 0 = some (xk i) := H0.gi hA (by decide) (h0) h1 rfl (by show 0 < 6; decide) rfl
theorem g_7_1 (hA : WA e z) {i : Int} (h0 : 0 ≤ i) (h1 : i < e.2.1 7) : xgr (HS e C I z) (rf e 7 i) 7 1 = some (rf e 7 (C 7 i 1)) := H0.gr hA (by decide) (h0) h1 rfl (by show 1 < 6; decide) rfl
theorem p_7_1 (hA : WA e z) {i : Int} (h0 : 0 ≤ i) (h1 : i < e.2.1 7) {v : Int} : xpt (HS e C I z) (rf e 7 i) 7 1 (.inr (.inr (rf e 7 v))) = some (HS e (up C 7 i 1 v) I z) := (H0.pt hA (by decide) (h0) h1 rfl (by show 1 < 6; decide) rfl).trans (congrArg (fun S => some (H0 e S z)) (mx_c rfl))
theorem g_7_2 (hA : WA e z) {i : Int} (h0 : 0 ≤ i) (h1 : i < e.2.1 7) : xgi (HS e C I z) (rf e 7 i) 7 2 = some (xk (C 7 i 2)) := H0.gi hA (by decide) (h0) h1 rfl (by show 2 < 6; decide) rfl
theorem p_7_2 (hA : WA e z) {i : Int} (h0 : 0 ≤ i) (h1 : i < e.2.1 7) {v : Int} : xpt (HS e C I z) (rf e 7 i) 7 2 (.inl (xk v)) = some (HS e (up C 7 i 2 v) I z) := (H0.pt hA (by decide) (h0) h1 rfl (by show 2 < 6; decide) rfl).trans (congrArg (fun S => some (H0 e S z)) (mx_c rfl))
theorem g_7_3 (hA : WA e z) {i : Int} (h0 : 0 ≤ i) (h1 : i < e.2.1 7) : xgr (HS e C I z) (rf e 7 i) 7 3 = some (rf e 15 i) := H0.gr hA (by decide) (h0) h1 rfl (by show 3 < 6; decide) rfl
theorem g_7_4 (hA : WA e z) {i : Int} (h0 : 0 ≤ i) (h1 : i < e.2.1 7) : xgr (HS e C I z) (rf e 7 i) 7 4 = some (rf e 8 (C 7 i 4)) := H0.gr hA (by decide) (h0) h1 rfl (by show 4 < 6; decide) rfl
theorem p_7_4 (hA : WA e z) {i : Int} (h0 : 0 ≤ i) (h1 : i < e.2.1 7) {v : Int} : xpt (HS e C I z) (rf e 7 i) 7 4 (.inr (.inr (rf e 8 v))) = some (HS e (up C 7 i 4 v) I z) := (H0.pt hA (by decide) (h0) h1 rfl (by show 4 < 6; decide) rfl).trans (congrArg (fun S => some (H0 e S z)) (mx_c rfl))
theorem g_7_5 (hA : WA e z) {i : Int} (h0 : 0 ≤ i) (h1 : i < e.2.1 7) : xgi (HS e C I z) (rf e 7 i) 7 5 = some (xk (C 7 i 5)) := H0.gi hA (by decide) (h0) h1 rfl (by show 5 < 6; decide) rfl
theorem p_7_5 (hA : WA e z) {i : Int} (h0 : 0 ≤ i) (h1 : i < e.2.1 7) {v : Int} : xpt (HS e C I z) (rf e 7 i) 7 5 (.inl (xk v)) = some (HS e (up C 7 i 5 v) I z) := (H0.pt hA (by decide) (h0) h1 rfl (by show 5 < 6; decide) rfl).trans (congrArg (fun S => some (H0 e S z)) (mx_c rfl))
theorem d_8 (hA : WA e z) {i : Int} (h0 : 0 ≤ i) (h1 : i < e.2.1 8) {K : XR} : xgd (HS e C I z) (rf e 8 i) 8 K = K := H0.gd hA (by decide) (h0) h1 rfl
theorem g_8_0 (hA : WA e z) {i : Int} (h0 : 0 ≤ i) (h1 : i < e.2.1 8) : xgi (HS e C I z) (rf e 8 i) 8 0 = some (xk i) := H0.gi hA (by decide) (h0) h1 rfl (by show 0 < 11; decide) rfl
theorem g_8_1 (hA : WA e z) {i : Int} (h0 : 0 ≤ i) (h1 : i < e.2.1 8) : xgr (HS e C I z) (rf e 8 i) 8 1 = some (rf e 7 (C 8 i 1)) := H0.gr hA (by decide) (h0) h1 rfl (by show 1 < 11; decide) rfl
theorem p_8_1 (hA : WA e z) {i : Int} (h0 : 0 ≤ i) (h1 : i < e.2.1 8) {v : Int} : xpt (HS e C I z) (rf e 8 i) 8 1 (.inr (.inr (rf e 7 v))) = some (HS e (up C 8 i 1 v) I z) := (H0.pt hA (by decide) (h0) h1 rfl (by show 1 < 11; decide) rfl).trans (congrArg (fun S => some (H0 e S z)) (mx_c rfl))
theorem g_8_2 (hA : WA e z) {i : Int} (h0 : 0 ≤ i) (h1 : i < e.2.1 8) : xgr (HS e C I z) (rf e 8 i) 8 2 = some (rf e 10 (C 8 i 2)) := H0.gr hA (by decide) (h0) h1 rfl (by show 2 < 11; decide) rfl
theorem p_8_2 (hA : WA e z) {i : Int} (h0 : 0 ≤ i) (h1 : i < e.2.1 8) {v : Int} : xpt (HS e C I z) (rf e 8 i) 8 2 (.inr (.inr (rf e 10 v))) = some (HS e (up C 8 i 2 v) I z) := (H0.pt hA (by decide) (h0) h1 rfl (by show 2 < 11; decide) rfl).trans (congrArg (fun S => some (H0 e S z)) (mx_c rfl))
theorem g_8_3 (hA : WA e z) {i : Int} (h0 : 0 ≤ i) (h1 : i < e.2.1 8) : xgr (HS e C I z) (rf e 8 i) 8 3 = some (rf e 8 (C 8 i 3)) := H0.gr hA (by decide) (h0) h1 rfl (by show 3 < 11; decide) rfl
theorem p_8_3 (hA : WA e z) {i : Int} (h0 : 0 ≤ i) (h1 : i < e.2.1 8) {v : Int} : xpt (HS e C I z) (rf e 8 i) 8 3 (.inr (.inr (rf e 8 v))) = some (HS e (up C 8 i 3 v) I z) := (H0.pt hA (by decide) (h0) h1 rfl (by show 3 < 11; decide) rfl).trans (congrArg (fun S => some (H0 e S z)) (mx_c rfl))
theorem g_8_4 (hA : WA e z) {i : Int} (h0 : 0 ≤ i) (h1 : i < e.2.1 8) : xgr (HS e C I z) (rf e 8 i) 8 4 = some (rf e 1 (C 8 i 4)) := H0.gr hA (by decide) (h0) h1 rfl (by show 4 < 11; decide) rfl
theorem p_8_4 (hA : WA e z) {i : Int} (h0 : 0 ≤ i) (h1 : i < e.2.1 8) {v : Int} : xpt (HS e C I z) (rf e 8 i) 8 4 (.inr (.inr (rf e 1 v))) = some (HS e (up C 8 i 4 v) I z) := (H0.pt hA (by decide) (h0) h1 rfl (by show 4 < 11; decide) rfl).trans (congrArg (fun S => some (H0 e S z)) (mx_c rfl))
theorem g_8_5 (hA : WA e z) {i : Int} (h0 : 0 ≤ i) (h1 : i < e.2.1 8) : xgi (HS e C I z) (rf e 8 i) 8 5 = some (xk (C 8 i 5)) := H0.gi hA (by decide) (h0) h1 rfl (by show 5 < 11; decide) rfl
theorem p_8_5 (hA : WA e z) {i : Int} (h0 : 0 ≤ i) (h1 : i < e.2.1 8) {v : Int} : xpt (HS e C I z) (rf e 8 i) 8 5 (.inl (xk v)) = some (HS e (up C 8 i 5 v) I z) := (H0.pt hA (by decide) (h0) h1 rfl (by show 5 < 11; decide) rfl).trans (congrArg (fun S => some (H0 e S z)) (mx_c rfl))
theorem g_8_6 (hA : WA e z) {i : Int} (h0 : 0 ≤ i) (h1 : i < e.2.1 8) : xgi (HS e C I z) (rf e 8 i) 8 6 = some (xk (C 8 i 6)) := H0.gi hA (by decide) (h0) h1 rfl (by show 6 < 11; decide) rfl
theorem p_8_6 (hA : WA e z) {i : Int} (h0 : 0 ≤ i) (h1 : i < e.2.1 8) {v : Int} : xpt (HS e C I z) (rf e 8 i) 8 6 (.inl (xk v)) = some (HS e (up C 8 i 6 v) I z) := (H0.pt hA (by decide) (h0) h1 rfl (by show 6 < 11; decide) rfl).trans (congrArg (fun S => some (H0 e S z)) (mx_c rfl))
theorem g_8_7 (hA : WA e z) {i : Int} (h0 : 0 ≤ i) (h1 : i < e.2.1 8) : xgi (HS e C I z) (rf e 8 i) 8 7 = some (xk (C 8 i 7)) := H0.gi hA (by decide) (h0) h1 rfl (by show 7 < 11; decide) rfl
theorem p_8_7 (hA : WA e z) {i : Int} (h0 : 0 ≤ i) (h1 : i < e.2.1 8) {v : Int} : xpt (HS e C I z) (rf e 8 i) 8 7 (.inl (xk v)) = some (HS e (up C 8 i 7 v) I z) := (H0.pt hA (by decide) (h0) h1 rfl (by show 7 < 11; decide) rfl).trans (congrArg (fun S => some (H0 e S z)) (mx_c rfl))
theorem g_8_8 (hA : WA e z) {i : Int} (h0 : 0 ≤ i) (h1 : i < e.2.1 8) : xgi (HS e C I z) (rf e 8 i) 8 8 = some (xk (C 8 i 8)) := H0.gi hA (by decide) (h0) h1 rfl (by show 8 < 11; decide) rfl
theorem p_8_8 (hA : WA e z) {i : Int} (h0 : 0 ≤ i) (h1 : i < e.2.1 8) {v : Int} : xpt (HS e C I z) (rf e 8 i) 8 8 (.inl (xk v)) = some (HS e (up C 8 i 8 v) I z) := (H0.pt hA (by decide) (h0) h1 rfl (by show 8 < 11; decide) rfl).trans (congrArg (fun S => some (H0 e S z)) (mx_c rfl))
theorem g_8_9 (hA : WA e z) {i : Int} (h0 : 0 ≤ i) (h1 : i < e.2.1 8) : xgi (HS e C I z) (rf e 8 i) 8 9 = some (xk (C 8 i 9)) := H0.gi hA (by decide) (h0) h1 rfl (by show 9 < 11; decide) rfl
theorem p_8_9 (hA : WA e z) {i : Int} (h0 : 0 ≤ i) (h1 : i < e.2.1 8) {v : Int} : xpt (HS e C I z) (rf e 8 i) 8 9 (.inl (xk v)) = some (HS e (up C 8 i 9 v) I z) := (H0.pt hA (by decide) (h0) h1 rfl (by show 9 < 11; decide) rfl).trans (congrArg (fun S => some (H0 e S z)) (mx_c rfl))
theorem g_8_10 (hA : WA e z) {i : Int} (h0 : 0 ≤ i) (h1 : i < e.2.1 8) : xgl (HS e C I z) (rf e 8 i) 8 10 = some (Int64.ofInt (C 8 i 10)) := H0.gl hA (by decide) (h0) h1 rfl (by show 10 < 11; decide) rfl
theorem p_8_10 (hA : WA e z) {i : Int} (h0 : 0 ≤ i) (h1 : i < e.2.1 8) {v : Int} : xpt (HS e C I z) (rf e 8 i) 8 10 (.inr (.inl (Int64.ofInt v))) = some (HS e (up C 8 i 10 v) I z) := (H0.pt hA (by decide) (h0) h1 rfl (by show 10 < 11; decide) rfl).trans (congrArg (fun S => some (H0 e S z)) (mx_c rfl))
theorem d_9 (hA : WA e z) {K : XR} : xgd (HS e C I z) (rf e 9 0) 9 K = K := H0.gd hA (by decide) (Int.le_refl 0) (WA.s hA rfl) rfl
theorem g_9_0 (hA : WA e z) : xgr (HS e C I z) (rf e 9 0) 9 0 = some (rf e 13 0) := H0.gr hA (by decide) (Int.le_refl 0) (WA.s hA rfl) rfl (by show 0 < 4; decide) rfl
theorem g_9_1 (hA : WA e z) : xgr (HS e C I z) (rf e 9 0) 9 1 = some (rf e 14 0) := H0.gr hA (by decide) (Int.le_refl 0) (WA.s hA rfl) rfl (by show 1 < 4; decide) rfl
theorem g_9_2 (hA : WA e z) : xgi (HS e C I z) (rf e 9 0) 9 2 = some (xk (e.2.1 8)) := H0.gi hA (by decide) (Int.le_refl 0) (WA.s hA rfl) rfl (by show 2 < 4; decide) rfl
theorem g_9_3 (hA : WA e z) : xgi (HS e C I z) (rf e 9 0) 9 3 = some (xk (e.2.1 7)) := H0.gi hA (by decide) (Int.le_refl 0) (WA.s hA rfl) rfl (by show 3 < 4; decide) rfl
theorem d_10 (hA : WA e z) {i : Int} (h0 : 0 ≤ i) (h1 : i < e.2.1 10) {K : XR} : xgd (HS e C I z) (rf e 10 i) 10 K = K := H0.gd hA (by decide) (h0) h1 rfl
theorem g_10_0 (hA : WA e z) {i : Int} (h0 : 0 ≤ i) (h1 : i < e.2.1 10) : xgi (HS e C I z) (rf e 10 i) 10 0 = some (xk i) := H0.gi hA (by decide) (h0) h1 rfl (by show 0 < 2; decide) rfl
theorem g_10_1 (hA : WA e z) {i : Int} (h0 : 0 ≤ i) (h1 : i < e.2.1 10) : xgr (HS e C I z) (rf e 10 i) 10 1 = some (rf e 4 (C 10 i 1)) := H0.gr hA (by decide) (h0) h1 rfl (by show 1 < 2; decide) rfl
theorem p_10_1 (hA : WA e z) {i : Int} (h0 : 0 ≤ i) (h1 : i < e.2.1 10) {v : Int} : xpt (HS e C I z) (rf e 10 i) 10 1 (.inr (.inr (rf e 4 v))) = some (HS e (up C 10 i 1 v) I z) := (H0.pt hA (by decide) (h0) h1 rfl (by show 1 < 2; decide) rfl).trans (congrArg (fun S => some (H0 e S z)) (mx_c rfl))
theorem d_11 (hA : WA e z) {K : XR} : xgd (HS e C I z) (rf e 11 0) 11 K = K := H0.gd hA (by decide) (Int.le_refl 0) (WA.s hA rfl) rfl
theorem g_11_0 (hA : WA e z) : xgr (HS e C I z) (rf e 11 0) 11 0 = some (rf e 2 0) := H0.gr hA (by decide) (Int.le_refl 0) (WA.s hA rfl) rfl (by show 0 < 5; decide) rfl
theorem g_11_1 (hA : WA e z) : xgr (HS e C I z) (rf e 11 0) 11 1 = some (rf e 9 0) := H0.gr hA (by decide) (Int.le_refl 0) (WA.s hA rfl) rfl (by show 1 < 5; decide) rfl
theorem g_11_2 (hA : WA e z) : xgr (HS e C I z) (rf e 11 0) 11 2 = some (rf e 3 0) := H0.gr hA (by decide) (Int.le_refl 0) (WA.s hA rfl) rfl (by show 2 < 5; decide) rfl
theorem g_11_3 (hA : WA e z) : xgr (HS e C I z) (rf e 11 0) 11 3 = some (rf e 0 0) := H0.gr hA (by decide) (Int.le_refl 0) (WA.s hA rfl) rfl (by show 3 < 5; decide) rfl
theorem g_11_4 (hA : WA e z) : xgr (HS e C I z) (rf e 11 0) 11 4 = some (rf e 5 0) := H0.gr hA (by decide) (Int.le_refl 0) (WA.s hA rfl) rfl (by show 4 < 5; decide) rfl
theorem d_12 (hA : WA e z) (hR : WR e) {K : XR} : xgd (HS e C I z) (rf e 12 0) 12 K = K := H0.gd hA (by decide) (Int.le_refl 0) (WR.s hR (by decide)) rfl
theorem g_12_0 (hA : WA e z) (hR : WR e) : xgi (HS e C I z) (rf e 12 0) 12 0 = some (xk (I 12 0 0)) := H0.gi hA (by decide) (Int.le_refl 0) (WR.s hR (by decide)) rfl (by show 0 < 41; decide) rfl
theorem p_12_0 (hA : WA e z) (hR : WR e) {v : Int} : xpt (HS e C I z) (rf e 12 0) 12 0 (.inl (xk v)) = some (HS e C (up I 12 0 0 v) z) := (H0.pt hA (by decide) (Int.le_refl 0) (WR.s hR (by decide)) rfl (by show 0 < 41; decide) rfl).trans (congrArg (fun S => some (H0 e S z)) (mx_i rfl))
theorem g_12_1 (hA : WA e z) (hR : WR e) : xgi (HS e C I z) (rf e 12 0) 12 1 = some (xk (I 12 0 1)) := H0.gi hA (by decide) (Int.le_refl 0) (WR.s hR (by decide)) rfl (by show 1 < 41; decide) rfl
theorem p_12_1 (hA : WA e z) (hR : WR e) {v : Int} : xpt (HS e C I z) (rf e 12 0) 12 1 (.inl (xk v)) = some (HS e C (up I 12 0 1 v) z) := (H0.pt hA (by decide) (Int.le_refl 0) (WR.s hR (by decide)) rfl (by show 1 < 41; decide) rfl).trans (congrArg (fun S => some (H0 e S z)) (mx_i rfl))
theorem g_12_2 (hA : WA e z) (hR : WR e) : xgr (HS e C I z) (rf e 12 0) 12 2 = some (rf e 22 0) := H0.gr hA (by decide) (Int.le_refl 0) (WR.s hR (by decide)) rfl (by show 2 < 41; decide) rfl
theorem g_12_3 (hA : WA e z) (hR : WR e) : xgr (HS e C I z) (rf e 12 0) 12 3 = some (rf e 23 0) := H0.gr hA (by decide) (Int.le_refl 0) (WR.s hR (by decide)) rfl (by show 3 < 41; decide) rfl
theorem g_12_4 (hA : WA e z) (hR : WR e) : xgr (HS e C I z) (rf e 12 0) 12 4 = some (rf e 24 0) := H0.gr hA (by decide) (Int.le_refl 0) (WR.s hR (by decide)) rfl (by show 4 < 41; decide) rfl
theorem g_12_5 (hA : WA e z) (hR : WR e) : xgr (HS e C I z) (rf e 12 0) 12 5 = some (rf e 25 0) := H0.gr hA (by decide) (Int.le_refl 0) (WR.s hR (by decide)) rfl (by show 5 < 41; decide) rfl
theorem g_12_6 (hA : WA e z) (hR : WR e) : xgr (HS e C I z) (rf e 12 0) 12 6 = some (rf e 26 0) := H0.gr hA (by decide) (Int.le_refl 0) (WR.s hR (by decide)) rfl (by show 6 < 41; decide) rfl
theorem g_12_7 (hA : WA e z) (hR : WR e) : xgr (HS e C I z) (rf e 12 0) 12 7 = some (rf e 27 0) := H0.gr hA (by decide) (Int.le_refl 0) (WR.s hR (by decide)) rfl (by show 7 < 41; decide) rfl
theorem g_12_8 (hA : WA e z) (hR : WR e) : xgr (HS e C I z) (rf e 12 0) 12 8 = some (rf e 28 0) := H0.gr hA (by decide) (Int.le_refl 0) (WR.s hR (by decide)) rfl (by show 8 < 41; decide) rfl
theorem g_12_9 (hA : WA e z) (hR : WR e) : xgr (HS e C I z) (rf e 12 0) 12 9 = some (rf e 29 0) := H0.gr hA (by decide) (Int.le_refl 0) (WR.s hR (by decide)) rfl (by show 9 < 41; decide) rfl
theorem g_12_10 (hA : WA e z) (hR : WR e) : xgr (HS e C I z) (rf e 12 0) 12 10 = some (rf e 30 0) := H0.gr hA (by decide) (Int.le_refl 0) (WR.s hR (by decide)) rfl (by show 10 < 41; decide) rfl
theorem g_12_11 (hA : WA e z) (hR : WR e) : xgr (HS e C I z) (rf e 12 0) 12 11 = some (rf e 31 0) := H0.gr hA (by decide) (Int.le_refl 0) (WR.s hR (by decide)) rfl (by show 11 < 41; decide) rfl
theorem g_12_12 (hA : WA e z) (hR : WR e) : xgr (HS e C I z) (rf e 12 0) 12 12 = some (rf e 32 0) := H0.gr hA (by decide) (Int.le_refl 0) (WR.s hR (by decide)) rfl (by show 12 < 41; decide) rfl
theorem g_12_13 (hA : WA e z) (hR : WR e) : xgi (HS e C I z) (rf e 12 0) 12 13 = some (xk (I 12 0 13)) := H0.gi hA (by decide) (Int.le_refl 0) (WR.s hR (by decide)) rfl (by show 13 < 41; decide) rfl
theorem p_12_13 (hA : WA e z) (hR : WR e) {v : Int} : xpt (HS e C I z) (rf e 12 0) 12 13 (.inl (xk v)) = some (HS e C (up I 12 0 13 v) z) := (H0.pt hA (by decide) (Int.le_refl 0) (WR.s hR (by decide)) rfl (by show 13 < 41; decide) rfl).trans (congrArg (fun S => some (H0 e S z)) (mx_i rfl))
theorem g_12_14 (hA : WA e z) (hR : WR e) : xgr (HS e C I z) (rf e 12 0) 12 14 = some (rf e 34 0) := H0.gr hA (by decide) (Int.le_refl 0) (WR.s hR (by decide)) rfl (by show 14 < 41; decide) rfl
theorem g_12_15 (hA : WA e z) (hR : WR e) : xgr (HS e C I z) (rf e 12 0) 12 15 = some (rf e 35 0) := H0.gr hA (by decide) (Int.le_refl 0) (WR.s hR (by decide)) rfl (by show 15 < 41; decide) rfl
theorem g_12_16 (hA : WA e z) (hR : WR e) : xgr (HS e C I z) (rf e 12 0) 12 16 = some (rf e 36 0) := H0.gr hA (by decide) (Int.le_refl 0) (WR.s hR (by decide)) rfl (by show 16 < 41; decide) rfl
theorem g_12_17 (hA : WA e z) (hR : WR e) : xgi (HS e C I z) (rf e 12 0) 12 17 = some (xk (I 12 0 17)) := H0.gi hA (by decide) (Int.le_refl 0) (WR.s hR (by decide)) rfl (by show 17 < 41; decide) rfl
theorem p_12_17 (hA : WA e z) (hR : WR e) {v : Int} : xpt (HS e C I z) (rf e 12 0) 12 17 (.inl (xk v)) = some (HS e C (up I 12 0 17 v) z) := (H0.pt hA (by decide) (Int.le_refl 0) (WR.s hR (by decide)) rfl (by show 17 < 41; decide) rfl).trans (congrArg (fun S => some (H0 e S z)) (mx_i rfl))
theorem g_12_18 (hA : WA e z) (hR : WR e) : xgr (HS e C I z) (rf e 12 0) 12 18 = some (rf e 38 0) := H0.gr hA (by decide) (Int.le_refl 0) (WR.s hR (by decide)) rfl (by show 18 < 41; decide) rfl
theorem g_12_19 (hA : WA e z) (hR : WR e) : xgr (HS e C I z) (rf e 12 0) 12 19 = some (rf e 39 0) := H0.gr hA (by decide) (Int.le_refl 0) (WR.s hR (by decide)) rfl (by show 19 < 41; decide) rfl
theorem g_12_20 (hA : WA e z) (hR : WR e) : xgr (HS e C I z) (rf e 12 0) 12 20 = some (rf e 40 0) := H0.gr hA (by decide) (Int.le_refl 0) (WR.s hR (by decide)) rfl (by show 20 < 41; decide) rfl
theorem g_12_21 (hA : WA e z) (hR : WR e) : xgr (HS e C I z) (rf e 12 0) 12 21 = some (rf e 41 0) := H0.gr hA (by decide) (Int.le_refl 0) (WR.s hR (by decide)) rfl (by show 21 < 41; decide) rfl
theorem g_12_22 (hA : WA e z) (hR : WR e) : xgr (HS e C I z) (rf e 12 0) 12 22 = some (rf e 42 0) := H0.gr hA (by decide) (Int.le_refl 0) (WR.s hR (by decide)) rfl (by show 22 < 41; decide) rfl
theorem g_12_23 (hA : WA e z) (hR : WR e) : xgr (HS e C I z) (rf e 12 0) 12 23 = some (rf e 43 0) := H0.gr hA (by decide) (Int.le_refl 0) (WR.s hR (by decide)) rfl (by show 23 < 41; decide) rfl
theorem g_12_24 (hA : WA e z) (hR : WR e) : xgr (HS e C I z) (rf e 12 0) 12 24 = some (rf e 44 0) := H0.gr hA (by decide) (Int.le_refl 0) (WR.s hR (by decide)) rfl (by show 24 < 41; decide) rfl
theorem g_12_25 (hA : WA e z) (hR : WR e) : xgr (HS e C I z) (rf e 12 0) 12 25 = some (rf e 45 0) := H0.gr hA (by decide) (Int.le_refl 0) (WR.s hR (by decide)) rfl (by show 25 < 41; decide) rfl
theorem g_12_26 (hA : WA e z) (hR : WR e) : xgi (HS e C I z) (rf e 12 0) 12 26 = some (xk (I 12 0 26)) := H0.gi hA (by decide) (Int.le_refl 0) (WR.s hR (by decide)) rfl (by show 26 < 41; decide) rfl
theorem p_12_26 (hA : WA e z) (hR : WR e) {v : Int} : xpt (HS e C I z) (rf e 12 0) 12 26 (.inl (xk v)) = some (HS e C (up I 12 0 26 v) z) := (H0.pt hA (by decide) (Int.le_refl 0) (WR.s hR (by decide)) rfl (by show 26 < 41; decide) rfl).trans (congrArg (fun S => some (H0 e S z)) (mx_i rfl))
theorem g_12_27 (hA : WA e z) (hR : WR e) : xgi (HS e C I z) (rf e 12 0) 12 27 = some (xk (I 12 0 27)) := H0.gi hA (by decide) (Int.le_refl 0) (WR.s hR (by decide)) rfl (by show 27 < 41; decide) rfl
theorem p_12_27 (hA : WA e z) (hR : WR e) {v : Int} : xpt (HS e C I z) (rf e 12 0) 12 27 (.inl (xk v)) = some (HS e C (up I 12 0 27 v) z) := (H0.pt hA (by decide) (Int.le_refl 0) (WR.s hR (by decide)) rfl (by show 27 < 41; decide) rfl).trans (congrArg (fun S => some (H0 e S z)) (mx_i rfl))
theorem g_12_28 (hA : WA e z) (hR : WR e) : xgi (HS e C I z) (rf e 12 0) 12 28 = some (xk (I 12 0 28)) := H0.gi hA (by decide) (Int.le_refl 0) (WR.s hR (by decide)) rfl (by show 28 < 41; decide) rfl
theorem p_12_28 (hA : WA e z) (hR : WR e) {v : Int} : xpt (HS e C I z) (rf e 12 0) 12 28 (.inl (xk v)) = some (HS e C (up I 12 0 28 v) z) := (H0.pt hA (by decide) (Int.le_refl 0) (WR.s hR (by decide)) rfl (by show 28 < 41; decide) rfl).trans (congrArg (fun S => some (H0 e S z)) (mx_i rfl))
theorem g_12_29 (hA : WA e z) (hR : WR e) : xgr (HS e C I z) (rf e 12 0) 12 29 = some (rf e 49 0) := H0.gr hA (by decide) (Int.le_refl 0) (WR.s hR (by decide)) rfl (by show 29 < 41; decide) rfl
theorem g_12_30 (hA : WA e z) (hR : WR e) : xgr (HS e C I z) (rf e 12 0) 12 30 = some (rf e 50 0) := H0.gr hA (by decide) (Int.le_refl 0) (WR.s hR (by decide)) rfl (by show 30 < 41; decide) rfl
theorem g_12_31 (hA : WA e z) (hR : WR e) : xgr (HS e C I z) (rf e 12 0) 12 31 = some (rf e 51 0) := H0.gr hA (by decide) (Int.le_refl 0) (WR.s hR (by decide)) rfl (by show 31 < 41; decide) rfl
theorem g_12_32 (hA : WA e z) (hR : WR e) : xgr (HS e C I z) (rf e 12 0) 12 32 = some (rf e 52 0) := H0.gr hA (by decide) (Int.le_refl 0) (WR.s hR (by decide)) rfl (by show 32 < 41; decide) rfl
theorem g_12_33 (hA : WA e z) (hR : WR e) : xgr (HS e C I z) (rf e 12 0) 12 33 = some (rf e 53 0) := H0.gr hA (by decide) (Int.le_refl 0) (WR.s hR (by decide)) rfl (by show 33 < 41; decide) rfl
theorem g_12_34 (hA : WA e z) (hR : WR e) : xgr (HS e C I z) (rf e 12 0) 12 34 = some (rf e 54 0) := H0.gr hA (by decide) (Int.le_refl 0) (WR.s hR (by decide)) rfl (by show 34 < 41; decide) rfl
theorem g_12_35 (hA : WA e z) (hR : WR e) : xgr (HS e C I z) (rf e 12 0) 12 35 = some (rf e 55 0) := H0.gr hA (by decide) (Int.le_refl 0) (WR.s hR (by decide)) rfl (by show 35 < 41; decide) rfl
theorem g_12_36 (hA : WA e z) (hR : WR e) : xgi (HS e C I z) (rf e 12 0) 12 36 = some (xk (I 12 0 36)) := H0.gi hA (by decide) (Int.le_refl 0) (WR.s hR (by decide)) rfl (by show 36 < 41; decide) rfl
theorem p_12_36 (hA : WA e z) (hR : WR e) {v : Int} : xpt (HS e C I z) (rf e 12 0) 12 36 (.inl (xk v)) = some (HS e C (up I 12 0 36 v) z) := (H0.pt hA (by decide) (Int.le_refl 0) (WR.s hR (by decide)) rfl (by show 36 < 41; decide) rfl).trans (congrArg (fun S => some (H0 e S z)) (mx_i rfl))
theorem g_12_37 (hA : WA e z) (hR : WR e) : xgi (HS e C I z) (rf e 12 0) 12 37 = some (xk (I 12 0 37)) := H0.gi hA (by decide) (Int.le_refl 0) (WR.s hR (by decide)) rfl (by show 37 < 41; decide) rfl
theorem p_12_37 (hA : WA e z) (hR : WR e) {v : Int} : xpt (HS e C I z) (rf e 12 0) 12 37 (.inl (xk v)) = some (HS e C (up I 12 0 37 v) z) := (H0.pt hA (by decide) (Int.le_refl 0) (WR.s hR (by decide)) rfl (by show 37 < 41; decide) rfl).trans (congrArg (fun S => some (H0 e S z)) (mx_i rfl))
theorem g_12_38 (hA : WA e z) (hR : WR e) : xgi (HS e C I z) (rf e 12 0) 12 38 = some (xk (I 12 0 38)) := H0.gi hA (by decide) (Int.le_refl 0) (WR.s hR (by decide)) rfl (by show 38 < 41; decide) rfl
theorem p_12_38 (hA : WA e z) (hR : WR e) {v : Int} : xpt (HS e C I z) (rf e 12 0) 12 38 (.inl (xk v)) = some (HS e C (up I 12 0 38 v) z) := (H0.pt hA (by decide) (Int.le_refl 0) (WR.s hR (by decide)) rfl (by show 38 < 41; decide) rfl).trans (congrArg (fun S => some (H0 e S z)) (mx_i rfl))
theorem g_12_39 (hA : WA e z) (hR : WR e) : xgr (HS e C I z) (rf e 12 0) 12 39 = some (rf e 59 0) := H0.gr hA (by decide) (Int.le_refl 0) (WR.s hR (by decide)) rfl (by show 39 < 41; decide) rfl
theorem g_12_40 (hA : WA e z) (hR : WR e) : xgr (HS e C I z) (rf e 12 0) 12 40 = some (rf e 60 0) := H0.gr hA (by decide) (Int.le_refl 0) (WR.s hR (by decide)) rfl (by show 40 < 41; decide) rfl
theorem a_13 (hA : WA e z) {a : Int} (a0 : 0 ≤ a) (a1 : a < 150) : xar (HS e C I z) (rf e 13 0) (xk a) = some (rf e 8 (if a < e.2.1 8 then a else -1)) := by
  unfold xar HS
  rw [H0.at hA (by decide) (Int.le_refl 0) (WA.s hA rfl) a0 (by show a < ((150 : Nat) : Int); exact a1) (by show 150 ≤ 2147483647; decide), show ky 13 a.toNat = 608 from rfl, cv6 (k := 8) rfl (by decide)]
  rfl
theorem b_13 (hA : WA e z) {a : Int} (a0 : 0 ≤ a) (a2 : a < e.2.1 8) (a1 : a < 150) : xar (HS e C I z) (rf e 13 0) (xk a) = some (rf e 8 a) := by
  rw [a_13 hA a0 a1, if_pos a2]
theorem a_14 (hA : WA e z) {a : Int} (a0 : 0 ≤ a) (a1 : a < 20) : xar (HS e C I z) (rf e 14 0) (xk a) = some (rf e 7 (if a < e.2.1 7 then a else -1)) := by
  unfold xar HS
  rw [H0.at hA (by decide) (Int.le_refl 0) (WA.s hA rfl) a0 (by show a < ((20 : Nat) : Int); exact a1) (by show 20 ≤ 2147483647; decide), show ky 14 a.toNat = 607 from rfl, cv6 (k := 7) rfl (by decide)]
  rfl
theorem b_14 (hA : WA e z) {a : Int} (a0 : 0 ≤ a) (a2 : a < e.2.1 7) (a1 : a < 20) : xar (HS e C I z) (rf e 14 0) (xk a) = some (rf e 7 a) := by
  rw [a_14 hA a0 a1, if_pos a2]
theorem a_15 (hA : WA e z) {i : Int} (h0 : 0 ≤ i) (h1 : i < e.2.1 15) {a : Int} (a0 : 0 ≤ a) (a1 : a < 41) : xar (HS e C I z) (rf e 15 i) (xk a) = some (rf e 8 (C 15 i a)) := by
  unfold xar HS
  rw [H0.at hA (by decide) (h0) h1 a0 (by show a < ((41 : Nat) : Int); exact a1) (by show 41 ≤ 2147483647; decide)]
  rfl
theorem a_16 (hA : WA e z) {a : Int} (a0 : 0 ≤ a) (a1 : a < 20) : xar (HS e C I z) (rf e 16 0) (xk a) = some (rf e 1 (if a < e.2.1 1 then a else -1)) := by
  unfold xar HS
  rw [H0.at hA (by decide) (Int.le_refl 0) (WA.s hA rfl) a0 (by show a < ((20 : Nat) : Int); exact a1) (by show 20 ≤ 2147483647; decide), show ky 16 a.toNat = 601 from rfl, cv6 (k := 1) rfl (by decide)]
  rfl
theorem b_16 (hA : WA e z) {a : Int} (a0 : 0 ≤ a) (a2 : a < e.2.1 1) (a1 : a < 20) : xar (HS e C I z) (rf e 16 0) (xk a) = some (rf e 1 a) := by
  rw [a_16 hA a0 a1, if_pos a2]
theorem a_17 (hA : WA e z) {i : Int} (h0 : 0 ≤ i) (h1 : i < e.2.1 17) {a : Int} (a0 : 0 ≤ a) (a1 : a < 15) : xar (HS e C I z) (rf e 17 i) (xk a) = some (rf e 4 (C 17 i a)) := by
  unfold xar HS
  rw [H0.at hA (by decide) (h0) h1 a0 (by show a < ((15 : Nat) : Int); exact a1) (by show 15 ≤ 2147483647; decide)]
  rfl
theorem a_18 (hA : WA e z) {a : Int} (a0 : 0 ≤ a) (a1 : a < 80) : xar (HS e C I z) (rf e 18 0) (xk a) = some (rf e 4 (if a < e.2.1 4 then a else -1)) := by
  unfold xar HS
  rw [H0.at hA (by decide) (Int.le_refl 0) (WA.s hA rfl) a0 (by show a < ((80 : Nat) : Int); exact a1) (by show 80 ≤ 2147483647; decide), show ky 18 a.toNat = 604 from rfl, cv6 (k := 4) rfl (by decide)]
  rfl
theorem b_18 (hA : WA e z) {a : Int} (a0 : 0 ≤ a) (a2 : a < e.2.1 4) (a1 : a < 80) : xar (HS e C I z) (rf e 18 0) (xk a) = some (rf e 4 a) := by
  rw [a_18 hA a0 a1, if_pos a2]
theorem a_19 (hA : WA e z) {a : Int} (a0 : 0 ≤ a) (a1 : a < 10) : xar (HS e C I z) (rf e 19 0) (xk a) = some (rf e 10 (if a < e.2.1 10 then a else -1)) := by
  unfold xar HS
  rw [H0.at hA (by decide) (Int.le_refl 0) (WA.s hA rfl) a0 (by show a < ((10 : Nat) : Int); exact a1) (by show 10 ≤ 2147483647; decide), show ky 19 a.toNat = 610 from rfl, cv6 (k := 10) rfl (by decide)]
  rfl
theorem b_19 (hA : WA e z) {a : Int} (a0 : 0 ≤ a) (a2 : a < e.2.1 10) (a1 : a < 10) : xar (HS e C I z) (rf e 19 0) (xk a) = some (rf e 10 a) := by
  rw [a_19 hA a0 a1, if_pos a2]
theorem a_22 (hA : WA e z) (hR : WR e) {a : Int} (a0 : 0 ≤ a) (a1 : a < 150) : xai (HS e C I z) (rf e 22 0) (xk a) = some (xk (I 22 0 a)) := by
  unfold xai HS
  rw [H0.at hA (by decide) (Int.le_refl 0) (WR.s hR (by decide)) a0 (by show a < ((150 : Nat) : Int); exact a1) (by show 150 ≤ 2147483647; decide)]
  rfl
theorem s_22 (hA : WA e z) (hR : WR e) {a v : Int} (a0 : 0 ≤ a) (a1 : a < 150) : xsi (HS e C I z) (rf e 22 0) (xk a) (xk v) = some (HS e C (up I 22 0 a v) z) := (H0.sa hA (by decide) (Int.le_refl 0) (WR.s hR (by decide)) a0 (by show a < ((150 : Nat) : Int); exact a1) (by show 150 ≤ 2147483647; decide) rfl rfl).trans (congrArg (fun S => some (H0 e S z)) (mx_i rfl))
theorem a_23 (hA : WA e z) (hR : WR e) {a : Int} (a0 : 0 ≤ a) (a1 : a < 150) : xai (HS e C I z) (rf e 23 0) (xk a) = some (xk (I 23 0 a)) := by
  unfold xai HS
  rw [H0.at hA (by decide) (Int.le_refl 0) (WR.s hR (by decide)) a0 (by show a < ((150 : Nat) : Int); exact a1) (by show 150 ≤ 2147483647; decide)]
  rfl
theorem s_23 (hA : WA e z) (hR : WR e) {a v : Int} (a0 : 0 ≤ a) (a1 : a < 150) : xsi (HS e C I z) (rf e 23 0) (xk a) (xk v) = some (HS e C (up I 23 0 a v) z) := (H0.sa hA (by decide) (Int.le_refl 0) (WR.s hR (by decide)) a0 (by show a < ((150 : Nat) : Int); exact a1) (by show 150 ≤ 2147483647; decide) rfl rfl).trans (congrArg (fun S => some (H0 e S z)) (mx_i rfl))
theorem a_24 (hA : WA e z) (hR : WR e) {a : Int} (a0 : 0 ≤ a) (a1 : a < 150) : xai (HS e C I z) (rf e 24 0) (xk a) = some (xk (I 24 0 a)) := by
  unfold xai HS
  rw [H0.at hA (by decide) (Int.le_refl 0) (WR.s hR (by decide)) a0 (by show a < ((150 : Nat) : Int); exact a1) (by show 150 ≤ 2147483647; decide)]
  rfl
theorem s_24 (hA : WA e z) (hR : WR e) {a v : Int} (a0 : 0 ≤ a) (a1 : a < 150) : xsi (HS e C I z) (rf e 24 0) (xk a) (xk v) = some (HS e C (up I 24 0 a v) z) := (H0.sa hA (by decide) (Int.le_refl 0) (WR.s hR (by decide)) a0 (by show a < ((150 : Nat) : Int); exact a1) (by show 150 ≤ 2147483647; decide) rfl rfl).trans (congrArg (fun S => some (H0 e S z)) (mx_i rfl))
theorem a_25 (hA : WA e z) (hR : WR e) {a : Int} (a0 : 0 ≤ a) (a1 : a < 150) : xai (HS e C I z) (rf e 25 0) (xk a) = some (xk (I 25 0 a)) := by
  unfold xai HS
  rw [H0.at hA (by decide) (Int.le_refl 0) (WR.s hR (by decide)) a0 (by show a < ((150 : Nat) : Int); exact a1) (by show 150 ≤ 2147483647; decide)]
  rfl
theorem s_25 (hA : WA e z) (hR : WR e) {a v : Int} (a0 : 0 ≤ a) (a1 : a < 150) : xsi (HS e C I z) (rf e 25 0) (xk a) (xk v) = some (HS e C (up I 25 0 a v) z) := (H0.sa hA (by decide) (Int.le_refl 0) (WR.s hR (by decide)) a0 (by show a < ((150 : Nat) : Int); exact a1) (by show 150 ≤ 2147483647; decide) rfl rfl).trans (congrArg (fun S => some (H0 e S z)) (mx_i rfl))
theorem a_26 (hA : WA e z) (hR : WR e) {a : Int} (a0 : 0 ≤ a) (a1 : a < 150) : xai (HS e C I z) (rf e 26 0) (xk a) = some (xk (I 26 0 a)) := by
  unfold xai HS
  rw [H0.at hA (by decide) (Int.le_refl 0) (WR.s hR (by decide)) a0 (by show a < ((150 : Nat) : Int); exact a1) (by show 150 ≤ 2147483647; decide)]
  rfl
theorem s_26 (hA : WA e z) (hR : WR e) {a v : Int} (a0 : 0 ≤ a) (a1 : a < 150) : xsi (HS e C I z) (rf e 26 0) (xk a) (xk v) = some (HS e C (up I 26 0 a v) z) := (H0.sa hA (by decide) (Int.le_refl 0) (WR.s hR (by decide)) a0 (by show a < ((150 : Nat) : Int); exact a1) (by show 150 ≤ 2147483647; decide) rfl rfl).trans (congrArg (fun S => some (H0 e S z)) (mx_i rfl))
theorem a_27 (hA : WA e z) (hR : WR e) {a : Int} (a0 : 0 ≤ a) (a1 : a < 150) : xai (HS e C I z) (rf e 27 0) (xk a) = some (xk (I 27 0 a)) := by
  unfold xai HS
  rw [H0.at hA (by decide) (Int.le_refl 0) (WR.s hR (by decide)) a0 (by show a < ((150 : Nat) : Int); exact a1) (by show 150 ≤ 2147483647; decide)]
  rfl
theorem s_27 (hA : WA e z) (hR : WR e) {a v : Int} (a0 : 0 ≤ a) (a1 : a < 150) : xsi (HS e C I z) (rf e 27 0) (xk a) (xk v) = some (HS e C (up I 27 0 a v) z) := (H0.sa hA (by decide) (Int.le_refl 0) (WR.s hR (by decide)) a0 (by show a < ((150 : Nat) : Int); exact a1) (by show 150 ≤ 2147483647; decide) rfl rfl).trans (congrArg (fun S => some (H0 e S z)) (mx_i rfl))
theorem a_28 (hA : WA e z) (hR : WR e) {a : Int} (a0 : 0 ≤ a) (a1 : a < 150) : xai (HS e C I z) (rf e 28 0) (xk a) = some (xk (I 28 0 a)) := by
  unfold xai HS
  rw [H0.at hA (by decide) (Int.le_refl 0) (WR.s hR (by decide)) a0 (by show a < ((150 : Nat) : Int); exact a1) (by show 150 ≤ 2147483647; decide)]
  rfl
theorem s_28 (hA : WA e z) (hR : WR e) {a v : Int} (a0 : 0 ≤ a) (a1 : a < 150) : xsi (HS e C I z) (rf e 28 0) (xk a) (xk v) = some (HS e C (up I 28 0 a v) z) := (H0.sa hA (by decide) (Int.le_refl 0) (WR.s hR (by decide)) a0 (by show a < ((150 : Nat) : Int); exact a1) (by show 150 ≤ 2147483647; decide) rfl rfl).trans (congrArg (fun S => some (H0 e S z)) (mx_i rfl))
theorem a_29 (hA : WA e z) (hR : WR e) {a : Int} (a0 : 0 ≤ a) (a1 : a < 150) : xaz (HS e C I z) (rf e 29 0) (xk a) = some (xk (I 29 0 a)) := by
  unfold xaz HS
  rw [H0.at hA (by decide) (Int.le_refl 0) (WR.s hR (by decide)) a0 (by show a < ((150 : Nat) : Int); exact a1) (by show 150 ≤ 2147483647; decide)]
  rfl
theorem s_29 (hA : WA e z) (hR : WR e) {a v : Int} (a0 : 0 ≤ a) (a1 : a < 150) (hv : v = 0 ∨ v = 1) : xsz (HS e C I z) (rf e 29 0) (xk a) (xk v) = some (HS e C (up I 29 0 a v) z) := by
  unfold xsz
  rw [if_pos (by rcases hv with rfl | rfl; exact Or.inl xk_zero; exact Or.inr xk_one)]
  exact (H0.sa hA (by decide) (Int.le_refl 0) (WR.s hR (by decide)) a0 (by show a < ((150 : Nat) : Int); exact a1) (by show 150 ≤ 2147483647; decide) rfl rfl).trans (congrArg (fun S => some (H0 e S z)) (mx_i rfl))
theorem a_30 (hA : WA e z) (hR : WR e) {a : Int} (a0 : 0 ≤ a) (a1 : a < 150) : xal (HS e C I z) (rf e 30 0) (xk a) = some (Int64.ofInt (I 30 0 a)) := by
  unfold xal HS
  rw [H0.at hA (by decide) (Int.le_refl 0) (WR.s hR (by decide)) a0 (by show a < ((150 : Nat) : Int); exact a1) (by show 150 ≤ 2147483647; decide)]
  rfl
theorem s_30 (hA : WA e z) (hR : WR e) {a v : Int} (a0 : 0 ≤ a) (a1 : a < 150) : xsl (HS e C I z) (rf e 30 0) (xk a) (Int64.ofInt v) = some (HS e C (up I 30 0 a v) z) := (H0.sa hA (by decide) (Int.le_refl 0) (WR.s hR (by decide)) a0 (by show a < ((150 : Nat) : Int); exact a1) (by show 150 ≤ 2147483647; decide) rfl rfl).trans (congrArg (fun S => some (H0 e S z)) (mx_i rfl))
theorem a_31 (hA : WA e z) (hR : WR e) {a : Int} (a0 : 0 ≤ a) (a1 : a < 150) : xai (HS e C I z) (rf e 31 0) (xk a) = some (xk (I 31 0 a)) := by
  unfold xai HS
  rw [H0.at hA (by decide) (Int.le_refl 0) (WR.s hR (by decide)) a0 (by show a < ((150 : Nat) : Int); exact a1) (by show 150 ≤ 2147483647; decide)]
  rfl
theorem s_31 (hA : WA e z) (hR : WR e) {a v : Int} (a0 : 0 ≤ a) (a1 : a < 150) : xsi (HS e C I z) (rf e 31 0) (xk a) (xk v) = some (HS e C (up I 31 0 a v) z) := (H0.sa hA (by decide) (Int.le_refl 0) (WR.s hR (by decide)) a0 (by show a < ((150 : Nat) : Int); exact a1) (by show 150 ≤ 2147483647; decide) rfl rfl).trans (congrArg (fun S => some (H0 e S z)) (mx_i rfl))
theorem a_32 (hA : WA e z) (hR : WR e) {a : Int} (a0 : 0 ≤ a) (a1 : a < 3000) : xai (HS e C I z) (rf e 32 0) (xk a) = some (xk (I 32 0 a)) := by
  unfold xai HS
  rw [H0.at hA (by decide) (Int.le_refl 0) (WR.s hR (by decide)) a0 (by show a < ((3000 : Nat) : Int); exact a1) (by show 3000 ≤ 2147483647; decide)]
  rfl
theorem s_32 (hA : WA e z) (hR : WR e) {a v : Int} (a0 : 0 ≤ a) (a1 : a < 3000) : xsi (HS e C I z) (rf e 32 0) (xk a) (xk v) = some (HS e C (up I 32 0 a v) z) := (H0.sa hA (by decide) (Int.le_refl 0) (WR.s hR (by decide)) a0 (by show a < ((3000 : Nat) : Int); exact a1) (by show 3000 ≤ 2147483647; decide) rfl rfl).trans (congrArg (fun S => some (H0 e S z)) (mx_i rfl))
theorem a_34 (hA : WA e z) (hR : WR e) {a : Int} (a0 : 0 ≤ a) (a1 : a < 20) : xai (HS e C I z) (rf e 34 0) (xk a) = some (xk (I 34 0 a)) := by
  unfold xai HS
  rw [H0.at hA (by decide) (Int.le_refl 0) (WR.s hR (by decide)) a0 (by show a < ((20 : Nat) : Int); exact a1) (by show 20 ≤ 2147483647; decide)]
  rfl
theorem s_34 (hA : WA e z) (hR : WR e) {a v : Int} (a0 : 0 ≤ a) (a1 : a < 20) : xsi (HS e C I z) (rf e 34 0) (xk a) (xk v) = some (HS e C (up I 34 0 a v) z) := (H0.sa hA (by decide) (Int.le_refl 0) (WR.s hR (by decide)) a0 (by show a < ((20 : Nat) : Int); exact a1) (by show 20 ≤ 2147483647; decide) rfl rfl).trans (congrArg (fun S => some (H0 e S z)) (mx_i rfl))
theorem a_35 (hA : WA e z) (hR : WR e) {a : Int} (a0 : 0 ≤ a) (a1 : a < 20) : xai (HS e C I z) (rf e 35 0) (xk a) = some (xk (I 35 0 a)) := by
  unfold xai HS
  rw [H0.at hA (by decide) (Int.le_refl 0) (WR.s hR (by decide)) a0 (by show a < ((20 : Nat) : Int); exact a1) (by show 20 ≤ 2147483647; decide)]
  rfl
theorem s_35 (hA : WA e z) (hR : WR e) {a v : Int} (a0 : 0 ≤ a) (a1 : a < 20) : xsi (HS e C I z) (rf e 35 0) (xk a) (xk v) = some (HS e C (up I 35 0 a v) z) := (H0.sa hA (by decide) (Int.le_refl 0) (WR.s hR (by decide)) a0 (by show a < ((20 : Nat) : Int); exact a1) (by show 20 ≤ 2147483647; decide) rfl rfl).trans (congrArg (fun S => some (H0 e S z)) (mx_i rfl))
theorem a_36 (hA : WA e z) (hR : WR e) {a : Int} (a0 : 0 ≤ a) (a1 : a < 20) : xai (HS e C I z) (rf e 36 0) (xk a) = some (xk (I 36 0 a)) := by
  unfold xai HS
  rw [H0.at hA (by decide) (Int.le_refl 0) (WR.s hR (by decide)) a0 (by show a < ((20 : Nat) : Int); exact a1) (by show 20 ≤ 2147483647; decide)]
  rfl
theorem s_36 (hA : WA e z) (hR : WR e) {a v : Int} (a0 : 0 ≤ a) (a1 : a < 20) : xsi (HS e C I z) (rf e 36 0) (xk a) (xk v) = some (HS e C (up I 36 0 a v) z) := (H0.sa hA (by decide) (Int.le_refl 0) (WR.s hR (by decide)) a0 (by show a < ((20 : Nat) : Int); exact a1) (by show 20 ≤ 2147483647; decide) rfl rfl).trans (congrArg (fun S => some (H0 e S z)) (mx_i rfl))
theorem a_38 (hA : WA e z) (hR : WR e) {a : Int} (a0 : 0 ≤ a) (a1 : a < 20) : xai (HS e C I z) (rf e 38 0) (xk a) = some (xk (I 38 0 a)) := by
  unfold xai HS
  rw [H0.at hA (by decide) (Int.le_refl 0) (WR.s hR (by decide)) a0 (by show a < ((20 : Nat) : Int); exact a1) (by show 20 ≤ 2147483647; decide)]
  rfl
theorem s_38 (hA : WA e z) (hR : WR e) {a v : Int} (a0 : 0 ≤ a) (a1 : a < 20) : xsi (HS e C I z) (rf e 38 0) (xk a) (xk v) = some (HS e C (up I 38 0 a v) z) := (H0.sa hA (by decide) (Int.le_refl 0) (WR.s hR (by decide)) a0 (by show a < ((20 : Nat) : Int); exact a1) (by show 20 ≤ 2147483647; decide) rfl rfl).trans (congrArg (fun S => some (H0 e S z)) (mx_i rfl))
theorem a_39 (hA : WA e z) (hR : WR e) {a : Int} (a0 : 0 ≤ a) (a1 : a < 20) : xai (HS e C I z) (rf e 39 0) (xk a) = some (xk (I 39 0 a)) := by
  unfold xai HS
  rw [H0.at hA (by decide) (Int.le_refl 0) (WR.s hR (by decide)) a0 (by show a < ((20 : Nat) : Int); exact a1) (by show 20 ≤ 2147483647; decide)]
  rfl
theorem s_39 (hA : WA e z) (hR : WR e) {a v : Int} (a0 : 0 ≤ a) (a1 : a < 20) : xsi (HS e C I z) (rf e 39 0) (xk a) (xk v) = some (HS e C (up I 39 0 a v) z) := (H0.sa hA (by decide) (Int.le_refl 0) (WR.s hR (by decide)) a0 (by show a < ((20 : Nat) : Int); exact a1) (by show 20 ≤ 2147483647; decide) rfl rfl).trans (congrArg (fun S => some (H0 e S z)) (mx_i rfl))
theorem a_40 (hA : WA e z) (hR : WR e) {a : Int} (a0 : 0 ≤ a) (a1 : a < 20) : xai (HS e C I z) (rf e 40 0) (xk a) = some (xk (I 40 0 a)) := by
  unfold xai HS
  rw [H0.at hA (by decide) (Int.le_refl 0) (WR.s hR (by decide)) a0 (by show a < ((20 : Nat) : Int); exact a1) (by show 20 ≤ 2147483647; decide)]
  rfl
theorem s_40 (hA : WA e z) (hR : WR e) {a v : Int} (a0 : 0 ≤ a) (a1 : a < 20) : xsi (HS e C I z) (rf e 40 0) (xk a) (xk v) = some (HS e C (up I 40 0 a v) z) := (H0.sa hA (by decide) (Int.le_refl 0) (WR.s hR (by decide)) a0 (by show a < ((20 : Nat) : Int); exact a1) (by show 20 ≤ 2147483647; decide) rfl rfl).trans (congrArg (fun S => some (H0 e S z)) (mx_i rfl))
theorem a_41 (hA : WA e z) (hR : WR e) {a : Int} (a0 : 0 ≤ a) (a1 : a < 20) : xai (HS e C I z) (rf e 41 0) (xk a) = some (xk (I 41 0 a)) := by
  unfold xai HS
  rw [H0.at hA (by decide) (Int.le_refl 0) (WR.s hR (by decide)) a0 (by show a < ((20 : Nat) : Int); exact a1) (by show 20 ≤ 2147483647; decide)]
  rfl
theorem s_41 (hA : WA e z) (hR : WR e) {a v : Int} (a0 : 0 ≤ a) (a1 : a < 20) : xsi (HS e C I z) (rf e 41 0) (xk a) (xk v) = some (HS e C (up I 41 0 a v) z) := (H0.sa hA (by decide) (Int.le_refl 0) (WR.s hR (by decide)) a0 (by show a < ((20 : Nat) : Int); exact a1) (by show 20 ≤ 2147483647; decide) rfl rfl).trans (congrArg (fun S => some (H0 e S z)) (mx_i rfl))
theorem a_42 (hA : WA e z) (hR : WR e) {a : Int} (a0 : 0 ≤ a) (a1 : a < 20) : xai (HS e C I z) (rf e 42 0) (xk a) = some (xk (I 42 0 a)) := by
  unfold xai HS
  rw [H0.at hA (by decide) (Int.le_refl 0) (WR.s hR (by decide)) a0 (by show a < ((20 : Nat) : Int); exact a1) (by show 20 ≤ 2147483647; decide)]
  rfl
theorem s_42 (hA : WA e z) (hR : WR e) {a v : Int} (a0 : 0 ≤ a) (a1 : a < 20) : xsi (HS e C I z) (rf e 42 0) (xk a) (xk v) = some (HS e C (up I 42 0 a v) z) := (H0.sa hA (by decide) (Int.le_refl 0) (WR.s hR (by decide)) a0 (by show a < ((20 : Nat) : Int); exact a1) (by show 20 ≤ 2147483647; decide) rfl rfl).trans (congrArg (fun S => some (H0 e S z)) (mx_i rfl))
theorem a_43 (hA : WA e z) (hR : WR e) {a : Int} (a0 : 0 ≤ a) (a1 : a < 20) : xai (HS e C I z) (rf e 43 0) (xk a) = some (xk (I 43 0 a)) := by
  unfold xai HS
  rw [H0.at hA (by decide) (Int.le_refl 0) (WR.s hR (by decide)) a0 (by show a < ((20 : Nat) : Int); exact a1) (by show 20 ≤ 2147483647; decide)]
  rfl
theorem s_43 (hA : WA e z) (hR : WR e) {a v : Int} (a0 : 0 ≤ a) (a1 : a < 20) : xsi (HS e C I z) (rf e 43 0) (xk a) (xk v) = some (HS e C (up I 43 0 a v) z) := (H0.sa hA (by decide) (Int.le_refl 0) (WR.s hR (by decide)) a0 (by show a < ((20 : Nat) : Int); exact a1) (by show 20 ≤ 2147483647; decide) rfl rfl).trans (congrArg (fun S => some (H0 e S z)) (mx_i rfl))
theorem a_44 (hA : WA e z) (hR : WR e) {a : Int} (a0 : 0 ≤ a) (a1 : a < 20) : xai (HS e C I z) (rf e 44 0) (xk a) = some (xk (I 44 0 a)) := by
  unfold xai HS
  rw [H0.at hA (by decide) (Int.le_refl 0) (WR.s hR (by decide)) a0 (by show a < ((20 : Nat) : Int); exact a1) (by show 20 ≤ 2147483647; decide)]
  rfl
theorem s_44 (hA : WA e z) (hR : WR e) {a v : Int} (a0 : 0 ≤ a) (a1 : a < 20) : xsi (HS e C I z) (rf e 44 0) (xk a) (xk v) = some (HS e C (up I 44 0 a v) z) := (H0.sa hA (by decide) (Int.le_refl 0) (WR.s hR (by decide)) a0 (by show a < ((20 : Nat) : Int); exact a1) (by show 20 ≤ 2147483647; decide) rfl rfl).trans (congrArg (fun S => some (H0 e S z)) (mx_i rfl))
theorem a_45 (hA : WA e z) (hR : WR e) {a : Int} (a0 : 0 ≤ a) (a1 : a < 20) : xal (HS e C I z) (rf e 45 0) (xk a) = some (Int64.ofInt (I 45 0 a)) := by
  unfold xal HS
  rw [H0.at hA (by decide) (Int.le_refl 0) (WR.s hR (by decide)) a0 (by show a < ((20 : Nat) : Int); exact a1) (by show 20 ≤ 2147483647; decide)]
  rfl
theorem s_45 (hA : WA e z) (hR : WR e) {a v : Int} (a0 : 0 ≤ a) (a1 : a < 20) : xsl (HS e C I z) (rf e 45 0) (xk a) (Int64.ofInt v) = some (HS e C (up I 45 0 a v) z) := (H0.sa hA (by decide) (Int.le_refl 0) (WR.s hR (by decide)) a0 (by show a < ((20 : Nat) : Int); exact a1) (by show 20 ≤ 2147483647; decide) rfl rfl).trans (congrArg (fun S => some (H0 e S z)) (mx_i rfl))
theorem a_49 (hA : WA e z) (hR : WR e) {a : Int} (a0 : 0 ≤ a) (a1 : a < 10) : xai (HS e C I z) (rf e 49 0) (xk a) = some (xk (I 49 0 a)) := by
  unfold xai HS
  rw [H0.at hA (by decide) (Int.le_refl 0) (WR.s hR (by decide)) a0 (by show a < ((10 : Nat) : Int); exact a1) (by show 10 ≤ 2147483647; decide)]
  rfl
theorem s_49 (hA : WA e z) (hR : WR e) {a v : Int} (a0 : 0 ≤ a) (a1 : a < 10) : xsi (HS e C I z) (rf e 49 0) (xk a) (xk v) = some (HS e C (up I 49 0 a v) z) := (H0.sa hA (by decide) (Int.le_refl 0) (WR.s hR (by decide)) a0 (by show a < ((10 : Nat) : Int); exact a1) (by show 10 ≤ 2147483647; decide) rfl rfl).trans (congrArg (fun S => some (H0 e S z)) (mx_i rfl))
theorem a_50 (hA : WA e z) (hR : WR e) {a : Int} (a0 : 0 ≤ a) (a1 : a < 80) : xaz (HS e C I z) (rf e 50 0) (xk a) = some (xk (I 50 0 a)) := by
  unfold xaz HS
  rw [H0.at hA (by decide) (Int.le_refl 0) (WR.s hR (by decide)) a0 (by show a < ((80 : Nat) : Int); exact a1) (by show 80 ≤ 2147483647; decide)]
  rfl
theorem s_50 (hA : WA e z) (hR : WR e) {a v : Int} (a0 : 0 ≤ a) (a1 : a < 80) (hv : v = 0 ∨ v = 1) : xsz (HS e C I z) (rf e 50 0) (xk a) (xk v) = some (HS e C (up I 50 0 a v) z) := by
  unfold xsz
  rw [if_pos (by rcases hv with rfl | rfl; exact Or.inl xk_zero; exact Or.inr xk_one)]
  exact (H0.sa hA (by decide) (Int.le_refl 0) (WR.s hR (by decide)) a0 (by show a < ((80 : Nat) : Int); exact a1) (by show 80 ≤ 2147483647; decide) rfl rfl).trans (congrArg (fun S => some (H0 e S z)) (mx_i rfl))
theorem a_51 (hA : WA e z) (hR : WR e) {a : Int} (a0 : 0 ≤ a) (a1 : a < 80) : xai (HS e C I z) (rf e 51 0) (xk a) = some (xk (I 51 0 a)) := by
  unfold xai HS
  rw [H0.at hA (by decide) (Int.le_refl 0) (WR.s hR (by decide)) a0 (by show a < ((80 : Nat) : Int); exact a1) (by show 80 ≤ 2147483647; decide)]
  rfl
theorem s_51 (hA : WA e z) (hR : WR e) {a v : Int} (a0 : 0 ≤ a) (a1 : a < 80) : xsi (HS e C I z) (rf e 51 0) (xk a) (xk v) = some (HS e C (up I 51 0 a v) z) := (H0.sa hA (by decide) (Int.le_refl 0) (WR.s hR (by decide)) a0 (by show a < ((80 : Nat) : Int); exact a1) (by show 80 ≤ 2147483647; decide) rfl rfl).trans (congrArg (fun S => some (H0 e S z)) (mx_i rfl))
theorem a_52 (hA : WA e z) (hR : WR e) {a : Int} (a0 : 0 ≤ a) (a1 : a < 80) : xai (HS e C I z) (rf e 52 0) (xk a) = some (xk (I 52 0 a)) := by
  unfold xai HS
  rw [H0.at hA (by decide) (Int.le_refl 0) (WR.s hR (by decide)) a0 (by show a < ((80 : Nat) : Int); exact a1) (by show 80 ≤ 2147483647; decide)]
  rfl
theorem s_52 (hA : WA e z) (hR : WR e) {a v : Int} (a0 : 0 ≤ a) (a1 : a < 80) : xsi (HS e C I z) (rf e 52 0) (xk a) (xk v) = some (HS e C (up I 52 0 a v) z) := (H0.sa hA (by decide) (Int.le_refl 0) (WR.s hR (by decide)) a0 (by show a < ((80 : Nat) : Int); exact a1) (by show 80 ≤ 2147483647; decide) rfl rfl).trans (congrArg (fun S => some (H0 e S z)) (mx_i rfl))
theorem a_53 (hA : WA e z) (hR : WR e) {a : Int} (a0 : 0 ≤ a) (a1 : a < 80) : xai (HS e C I z) (rf e 53 0) (xk a) = some (xk (I 53 0 a)) := by
  unfold xai HS
  rw [H0.at hA (by decide) (Int.le_refl 0) (WR.s hR (by decide)) a0 (by show a < ((80 : Nat) : Int); exact a1) (by show 80 ≤ 2147483647; decide)]
  rfl
theorem s_53 (hA : WA e z) (hR : WR e) {a v : Int} (a0 : 0 ≤ a) (a1 : a < 80) : xsi (HS e C I z) (rf e 53 0) (xk a) (xk v) = some (HS e C (up I 53 0 a v) z) := (H0.sa hA (by decide) (Int.le_refl 0) (WR.s hR (by decide)) a0 (by show a < ((80 : Nat) : Int); exact a1) (by show 80 ≤ 2147483647; decide) rfl rfl).trans (congrArg (fun S => some (H0 e S z)) (mx_i rfl))
theorem a_54 (hA : WA e z) (hR : WR e) {a : Int} (a0 : 0 ≤ a) (a1 : a < 80) : xai (HS e C I z) (rf e 54 0) (xk a) = some (xk (I 54 0 a)) := by
  unfold xai HS
  rw [H0.at hA (by decide) (Int.le_refl 0) (WR.s hR (by decide)) a0 (by show a < ((80 : Nat) : Int); exact a1) (by show 80 ≤ 2147483647; decide)]
  rfl
theorem s_54 (hA : WA e z) (hR : WR e) {a v : Int} (a0 : 0 ≤ a) (a1 : a < 80) : xsi (HS e C I z) (rf e 54 0) (xk a) (xk v) = some (HS e C (up I 54 0 a v) z) := (H0.sa hA (by decide) (Int.le_refl 0) (WR.s hR (by decide)) a0 (by show a < ((80 : Nat) : Int); exact a1) (by show 80 ≤ 2147483647; decide) rfl rfl).trans (congrArg (fun S => some (H0 e S z)) (mx_i rfl))
theorem a_55 (hA : WA e z) (hR : WR e) {a : Int} (a0 : 0 ≤ a) (a1 : a < 80) : xai (HS e C I z) (rf e 55 0) (xk a) = some (xk (I 55 0 a)) := by
  unfold xai HS
  rw [H0.at hA (by decide) (Int.le_refl 0) (WR.s hR (by decide)) a0 (by show a < ((80 : Nat) : Int); exact a1) (by show 80 ≤ 2147483647; decide)]
  rfl
theorem s_55 (hA : WA e z) (hR : WR e) {a v : Int} (a0 : 0 ≤ a) (a1 : a < 80) : xsi (HS e C I z) (rf e 55 0) (xk a) (xk v) = some (HS e C (up I 55 0 a v) z) := (H0.sa hA (by decide) (Int.le_refl 0) (WR.s hR (by decide)) a0 (by show a < ((80 : Nat) : Int); exact a1) (by show 80 ≤ 2147483647; decide) rfl rfl).trans (congrArg (fun S => some (H0 e S z)) (mx_i rfl))
theorem a_59 (hA : WA e z) (hR : WR e) {a : Int} (a0 : 0 ≤ a) (a1 : a < 20) : xaz (HS e C I z) (rf e 59 0) (xk a) = some (xk (I 59 0 a)) := by
  unfold xaz HS
  rw [H0.at hA (by decide) (Int.le_refl 0) (WR.s hR (by decide)) a0 (by show a < ((20 : Nat) : Int); exact a1) (by show 20 ≤ 2147483647; decide)]
  rfl
theorem s_59 (hA : WA e z) (hR : WR e) {a v : Int} (a0 : 0 ≤ a) (a1 : a < 20) (hv : v = 0 ∨ v = 1) : xsz (HS e C I z) (rf e 59 0) (xk a) (xk v) = some (HS e C (up I 59 0 a v) z) := by
  unfold xsz
  rw [if_pos (by rcases hv with rfl | rfl; exact Or.inl xk_zero; exact Or.inr xk_one)]
  exact (H0.sa hA (by decide) (Int.le_refl 0) (WR.s hR (by decide)) a0 (by show a < ((20 : Nat) : Int); exact a1) (by show 20 ≤ 2147483647; decide) rfl rfl).trans (congrArg (fun S => some (H0 e S z)) (mx_i rfl))
theorem a_60 (hA : WA e z) (hR : WR e) {a : Int} (a0 : 0 ≤ a) (a1 : a < 80) : xai (HS e C I z) (rf e 60 0) (xk a) = some (xk (I 60 0 a)) := by
  unfold xai HS
  rw [H0.at hA (by decide) (Int.le_refl 0) (WR.s hR (by decide)) a0 (by show a < ((80 : Nat) : Int); exact a1) (by show 80 ≤ 2147483647; decide)]
  rfl
theorem s_60 (hA : WA e z) (hR : WR e) {a v : Int} (a0 : 0 ≤ a) (a1 : a < 80) : xsi (HS e C I z) (rf e 60 0) (xk a) (xk v) = some (HS e C (up I 60 0 a v) z) := (H0.sa hA (by decide) (Int.le_refl 0) (WR.s hR (by decide)) a0 (by show a < ((80 : Nat) : Int); exact a1) (by show 80 ≤ 2147483647; decide) rfl rfl).trans (congrArg (fun S => some (H0 e S z)) (mx_i rfl))
theorem a_61 (hA : WA e z) (hS : WS e) {a : Int} (a0 : 0 ≤ a) (a1 : a < 1) : xal (HS e C I z) (rf e 61 0) (xk a) = some (Int64.ofInt (I 61 0 a)) := by
  unfold xal HS
  rw [H0.at hA (by decide) (Int.le_refl 0) (WS.s hS (by decide) (by decide)) a0 (by show a < ((1 : Nat) : Int); exact a1) (by show 1 ≤ 2147483647; decide)]
  rfl
theorem s_61 (hA : WA e z) (hS : WS e) {a v : Int} (a0 : 0 ≤ a) (a1 : a < 1) : xsl (HS e C I z) (rf e 61 0) (xk a) (Int64.ofInt v) = some (HS e C (up I 61 0 a v) z) := (H0.sa hA (by decide) (Int.le_refl 0) (WS.s hS (by decide) (by decide)) a0 (by show a < ((1 : Nat) : Int); exact a1) (by show 1 ≤ 2147483647; decide) rfl rfl).trans (congrArg (fun S => some (H0 e S z)) (mx_i rfl))
theorem a_62 (hA : WA e z) (hS : WS e) (hL : e.2.2 ≤ 2560) {a : Int} (a0 : 0 ≤ a) (a1 : a < e.2.2) : xai (HS e C I z) (rf e 62 0) (xk a) = some (xk (I 62 0 a)) := by
  unfold xai HS
  rw [H0.at hA (by decide) (Int.le_refl 0) (WS.s hS (by decide) (by decide)) a0 (by show a < (e.2.2 : Int); exact a1) (by show e.2.2 ≤ 2147483647; omega)]
  rfl
theorem a_63 (hA : WA e z) (hS : WS e) {a : Int} (a0 : 0 ≤ a) (a1 : a < 4) : xai (HS e C I z) (rf e 63 0) (xk a) = some (xk (stv 900 a)) := by
  unfold xai HS
  rw [H0.at hA (by decide) (Int.le_refl 0) (WS.s hS (by decide) (by decide)) a0 (by show a < ((4 : Nat) : Int); exact a1) (by show 4 ≤ 2147483647; decide)]
  rfl
theorem a_64 (hA : WA e z) (hS : WS e) {a : Int} (a0 : 0 ≤ a) (a1 : a < 4) : xai (HS e C I z) (rf e 64 0) (xk a) = some (xk (stv 901 a)) := by
  unfold xai HS
  rw [H0.at hA (by decide) (Int.le_refl 0) (WS.s hS (by decide) (by decide)) a0 (by show a < ((4 : Nat) : Int); exact a1) (by show 4 ≤ 2147483647; decide)]
  rfl
theorem s_15 (hA : WA e z) {i : Int} (h0 : 0 ≤ i) (h1 : i < e.2.1 15) {a v : Int} (a0 : 0 ≤ a) (a1 : a < 41) (hv : v < e.2.1 8) : xsr (HS e C I z) (rf e 15 i) (xk a) (rf e 8 v) = some (HS e (up C 15 i a v) I z) := by
  have hs : xas (HS e C I z) (rf e 15 i) 103 (xk a) (.inr (.inr (rf e 8 v))) = some (HS e (up C 15 i a v) I z) := (H0.sa hA (by decide) h0 h1 a0 (by show a < ((41 : Nat) : Int); exact a1) (by show 41 ≤ 2147483647; decide) rfl rfl).trans (congrArg (fun S => some (H0 e S z)) (mx_c rfl))
  rw [rf_v h0] at hs ⊢
  unfold xsr
  have ho : (HS e C I z).1 (e.1 15 i) = some (ob e (mx C I) 15 i) := hp_at hA ⟨by decide, h0, h1⟩
  have hk : (ob e (mx C I) 15 i).1 = 103 := rfl
  by_cases hn : v < 0
  · rw [rf_n hn] at hs ⊢
    simp only [ho, hk]
    exact hs
  · rw [rf_v (by omega)] at hs ⊢
    have ho2 : (HS e C I z).1 (e.1 8 v) = some (ob e (mx C I) 8 v) := hp_at hA ⟨by decide, by omega, hv⟩
    have hk2 : (ob e (mx C I) 8 v).1 = xof 103 := rfl
    simp only [ho, hk, ho2, hk2]
    exact hs
theorem s_17 (hA : WA e z) {i : Int} (h0 : 0 ≤ i) (h1 : i < e.2.1 17) {a v : Int} (a0 : 0 ≤ a) (a1 : a < 15) (hv : v < e.2.1 4) : xsr (HS e C I z) (rf e 17 i) (xk a) (rf e 4 v) = some (HS e (up C 17 i a v) I z) := by
  have hs : xas (HS e C I z) (rf e 17 i) 106 (xk a) (.inr (.inr (rf e 4 v))) = some (HS e (up C 17 i a v) I z) := (H0.sa hA (by decide) h0 h1 a0 (by show a < ((15 : Nat) : Int); exact a1) (by show 15 ≤ 2147483647; decide) rfl rfl).trans (congrArg (fun S => some (H0 e S z)) (mx_c rfl))
  rw [rf_v h0] at hs ⊢
  unfold xsr
  have ho : (HS e C I z).1 (e.1 17 i) = some (ob e (mx C I) 17 i) := hp_at hA ⟨by decide, h0, h1⟩
  have hk : (ob e (mx C I) 17 i).1 = 106 := rfl
  by_cases hn : v < 0
  · rw [rf_n hn] at hs ⊢
    simp only [ho, hk]
    exact hs
  · rw [rf_v (by omega)] at hs ⊢
    have ho2 : (HS e C I z).1 (e.1 4 v) = some (ob e (mx C I) 4 v) := hp_at hA ⟨by decide, by omega, hv⟩
    have hk2 : (ob e (mx C I) 4 v).1 = xof 106 := rfl
    simp only [ho, hk, ho2, hk2]
    exact hs
theorem pz_8_9 (hA : WA e z) {i : Int} (h0 : 0 ≤ i) (h1 : i < e.2.1 8) {v : Int} (hv : v = 0 ∨ v = 1) : xpz (HS e C I z) (rf e 8 i) 8 9 (xk v) = some (HS e (up C 8 i 9 v) I z) := by
  unfold xpz
  rw [if_pos (by rcases hv with rfl | rfl; exact Or.inl xk_zero; exact Or.inr xk_one)]
  exact p_8_9 hA h0 h1
end AC
