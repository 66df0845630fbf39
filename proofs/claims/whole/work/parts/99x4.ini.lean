/-! the start: the reference's object and arrays -/
def rl (k : Nat) : Prop := 22 ≤ k ∧ k < 61 ∧ k ≠ 33 ∧ k ≠ 37 ∧ k ≠ 46 ∧ k ≠ 47 ∧ k ≠ 48 ∧ k ≠ 56 ∧ k ≠ 57 ∧ k ≠ 58
noncomputable def rE (e : EN) (m : Nat) : EN := (e.1, fun k => @ite Int (k = 12) (Classical.propDecidable _) 1 (@ite Int (rl k ∧ k < m) (Classical.propDecidable _) 1 (e.2.1 k)), e.2.2)
def rdf (k : Nat) : XE := if k = 30 ∨ k = 45 then .inr (.inl 0) else .inl 0
noncomputable def rX (e : EN) (X : RS) (m : Nat) : RS := fun k i j => if k = 12 then (@ite XE (rl (20 + j.toNat)) (Classical.propDecidable _) (if 20 + j.toNat < m then .inr (.inr (some (e.1 (20 + j.toNat) 0))) else .inr (.inr none)) (.inl 0)) else @ite XE (rl k) (Classical.propDecidable _) (rdf k) (X k i j)
theorem rl_d (k : Nat) (h : (Nat.ble 22 k && Nat.blt k 61 && !Nat.beq k 33 && !Nat.beq k 37 && !Nat.beq k 46 && !Nat.beq k 47 && !Nat.beq k 48 && !Nat.beq k 56 && !Nat.beq k 57 && !Nat.beq k 58) = true) : rl k := by
  simp only [Bool.and_eq_true, Bool.not_eq_true', Nat.ble_eq, Nat.blt_eq] at h
  have q : ∀ x, Nat.beq k x = false → k ≠ x := fun x hx y => by
    subst y
    rw [Nat.beq_refl] at hx
    exact absurd hx (by decide)
  exact ⟨h.1.1.1.1.1.1.1.1.1, h.1.1.1.1.1.1.1.1.2, q _ h.1.1.1.1.1.1.1.2, q _ h.1.1.1.1.1.1.2, q _ h.1.1.1.1.1.2, q _ h.1.1.1.1.2, q _ h.1.1.1.2, q _ h.1.1.2, q _ h.1.2, q _ h.2⟩
section INI
variable {e : EN} {X : RS} {z : Nat × Nat × Nat × Nat}
theorem rE_12 {m : Nat} : (rE e m).2.1 12 = 1 := if_pos rfl
theorem rE_y {m k : Nat} (h : rl k) (h' : k < m) : (rE e m).2.1 k = 1 := by
  unfold rE
  have : k ≠ 12 := by unfold rl at h; omega
  simp only [if_neg this, if_pos (And.intro h h')]
theorem rE_n {m k : Nat} (h : k ≠ 12) (h' : ¬ (rl k ∧ k < m)) : (rE e m).2.1 k = e.2.1 k := by
  unfold rE
  simp only [if_neg h, if_neg h']
theorem rstep {m f w t : Nat} {n : Int32} {d : XE} {k : Nat → XH → XR} {r : XV × XH} (hn : ¬ n < 0 ∧ n.toNatClampNeg = w ∧ w ≤ 100000) (hf : rl (20 + f)) (hm : ∀ k, rl k → k ≠ 20 + f → (k < m ↔ k < 21 + f)) (hm2 : m ≤ 20 + f) (h0 : e.2.1 (20 + f) = 0) (ha : e.1 (20 + f) 0 = z.1) (ht : kd (20 + f) = t) (hw : ∀ e' : EN, kl e' (20 + f) = w) (hd : rdf (20 + f) = d) (hA : WX (rE e m) z) (h : WX (rE e (21 + f)) (z.1 + 1, z.2.1 + w, z.2.2) → Ev (fun F => k F (HX (rE e (21 + f)) (rX e X (21 + f)) (z.1 + 1, z.2.1 + w, z.2.2))) r) : Ev (fun F => xnwa (HX (rE e m) (rX e X m) z) t d n fun a s => (xpt s (some (e.1 12 0)) 12 f (.inr (.inr (some a)))).bind (k F)) r := by
  have hf' := hf
  unfold rl at hf'
  have c0 : (rE e m).2.1 (20 + f) = 0 := by rw [rE_n (by omega) (fun q => by omega), h0]
  have eE : bump (rE e m) (20 + f) = rE e (21 + f) := by
    refine Prod.ext rfl (Prod.ext ?_ rfl)
    funext k
    show (if k = 20 + f then (rE e m).2.1 (20 + f) + 1 else (rE e m).2.1 k) = (rE e (21 + f)).2.1 k
    by_cases hk : k = 20 + f
    · subst hk
      rw [if_pos rfl, c0, rE_y hf (by omega)]; rfl
    · rw [if_neg hk]
      by_cases k12 : k = 12
      · subst k12; rw [rE_12, rE_12]
      · by_cases q : rl k ∧ k < m
        · rw [rE_y q.1 q.2, rE_y q.1 ((hm k q.1 hk).mp q.2)]
        · rw [rE_n k12 q, rE_n k12 (fun y => q ⟨y.1, (hm k y.1 hk).mpr y.2⟩)]
  refine Ev.nwa (κ := 20 + f) (w := w) hn hA (by omega) c0 (by decide) ha ht (hw _).symm (fun hW hV => ?_)
  rw [eE] at hW hV ⊢
  refine Ev.bs (rx_pt (k := 12) (i := 0) hW ⟨by decide, by decide, by rw [rE_12]; decide⟩ rfl (by show f < 41; omega)) ?_
  refine Ev.hx (HX_c hW (fun k i hv j hj => ?_)) (h hW)
  have hv2 := hv.2
  by_cases k12 : k = 12
  · subst k12
    rw [rE_12] at hv2
    have i0 : i = 0 := by omega
    subst i0
    have jt : (j : Int).toNat = j := by omega
    by_cases jf : j = f
    · subst jf
      simp [upX, rX, jt, hf]
      rfl
    · have jf' : ¬ (j : Int) = (f : Int) := by omega
      have k20 : ¬ 12 = 20 + f := by omega
      by_cases q : rl (20 + j)
      · have := hm (20 + j) q (by omega)
        simp [upX, nwX, rX, jt, q, jf', k20, this]
      · simp [upX, nwX, rX, jt, q, jf', k20]
  · by_cases kf : k = 20 + f
    · subst kf
      rw [rE_y hf (by omega)] at hv2
      have i0 : i = 0 := by omega
      subst i0
      have hj : j < w := by rw [hw] at hj; exact hj
      have t1 : (List.replicate w d)[j]? = some d := by rw [List.getElem?_replicate, if_pos hj]
      simp [upX, nwX, rX, k12, hf, t1, hd]
    · simp [upX, nwX, rX, k12, kf]
def iR (F : Nat) (l0 : Option Nat) (s93 : XH) : XR := (xpt s93 l0 12 13 (.inl (xk 1))).bind fun s94 => (xgr s94 l0 12 14).bind fun v95 => (xsi s94 v95 (xk 0) (xk (-1))).bind fun s96 => xgd s96 l0 12 (xci (J12_newGroup F l0 (xk (-1)) s96) fun v98 s97 => (xpt s97 l0 12 28 (.inl (xk 1))).bind fun s99 => xgd s99 l0 12 (xci (J12_make F l0 (xk 0) (xk (-1)) (xk 0) (xk 0) (xk 0) s99) fun v101 s100 => (xpt s100 l0 12 1 (.inl (xk 1))).bind fun s102 => (xgr s102 l0 12 3).bind fun v103 => (xsi s102 v103 (xk 0) (xk (-1))).bind fun s104 => (xgr s104 l0 12 16).bind fun v105 => (xsi s104 v105 (xk 0) (xk 1)).bind fun s106 => (xgr s106 l0 12 12).bind fun v107 => (xsi s106 v107 (xk 0) (xk 1)).bind fun s108 => some (.inl none, s108)))
theorem e12i (F : Nat) (l0 : Option Nat) (s0 : XH) : J12_init (F + 1) l0 s0 = (if l0 = none then none else xnwa s0 100 (.inl 0) (xk 150) fun a1 s1 => (xpt s1 l0 12 2 (.inr (.inr (some a1)))).bind fun s2 => xnwa s2 100 (.inl 0) (xk 150) fun a3 s3 => (xpt s3 l0 12 3 (.inr (.inr (some a3)))).bind fun s4 => xnwa s4 100 (.inl 0) (xk 150) fun a5 s5 => (xpt s5 l0 12 4 (.inr (.inr (some a5)))).bind fun s6 => xnwa s6 100 (.inl 0) (xk 150) fun a7 s7 => (xpt s7 l0 12 5 (.inr (.inr (some a7)))).bind fun s8 => xnwa s8 100 (.inl 0) (xk 150) fun a9 s9 => (xpt s9 l0 12 6 (.inr (.inr (some a9)))).bind fun s10 => xnwa s10 100 (.inl 0) (xk 150) fun a11 s11 => (xpt s11 l0 12 7 (.inr (.inr (some a11)))).bind fun s12 => xnwa s12 100 (.inl 0) (xk 150) fun a13 s13 => (xpt s13 l0 12 8 (.inr (.inr (some a13)))).bind fun s14 => xnwa s14 102 (.inl 0) (xk 150) fun a15 s15 => (xpt s15 l0 12 9 (.inr (.inr (some a15)))).bind fun s16 => xnwa s16 101 (.inr (.inl 0)) (xk 150) fun a17 s17 => (xpt s17 l0 12 10 (.inr (.inr (some a17)))).bind fun s18 => xnwa s18 100 (.inl 0) (xk 150) fun a19 s19 => (xpt s19 l0 12 11 (.inr (.inr (some a19)))).bind fun s20 => xnwa s20 100 (.inl 0) (xk 3000) fun a21 s21 => (xpt s21 l0 12 12 (.inr (.inr (some a21)))).bind fun s22 => xnwa s22 100 (.inl 0) (xk 20) fun a23 s23 => (xpt s23 l0 12 14 (.inr (.inr (some a23)))).bind fun s24 => xnwa s24 100 (.inl 0) (xk 20) fun a25 s25 => (xpt s25 l0 12 15 (.inr (.inr (some a25)))).bind fun s26 => xnwa s26 100 (.inl 0) (xk 20) fun a27 s27 => (xpt s27 l0 12 16 (.inr (.inr (some a27)))).bind fun s28 => xnwa s28 100 (.inl 0) (xk 20) fun a29 s29 => (xpt s29 l0 12 18 (.inr (.inr (some a29)))).bind fun s30 => xnwa s30 100 (.inl 0) (xk 20) fun a31 s31 => (xpt s31 l0 12 19 (.inr (.inr (some a31)))).bind fun s32 => xnwa s32 100 (.inl 0) (xk 20) fun a33 s33 => (xpt s33 l0 12 20 (.inr (.inr (some a33)))).bind fun s34 => xnwa s34 100 (.inl 0) (xk 20) fun a35 s35 => (xpt s35 l0 12 21 (.inr (.inr (some a35)))).bind fun s36 => xnwa s36 100 (.inl 0) (xk 20) fun a37 s37 => (xpt s37 l0 12 22 (.inr (.inr (some a37)))).bind fun s38 => xnwa s38 100 (.inl 0) (xk 20) fun a39 s39 => (xpt s39 l0 12 23 (.inr (.inr (some a39)))).bind fun s40 => xnwa s40 100 (.inl 0) (xk 20) fun a41 s41 => (xpt s41 l0 12 24 (.inr (.inr (some a41)))).bind fun s42 => xnwa s42 101 (.inr (.inl 0)) (xk 20) fun a43 s43 => (xpt s43 l0 12 25 (.inr (.inr (some a43)))).bind fun s44 => xnwa s44 100 (.inl 0) (xk 10) fun a45 s45 => (xpt s45 l0 12 29 (.inr (.inr (some a45)))).bind fun s46 => xnwa s46 102 (.inl 0) (xk 80) fun a47 s47 => (xpt s47 l0 12 30 (.inr (.inr (some a47)))).bind fun s48 => xnwa s48 100 (.inl 0) (xk 80) fun a49 s49 => (xpt s49 l0 12 31 (.inr (.inr (some a49)))).bind fun s50 => xnwa s50 100 (.inl 0) (xk 80) fun a51 s51 => (xpt s51 l0 12 32 (.inr (.inr (some a51)))).bind fun s52 => xnwa s52 100 (.inl 0) (xk 80) fun a53 s53 => (xpt s53 l0 12 33 (.inr (.inr (some a53)))).bind fun s54 => xnwa s54 100 (.inl 0) (xk 80) fun a55 s55 => (xpt s55 l0 12 34 (.inr (.inr (some a55)))).bind fun s56 => xnwa s56 100 (.inl 0) (xk 80) fun a57 s57 => (xpt s57 l0 12 35 (.inr (.inr (some a57)))).bind fun s58 => xnwa s58 102 (.inl 0) (xk 20) fun a59 s59 => (xpt s59 l0 12 39 (.inr (.inr (some a59)))).bind fun s60 => xnwa s60 100 (.inl 0) (xk 80) fun a61 s61 => (xpt s61 l0 12 40 (.inr (.inr (some a61)))).bind fun s62 => iR F l0 s62) := E12_init F l0 s0
theorem j12i (hA : WX (rE e 22) z) (h0 : ∀ k, rl k → e.2.1 k = 0) (ha : ∀ k, rl k → e.1 k 0 + 1 = z.1 + rk k) (r : XV × XH) (h : WX (rE e 61) (z.1 + 31, z.2.1 + 5310, z.2.2) → Ev (fun F => iR F (some (e.1 12 0)) (HX (rE e 61) (rX e X 61) (z.1 + 31, z.2.1 + 5310, z.2.2))) r) : Ev (fun F => J12_init F (some (e.1 12 0)) (HX (rE e 22) (rX e X 22) z)) r := by
  refine Ev.step (fun F => e12i F _ _) ?_
  refine Ev.ite (fun q => absurd q (by simp)) (fun _ => ?_)
  refine rstep (m := 22) (f := 2) (w := 150) (by decide +kernel) (rl_d _ rfl) (fun k hk hne => by unfold rl at hk; omega) (by omega) (h0 22 (rl_d _ rfl)) (by show e.1 22 0 = z.1 + 0; have q := ha 22 (rl_d _ rfl); have : rk 22 = 1 := rfl; omega) rfl (fun _ => rfl) rfl hA (fun hA => ?_)
  refine rstep (m := 23) (f := 3) (w := 150) (by decide +kernel) (rl_d _ rfl) (fun k hk hne => by unfold rl at hk; omega) (by omega) (h0 23 (rl_d _ rfl)) (by show e.1 23 0 = z.1 + 1; have q := ha 23 (rl_d _ rfl); have : rk 23 = 2 := rfl; omega) rfl (fun _ => rfl) rfl hA (fun hA => ?_)
  refine rstep (m := 24) (f := 4) (w := 150) (by decide +kernel) (rl_d _ rfl) (fun k hk hne => by unfold rl at hk; omega) (by omega) (h0 24 (rl_d _ rfl)) (by show e.1 24 0 = z.1 + 2; have q := ha 24 (rl_d _ rfl); have : rk 24 = 3 := rfl; omega) rfl (fun _ => rfl) rfl hA (fun hA => ?_)
  refine rstep (m := 25) (f := 5) (w := 150) (by decide +kernel) (rl_d _ rfl) (fun k hk hne => by unfold rl at hk; omega) (by omega) (h0 25 (rl_d _ rfl)) (by show e.1 25 0 = z.1 + 3; have q := ha 25 (rl_d _ rfl); have : rk 25 = 4 := rfl; omega) rfl (fun _ => rfl) rfl hA (fun hA => ?_)
  refine rstep (m := 26) (f := 6) (w := 150) (by decide +kernel) (rl_d _ rfl) (fun k hk hne => by unfold rl at hk; omega) (by omega) (h0 26 (rl_d _ rfl)) (by show e.1 26 0 = z.1 + 4; have q := ha 26 (rl_d _ rfl); have : rk 26 = 5 := rfl; omega) rfl (fun _ => rfl) rfl hA (fun hA => ?_)
  refine rstep (m := 27) (f := 7) (w := 150) (by decide +kernel) (rl_d _ rfl) (fun k hk hne => by unfold rl at hk; omega) (by omega) (h0 27 (rl_d _ rfl)) (by show e.1 27 0 = z.1 + 5; have q := ha 27 (rl_d _ rfl); have : rk 27 = 6 := rfl; omega) rfl (fun _ => rfl) rfl hA (fun hA => ?_)
  refine rstep (m := 28) (f := 8) (w := 150) (by decide +kernel) (rl_d _ rfl) (fun k hk hne => by unfold rl at hk; omega) (by omega) (h0 28 (rl_d _ rfl)) (by show e.1 28 0 = z.1 + 6; have q := ha 28 (rl_d _ rfl); have : rk 28 = 7 := rfl; omega) rfl (fun _ => rfl) rfl hA (fun hA => ?_)
  refine rstep (m := 29) (f := 9) (w := 150) (by decide +kernel) (rl_d _ rfl) (fun k hk hne => by unfold rl at hk; omega) (by omega) (h0 29 (rl_d _ rfl)) (by show e.1 29 0 = z.1 + 7; have q := ha 29 (rl_d _ rfl); have : rk 29 = 8 := rfl; omega) rfl (fun _ => rfl) rfl hA (fun hA => ?_)
  refine rstep (m := 30) (f := 10) (w := 150) (by decide +kernel) (rl_d _ rfl) (fun k hk hne => by unfold rl at hk; omega) (by omega) (h0 30 (rl_d _ rfl)) (by show e.1 30 0 = z.1 + 8; have q := ha 30 (rl_d _ rfl); have : rk 30 = 9 := rfl; omega) rfl (fun _ => rfl) rfl hA (fun hA => ?_)
  refine rstep (m := 31) (f := 11) (w := 150) (by decide +kernel) (rl_d _ rfl) (fun k hk hne => by unfold rl at hk; omega) (by omega) (h0 31 (rl_d _ rfl)) (by show e.1 31 0 = z.1 + 9; have q := ha 31 (rl_d _ rfl); have : rk 31 = 10 := rfl; omega) rfl (fun _ => rfl) rfl hA (fun hA => ?_)
  refine rstep (m := 32) (f := 12) (w := 3000) (by decide +kernel) (rl_d _ rfl) (fun k hk hne => by unfold rl at hk; omega) (by omega) (h0 32 (rl_d _ rfl)) (by show e.1 32 0 = z.1 + 10; have q := ha 32 (rl_d _ rfl); have : rk 32 = 11 := rfl; omega) rfl (fun _ => rfl) rfl hA (fun hA => ?_)
  refine rstep (m := 33) (f := 14) (w := 20) (by decide +kernel) (rl_d _ rfl) (fun k hk hne => by unfold rl at hk; omega) (by omega) (h0 34 (rl_d _ rfl)) (by show e.1 34 0 = z.1 + 11; have q := ha 34 (rl_d _ rfl); have : rk 34 = 12 := rfl; omega) rfl (fun _ => rfl) rfl hA (fun hA => ?_)
  refine rstep (m := 35) (f := 15) (w := 20) (by decide +kernel) (rl_d _ rfl) (fun k hk hne => by unfold rl at hk; omega) (by omega) (h0 35 (rl_d _ rfl)) (by show e.1 35 0 = z.1 + 12; have q := ha 35 (rl_d _ rfl); have : rk 35 = 13 := rfl; omega) rfl (fun _ => rfl) rfl hA (fun hA => ?_)
  refine rstep (m := 36) (f := 16) (w := 20) (by decide +kernel) (rl_d _ rfl) (fun k hk hne => by unfold rl at hk; omega) (by omega) (h0 36 (rl_d _ rfl)) (by show e.1 36 0 = z.1 + 13; have q := ha 36 (rl_d _ rfl); have : rk 36 = 14 := rfl; omega) rfl (fun _ => rfl) rfl hA (fun hA => ?_)
  refine rstep (m := 37) (f := 18) (w := 20) (by decide +kernel) (rl_d _ rfl) (fun k hk hne => by unfold rl at hk; omega) (by omega) (h0 38 (rl_d _ rfl)) (by show e.1 38 0 = z.1 + 14; have q := ha 38 (rl_d _ rfl); have : rk 38 = 15 := rfl; omega) rfl (fun _ => rfl) rfl hA (fun hA => ?_)
  refine rstep (m := 39) (f := 19) (w := 20) (by decide +kernel) (rl_d _ rfl) (fun k hk hne => by unfold rl at hk; omega) (by omega) (h0 39 (rl_d _ rfl)) (by show e.1 39 0 = z.1 + 15; have q := ha 39 (rl_d _ rfl); have : rk 39 = 16 := rfl; omega) rfl (fun _ => rfl) rfl hA (fun hA => ?_)
  refine rstep (m := 40) (f := 20) (w := 20) (by decide +kernel) (rl_d _ rfl) (fun k hk hne => by unfold rl at hk; omega) (by omega) (h0 40 (rl_d _ rfl)) (by show e.1 40 0 = z.1 + 16; have q := ha 40 (rl_d _ rfl); have : rk 40 = 17 := rfl; omega) rfl (fun _ => rfl) rfl hA (fun hA => ?_)
  refine rstep (m := 41) (f := 21) (w := 20) (by decide +kernel) (rl_d _ rfl) (fun k hk hne => by unfold rl at hk; omega) (by omega) (h0 41 (rl_d _ rfl)) (by show e.1 41 0 = z.1 + 17; have q := ha 41 (rl_d _ rfl); have : rk 41 = 18 := rfl; omega) rfl (fun _ => rfl) rfl hA (fun hA => ?_)
  refine rstep (m := 42) (f := 22) (w := 20) (by decide +kernel) (rl_d _ rfl) (fun k hk hne => by unfold rl at hk; omega) (by omega) (h0 42 (rl_d _ rfl)) (by show e.1 42 0 = z.1 + 18; have q := ha 42 (rl_d _ rfl); have : rk 42 = 19 := rfl; omega) rfl (fun _ => rfl) rfl hA (fun hA => ?_)
  refine rstep (m := 43) (f := 23) (w := 20) (by decide +kernel) (rl_d _ rfl) (fun k hk hne => by unfold rl at hk; omega) (by omega) (h0 43 (rl_d _ rfl)) (by show e.1 43 0 = z.1 + 19; have q := ha 43 (rl_d _ rfl); have : rk 43 = 20 := rfl; omega) rfl (fun _ => rfl) rfl hA (fun hA => ?_)
  refine rstep (m := 44) (f := 24) (w := 20) (by decide +kernel) (rl_d _ rfl) (fun k hk hne => by unfold rl at hk; omega) (by omega) (h0 44 (rl_d _ rfl)) (by show e.1 44 0 = z.1 + 20; have q := ha 44 (rl_d _ rfl); have : rk 44 = 21 := rfl; omega) rfl (fun _ => rfl) rfl hA (fun hA => ?_)
  refine rstep (m := 45) (f := 25) (w := 20) (by decide +kernel) (rl_d _ rfl) (fun k hk hne => by unfold rl at hk; omega) (by omega) (h0 45 (rl_d _ rfl)) (by show e.1 45 0 = z.1 + 21; have q := ha 45 (rl_d _ rfl); have : rk 45 = 22 := rfl; omega) rfl (fun _ => rfl) rfl hA (fun hA => ?_)
  refine rstep (m := 46) (f := 29) (w := 10) (by decide +kernel) (rl_d _ rfl) (fun k hk hne => by unfold rl at hk; omega) (by omega) (h0 49 (rl_d _ rfl)) (by show e.1 49 0 = z.1 + 22; have q := ha 49 (rl_d _ rfl); have : rk 49 = 23 := rfl; omega) rfl (fun _ => rfl) rfl hA (fun hA => ?_)
  refine rstep (m := 50) (f := 30) (w := 80) (by decide +kernel) (rl_d _ rfl) (fun k hk hne => by unfold rl at hk; omega) (by omega) (h0 50 (rl_d _ rfl)) (by show e.1 50 0 = z.1 + 23; have q := ha 50 (rl_d _ rfl); have : rk 50 = 24 := rfl; omega) rfl (fun _ => rfl) rfl hA (fun hA => ?_)
  refine rstep (m := 51) (f := 31) (w := 80) (by decide +kernel) (rl_d _ rfl) (fun k hk hne => by unfold rl at hk; omega) (by omega) (h0 51 (rl_d _ rfl)) (by show e.1 51 0 = z.1 + 24; have q := ha 51 (rl_d _ rfl); have : rk 51 = 25 := rfl; omega) rfl (fun _ => rfl) rfl hA (fun hA => ?_)
  refine rstep (m := 52) (f := 32) (w := 80) (by decide +kernel) (rl_d _ rfl) (fun k hk hne => by unfold rl at hk; omega) (by omega) (h0 52 (rl_d _ rfl)) (by show e.1 52 0 = z.1 + 25; have q := ha 52 (rl_d _ rfl); have : rk 52 = 26 := rfl; omega) rfl (fun _ => rfl) rfl hA (fun hA => ?_)
  refine rstep (m := 53) (f := 33) (w := 80) (by decide +kernel) (rl_d _ rfl) (fun k hk hne => by unfold rl at hk; omega) (by omega) (h0 53 (rl_d _ rfl)) (by show e.1 53 0 = z.1 + 26; have q := ha 53 (rl_d _ rfl); have : rk 53 = 27 := rfl; omega) rfl (fun _ => rfl) rfl hA (fun hA => ?_)
  refine rstep (m := 54) (f := 34) (w := 80) (by decide +kernel) (rl_d _ rfl) (fun k hk hne => by unfold rl at hk; omega) (by omega) (h0 54 (rl_d _ rfl)) (by show e.1 54 0 = z.1 + 27; have q := ha 54 (rl_d _ rfl); have : rk 54 = 28 := rfl; omega) rfl (fun _ => rfl) rfl hA (fun hA => ?_)
  refine rstep (m := 55) (f := 35) (w := 80) (by decide +kernel) (rl_d _ rfl) (fun k hk hne => by unfold rl at hk; omega) (by omega) (h0 55 (rl_d _ rfl)) (by show e.1 55 0 = z.1 + 28; have q := ha 55 (rl_d _ rfl); have : rk 55 = 29 := rfl; omega) rfl (fun _ => rfl) rfl hA (fun hA => ?_)
  refine rstep (m := 56) (f := 39) (w := 20) (by decide +kernel) (rl_d _ rfl) (fun k hk hne => by unfold rl at hk; omega) (by omega) (h0 59 (rl_d _ rfl)) (by show e.1 59 0 = z.1 + 29; have q := ha 59 (rl_d _ rfl); have : rk 59 = 30 := rfl; omega) rfl (fun _ => rfl) rfl hA (fun hA => ?_)
  refine rstep (m := 60) (f := 40) (w := 80) (by decide +kernel) (rl_d _ rfl) (fun k hk hne => by unfold rl at hk; omega) (by omega) (h0 60 (rl_d _ rfl)) (by show e.1 60 0 = z.1 + 30; have q := ha 60 (rl_d _ rfl); have : rk 60 = 31 := rfl; omega) rfl (fun _ => rfl) rfl hA (fun hA => ?_)
  exact h hA
end INI
