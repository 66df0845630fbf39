/-! the law: what each call of its loop rests on -/
noncomputable def LG (Q : Nat) (e : EN) (C I : ST) (z : Nat × Nat × Nat × Nat) (x : Int64) : XH := xset (HS e C I z) Q (101, [.inr (.inl x)])
/-- the script can be read, receivers are there -/
def RD (b N M Q L : Nat) (sc : Int → Int) (e : EN) (C I : ST) (z : Nat × Nat × Nat × Nat) : Prop := WA e z ∧ WR e ∧ XQo Q (HS e C I z) ∧ (e.2.1 62 = 1 ∧ e.2.2 = L ∧ e.1 62 0 = b ∧ e.1 11 0 = N ∧ e.1 12 0 = M) ∧ ∀ j, I 62 0 j = sc j
def LSt (b N M Q L : Nat) (sc : Int → Int) (n : Int) (e : EN) (C I : ST) (z : Nat × Nat × Nat × Nat) : Prop := OK n e C I z ∧ RD b N M Q L sc e C I z ∧ (e.2.1 63 = 1 ∧ e.2.1 64 = 1) ∧ (z.1 : Int) ≤ N + 210 + 11 * n ∧ (z.2.1 : Int) ≤ 7651 + 206 * n
def fq (Q : Nat) (f : Nat → XH → XR) : Prop := ∀ o F σ, XQo Q σ → RQ Q o (f F σ) (f F (xset σ Q o))
section LAW
variable {b N M Q L : Nat} {sc : Int → Int} {n i c : Int} {e : EN} {C I : ST} {z : Nat × Nat × Nat × Nat} {x : Int64}
theorem rd0 (h : RD b N M Q L sc e C I z) (L1 : L ≤ 2560) (i0 : 0 ≤ i) (i1 : i < L) : xai (LG Q e C I z x) (some b) (xk i) = some (xk (sc i)) := by
  obtain ⟨hA, -, hQ, ⟨h1, h2, h3, -, -⟩, hI⟩ := h
  refine xai_q hQ ?_
  have : xai (HS e C I z) (rf e 62 0) (xk i) = some (xk (I 62 0 i)) := by
    unfold xai HS
    rw [H0.at hA (by decide) (Int.le_refl 0) (by rw [h1]; decide) i0 (by show i < (e.2.2 : Int); rw [h2]; exact i1) (by show e.2.2 ≤ 2147483647; omega)]
    rfl
  rw [rf_v (by decide), h3, hI] at this
  exact this
theorem rdc (h : RD b N M Q L sc e C I z) (L1 : L ≤ 2560) (i0 : 0 ≤ i) (i1 : i + 5 ≤ L) (c0 : 0 ≤ c) (c1 : c < 5) : xai (LG Q e C I z x) (some b) (xk i + xk c) = some (xk (sc (i + c))) := by
  rw [xk_add]
  exact rd0 h L1 (by omega) (by omega)
theorem rln (h : RD b N M Q L sc e C I z) : xln (LG Q e C I z x) (some b) = some (nI L) := by
  obtain ⟨hA, -, hQ, ⟨h1, h2, h3, -, -⟩, hI⟩ := h
  refine xln_q hQ ?_
  have hv : Va e 62 0 := ⟨by decide, by decide, by rw [h1]; decide⟩
  have : (HS e C I z).1 (e.1 62 0) = some (ob e (mx C I) 62 0) := hp_at hA hv
  unfold xln
  rw [h3] at this
  simp only [this]
  have hl : (ob e (mx C I) 62 0).2.length = L := by
    show ((List.range (kl e 62)).map _).length = L
    rw [List.length_map, List.length_range]
    exact h2
  rw [hl]
  rfl
theorem xgd_q {σ : XH} {o : XO} {a : Option Nat} {t : Nat} (h : XQo Q σ) (hg : ∀ {K : XR}, xgd σ a t K = K) {K : XR} : xgd (xset σ Q o) a t K = K := by
  have := hg (K := some (.inl none, σ))
  cases a with
  | none => cases this
  | some y =>
    unfold xgd at this ⊢
    cases hy : σ.1 y with
    | none => simp only [hy] at this; cases this
    | some q =>
      simp only [hy] at this
      simp only [h.at hy]
      split at this
      · rename_i hc; rw [if_pos hc]
      · cases this
theorem d11 (h : RD b N M Q L sc e C I z) {K : XR} : xgd (LG Q e C I z x) (some N) 11 K = K := by
  obtain ⟨hA, -, hQ, ⟨-, -, -, h4, -⟩, -⟩ := h
  refine xgd_q hQ (fun {K} => ?_)
  have := d_11 (C := C) (I := I) hA (K := K)
  rw [rf_v (by decide), h4] at this
  exact this
theorem d12 (h : RD b N M Q L sc e C I z) {K : XR} : xgd (LG Q e C I z x) (some M) 12 K = K := by
  obtain ⟨hA, hR, hQ, ⟨-, -, -, -, h5⟩, -⟩ := h
  refine xgd_q hQ (fun {K} => ?_)
  have := d_12 (C := C) (I := I) hA hR (K := K)
  rw [rf_v (by decide), h5] at this
  exact this
theorem outR : xal (LG Q e C I z x) (some Q) (xk 0) = some x := by
  unfold LG xal xat
  have : (xset (HS e C I z) Q (101, [.inr (.inl x)])).1 Q = some (101, [.inr (.inl x)]) := if_pos rfl
  simp only [this]
  have q : xix (xk 0) 1 = true := by decide +kernel
  have q2 : (xk 0).toNatClampNeg = 0 := by decide +kernel
  simp [q, q2, xtoL]
theorem outW {v : Int64} : xsl (LG Q e C I z x) (some Q) (xk 0) v = some (LG Q e C I z v) := by
  unfold LG xsl xas
  have : (xset (HS e C I z) Q (101, [.inr (.inl x)])).1 Q = some (101, [.inr (.inl x)]) := if_pos rfl
  simp only [this]
  have q : xix (xk 0) 1 = true := by decide +kernel
  have q2 : (xk 0).toNatClampNeg = 0 := by decide +kernel
  simp [q, q2]
  refine Prod.ext ?_ rfl
  funext a
  show (if a = Q then _ else if a = Q then _ else _) = (if a = Q then _ else _)
  by_cases h : a = Q
  · rw [if_pos h, if_pos h]
  · rw [if_neg h, if_neg h, if_neg h]
theorem cmp0 {v : Int64} : lg_cmp v v = 0 := by
  unfold lg_cmp
  simp
theorem RD.nx {e' : EN} {C' : ST} {z' : Nat × Nat × Nat × Nat} {I' I2 : ST} (h : RD b N M Q L sc e C I z) (hA : WA e' z') (hR : WR e') (hN : NX e e' z z' I I') (hQ : XQo Q (HS e' C' I2 z')) (hI : ∀ j, I2 62 0 j = I 62 0 j) : RD b N M Q L sc e' C' I2 z' := by
  obtain ⟨-, -, -, ⟨h1, h2, h3, h4, h5⟩, h6⟩ := h
  refine ⟨hA, hR, hQ, ⟨?_, ?_, ?_, ?_, ?_⟩, fun j => by rw [hI, h6]⟩
  · rw [hN.2.1.2 62 (by decide)]; exact h1
  · rw [hN.2.1.1]; exact h2
  · rw [hN.2.2.1 62 (by decide)]; exact h3
  · rw [hN.2.2.1 11 (by decide)]; exact h4
  · rw [hN.2.2.1 12 (by decide)]; exact h5
/-- both sides answer alike -/
theorem lawA {fc fr : Nat → XH → XR} (hL : LSt b N M Q L sc n e C I z) (hp : PR n e C I z fc fr) (hfc : fq Q fc) (hfr : fq Q fr) : ∃ e' C' I' z' A, LSt b N M Q L sc (n + 1) e' C' I' z' ∧ RD b N M Q L sc e' C' I z' ∧ (∀ x, Ev (fun F => fc F (LG Q e C I z x)) (rI A (LG Q e' C' I z' x))) ∧ (∀ x, Ev (fun F => fr F (LG Q e' C' I z' x)) (rI A (LG Q e' C' I' z' x))) ∧ I' 12 0 0 = 0 := by
  obtain ⟨hO, hD, h63, hz1, hz2⟩ := hL
  obtain ⟨e', C', I', z', A, p1, p2, p3, p4, p5, p6⟩ := hp
  have f1 := fun o => Ev.fr (fun F => hfc o F _ hD.2.2.1) p1
  have q1 := (f1 (101, [.inr (.inl 0)])).2
  have f2 := fun o => Ev.fr (fun F => hfr o F _ q1) p2
  have q2 := (f2 (101, [.inr (.inl 0)])).2
  have d1 : RD b N M Q L sc e' C' I z' := hD.nx p3.1 p3.2.1 p4 q1 (fun _ => rfl)
  refine ⟨e', C', I', z', A, ⟨p3, hD.nx p3.1 p3.2.1 p4 q2 p4.2.2.2, ⟨?_, ?_⟩, ?_, ?_⟩, d1, fun x => (f1 _).1, fun x => (f2 _).1, p6⟩
  · rw [p4.2.1.2 63 (by decide)]; exact h63.1
  · rw [p4.2.1.2 64 (by decide)]; exact h63.2
  · have := p4.1.1; omega
  · have := p4.1.2; omega
/-- a throw on the class's side, told on the other -/
theorem lawT {fc fr : Nat → XH → XR} {E : Nat} {w : Int} (hL : LSt b N M Q L sc n e C I z) (hp : PT n e C I z E w fc fr) (hfc : fq Q fc) (hfr : fq Q fr) : ∃ z' q A, LSt b N M Q L sc (n + 1) e C (th I w) z' ∧ RD b N M Q L sc e C I z' ∧ (∀ x, Ev (fun F => fc F (LG Q e C I z x)) (.inr (E, q), LG Q e C I z' x)) ∧ ∀ x, Ev (fun F => fr F (LG Q e C I z' x)) (rI A (LG Q e C (th I w) z' x)) := by
  obtain ⟨hO, hD, h63, hz1, hz2⟩ := hL
  obtain ⟨⟨q, p1⟩, A, p2⟩ := hp
  have f1 := fun o => Ev.fr (fun F => hfc o F _ hD.2.2.1) p1
  have q1 := (f1 (101, [.inr (.inl 0)])).2
  have f2 := fun o => Ev.fr (fun F => hfr o F _ q1) p2
  have q2 := (f2 (101, [.inr (.inl 0)])).2
  obtain ⟨hA, hR, hC, hI⟩ := hO
  have hA' := hA.thr
  obtain ⟨d1, d2, d3, d4, d5⟩ := hD
  refine ⟨(z.1 + 1, z.2.1 + 6, z.2.2), q, A, ⟨⟨hA', hR, hC.th, hI.th (by omega)⟩, ⟨hA', hR, q2, d4, fun j => by rw [th_f (Or.inl (by decide))]; exact d5 j⟩, h63, ?_, ?_⟩, ⟨hA', hR, q1, d4, d5⟩, fun x => (f1 _).1, fun x => (f2 _).1⟩
  · show ((z.1 + 1 : Nat) : Int) ≤ _; omega
  · show ((z.2.1 + 6 : Nat) : Int) ≤ _; omega
theorem thr_ev (hD : RD b N M Q L sc e C I z) : Ev (fun F => J12_thrown F (some M) (LG Q e C I z x)) (rI (I 12 0 0) (LG Q e C I z x)) := by
  obtain ⟨hA, hR, hQ, ⟨-, -, -, -, h5⟩, -⟩ := hD
  refine Ev.step (fun F => E12_thrown F _ _) ?_
  have := g_12_0 (C := C) (I := I) hA hR
  rw [rf_v (by decide), h5] at this
  exact Ev.bs (xgi_q hQ this) (Ev.ret rfl)
/-- behind a helper: the reference, what it says was thrown, the comparison -/
def cmpT (F : Nat) (l0 l1 l2 l3 : Option Nat) (l4 v86 : Int32) (fr : Nat → XH → XR) (s85 : XH) : XR := xgd s85 l2 12 (xci (fr F s85) fun v90 s89 => xgd s89 l2 12 (xci (J12_thrown F l2 s89) fun v92 s91 => if v92 = v86 then (if v86 = 0 then ((xal s91 l3 (xk 0)).bind fun v93 => if (lg_cmp v93 (Int32.toInt64 v90)) = 0 then (JL_law_23 F (l0) (l1) (l2) (l3) (l4 + xk 5) s91) else (if (xk 0) = 0 ∨ (xk 0) = 1 then some (.inl (some (.inl (xk 0))), s91) else none)) else (JL_law_23 F (l0) (l1) (l2) (l3) (l4 + xk 5) s91)) else (if (xk 0) = 0 ∨ (xk 0) = 1 then some (.inl (some (.inl (xk 0))), s91) else none)))
def hlpT (F : Nat) (l0 l3 : Option Nat) (fc : Nat → XH → XR) (hd : Nat → Nat → XH → XR) (s0 : XH) : XR := xgd s0 l0 11 (xcx (fc F s0) hd fun v2 s1 => (xsl s1 l3 (xk 0) (Int32.toInt64 v2)).bind fun s6 => some (.inl (some (.inl (xk 0))), s6))
theorem Ev.cxI {f : Nat → XR} {kx : Nat → Nat → XH → XR} {k : Int32 → XH → XR} {A : Int} {σ : XH} {r : XV × XH} (h : Ev f (rI A σ)) (hk : k (xk A) σ = some r) : Ev (fun F => xcx (f F) kx k) r := by
  obtain ⟨n, hn⟩ := h
  refine ⟨n, fun F hF => ?_⟩
  show xcx (f F) kx k = some r
  rw [hn F hF]
  exact hk
theorem Ev.cxT {f : Nat → XR} {kx : Nat → Nat → XH → XR} {k : Int32 → XH → XR} {E q : Nat} {σ : XH} {r : XV × XH} (h : Ev f (.inr (E, q), σ)) (hk : kx E q σ = some r) : Ev (fun F => xcx (f F) kx k) r := by
  obtain ⟨n, hn⟩ := h
  refine ⟨n, fun F hF => ?_⟩
  show xcx (f F) kx k = some r
  rw [hn F hF]
  exact hk
theorem lawB {fc fr : Nat → XH → XR} {hd : Nat → Nat → XH → XR} (hL : LSt b N M Q L sc n e C I z) (hp : PR n e C I z fc fr ∨ ∃ E w, PT n e C I z E w fc fr ∧ (∀ q s, hd E q s = some (.inl (some (.inl (xk w))), s)) ∧ (w = 1 ∨ w = 2)) (hfc : fq Q fc) (hfr : fq Q fr) : ∃ e' C' I' z' x' w, LSt b N M Q L sc (n + 1) e' C' I' z' ∧ RD b N M Q L sc e' C' I z' ∧ Ev (fun F => hlpT F (some N) (some Q) fc hd (LG Q e C I z x)) (rI w (LG Q e' C' I z' x')) ∧ ∀ r, Ev (fun F => JL_law_23 F (some b) (some N) (some M) (some Q) (xk i + xk 5) (LG Q e' C' I' z' x')) r → Ev (fun F => cmpT F (some b) (some N) (some M) (some Q) (xk i) (xk w) fr (LG Q e' C' I z' x')) r := by
  have hD := hL.2.1
  rcases hp with hp | ⟨E, w, hp, h1, hw⟩
  · obtain ⟨e', C', I', z', A, q1, q2, q3, q4, q5⟩ := lawA hL hp hfc hfr
    refine ⟨e', C', I', z', Int32.toInt64 (xk A), 0, q1, q2, ?_, fun r hr => ?_⟩
    · refine Ev.xg (d11 hD) (Ev.cxI (q3 x) ?_)
      rw [outW]
      rfl
    · refine Ev.xg (d12 q2) (Ev.kI (q4 _) (Ev.xg (d12 q1.2.1) (Ev.kI (thr_ev q1.2.1) ?_)))
      rw [q5]
      refine Ev.ite (fun _ => ?_) (fun q => absurd rfl q)
      refine Ev.ite (fun _ => ?_) (fun q => absurd k00 q)
      refine Ev.bs outR ?_
      exact Ev.ite (fun _ => hr) (fun q => absurd cmp0 q)
  · obtain ⟨z', q, A, q1, q2, q3, q4⟩ := lawT hL hp hfc hfr
    refine ⟨e, C, th I w, z', x, w, q1, q2, ?_, fun r hr => ?_⟩
    · exact Ev.xg (d11 hD) (Ev.cxT (q3 x) (h1 _ _))
    · refine Ev.xg (d12 q2) (Ev.kI (q4 _) (Ev.xg (d12 q1.2.1) (Ev.kI (thr_ev q1.2.1) ?_)))
      have : th I w 12 0 0 = w := up_s
      rw [this]
      refine Ev.ite (fun _ => ?_) (fun q => absurd rfl q)
      exact Ev.ite (fun q => absurd ((k0 (by omega) (by omega)).mp q) (by omega)) (fun _ => hr)
theorem LSt.up (hL : LSt b N M Q L sc n e C I z) : LSt b N M Q L sc (n + 1) e C I z := by
  obtain ⟨⟨h1, h2, h3, h4⟩, hD, h63, z1, z2⟩ := hL
  exact ⟨⟨h1, h2, h3, h4.sc (by omega) h4.rb (fun _ _ _ _ _ _ => rfl)⟩, hD, h63, by omega, by omega⟩
theorem lawL {fc fr : Nat → XH → XR} {A : Int} (hL : LSt b N M Q L sc n e C I z) (p1 : Ev (fun F => fc F (HS e C I z)) (rL A (HS e C I z))) (p2 : Ev (fun F => fr F (HS e C I z)) (rL A (HS e C (th I 0) z))) (hfc : fq Q fc) (hfr : fq Q fr) : LSt b N M Q L sc (n + 1) e C (th I 0) z ∧ (∀ x, Ev (fun F => fc F (LG Q e C I z x)) (rL A (LG Q e C I z x))) ∧ (∀ x, Ev (fun F => fr F (LG Q e C I z x)) (rL A (LG Q e C (th I 0) z x))) := by
  obtain ⟨⟨hA, hR, hC, hI⟩, hD, h63, hz1, hz2⟩ := hL
  have f1 := fun o => Ev.fr (fun F => hfc o F _ hD.2.2.1) p1
  have f2 := fun o => Ev.fr (fun F => hfr o F _ hD.2.2.1) p2
  have q2 := (f2 (101, [.inr (.inl 0)])).2
  exact ⟨⟨⟨hA, hR, hC.th, hI.th (by omega)⟩, ⟨hA, hR, q2, hD.2.2.2.1, fun j => by rw [th_f (Or.inl (by decide))]; exact hD.2.2.2.2 j⟩, h63, by omega, by omega⟩, fun x => (f1 _).1, fun x => (f2 _).1⟩
end LAW
