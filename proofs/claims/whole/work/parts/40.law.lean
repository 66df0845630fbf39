/-! helpers' contracts; the law's calls of them; the law's walk -/
def xwsH (mj : Nat) : List Cond := Cond.codeWith (xyn mj) (xcb mj) (xmx mj) (xrt mj) (xhh mj) :: xTs
/-- what is asked of a helper -/
def XCh (mj n : Nat) : Prop := Cond.codeWith (xyn mj) (xcb mj) (xmx mj) (xrt mj) (xhh mj) ∈ xTs ∧ (xyn mj).cls ≠ "java/lang/invoke/MethodHandle" ∧ (xyn mj).cls ≠ "java/lang/invoke/VarHandle" ∧ (parseMethodDescriptor (xyn mj).desc).map (fun d => d.parameters.length) = some n ∧ xmx mj ≤ 18 ∧ plainName (xyn mj).cls = true ∧ (xyn mj).cls = xnm (xow mj) ∧ (mj ∈ xinis → (xyn mj).name = "<init>") ∧ xhs mj = true ∧ xow mj = 13
def XS11 : Prop := ∀ o x mj n q, xmd o x = some (mj, n, q, 96) → XCh mj n ∧ Cond.methodLink (xnm o) x (xyn mj) ∈ xTs ∧ Cond.static (xyn mj) ∈ xTs ∧ Cond.initialized (xyn mj).cls ∈ xTs
/-- what helpers catch: a fact of their tables -/
def XCa (P : State → Prop) (l : Launch) (U : State) (D : va_G) : Prop := ∀ (mi : Nat) (p : Program) (e : Env) (R : Room) (s : State) (m : MethodId) (args : Array Value) (below : List Frame) (meth : Method) (c : Code), xhs mi = true → XK P U D mi p R s m args meth c → c.exceptionTable.toList = tableOf (xhh mi) → XCt mi p l e R s m args below meth c
def XAllH (P : State → Prop) (l : Launch) (U : State) (D : va_G) (F : Nat) : Prop :=
  ∀ (mi : Nat), xhs mi = true → xow mi = 13 → ∀ (pc : Nat) (ls : XL) (st : List XE) (σ : XH) (v : Option XE) (σ' : XH), xrun F mi pc ls st σ = some (.inl v, σ') → ∀ (p : Program) (e : Env) (R : Room) (s : State) (m : MethodId) (args : Array Value) (below : List Frame) (meth : Method) (c : Code) (u0 : Nat), XK P U D mi p R s m args meth c → XCt mi p l e R s m args below meth c → σ'.2.1 ≤ R.cells + s.heap.size ∧ σ'.2.2.1 ≤ R.slots + u0 → XG U D mi p l e R s m args below meth c u0 (XQ U D below args s u0 v σ') pc ls st σ
theorem xcal_le {F mj : Nat} {as : List XE} {σ σ' : XH} {v : XV} (h : (bif Nat.ble (xent as).length (xmx mj) then xrun F mj 0 (xpad (xmx mj) (xent as)) [] σ else none) = some (v, σ')) : xle σ σ' := by
  simp only [cond_eq_ite] at h
  split at h
  · exact xrun_le _ _ _ _ _ _ _ _ h
  · cases h
theorem xallH {P : State → Prop} {l : Launch} {U : State} {D : va_G} (St : XSt) (S8 : XS8) (S9 : XS9) (S10 : XS10) (hP : XPw P) (hPn : XPn P) (hT : XTs P l U D) : ∀ F, XAllH P l U D F
  | 0 => by intro mi _ _ pc ls st σ v σ' h; cases h
  | F + 1 => by
    intro mi hhs h13 pc ls st σ v σ' h p e R s m args below meth c u0 K hct hcap
    have ih : XAllH P l U D F := xallH St S8 S9 S10 hP hPn hT F
    have ia : XAll P l U D F := xall St S8 hP hPn F
    have it : XAllT P l U D F := xallT St S8 hP hPn hT F
    unfold xrun at h
    exact xin_simH St S9 S10 K hP hPn.1 hhs h13 hct hcap (fun pc ls st σ v σ' h => xrun_le _ _ _ _ _ _ _ _ h) (fun mj as σ v σ' h => xcal_le h) (fun mj n as σ v σ' hcm h => xmet ia hcm h) (fun mj n as σ E a σ' hcm h => xmetT it hcm h) (fun pc ls st ρ h => ih mi hhs h13 pc ls st ρ v σ' h p e R s m args below meth c u0 K hct hcap) _ _ _ _ _ h
def XMH (P : State → Prop) (l : Launch) (U : State) (D : va_G) (mj : Nat) (as : List XE) (σ : XH) (v : Option XE) (σ' : XH) : Prop :=
  σ.2.1 ≤ σ'.2.1 ∧ σ.2.2.1 ≤ σ'.2.2.1 ∧ Met l (xyn mj) (xwsH mj) (xrm mj (σ'.2.1 - σ.2.1) (σ'.2.2.1 - σ.2.2.1)) (XPc P U D as σ) (XQc U D v σ') (σ'.2.1 - σ.2.1) (σ'.2.2.1 - σ.2.2.1) (fun q => U.heap.size ≤ q)
theorem xmetH {P : State → Prop} {l : Launch} {U : State} {D : va_G} {F mj n : Nat} {as : List XE} {σ σ' : XH} {v : Option XE} (h : XAllH P l U D F) (hca : XCa P l U D) (hch : XCh mj n) (hr : (bif Nat.ble (xent as).length (xmx mj) then xrun F mj 0 (xpad (xmx mj) (xent as)) [] σ else none) = some (.inl v, σ')) : XMH P l U D mj as σ v σ' := by
  cases hb : Nat.ble (xent as).length (xmx mj) with
  | false => rw [hb] at hr; cases hr
  | true =>
    rw [hb] at hr
    have hr : xrun F mj 0 (xpad (xmx mj) (xent as)) [] σ = some (.inl v, σ') := hr
    have hlen := Nat.le_of_ble_eq_true hb
    have hle := xrun_le _ _ _ _ _ _ _ _ hr
    obtain ⟨c1, c2, c3, c4, c5, c6, c7, c8, c9, h13⟩ := hch
    refine ⟨hle.1, hle.2, ?_⟩
    refine va_MetW (cc := xcb mj) (maxL := xmx mj) (ret := xrt mj) (hh := xhh mj) c6 rfl ?_
    intro p e s m args below meth c s₁ B hml hv
    obtain ⟨rfl, hR, hal, hK, hp⟩ := hv
    have hts := atoms_spec (ws := xwsH mj) B.pre
    have htab : c.exceptionTable.toList = tableOf (xhh mj) := vx_table (x := xyn mj) B (hts _ List.mem_cons_self)
    have hown := findClass_of_methodNamed B.named
    rw [c7] at hown
    have hsz : s.heap.size = σ.2.1 := hR.2.1
    have K : XK P U D mj p (headSpec (xwsH mj) (xrm mj (σ'.2.1 - σ.2.1) (σ'.2.2.1 - σ.2.2.1))).room s m (as.map xv).toArray meth c :=
      ⟨B.exec, B.bytes, hml, hown, fun w hw => hts w (List.mem_cons_of_mem _ hw), B.returns, B.notSynchronized, fun hi => by rw [(name_of_methodNamed B.named B.method).1]; exact c8 hi, Nat.le_refl _, Nat.le_refl _, hal, hK, ⟨hR.2.2.1, hR.2.2.2.1⟩, hp⟩
    have hG := h mj c9 h13 0 _ [] σ v σ' hr p e _ s m _ below meth c σ.2.2.1 K (hca mj p e _ s m _ below meth c c9 K htab) ⟨by show σ'.2.1 ≤ σ'.2.1 - σ.2.1 + s.heap.size; omega, by show σ'.2.2.1 ≤ σ'.2.2.1 - σ.2.2.1 + σ.2.2.1; omega⟩
    have := hG s.heap [] _ hR (xhl_entry as hlen) (fun q hq => by cases hq) (by omega) (Nat.le_refl _)
    rw [lg_entry_eq]
    unfold XQ at this
    rw [hsz, Nat.sub_self, Nat.sub_self] at this
    exact this
section XLW
variable {p : Program} {l : Launch} {e : Env} {R : Room} {s : State} {m : MethodId} {args : Array Value} {below : List Frame} {meth : Method} {c : Code} {U : State} {D : va_G} {P : State → Prop}
/-- a call of a helper -/
theorem xc_help {mi u0 pc x mj n : Nat} {Q : State → Prop} {ls : XL} {st : List XE} {σ σ' : XH} {v : Option XE} (K : XK P U D mi p R s m args meth c) (hP : XPw P) (hd : decode (xcb mi) pc = .ok (.invokestatic x, 3)) (hdep : xdp mj + 1 ≤ xdp mi)
    (hch : XCh mj n) (w1 : Cond.methodLink (xnm (xow mi)) x (xyn mj) ∈ xTs) (w2 : Cond.static (xyn mj) ∈ xTs) (w4 : Cond.initialized (xyn mj).cls ∈ xTs) (hn : n ≤ st.length)
    (hwd : xwd (st.drop n) ≤ 8) (hM : XMH P l U D mj (st.take n).reverse σ v σ')
    (hcap : σ'.2.1 ≤ R.cells + s.heap.size ∧ σ'.2.2.1 ≤ R.slots + u0) (kk : XG U D mi p l e R s m args below meth c u0 Q (pc + 3) ls (v.toList ++ st.drop n) σ') : XG U D mi p l e R s m args below meth c u0 Q pc ls st σ := by
  intro H locs la hR hL hlc hs hu
  obtain ⟨m1, m2, hM⟩ := hM
  have K' := K
  obtain ⟨hx, hb, hml, hown, hts, -, -, -, hfr, hlo, hal, hK, -⟩ := K
  obtain ⟨c1, c2, c3, c4, c5, -⟩ := hch
  have hstk : st.map xv = (((st.take n).reverse).map xv).reverse ++ (st.drop n).map xv := by
    rw [List.map_reverse, List.reverse_reverse, ← List.map_append, List.take_append_drop]
  refine xc_end m1 m2 hL hlc hs hu (a := (((st.take n).reverse).map xv).toArray) ?_ kk
  refine xrun_of_va (vx_runSW ⟨hx, hb, hml, hown, hts⟩ hM (vx_cwSW n hts (xgood fun w hw => ?_) rfl rfl rfl ⟨c2, c3, c4⟩ ⟨by show xdp mj + 1 ≤ R.frames; omega, by show 8 + (xmx mj + 11) + 37 * xdp mj ≤ R.locals; omega⟩) ⟨XPc.blind hP, xpre K' hP hR⟩ rfl (by rw [List.length_map, List.length_reverse, List.length_take]; omega) hL.1 hstk (by show 2 * 0 + _ ≤ 8; rw [xwd_sum]; omega) hd ⟨by show _ - _ + (σ'.2.1 - σ.2.1) ≤ _; omega, by show _ - _ + (σ'.2.2.1 - σ.2.2.1) ≤ _; omega⟩)
  unfold va_wsS at hw
  rcases List.mem_append.mp hw with h | h
  · simp only [List.mem_cons, List.not_mem_nil, or_false] at h
    rcases h with rfl | rfl | rfl
    · exact w1
    · exact w2
    · exact w4
  · rcases List.mem_cons.mp h with rfl | h
    · exact c1
    · exact h
end XLW
/-- the law's own walk -/
theorem xlaw {P : State → Prop} {l : Launch} {U : State} {D : va_G} (St : XSt) (S8 : XS8) (S9 : XS9) (S10 : XS10) (S11 : XS11) (hP : XPw P) (hPn : XPn P) (hT : XTs P l U D) (hca : XCa P l U D) : ∀ (F pc : Nat) (ls : XL) (st : List XE) (σ : XH) (v : Option XE) (σ' : XH), xrun F 194 pc ls st σ = some (.inl v, σ') → ∀ (p : Program) (e : Env) (R : Room) (s : State) (m : MethodId) (args : Array Value) (below : List Frame) (meth : Method) (c : Code) (u0 : Nat), XK P U D 194 p R s m args meth c → σ'.2.1 ≤ R.cells + s.heap.size ∧ σ'.2.2.1 ≤ R.slots + u0 → XG U D 194 p l e R s m args below meth c u0 (XQ U D below args s u0 v σ') pc ls st σ
  | 0, _, _, _, _, _, _, h => by cases h
  | F + 1, pc, ls, st, σ, v, σ', h => by
    intro p e R s m args below meth c u0 K hcap
    have ia : XAll P l U D F := xall St S8 hP hPn F
    have ih : XAllH P l U D F := xallH St S8 S9 S10 hP hPn hT F
    unfold xrun at h
    refine xin_sim St K hP hPn rfl hcap (fun pc ls st σ v σ' h => xrun_le _ _ _ _ _ _ _ _ h) (fun mj as σ v σ' h => xcal_le h) (fun mj n as σ v σ' hcm h => xmet ia hcm h) ?_ (fun pc ls st ρ h => xlaw St S8 S9 S10 S11 hP hPn hT hca F pc ls st ρ v σ' h p e R s m args below meth c u0 K hcap) _ _ _ _ _ h
    intro pc ls st σ x mj n q v σ' hx hd hdep hn hcal hwd hcap2 kk
    obtain ⟨a1, a2, a3, a4⟩ := S11 _ _ _ _ _ hx
    exact xc_help K hP hd hdep a1 a2 a3 a4 hn hwd (xmetH ih hca a1 hcal) hcap2 kk
