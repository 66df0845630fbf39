/-! calls -/
def xws (mj : Nat) : List Cond := Cond.code (xyn mj) (xcb mj) (xmx mj) (xrt mj) :: xTs
def xrm (mj a b : Nat) : Room := { frames := xdp mj, cells := a, slots := b, locals := 37 * xdp mj }
def XPc (P : State → Prop) (U : State) (D : va_G) (as : List XE) (σ : XH) : Array Value → State → Prop := fun v t => v = (as.map xv).toArray ∧ XRep U D σ t.heap ∧ U.vm.Alike t.vm ∧ va_K D vwCl [] t ∧ P t
/-- a method's contract, by what the interpreter answers -/
def XM (P : State → Prop) (l : Launch) (U : State) (D : va_G) (mj : Nat) (as : List XE) (σ : XH) (v : Option XE) (σ' : XH) : Prop :=
  σ.2.1 ≤ σ'.2.1 ∧ σ.2.2.1 ≤ σ'.2.2.1 ∧ Met l (xyn mj) (xws mj) (xrm mj (σ'.2.1 - σ.2.1) (σ'.2.2.1 - σ.2.2.1)) (XPc P U D as σ) (XQc U D v σ') (σ'.2.1 - σ.2.1) (σ'.2.2.1 - σ.2.2.1) (fun q => U.heap.size ≤ q)
/-- what is asked of a method that is called -/
def XCm (mj n : Nat) : Prop := Cond.code (xyn mj) (xcb mj) (xmx mj) (xrt mj) ∈ xTs ∧ (xyn mj).cls ≠ "java/lang/invoke/MethodHandle" ∧ (xyn mj).cls ≠ "java/lang/invoke/VarHandle" ∧ (parseMethodDescriptor (xyn mj).desc).map (fun d => d.parameters.length) = some n ∧ xmx mj ≤ 18 ∧ plainName (xyn mj).cls = true ∧ (xyn mj).cls = xnm (xow mj) ∧ (mj ∈ xinis → (xyn mj).name = "<init>") ∧ xhs mj = false ∧ xow mj ≠ 13
def XPw (P : State → Prop) : Prop := ∀ s t : State, s.WarmedH t.vm → P s → P t
theorem xgood {ws : List Cond} (h : ∀ w ∈ ws, w ∈ xTs) : GoodIn xTs ws := fun w hw => ⟨h w hw, good_of_word (List.mem_filter.mp (h w hw)).2⟩
theorem xws_in {mj : Nat} (h : Cond.code (xyn mj) (xcb mj) (xmx mj) (xrt mj) ∈ xTs) : ∀ w ∈ xws mj, w ∈ xTs := by
  intro w hw
  rcases List.mem_cons.mp hw with rfl | hw
  · exact h
  · exact hw
theorem xwd_sum : ∀ r : List XE, ((r.map xv).map fun v => v.category).sum = xwd r
  | [] => rfl
  | x :: r => by
    rcases x with x | x | x
    · show 1 + ((r.map xv).map fun v => v.category).sum = xwd r + 1
      rw [xwd_sum r]; omega
    · show 2 + ((r.map xv).map fun v => v.category).sum = xwd r + 2
      rw [xwd_sum r]; omega
    · show (va_rf x).category + ((r.map xv).map fun v => v.category).sum = xwd r + 1
      rw [xwd_sum r, xrf_cat]; omega
theorem XPc.blind {P : State → Prop} {U : State} {D : va_G} {as : List XE} {σ : XH} (hP : XPw P) : FrameBlind (XPc P U D as σ) := fun _ t g mk q => ⟨q.1, q.2.1, q.2.2.1, va_K.moved (u := t) (Vm.Alike.refl t.vm) q.2.2.2.1, hP t _ (State.WarmedH.refl t) q.2.2.2.2⟩
section XQQ
variable {p : Program} {l : Launch} {e : Env} {R : Room} {s : State} {m : MethodId} {args : Array Value} {below : List Frame} {meth : Method} {c : Code} {U : State} {D : va_G} {P : State → Prop}
theorem xcallX {H : Heap} {locs : List Loc} {cells slots mc ms : Nat} {g : JFrame} {rest : List Value} {Q : State → Prop} {Qa : State → Outcome → State → Prop} {free : Addr → Prop} (hr : CallRun p l e R s m args below meth c H locs cells slots mc ms g rest Qa free)
    (kk : ∀ (v : Option Value) (st₀ t : State) (L : List Loc), (∀ q ∈ L, free q.base) → st₀.heap = H → Qa st₀ (.returned v) t → W p l e R s m args below meth c t.heap (locs ++ L) (cells + mc) (slots + ms) Q { g with pc := g.pc + 3, stack := v.toList ++ rest }) : W p l e R s m args below meth c H locs cells slots Q g := by
  intro T hT X
  obtain ⟨v, st₀, t, T', L, h0, X', hL, e1, hq, go⟩ := hr T hT X
  obtain ⟨t', a, b⟩ := kk v st₀ t L hL h0 hq T' e1 X'
  exact ⟨t', go t' a, b⟩
theorem xrun_of_va {H : Heap} {locs : List Loc} {cells slots mc ms : Nat} {g : JFrame} {rest : List Value} {Qa : State → Outcome → State → Prop} {free : Addr → Prop} (hr : va_Run p l e R s m args below meth c H locs cells slots mc ms g rest Qa free) : CallRun p l e R s m args below meth c H locs cells slots mc ms g rest Qa free := by
  intro T hT X
  obtain ⟨v, st₀, t, T', L, h0, X', hL, e1, -, hq, go⟩ := hr T hT X
  exact ⟨v, st₀, t, T', L, h0, X', hL, e1, hq, go⟩
theorem xc_end {mi u0 pc : Nat} {Q : State → Prop} {ls : XL} {r : List XE} {σ σ' : XH} {v : Option XE} {H : Heap} {locs : List Loc} {la : Array Slot} {st0 : List Value} {a : Array Value} (h1 : σ.2.1 ≤ σ'.2.1) (h2 : σ.2.2.1 ≤ σ'.2.2.1) (hL : xhl la (xmx mi) ls) (hlc : ∀ q ∈ locs, U.heap.size ≤ q.base) (hs : s.heap.size ≤ σ.2.1) (hu : u0 ≤ σ.2.2.1)
    (hr : CallRun p l e R s m args below meth c H locs (σ.2.1 - s.heap.size) (σ.2.2.1 - u0) (σ'.2.1 - σ.2.1) (σ'.2.2.1 - σ.2.2.1) (F0 m pc la st0) (r.map xv) (XQc U D v σ' a) (fun q => U.heap.size ≤ q))
    (kk : XG U D mi p l e R s m args below meth c u0 Q (pc + 3) ls (v.toList ++ r) σ') : W p l e R s m args below meth c H locs (σ.2.1 - s.heap.size) (σ.2.2.1 - u0) Q (F0 m pc la st0) := by
  refine xcallX hr fun v' st₀ t L hL2 h0 hq => ?_
  obtain ⟨hv, hR⟩ := hq
  cases hv
  have hst : (v.map xv).toList ++ r.map xv = (v.toList ++ r).map xv := by cases v <;> simp
  have := kk t.heap (locs ++ L) la hR hL (fun q hq => by
    rcases List.mem_append.mp hq with h | h
    · exact hlc q h
    · exact hL2 q h) (by omega) (by omega)
  refine W.cs (cells' := σ'.2.1 - s.heap.size) (slots' := σ'.2.2.1 - u0) (by omega) (by omega) ?_
  show W p l e R s m args below meth c t.heap (locs ++ L) _ _ Q (F0 m (pc + 3) la ((v.map xv).toList ++ r.map xv))
  rw [hst]
  exact this
theorem xpre {mi : Nat} {H : Heap} {as : List XE} {σ : XH} (K : XK P U D mi p R s m args meth c) (hP : XPw P) (hR : XRep U D σ H) : ∀ T : State, T.heap = H → s.WarmedH T.vm → XPc P U D as σ (as.map xv).toArray T := by
  obtain ⟨-, -, -, -, -, -, -, -, -, -, hal, hK, -, hp⟩ := K
  intro T hT hW
  exact ⟨rfl, by rw [hT]; exact hR, hal.trans hW.alike, va_K.moved hW.alike hK, hP s T hW hp⟩
/-- a virtual call -/
theorem xc_virt {mi u0 pc x mj n ci b : Nat} {Q : State → Prop} {ls : XL} {st r : List XE} {σ σ' : XH} {v : Option XE} {o : XO} (K : XK P U D mi p R s m args meth c) (hP : XPw P) (hd : decode (xcb mi) pc = .ok (.invokevirtual x, 3)) (hdep : xdp mj + 1 ≤ xdp mi)
    (hcm : XCm mj n) (w1 : Cond.methodLink (xnm (xow mi)) x (xyn mj) ∈ xTs) (w2 : Cond.instanceMethod (xyn mj) ∈ xTs) (w3 : Cond.selects (xnm ci) (xyn mj) (xyn mj) ∈ xTs) (w4 : Cond.initialized (xnm ci) ∈ xTs) (w5 : (xyn mj).cls = xnm ci) {rc : vw_C} (hrc : vwCl[ci]? = some rc) (hrn : rc.1 = xnm ci)
    (hst : st.drop n = .inr (.inr (some b)) :: r) (hob : σ.1 b = some o) (hoc : o.1 = ci) (hwd : xwd r ≤ 8) (hM : XM P l U D mj (.inr (.inr (some b)) :: (st.take n).reverse) σ v σ')
    (hcap : σ'.2.1 ≤ R.cells + s.heap.size ∧ σ'.2.2.1 ≤ R.slots + u0) (kk : XG U D mi p l e R s m args below meth c u0 Q (pc + 3) ls (v.toList ++ r) σ') : XG U D mi p l e R s m args below meth c u0 Q pc ls st σ := by
  intro H locs la hR hL hlc hs hu
  obtain ⟨m1, m2, hM⟩ := hM
  have K' := K
  obtain ⟨hx, hb, hml, hown, hts, -, -, -, hfr, hlo, hal, hK, -⟩ := K
  obtain ⟨c1, c2, c3, c4, c5, -⟩ := hcm
  subst hoc
  obtain ⟨-, cell, q1, q2, q3, -⟩ := hR.obj hob hrc
  have hlen : (st.take n).length = n := by
    rw [List.length_take]
    have : (st.drop n).length = r.length + 1 := by rw [hst]; rfl
    rw [List.length_drop] at this
    omega
  have hstk : st.map xv = (((st.take n).reverse).map xv).reverse ++ .ref b :: r.map xv := by
    rw [List.map_reverse, List.reverse_reverse]
    have : st = st.take n ++ (.inr (.inr (some b)) :: r) := by rw [← hst, List.take_append_drop]
    conv => lhs; rw [this]
    rw [List.map_append]
    rfl
  have hcw : CallW R s args (xnm (xow mi)) (xnm o.1) x (xyn mj) (xcb mj) (xmx mj) (xrt mj) (xws mj) (xrm mj (σ'.2.1 - σ.2.1) (σ'.2.2.1 - σ.2.2.1)) (σ'.2.1 - σ.2.1) (σ'.2.2.1 - σ.2.2.1) n := by
    refine cwV n hts (xgood fun w hw => ?_) rfl rfl rfl ⟨w5, c2, c3, c4⟩ ⟨by show xdp mj + 1 ≤ R.frames; omega, by show 8 + (xmx mj + 11) + 37 * xdp mj ≤ R.locals; omega⟩
    unfold wsV at hw
    rcases List.mem_append.mp hw with h | h
    · simp only [List.mem_cons, List.not_mem_nil, or_false] at h
      rcases h with rfl | rfl | rfl | rfl
      · exact w1
      · exact w2
      · exact w3
      · exact w4
    · exact xws_in c1 w h
  refine xc_end m1 m2 hL hlc hs hu (a := (Value.ref b :: ((st.take n).reverse).map xv).toArray) ?_ kk
  have hpre : PreV s H (xnm o.1) b (XPc P U D (.inr (.inr (some b)) :: (st.take n).reverse) σ) (((st.take n).reverse).map xv) :=
    ⟨XPc.blind hP, ⟨cell, q1, by rw [q3]; rfl, by rw [q2, ← hrn]; exact (hK.1 o.1 rc hrc).2.1⟩, xpre K' hP hR⟩
  exact W.runV ⟨hx, hb, hml, hown, hts⟩ hM hcw hpre rfl (by rw [List.length_map, List.length_reverse]; exact hlen) hL.1 hstk (by show 2 * 0 + _ ≤ 8; rw [xwd_sum]; omega) hd ⟨by omega, by omega⟩
/-- a static call of a method of the same class -/
theorem xc_stat {mi u0 pc x mj n : Nat} {Q : State → Prop} {ls : XL} {st : List XE} {σ σ' : XH} {v : Option XE} (K : XK P U D mi p R s m args meth c) (hP : XPw P) (hd : decode (xcb mi) pc = .ok (.invokestatic x, 3)) (hdep : xdp mj + 1 ≤ xdp mi)
    (hcm : XCm mj n) (w1 : Cond.methodLink (xnm (xow mi)) x (xyn mj) ∈ xTs) (w2 : Cond.static (xyn mj) ∈ xTs) (w4 : Cond.initialized (xnm (xow mi)) ∈ xTs) (w5 : (xyn mj).cls = xnm (xow mi)) (hn : n ≤ st.length)
    (hwd : xwd (st.drop n) ≤ 8) (hM : XM P l U D mj (st.take n).reverse σ v σ')
    (hcap : σ'.2.1 ≤ R.cells + s.heap.size ∧ σ'.2.2.1 ≤ R.slots + u0) (kk : XG U D mi p l e R s m args below meth c u0 Q (pc + 3) ls (v.toList ++ st.drop n) σ') : XG U D mi p l e R s m args below meth c u0 Q pc ls st σ := by
  intro H locs la hR hL hlc hs hu
  obtain ⟨m1, m2, hM⟩ := hM
  have K' := K
  obtain ⟨hx, hb, hml, hown, hts, -, -, -, hfr, hlo, hal, hK, -⟩ := K
  obtain ⟨c1, c2, c3, c4, c5, -⟩ := hcm
  have hstk : st.map xv = (((st.take n).reverse).map xv).reverse ++ (st.drop n).map xv := by
    rw [List.map_reverse, List.reverse_reverse, ← List.map_append, List.take_append_drop]
  refine xc_end m1 m2 hL hlc hs hu (a := (((st.take n).reverse).map xv).toArray) ?_ kk
  refine W.runS ⟨hx, hb, hml, hown, hts⟩ hM (cwS n hts (xgood fun w hw => ?_) rfl rfl rfl ⟨w5, c2, c3, c4⟩ ⟨by show xdp mj + 1 ≤ R.frames; omega, by show 8 + (xmx mj + 11) + 37 * xdp mj ≤ R.locals; omega⟩) ⟨XPc.blind hP, xpre K' hP hR⟩ rfl (by rw [List.length_map, List.length_reverse, List.length_take]; omega) hL.1 hstk (by show 2 * 0 + _ ≤ 8; rw [xwd_sum]; omega) hd ⟨by show _ - _ + (σ'.2.1 - σ.2.1) ≤ _; omega, by show _ - _ + (σ'.2.2.1 - σ.2.2.1) ≤ _; omega⟩
  unfold wsS at hw
  rcases List.mem_append.mp hw with h | h
  · simp only [List.mem_cons, List.not_mem_nil, or_false] at h
    rcases h with rfl | rfl | rfl
    · exact w1
    · exact w2
    · exact w4
  · exact xws_in c1 w h
/-- a constructor -/
theorem xc_init {mi u0 pc x mj n b : Nat} {Q : State → Prop} {ls : XL} {st r : List XE} {σ σ' : XH} {v : Option XE} (K : XK P U D mi p R s m args meth c) (hP : XPw P) (hd : decode (xcb mi) pc = .ok (.invokespecial x, 3)) (hdep : xdp mj + 1 ≤ xdp mi)
    (hcm : XCm mj n) (w1 : Cond.methodLink (xnm (xow mi)) x (xyn mj) ∈ xTs ∨ ∃ host, va_Nw (.methodLinkNest (xnm (xow mi)) x (xyn mj) host) s) (w2 : Cond.instanceMethod (xyn mj) ∈ xTs) (w4 : Cond.initialized (xyn mj).cls ∈ xTs) (w5 : (xyn mj).name = "<init>") (w6 : xrt mj = none)
    (hst : st.drop n = .inr (.inr (some b)) :: r) (hwd : xwd r ≤ 8) (hM : XM P l U D mj (.inr (.inr (some b)) :: (st.take n).reverse) σ v σ')
    (hcap : σ'.2.1 ≤ R.cells + s.heap.size ∧ σ'.2.2.1 ≤ R.slots + u0) (kk : XG U D mi p l e R s m args below meth c u0 Q (pc + 3) ls (v.toList ++ r) σ') : XG U D mi p l e R s m args below meth c u0 Q pc ls st σ := by
  intro H locs la hR hL hlc hs hu
  obtain ⟨m1, m2, hM⟩ := hM
  have K' := K
  obtain ⟨hx, hb, hml, hown, hts, -, -, -, hfr, hlo, hal, hK, -⟩ := K
  obtain ⟨c1, c2, c3, c4, c5, -⟩ := hcm
  have hlen : (st.take n).length = n := by
    rw [List.length_take]
    have : (st.drop n).length = r.length + 1 := by rw [hst]; rfl
    rw [List.length_drop] at this
    omega
  have hstk : st.map xv = (((st.take n).reverse).map xv).reverse ++ .ref b :: r.map xv := by
    rw [List.map_reverse, List.reverse_reverse]
    have : st = st.take n ++ (.inr (.inr (some b)) :: r) := by rw [← hst, List.take_append_drop]
    conv => lhs; rw [this]
    rw [List.map_append]
    rfl
  have hpre : PreS s H (XPc P U D (.inr (.inr (some b)) :: (st.take n).reverse) σ) (.ref b :: ((st.take n).reverse).map xv) := ⟨XPc.blind hP, xpre K' hP hR⟩
  have hws : xws mj = Cond.code (xyn mj) (xcb mj) (xmx mj) none :: xTs := by unfold xws; rw [w6]
  refine xc_end m1 m2 hL hlc hs hu (a := (Value.ref b :: ((st.take n).reverse).map xv).toArray) ?_ kk
  rcases w1 with w1 | ⟨host, w1⟩
  · exact W.runI ⟨hx, hb, hml, hown, hts⟩ hM (cwI n hts (xgood (xws_in c1)) hws rfl rfl (hts _ w4) (hts _ w1) (hts _ w2) w5 ⟨c2, c3, c4⟩ ⟨by show xdp mj + 1 ≤ R.frames; omega, by show 8 + (xmx mj + 11) + 37 * xdp mj ≤ R.locals; omega⟩) hpre rfl (by rw [List.length_map, List.length_reverse]; exact hlen) hL.1 hstk (by show 2 * 0 + _ ≤ 8; rw [xwd_sum]; omega) hd ⟨by show _ - _ + (σ'.2.1 - σ.2.1) ≤ _; omega, by show _ - _ + (σ'.2.2.1 - σ.2.2.1) ≤ _; omega⟩
  · exact xrun_of_va (va_runIN ⟨hx, hb, hml, hown, hts⟩ hM ⟨va_cnB n hts (xgood (xws_in c1)) hws rfl rfl w1 (hts _ w4) ⟨c2, c3, c4⟩ ⟨by show xdp mj + 1 ≤ R.frames; omega, by show 8 + (xmx mj + 11) + 37 * xdp mj ≤ R.locals; omega⟩, w5, hts _ w2⟩ hpre rfl (by rw [List.length_map, List.length_reverse]; exact hlen) hL.1 hstk (by show 2 * 0 + _ ≤ 8; rw [xwd_sum]; omega) hd ⟨by show _ - _ + (σ'.2.1 - σ.2.1) ≤ _; omega, by show _ - _ + (σ'.2.2.1 - σ.2.2.1) ≤ _; omega⟩)
end XQQ
