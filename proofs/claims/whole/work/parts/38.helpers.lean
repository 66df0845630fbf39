/-! the law's helpers: methods with handlers -/
section XHL
variable {p : Program} {l : Launch} {e : Env} {R : Room} {s : State} {m : MethodId} {args : Array Value} {below : List Frame} {meth : Method} {c : Code} {U : State} {D : va_G} {P : State → Prop}
theorem xst0_of {ls : Array Slot} {n : Nat} {l : XL} {i : Nat} {v : Value} (h : lv_has ls n ((i, v) :: (xla l).filter (fun q => !(q.1 == i) && !(q.1 + 1 == i && q.2.category == 2)))) : xhl ls n (xst0 l i) := by
  refine ⟨h.1, h.2.1, fun j e' he => ?_⟩
  unfold xst0 at he
  by_cases hj : i = j
  · subst hj
    rw [List.getElem?_set] at he
    simp at he
  · rw [List.getElem?_set_ne hj] at he
    obtain ⟨h1, h2⟩ := xclr_get he
    refine h.2.2 (j, xv e') (List.mem_cons_of_mem _ (List.mem_filter.mpr ⟨xla_mem.mpr ⟨e', h1, rfl⟩, ?_⟩))
    by_cases h3 : j + 1 = i
    · simp [h2 h3, Ne.symm hj]
    · simp [h3, Ne.symm hj]
/-- caught: the walk goes on behind the handler's first store -/
theorem xcatch {mi pc E hp0 hp j : Nat} {Q : State → Prop} {H : Heap} {locs : List Loc} {cells slots : Nat} {la : Array Slot} {ls : XL} {rest : List Value} {q : Addr} {ce : Cell} (K : XK P U D mi p R s m args meth c) (pre : List ExceptionTableEntry) (x : ExceptionTableEntry) (suf : List ExceptionTableEntry) (htab : c.exceptionTable.toList = pre ++ x :: suf)
    (hpre : ∀ z ∈ pre, z.catchType ≠ 0 ∧ ∃ nm : String, Cond.classLink (xnm (xow mi)) z.catchType nm ∈ xTs ∧ va_Nc (xen E) nm s) (hcov : covers x pc = true) (h0 : x.catchType ≠ 0) (hlk : Cond.classLink (xnm (xow mi)) x.catchType (xen E) ∈ xTs) (hcast : (Cond.castable (xen E) (xen E)).before args s = true) (hxp : x.handlerPc = hp0)
    (hast : (decode (xcb mi) hp0 = .ok (.astore j, 2) ∧ hp = hp0 + 2) ∨ ∃ jn : Fin 4, decode (xcb mi) hp0 = .ok (.astore_n jn, 1) ∧ jn.val = j ∧ hp = hp0 + 1) (hj : j < xmx mi) (hL : xhl la (xmx mi) ls) (hcell : H[q]? = some ce) (hv : ce.vm = .none) (hcl : s.vm.findClass (xen E) = some ce.cls)
    (kk : ∀ la1 : Array Slot, xhl la1 (xmx mi) (xst0 ls j) → W p l e R s m args below meth c H locs cells slots Q (F0 m hp la1 [])) : vx_W p l e R s m args below meth c H locs cells slots Q (F0 m pc la rest) q := by
  obtain ⟨hx, hb, hml, hown, hts, -⟩ := K
  refine vx_catch hown pre x suf htab (fun z hz => ?_) hcov h0 (hts _ hlk) hcast hcell hv hcl ?_
  · obtain ⟨a1, nm, a2, a3⟩ := hpre z hz
    exact Or.inr ⟨a1, nm, hts _ a2, a3⟩
  · rw [hxp]
    rcases hast with ⟨d1, rfl⟩ | ⟨jn, d1, rfl, rfl⟩
    · exact lv_astore (x := q) hx hb d1 hL.has hj rfl (fun ls1 h1 => kk ls1 (xst0_of h1))
    · exact lv_astore_n (x := q) hx hb d1 rfl hL.has hj rfl (fun ls1 h1 => kk ls1 (xst0_of h1))
/-- a virtual call that throws, and is caught -/
theorem xc_thrown {mi u0 pc x mj n ci b E hp j : Nat} {Q : State → Prop} {ls : XL} {st r : List XE} {σ σ' : XH} {o : XO} (K : XK P U D mi p R s m args meth c) (hP : XPw P) (hd : decode (xcb mi) pc = .ok (.invokevirtual x, 3)) (hdep : xdp mj + 1 ≤ xdp mi)
    (hcm : XCm mj n) (w1 : Cond.methodLink (xnm (xow mi)) x (xyn mj) ∈ xTs) (w2 : Cond.instanceMethod (xyn mj) ∈ xTs) (w3 : Cond.selects (xnm ci) (xyn mj) (xyn mj) ∈ xTs) (w4 : Cond.initialized (xnm ci) ∈ xTs) (w5 : (xyn mj).cls = xnm ci) {rc : vw_C} (hrc : vwCl[ci]? = some rc) (hrn : rc.1 = xnm ci)
    (hst : st.drop n = .inr (.inr (some b)) :: r) (hob : σ.1 b = some o) (hoc : o.1 = ci) (hwd : xwd r ≤ 8) (hM : XMT P l U D mj (.inr (.inr (some b)) :: (st.take n).reverse) σ E σ')
    (hcap : σ'.2.1 ≤ R.cells + s.heap.size ∧ σ'.2.2.1 ≤ R.slots + u0) (kk : XG U D mi p l e R s m args below meth c u0 Q hp (xst0 ls j) [] σ')
    (hct : ∀ (H : Heap) (locs : List Loc) (cells slots : Nat) (la : Array Slot) (rest : List Value) (q : Addr) (ce : Cell), xhl la (xmx mi) ls → H[q]? = some ce → ce.vm = .none → s.vm.findClass (xen E) = some ce.cls → (∀ la1 : Array Slot, xhl la1 (xmx mi) (xst0 ls j) → W p l e R s m args below meth c H locs cells slots Q (F0 m hp la1 [])) → vx_W p l e R s m args below meth c H locs cells slots Q (F0 m pc la rest) q) : XG U D mi p l e R s m args below meth c u0 Q pc ls st σ := by
  intro H locs la hR hL hlc hs hu
  obtain ⟨m1, m2, hM⟩ := hM
  have K' := K
  obtain ⟨hx, hb, hml, hown, hts, -, -, -, hfr, hlo, hal, hK, -⟩ := K
  obtain ⟨c1, c2, c3, c4, c5, -⟩ := hcm
  subst hoc
  obtain ⟨-, cell, q1, q2, q3, -⟩ := hR.obj hob hrc
  have hlen : (st.take n).length = n := by
    rw [List.length_take]
    have : (st.drop n).length = r.length + 1 := by rw [hst]; rfl
    rw [List.length_drop] at this
    omega
  have hstk : st.map xv = (((st.take n).reverse).map xv).reverse ++ .ref b :: r.map xv := by
    rw [List.map_reverse, List.reverse_reverse]
    have : st = st.take n ++ (.inr (.inr (some b)) :: r) := by rw [← hst, List.take_append_drop]
    conv => lhs; rw [this]
    rw [List.map_append]
    rfl
  have hcw : CallW R s args (xnm (xow mi)) (xnm o.1) x (xyn mj) (xcb mj) (xmx mj) (xrt mj) (xws mj) (xrm mj (σ'.2.1 - σ.2.1) (σ'.2.2.1 - σ.2.2.1)) (σ'.2.1 - σ.2.1) (σ'.2.2.1 - σ.2.2.1) n := by
    refine cwV n hts (xgood fun w hw => ?_) rfl rfl rfl ⟨w5, c2, c3, c4⟩ ⟨by show xdp mj + 1 ≤ R.frames; omega, by show 8 + (xmx mj + 11) + 37 * xdp mj ≤ R.locals; omega⟩
    unfold wsV at hw
    rcases List.mem_append.mp hw with h | h
    · simp only [List.mem_cons, List.not_mem_nil, or_false] at h
      rcases h with rfl | rfl | rfl | rfl
      · exact w1
      · exact w2
      · exact w3
      · exact w4
    · exact xws_in c1 w h
  have hpre : PreV s H (xnm o.1) b (XPc P U D (.inr (.inr (some b)) :: (st.take n).reverse) σ) (((st.take n).reverse).map xv) :=
    ⟨XPc.blind hP, ⟨cell, q1, by rw [q3]; rfl, by rw [q2, ← hrn]; exact (hK.1 o.1 rc hrc).2.1⟩, xpre K' hP hR⟩
  have hrun := vx_runV (below := below) (H := H) (locs := locs) (cells := σ.2.1 - s.heap.size) (slots := σ.2.2.1 - u0) (e := e) (meth := meth) (g := F0 m pc la (st.map xv)) (rest := r.map xv) ⟨hx, hb, hml, hown, hts⟩ hM hcw hpre rfl (by rw [List.length_map, List.length_reverse]; exact hlen) hL.1 hstk (by show 2 * 0 + _ ≤ 8; rw [xwd_sum]; omega) hd ⟨by omega, by omega⟩
  intro T hT X
  rcases hrun T hT X with ⟨v, st₀, t, T', L, -, -, -, -, -, hq, -⟩ | ⟨q, st₀, t, T', L, En, ce, h0, X', hL2, e1, -, hxc, hce, hcv, hcl, go⟩
  · exact absurd hq id
  · obtain ⟨rfl, hR'⟩ := hxc
    have hW : vx_W p l e R s m args below meth c t.heap (locs ++ L) (σ.2.1 - s.heap.size + (σ'.2.1 - σ.2.1)) (σ.2.2.1 - u0 + (σ'.2.2.1 - σ.2.2.1)) Q (F0 m pc la (r.map xv)) q := by
      refine hct _ _ _ _ la _ q ce hL hce hcv hcl fun la1 hl1 => ?_
      refine W.cs (cells' := σ'.2.1 - s.heap.size) (slots' := σ'.2.2.1 - u0) (by omega) (by omega) ?_
      exact kk t.heap (locs ++ L) la1 hR' hl1 (fun z hz => by
        rcases List.mem_append.mp hz with h | h
        · exact hlc z h
        · exact hL2 z h) (by omega) (by omega)
    obtain ⟨t', a1, b1⟩ := hW T' e1 X'
    exact ⟨t', go.trans a1, b1⟩
end XHL
