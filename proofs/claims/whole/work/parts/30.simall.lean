/-! the machine follows the interpreter: a method's walk, and its contract -/
section XSN
variable {p : Program} {l : Launch} {e : Env} {R : Room} {s : State} {m : MethodId} {args : Array Value} {below : List Frame} {meth : Method} {c : Code} {U : State} {D : va_G} {P : State → Prop}
/-- a call of a static method that has handlers of its own: its row -/
def X96 (U : State) (D : va_G) (mi : Nat) (p : Program) (l : Launch) (e : Env) (R : Room) (s : State) (m : MethodId) (args : Array Value) (below : List Frame) (meth : Method) (c : Code) (u0 : Nat) (Q : State → Prop) (cal : Nat → List XE → XH → XR) : Prop :=
  ∀ (pc : Nat) (ls : XL) (st : List XE) (σ : XH) (x mj n q : Nat) (v : Option XE) (σ' : XH), xmd (xow mi) x = some (mj, n, q, 96) → decode (xcb mi) pc = .ok (.invokestatic x, 3) → xdp mj + 1 ≤ xdp mi → n ≤ st.length → cal mj (st.take n).reverse σ = some (.inl v, σ') → xwd (st.drop n) ≤ 8 → σ'.2.1 ≤ R.cells + s.heap.size ∧ σ'.2.2.1 ≤ R.slots + u0 → XG U D mi p l e R s m args below meth c u0 Q (pc + 3) ls (v.toList ++ st.drop n) σ' → XG U D mi p l e R s m args below meth c u0 Q pc ls st σ
set_option maxHeartbeats 4000000 in
theorem xop_sim {mi u0 len pc : Nat} {cal : Nat → List XE → XH → XR} {i : Instr} {ls : XL} {st : List XE} {σ σ' : XH} {v : Option XE} {k : Nat → XL → List XE → XH → XR} (St : XSt) (K : XK P U D mi p R s m args meth c) (hP : XPw P) (hPn : XPn P) (hhs : xhs mi = false) (htb : xtb mi pc = some (i, len)) (h : xop mi cal i len pc ls st σ k = some (.inl v, σ'))
    (hcal : ∀ mj n as σ v σ', XCm mj n → cal mj as σ = some (.inl v, σ') → XM P l U D mj as σ v σ')
    (h96 : X96 U D mi p l e R s m args below meth c u0 (XQ U D below args s u0 v σ') cal)
    (hk : ∀ pc' ls' st' ρ, k pc' ls' st' ρ = some (.inl v, σ') → XG U D mi p l e R s m args below meth c u0 (XQ U D below args s u0 v σ') pc' ls' st' ρ)
    (hm : ∀ pc' ls' st' ρ, k pc' ls' st' ρ = some (.inl v, σ') → ρ.2.1 ≤ R.cells + s.heap.size ∧ ρ.2.2.1 ≤ R.slots + u0) : XG U D mi p l e R s m args below meth c u0 (XQ U D below args s u0 v σ') pc ls st σ := by
  obtain ⟨S1, S2, S3, S4, S5, S6, S7, S4b⟩ := St
  obtain ⟨hd, ho⟩ := S1 _ _ _ _ htb
  cases i
  case iconst => exact xa_iconst K hd ho h hk
  case bipush => exact xa_bipush K hd ho h hk
  case sipush => exact xa_sipush K hd ho h hk
  case lconst => exact xa_lconst K hd ho h hk
  case aconst_null => exact xa_aconst_null K hd ho h hk
  case iload => exact xa_iload K hd ho h hk
  case iload_n => exact xa_iload_n K hd ho h hk
  case lload => exact xa_lload K hd ho h hk
  case lload_n => exact xa_lload_n K hd ho h hk
  case aload => exact xa_aload K hd ho h hk
  case aload_n => exact xa_aload_n K hd ho h hk
  case istore => exact xa_istore K hd ho h hk
  case istore_n => exact xa_istore_n K hd ho h hk
  case lstore => exact xa_lstore K hd ho h hk
  case lstore_n => exact xa_lstore_n K hd ho h hk
  case astore => exact xa_astore K hd ho h hk
  case astore_n => exact xa_astore_n K hd ho h hk
  case iinc => exact xa_iinc K hd ho h hk
  case iadd => exact xa_iadd K hd ho h hk
  case isub => exact xa_isub K hd ho h hk
  case imul => exact xa_imul K hd ho h hk
  case iand => exact xa_iand K hd ho h hk
  case ior => exact xa_ior K hd ho h hk
  case ishr => exact xa_ishr K hd ho h hk
  case ineg => exact xa_ineg K hd ho h hk
  case ladd => exact xa_ladd K hd ho h hk
  case lcmp => exact xa_lcmp K hd ho h hk
  case i2l => exact xa_i2l K hd ho h hk
  case idiv => exact xa_idiv K hd ho h hk
  case irem => exact xa_irem K hd ho h hk
  case pop => exact xa_pop K hd ho h hk
  case dup => exact xa_dup K hd ho h hk
  case dup_x1 => exact xa_dup_x1 K hd ho h hk
  case dup2 => exact xa_dup2 K hd ho h hk
  case goto => exact xa_goto K hd ho h hk
  case ifnull => exact xa_ifnull K hd ho h hk
  case ifnonnull => exact xa_ifnonnull K hd ho h hk
  case tableswitch => exact xa_tableswitch K hd ho h hk
  case ldc => exact xa_ldc K hd ho S5 h hk
  case ldc_w => exact xa_ldc_w K hd ho S5 h hk
  case ldc2_w => exact xa_ldc2_w K hd ho S5 h hk
  case iaload => exact xb_iaload K hd ho h hk
  case laload => exact xb_laload K hd ho h hk
  case baload => exact xb_baload K hd ho h hk
  case aaload => exact xb_aaload K hd ho h hk
  case arraylength => exact xb_arraylength K hd ho h hk
  case iastore => exact xb_iastore K hd ho h hk
  case lastore => exact xb_lastore K hd ho h hk
  case bastore => exact xb_bastore K hd ho h hk
  case aastore => exact xb_aastore K hd ho h hk
  case getfield => exact xb_getfield K S2 S3 hd ho h hk
  case putfield => exact xb_putfield K S2 S3 hd ho h hk
  case getstatic => exact xb_getstatic K S6 hd ho h hk
  case newarray => exact xb_newarray K S5 hd ho h hk hm
  case anewarray => exact xb_anewarray K S4 hPn.1 hd ho h hk hm
  case new x =>
    refine xb_new K S3 S4 (fun ci hci => ?_) hd ho h hk hm
    have h : (match (generalizing := false) xcd (xow mi) x with
      | some c => (match (generalizing := false) c with
        | 50 => xth σ st 50
        | 51 => xth σ st 51
        | c => xnw σ (c, xdf c) fun a σ' => k (pc + len) ls (.inr (.inr (some a)) :: st) σ')
      | none => none) = some (.inl v, σ') := h
    rw [hci] at h
    rcases S4b _ _ _ hci with h1 | rfl | rfl
    · exact ⟨by omega, by omega, h1⟩
    · exfalso
      have h : xth σ st 50 = some (.inl v, σ') := h
      unfold xth xthr at h
      split at h <;> cases h
    · exfalso
      have h : xth σ st 51 = some (.inl v, σ') := h
      unfold xth xthr at h
      split at h <;> cases h
  case ifCond cd off =>
    cases cd
    · exact xa_if_eq K hd ho h hk
    · exact xa_if_ne K hd ho h hk
    · exact xa_if_lt K hd ho h hk
    · exact xa_if_ge K hd ho h hk
    · exact xa_if_gt K hd ho h hk
    · exact xa_if_le K hd ho h hk
  case if_icmp cd off =>
    cases cd
    · exact xa_icmp_eq K hd ho h hk
    · exact xa_icmp_ne K hd ho h hk
    · exact xa_icmp_lt K hd ho h hk
    · exact xa_icmp_ge K hd ho h hk
    · exact xa_icmp_gt K hd ho h hk
    · exact xa_icmp_le K hd ho h hk
  case if_acmp cd off =>
    cases cd
    · exact xa_acmp_eq K hd ho h hk
    · exact xa_acmp_ne K hd ho h hk
  case ireturn => exact xb_ireturn K hd ho h
  case lreturn => exact xb_lreturn K hd ho h
  case areturn => exact xb_areturn K hd ho h
  case return_ => exact xb_return_ K hd ho h
  case invokevirtual x => exact xd_virtual K hP S3 S7 hhs hd ho h hcal hk hm
  case invokestatic x => exact xd_static K hP S7 hhs hd ho h hcal (fun mj n q w ρ b1 b2 b3 b4 b5 b6 b7 b8 => h96 _ _ _ _ _ _ _ _ _ _ b1 b2 b3 b4 b5 b6 b7 b8) hk hm
  case invokespecial x => exact xd_special K hP hPn S7 hhs hd ho h hcal hk hm
  all_goals (have h : (none : XR) = some (.inl v, σ') := h; cases h)
theorem xin_sim {mi u0 : Nat} {rec : Nat → XL → List XE → XH → XR} {cal : Nat → List XE → XH → XR} {σ' : XH} {v : Option XE} (St : XSt) (K : XK P U D mi p R s m args meth c) (hP : XPw P) (hPn : XPn P) (hhs : xhs mi = false) (hcap : σ'.2.1 ≤ R.cells + s.heap.size ∧ σ'.2.2.1 ≤ R.slots + u0)
    (hrl : ∀ pc ls st σ v σ', rec pc ls st σ = some (v, σ') → xle σ σ') (hcl : ∀ mj as σ v σ', cal mj as σ = some (v, σ') → xle σ σ')
    (hcal : ∀ mj n as σ v σ', XCm mj n → cal mj as σ = some (.inl v, σ') → XM P l U D mj as σ v σ')
    (h96 : X96 U D mi p l e R s m args below meth c u0 (XQ U D below args s u0 v σ') cal)
    (hrec : ∀ pc ls st ρ, rec pc ls st ρ = some (.inl v, σ') → XG U D mi p l e R s m args below meth c u0 (XQ U D below args s u0 v σ') pc ls st ρ) :
    ∀ (n pc : Nat) (ls : XL) (st : List XE) (σ : XH), xin rec cal mi n pc ls st σ = some (.inl v, σ') → XG U D mi p l e R s m args below meth c u0 (XQ U D below args s u0 v σ') pc ls st σ
  | 0, _, _, _, _, h => by cases h
  | n + 1, pc, ls, st, σ, h => by
    unfold xin at h
    split at h
    · cases h
    · next i len htb =>
      have step : ∀ (pc' : Nat) (ls' : XL) (st' : List XE) (ρ : XH), (match xct mi pc' with
          | some bs => rec pc' (xmsk bs ls') st' ρ
          | none => xin rec cal mi n pc' ls' st' ρ) = some (.inl v, σ') → XG U D mi p l e R s m args below meth c u0 (XQ U D below args s u0 v σ') pc' ls' st' ρ ∧ xle ρ σ' := by
        intro pc' ls' st' ρ h
        split at h
        · next bs hbs =>
          refine ⟨?_, hrl _ _ _ _ _ _ h⟩
          intro H locs la hR hL hlc hs hu
          exact hrec _ _ _ _ h H locs la hR (hL.msk bs) hlc hs hu
        · exact ⟨xin_sim St K hP hPn hhs hcap hrl hcl hcal h96 hrec n _ _ _ _ h, xin_le hrl hcl n _ _ _ _ _ h⟩
      exact xop_sim St K hP hPn hhs htb h hcal h96 (fun pc' ls' st' ρ hh => (step pc' ls' st' ρ hh).1) (fun pc' ls' st' ρ hh => by
        have := (step pc' ls' st' ρ hh).2
        exact ⟨Nat.le_trans this.1 hcap.1, Nat.le_trans this.2 hcap.2⟩)
end XSN
/-- all methods without handlers: the machine follows their walks of F cuts -/
def XAll (P : State → Prop) (l : Launch) (U : State) (D : va_G) (F : Nat) : Prop :=
  ∀ (mi : Nat), xhs mi = false → xow mi ≠ 13 → ∀ (pc : Nat) (ls : XL) (st : List XE) (σ : XH) (v : Option XE) (σ' : XH), xrun F mi pc ls st σ = some (.inl v, σ') → ∀ (p : Program) (e : Env) (R : Room) (s : State) (m : MethodId) (args : Array Value) (below : List Frame) (meth : Method) (c : Code) (u0 : Nat), XK P U D mi p R s m args meth c → σ'.2.1 ≤ R.cells + s.heap.size ∧ σ'.2.2.1 ≤ R.slots + u0 → XG U D mi p l e R s m args below meth c u0 (XQ U D below args s u0 v σ') pc ls st σ
def XS8 : Prop := ∀ o x mj n q, xmd o x = some (mj, n, q, 96) → o = 13
/-- a method's contract out of its walk -/
theorem xmet {P : State → Prop} {l : Launch} {U : State} {D : va_G} {F mj n : Nat} {as : List XE} {σ σ' : XH} {v : Option XE} (h : XAll P l U D F) (hcm : XCm mj n) (hr : (bif Nat.ble (xent as).length (xmx mj) then xrun F mj 0 (xpad (xmx mj) (xent as)) [] σ else none) = some (.inl v, σ')) : XM P l U D mj as σ v σ' := by
  cases hb : Nat.ble (xent as).length (xmx mj) with
  | false => rw [hb] at hr; cases hr
  | true =>
    rw [hb] at hr
    have hr : xrun F mj 0 (xpad (xmx mj) (xent as)) [] σ = some (.inl v, σ') := hr
    have hlen := Nat.le_of_ble_eq_true hb
    have hle := xrun_le _ _ _ _ _ _ _ _ hr
    obtain ⟨c1, c2, c3, c4, c5, c6, c7, c8, c9, h13⟩ := hcm
    refine ⟨hle.1, hle.2, ?_⟩
    refine Met.ofW (cc := xcb mj) (maxL := xmx mj) (ret := xrt mj) c6 rfl ?_
    intro p e s m args below meth c s₁ B hml hv
    obtain ⟨rfl, hR, hal, hK, hp⟩ := hv
    have hts := atoms_spec (ws := xws mj) B.pre
    have hown := findClass_of_methodNamed B.named
    rw [c7] at hown
    have hsz : s.heap.size = σ.2.1 := hR.2.1
    have K : XK P U D mj p (headSpec (xws mj) (xrm mj (σ'.2.1 - σ.2.1) (σ'.2.2.1 - σ.2.2.1))).room s m (as.map xv).toArray meth c :=
      ⟨B.exec, B.bytes, hml, hown, fun w hw => hts w (List.mem_cons_of_mem _ hw), B.returns, B.notSynchronized, fun hi => by rw [(name_of_methodNamed B.named B.method).1]; exact c8 hi, Nat.le_refl _, Nat.le_refl _, hal, hK, ⟨hR.2.2.1, hR.2.2.2.1⟩, hp⟩
    have hG := h mj c9 h13 0 _ [] σ v σ' hr p e _ s m _ below meth c σ.2.2.1 K ⟨by show σ'.2.1 ≤ σ'.2.1 - σ.2.1 + s.heap.size; omega, by show σ'.2.2.1 ≤ σ'.2.2.1 - σ.2.2.1 + σ.2.2.1; omega⟩
    have := hG s.heap [] _ hR (xhl_entry as hlen) (fun q hq => by cases hq) (by omega) (Nat.le_refl _)
    rw [lg_entry_eq]
    unfold XQ at this
    rw [hsz, Nat.sub_self, Nat.sub_self] at this
    exact this
theorem xall {P : State → Prop} {l : Launch} {U : State} {D : va_G} (St : XSt) (S8 : XS8) (hP : XPw P) (hPn : XPn P) : ∀ F, XAll P l U D F
  | 0 => by intro mi _ _ pc ls st σ v σ' h; cases h
  | F + 1 => by
    intro mi hhs h13 pc ls st σ v σ' h p e R s m args below meth c u0 K hcap
    have ih : XAll P l U D F := xall St S8 hP hPn F
    unfold xrun at h
    refine xin_sim St K hP hPn hhs hcap (fun pc ls st σ v σ' h => xrun_le _ _ _ _ _ _ _ _ h) (fun mj as σ v σ' h => ?_) (fun mj n as σ v σ' hcm h => xmet ih hcm h) (fun pc ls st σ x mj n q v σ' hx => absurd (S8 _ _ _ _ _ hx) h13) (fun pc ls st ρ h => ih mi hhs h13 pc ls st ρ v σ' h p e R s m args below meth c u0 K hcap) _ _ _ _ _ h
    simp only [cond_eq_ite] at h
    split at h
    · exact xrun_le _ _ _ _ _ _ _ _ h
    · cases h
