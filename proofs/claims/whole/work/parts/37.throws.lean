/-! walks that end in an exception; methods with handlers -/
def xen (E : Nat) : String := if E = 50 then "java/lang/IndexOutOfBoundsException" else "java/lang/IllegalArgumentException"
def XCx (U : State) (D : va_G) (E : Nat) (σ' : XH) : String → State → State → Prop := fun n _ t => n = xen E ∧ XRep U D σ' t.heap
def XQT (U : State) (D : va_G) (below : List Frame) (args : Array Value) (s : State) (u0 : Nat) (E : Nat) (σ' : XH) : State → Prop := vx_MQ below (fun _ _ _ _ => False) (XCx U D E σ') args s (σ'.2.1 - s.heap.size) (σ'.2.2.1 - u0) (fun q => U.heap.size ≤ q)
theorem xop_ret {mi len pc : Nat} {cal : Nat → List XE → XH → XR} {i : Instr} {ls : XL} {st : List XE} {σ : XH} {k : Nat → XL → List XE → XH → XR} {res : XV × XH} (hi : i = .ireturn ∨ i = .lreturn ∨ i = .areturn ∨ i = .return_) (h : xop mi cal i len pc ls st σ k = some res) : ∃ v, res = (.inl v, σ) := by
  rcases hi with rfl | rfl | rfl | rfl
  all_goals (simp only [xop] at h; repeat' split at h)
  all_goals first | (cases h; exact ⟨_, rfl⟩) | cases h
section XSX
variable {p : Program} {l : Launch} {e : Env} {R : Room} {s : State} {m : MethodId} {args : Array Value} {below : List Frame} {meth : Method} {c : Code} {U : State} {D : va_G} {P : State → Prop}
set_option maxHeartbeats 4000000 in
theorem xop_simG {mi u0 len pc : Nat} {Q : State → Prop} {cal : Nat → List XE → XH → XR} {i : Instr} {ls : XL} {st : List XE} {σ : XH} {res : XV × XH} {k : Nat → XL → List XE → XH → XR} (St : XSt) (K : XK P U D mi p R s m args meth c) (hPo : XPo P) (htb : xtb mi pc = some (i, len)) (h : xop mi cal i len pc ls st σ k = some res)
    (hk : ∀ pc' ls' st' ρ, k pc' ls' st' ρ = some res → XG U D mi p l e R s m args below meth c u0 Q pc' ls' st' ρ)
    (hm : ∀ pc' ls' st' ρ, k pc' ls' st' ρ = some res → ρ.2.1 ≤ R.cells + s.heap.size ∧ ρ.2.2.1 ≤ R.slots + u0)
    (hinv : ∀ x, i = .invokevirtual x ∨ i = .invokestatic x ∨ i = .invokespecial x → XG U D mi p l e R s m args below meth c u0 Q pc ls st σ)
    (hret : i = .ireturn ∨ i = .lreturn ∨ i = .areturn ∨ i = .return_ → XG U D mi p l e R s m args below meth c u0 Q pc ls st σ)
    (hnew : ∀ x E, i = .new x → xcd (xow mi) x = some E → E = 50 ∨ E = 51 → XG U D mi p l e R s m args below meth c u0 Q pc ls st σ) : XG U D mi p l e R s m args below meth c u0 Q pc ls st σ := by
  obtain ⟨S1, S2, S3, S4, S5, S6, S7, S4b⟩ := St
  obtain ⟨hd, ho⟩ := S1 _ _ _ _ htb
  cases i
  case iconst => exact xa_iconst K hd ho h hk
  case bipush => exact xa_bipush K hd ho h hk
  case sipush => exact xa_sipush K hd ho h hk
  case lconst => exact xa_lconst K hd ho h hk
  case aconst_null => exact xa_aconst_null K hd ho h hk
  case iload => exact xa_iload K hd ho h hk
  case iload_n => exact xa_iload_n K hd ho h hk
  case lload => exact xa_lload K hd ho h hk
  case lload_n => exact xa_lload_n K hd ho h hk
  case aload => exact xa_aload K hd ho h hk
  case aload_n => exact xa_aload_n K hd ho h hk
  case istore => exact xa_istore K hd ho h hk
  case istore_n => exact xa_istore_n K hd ho h hk
  case lstore => exact xa_lstore K hd ho h hk
  case lstore_n => exact xa_lstore_n K hd ho h hk
  case astore => exact xa_astore K hd ho h hk
  case astore_n => exact xa_astore_n K hd ho h hk
  case iinc => exact xa_iinc K hd ho h hk
  case iadd => exact xa_iadd K hd ho h hk
  case isub => exact xa_isub K hd ho h hk
  case imul => exact xa_imul K hd ho h hk
  case iand => exact xa_iand K hd ho h hk
  case ior => exact xa_ior K hd ho h hk
  case ishr => exact xa_ishr K hd ho h hk
  case ineg => exact xa_ineg K hd ho h hk
  case ladd => exact xa_ladd K hd ho h hk
  case lcmp => exact xa_lcmp K hd ho h hk
  case i2l => exact xa_i2l K hd ho h hk
  case idiv => exact xa_idiv K hd ho h hk
  case irem => exact xa_irem K hd ho h hk
  case pop => exact xa_pop K hd ho h hk
  case dup => exact xa_dup K hd ho h hk
  case dup_x1 => exact xa_dup_x1 K hd ho h hk
  case dup2 => exact xa_dup2 K hd ho h hk
  case goto => exact xa_goto K hd ho h hk
  case ifnull => exact xa_ifnull K hd ho h hk
  case ifnonnull => exact xa_ifnonnull K hd ho h hk
  case tableswitch => exact xa_tableswitch K hd ho h hk
  case ldc => exact xa_ldc K hd ho S5 h hk
  case ldc_w => exact xa_ldc_w K hd ho S5 h hk
  case ldc2_w => exact xa_ldc2_w K hd ho S5 h hk
  case iaload => exact xb_iaload K hd ho h hk
  case laload => exact xb_laload K hd ho h hk
  case baload => exact xb_baload K hd ho h hk
  case aaload => exact xb_aaload K hd ho h hk
  case arraylength => exact xb_arraylength K hd ho h hk
  case iastore => exact xb_iastore K hd ho h hk
  case lastore => exact xb_lastore K hd ho h hk
  case bastore => exact xb_bastore K hd ho h hk
  case aastore => exact xb_aastore K hd ho h hk
  case getfield => exact xb_getfield K S2 S3 hd ho h hk
  case putfield => exact xb_putfield K S2 S3 hd ho h hk
  case getstatic => exact xb_getstatic K S6 hd ho h hk
  case newarray => exact xb_newarray K S5 hd ho h hk hm
  case anewarray => exact xb_anewarray K S4 hPo hd ho h hk hm
  case new x =>
    by_cases hE : xcd (xow mi) x = some 50 ∨ xcd (xow mi) x = some 51
    · rcases hE with hE | hE
      · exact hnew x 50 rfl hE (Or.inl rfl)
      · exact hnew x 51 rfl hE (Or.inr rfl)
    · refine xb_new K S3 S4 (fun ci hci => ?_) hd ho h hk hm
      rcases S4b _ _ _ hci with h1 | rfl | rfl
      · exact ⟨by omega, by omega, h1⟩
      · exact absurd (Or.inl hci) hE
      · exact absurd (Or.inr hci) hE
  case ifCond cd off =>
    cases cd
    · exact xa_if_eq K hd ho h hk
    · exact xa_if_ne K hd ho h hk
    · exact xa_if_lt K hd ho h hk
    · exact xa_if_ge K hd ho h hk
    · exact xa_if_gt K hd ho h hk
    · exact xa_if_le K hd ho h hk
  case if_icmp cd off =>
    cases cd
    · exact xa_icmp_eq K hd ho h hk
    · exact xa_icmp_ne K hd ho h hk
    · exact xa_icmp_lt K hd ho h hk
    · exact xa_icmp_ge K hd ho h hk
    · exact xa_icmp_gt K hd ho h hk
    · exact xa_icmp_le K hd ho h hk
  case if_acmp cd off =>
    cases cd
    · exact xa_acmp_eq K hd ho h hk
    · exact xa_acmp_ne K hd ho h hk
  case ireturn => exact hret (Or.inl rfl)
  case lreturn => exact hret (Or.inr (Or.inl rfl))
  case areturn => exact hret (Or.inr (Or.inr (Or.inl rfl)))
  case return_ => exact hret (Or.inr (Or.inr (Or.inr rfl)))
  case invokevirtual x => exact hinv x (Or.inl rfl)
  case invokestatic x => exact hinv x (Or.inr (Or.inl rfl))
  case invokespecial x => exact hinv x (Or.inr (Or.inr rfl))
  all_goals (have h : (none : XR) = some res := h; cases h)
/-- a throw site: its row -/
def XTs (P : State → Prop) (l : Launch) (U : State) (D : va_G) : Prop :=
  ∀ (mi pc x len E : Nat) (ls : XL) (σ : XH) (p : Program) (e : Env) (R : Room) (s : State) (m : MethodId) (args : Array Value) (below : List Frame) (meth : Method) (c : Code) (u0 : Nat), xtb mi pc = some (.new x, len) → xcd (xow mi) x = some E → E = 50 ∨ E = 51 → XK P U D mi p R s m args meth c → (∀ x ∈ c.exceptionTable.toList, False) → σ.2.1 + 1 ≤ R.cells + s.heap.size ∧ σ.2.2.1 + 6 ≤ R.slots + u0 →
    XG U D mi p l e R s m args below meth c u0 (XQT U D below args s u0 E (σ.1, σ.2.1 + 1, σ.2.2.1 + 6, σ.2.2.2)) pc ls [] σ
theorem xin_simT {mi u0 E q : Nat} {rec : Nat → XL → List XE → XH → XR} {cal : Nat → List XE → XH → XR} {σ' : XH} (St : XSt) (K : XK P U D mi p R s m args meth c) (hP : XPw P) (hPn : XPn P) (hhs : xhs mi = false) (h13 : xow mi ≠ 13) (S8 : XS8) (hT : XTs P l U D) (hex : ∀ x ∈ c.exceptionTable.toList, False) (hcap : σ'.2.1 ≤ R.cells + s.heap.size ∧ σ'.2.2.1 ≤ R.slots + u0)
    (hrl : ∀ pc ls st σ v σ', rec pc ls st σ = some (v, σ') → xle σ σ') (hcl : ∀ mj as σ v σ', cal mj as σ = some (v, σ') → xle σ σ')
    (hcal : ∀ mj n as σ v σ', XCm mj n → cal mj as σ = some (.inl v, σ') → XM P l U D mj as σ v σ')
    (hrec : ∀ pc ls st ρ, rec pc ls st ρ = some (.inr (E, q), σ') → XG U D mi p l e R s m args below meth c u0 (XQT U D below args s u0 E σ') pc ls st ρ) :
    ∀ (n pc : Nat) (ls : XL) (st : List XE) (σ : XH), xin rec cal mi n pc ls st σ = some (.inr (E, q), σ') → XG U D mi p l e R s m args below meth c u0 (XQT U D below args s u0 E σ') pc ls st σ
  | 0, _, _, _, _, h => by cases h
  | n + 1, pc, ls, st, σ, h => by
    unfold xin at h
    split at h
    · cases h
    · next i len htb =>
      have step : ∀ (pc' : Nat) (ls' : XL) (st' : List XE) (ρ : XH), (match xct mi pc' with
          | some bs => rec pc' (xmsk bs ls') st' ρ
          | none => xin rec cal mi n pc' ls' st' ρ) = some (.inr (E, q), σ') → XG U D mi p l e R s m args below meth c u0 (XQT U D below args s u0 E σ') pc' ls' st' ρ ∧ xle ρ σ' := by
        intro pc' ls' st' ρ h
        split at h
        · next bs hbs =>
          refine ⟨?_, hrl _ _ _ _ _ _ h⟩
          intro H locs la hR hL hlc hs hu
          exact hrec _ _ _ _ h H locs la hR (hL.msk bs) hlc hs hu
        · exact ⟨xin_simT St K hP hPn hhs h13 S8 hT hex hcap hrl hcl hcal hrec n _ _ _ _ h, xin_le hrl hcl n _ _ _ _ _ h⟩
      have hk := fun pc' ls' st' ρ hh => (step pc' ls' st' ρ hh).1
      have hm : ∀ pc' ls' st' ρ, (match xct mi pc' with
          | some bs => rec pc' (xmsk bs ls') st' ρ
          | none => xin rec cal mi n pc' ls' st' ρ) = some (.inr (E, q), σ') → ρ.2.1 ≤ R.cells + s.heap.size ∧ ρ.2.2.1 ≤ R.slots + u0 := fun pc' ls' st' ρ hh => by
        have := (step pc' ls' st' ρ hh).2
        exact ⟨Nat.le_trans this.1 hcap.1, Nat.le_trans this.2 hcap.2⟩
      obtain ⟨hd, ho⟩ := St.1 _ _ _ _ htb
      refine xop_simG St K hPn.1 htb h hk hm (fun x hi => ?_) (fun hi => ?_) (fun x E' hi hx hE => ?_)
      · rcases hi with rfl | rfl | rfl
        · exact xd_virtual K hP St.2.2.1 St.2.2.2.2.2.2.1 hhs hd ho h hcal hk hm
        · exact xd_static K hP St.2.2.2.2.2.2.1 hhs hd ho h hcal (fun mj n q w ρ b1 => absurd (S8 _ _ _ _ _ b1) h13) hk hm
        · exact xd_special K hP hPn St.2.2.2.2.2.2.1 hhs hd ho h hcal hk hm
      · obtain ⟨v, hv⟩ := xop_ret hi h
        cases hv
      · subst hi
        have h9 : xth σ st E' = some (.inr (E, q), σ') := by
          have h : (match (generalizing := false) xcd (xow mi) x with
            | some c => (match (generalizing := false) c with
              | 50 => xth σ st 50
              | 51 => xth σ st 51
              | c => xnw σ (c, xdf c) fun a σ' => (match xct mi (pc + len) with
                | some bs => rec (pc + len) (xmsk bs ls) (.inr (.inr (some a)) :: st) σ'
                | none => xin rec cal mi n (pc + len) ls (.inr (.inr (some a)) :: st) σ'))
            | none => none) = some (.inr (E, q), σ') := h
          rw [hx] at h
          rcases hE with rfl | rfl <;> exact h
        unfold xth xthr at h9
        split at h9
        · cases h9
          exact hT mi pc x len _ ls σ p e R s m args below meth c u0 htb hx hE K hex hcap
        · cases h9
end XSX
def XAllT (P : State → Prop) (l : Launch) (U : State) (D : va_G) (F : Nat) : Prop :=
  ∀ (mi : Nat), xhs mi = false → xow mi ≠ 13 → ∀ (pc : Nat) (ls : XL) (st : List XE) (σ : XH) (E q : Nat) (σ' : XH), xrun F mi pc ls st σ = some (.inr (E, q), σ') → ∀ (p : Program) (e : Env) (R : Room) (s : State) (m : MethodId) (args : Array Value) (below : List Frame) (meth : Method) (c : Code) (u0 : Nat), XK P U D mi p R s m args meth c → (∀ x ∈ c.exceptionTable.toList, False) → σ'.2.1 ≤ R.cells + s.heap.size ∧ σ'.2.2.1 ≤ R.slots + u0 → XG U D mi p l e R s m args below meth c u0 (XQT U D below args s u0 E σ') pc ls st σ
theorem xallT {P : State → Prop} {l : Launch} {U : State} {D : va_G} (St : XSt) (S8 : XS8) (hP : XPw P) (hPn : XPn P) (hT : XTs P l U D) : ∀ F, XAllT P l U D F
  | 0 => by intro mi _ _ pc ls st σ E q σ' h; cases h
  | F + 1 => by
    intro mi hhs h13 pc ls st σ E q σ' h p e R s m args below meth c u0 K hex hcap
    have ih : XAllT P l U D F := xallT St S8 hP hPn hT F
    have ia : XAll P l U D F := xall St S8 hP hPn F
    unfold xrun at h
    refine xin_simT St K hP hPn hhs h13 S8 hT hex hcap (fun pc ls st σ v σ' h => xrun_le _ _ _ _ _ _ _ _ h) (fun mj as σ v σ' h => ?_) (fun mj n as σ v σ' hcm h => xmet ia hcm h) (fun pc ls st ρ h => ih mi hhs h13 pc ls st ρ E q σ' h p e R s m args below meth c u0 K hex hcap) _ _ _ _ _ h
    simp only [cond_eq_ite] at h
    split at h
    · exact xrun_le _ _ _ _ _ _ _ _ h
    · cases h
/-- the contract of a method that throws there -/
def XMT (P : State → Prop) (l : Launch) (U : State) (D : va_G) (mj : Nat) (as : List XE) (σ : XH) (E : Nat) (σ' : XH) : Prop :=
  σ.2.1 ≤ σ'.2.1 ∧ σ.2.2.1 ≤ σ'.2.2.1 ∧ vx_Met l (xyn mj) (xws mj) (xrm mj (σ'.2.1 - σ.2.1) (σ'.2.2.1 - σ.2.2.1)) (XPc P U D as σ) (fun _ _ _ _ => False) (XCx U D E σ') (σ'.2.1 - σ.2.1) (σ'.2.2.1 - σ.2.2.1) (fun q => U.heap.size ≤ q)
theorem xmetT {P : State → Prop} {l : Launch} {U : State} {D : va_G} {F mj n E q : Nat} {as : List XE} {σ σ' : XH} (h : XAllT P l U D F) (hcm : XCm mj n) (hr : (bif Nat.ble (xent as).length (xmx mj) then xrun F mj 0 (xpad (xmx mj) (xent as)) [] σ else none) = some (.inr (E, q), σ')) : XMT P l U D mj as σ E σ' := by
  cases hb : Nat.ble (xent as).length (xmx mj) with
  | false => rw [hb] at hr; cases hr
  | true =>
    rw [hb] at hr
    have hr : xrun F mj 0 (xpad (xmx mj) (xent as)) [] σ = some (.inr (E, q), σ') := hr
    have hlen := Nat.le_of_ble_eq_true hb
    have hle := xrun_le _ _ _ _ _ _ _ _ hr
    obtain ⟨c1, c2, c3, c4, c5, c6, c7, c8, c9, h13⟩ := hcm
    refine ⟨hle.1, hle.2, ?_⟩
    refine vx_ofW (cc := xcb mj) (maxL := xmx mj) (ret := xrt mj) c6 rfl ?_
    intro p e s m args below meth c s₁ B hml hex hv
    obtain ⟨rfl, hR, hal, hK, hp⟩ := hv
    have hts := atoms_spec (ws := xws mj) B.pre
    have hown := findClass_of_methodNamed B.named
    rw [c7] at hown
    have hsz : s.heap.size = σ.2.1 := hR.2.1
    have K : XK P U D mj p (headSpec (xws mj) (xrm mj (σ'.2.1 - σ.2.1) (σ'.2.2.1 - σ.2.2.1))).room s m (as.map xv).toArray meth c :=
      ⟨B.exec, B.bytes, hml, hown, fun w hw => hts w (List.mem_cons_of_mem _ hw), B.returns, B.notSynchronized, fun hi => by rw [(name_of_methodNamed B.named B.method).1]; exact c8 hi, Nat.le_refl _, Nat.le_refl _, hal, hK, ⟨hR.2.2.1, hR.2.2.2.1⟩, hp⟩
    have hG := h mj c9 h13 0 _ [] σ E q σ' hr p e _ s m _ below meth c σ.2.2.1 K hex ⟨by show σ'.2.1 ≤ σ'.2.1 - σ.2.1 + s.heap.size; omega, by show σ'.2.2.1 ≤ σ'.2.2.1 - σ.2.2.1 + σ.2.2.1; omega⟩
    have := hG s.heap [] _ hR (xhl_entry as hlen) (fun q hq => by cases hq) (by omega) (Nat.le_refl _)
    rw [lg_entry_eq]
    unfold XQT at this
    rw [hsz, Nat.sub_self, Nat.sub_self] at this
    exact this
