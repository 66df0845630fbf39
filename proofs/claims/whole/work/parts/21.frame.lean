/-! a method's frame while the interpreter walks it; the static facts that the walk rests on -/
/-- the words that every method keeps -/
def xTs : List Cond := lw_tbl.filter goodWord
def xnm (o : Nat) : String := [RX0, RX1, RX2, RX3, RX4, RX5, RX6, RX7, RX8, RX9, RX10, RX11, RX12, RL].getD o ""
/-- the fields' types -/
def xtf (t : Nat) : Nat → FieldType := match t with
  | 0 => tyX0
  | 1 => tyX1
  | 2 => tyX2
  | 3 => tyX3
  | 4 => tyX4
  | 5 => tyX5
  | 6 => tyX6
  | 7 => tyX7
  | 8 => tyX8
  | 9 => tyX9
  | 10 => tyX10
  | 11 => tyX11
  | _ => tyX12
/-- a field's kind by its descriptor -/
def xkd (q : Nat) (d : String) : Bool := match parseFieldDescriptor d with
  | some .int => q == 0
  | some .long => q == 1
  | some .boolean => q == 3
  | some (.object _) => q == 2
  | some (.array _) => q == 2
  | _ => false
/-- what is asked of an instruction beside its decoding: its length, places of locals, constants, final fields -/
def xok (mi pc : Nat) (i : Instr) (len : Nat) : Bool := match i with
  | .iconst _ => len == 1
  | .bipush n => len == 2 && decide ((Int8.ofInt n).toInt32 = xk n)
  | .sipush n => len == 3 && decide ((Int16.ofInt n).toInt32 = xk n)
  | .lconst _ => len == 1
  | .aconst_null => len == 1
  | .ldc _ => len == 2
  | .ldc_w _ => len == 3
  | .ldc2_w _ => len == 3
  | .iload _ => len == 2
  | .lload _ => len == 2
  | .aload _ => len == 2
  | .iload_n _ => len == 1
  | .lload_n _ => len == 1
  | .aload_n _ => len == 1
  | .istore j => len == 2 && decide (j < xmx mi)
  | .astore j => len == 2 && decide (j < xmx mi)
  | .lstore j => len == 2 && decide (j + 1 < xmx mi)
  | .istore_n j => len == 1 && decide (j.val < xmx mi)
  | .astore_n j => len == 1 && decide (j.val < xmx mi)
  | .lstore_n j => len == 1 && decide (j.val + 1 < xmx mi)
  | .iinc j _ => len == 3 && decide (j < xmx mi)
  | .goto off => len == 3 && decide (0 ≤ (pc : Int) + off)
  | .ifCond _ off => len == 3 && decide (0 ≤ (pc : Int) + off)
  | .if_icmp _ off => len == 3 && decide (0 ≤ (pc : Int) + off)
  | .if_acmp _ off => len == 3 && decide (0 ≤ (pc : Int) + off)
  | .ifnull off => len == 3 && decide (0 ≤ (pc : Int) + off)
  | .ifnonnull off => len == 3 && decide (0 ≤ (pc : Int) + off)
  | .tableswitch d lo hi offs => decide (lo = 0) && (decide (hi + 1 = (offs.size : Int)) && (decide (offs.size < 1000) && (decide (0 ≤ (pc : Int) + d) && offs.all fun x => decide (0 ≤ (pc : Int) + x))))
  | .getfield _ => len == 3
  | .putfield x => len == 3 && (match xfd (xow mi) x with
    | some (t, f, _) => (match vwCl[t]? with
      | some r => !(r.2.1 f).2.2.2 || ((xrk mi == 0) && (t == xow mi) && decide (mi ∈ xinis) && decide ((r.2.1 f).1 = xnm t))
      | none => false)
    | none => false)
  | .getstatic _ => len == 3
  | .new _ => len == 3
  | .newarray _ => len == 2
  | .anewarray x => len == 3 && (match xcd (xow mi) x with
    | some c => decide (c = 8 ∨ c = 7 ∨ c = 1 ∨ c = 4 ∨ c = 10)
    | none => true)
  | .invokevirtual x => len == 3 && (match xmd (xow mi) x with
    | some (mj, _, _, c) => decide (c < 13) && decide (xdp mj + 1 ≤ xdp mi)
    | none => false)
  | .invokestatic x => len == 3 && (match xmd (xow mi) x with
    | some (mj, _, _, c) => (c == 90 && decide (xdp mj + 1 ≤ xdp mi)) || (c == 96 && decide (xdp mj + 1 ≤ xdp mi)) || ((c == 93 || c == 94) && decide (1 ≤ xdp mi))
    | none => false)
  | .invokespecial x => len == 3 && (match xmd (xow mi) x with
    | some (mj, _, _, c) => ((c == 91 || c == 95) && decide (xdp mj + 1 ≤ xdp mi)) || (c == 92 && decide (1 ≤ xdp mi))
    | none => true)
  | _ => len == 1
def XS1 : Prop := ∀ mi p i len, xtb mi p = some (i, len) → decode (xcb mi) p = .ok (i, len) ∧ xok mi p i len = true
def XS2 : Prop := ∀ o x t f q, xfd o x = some (t, f, q) → ∃ (C : String) (T : u_T) (N : Nat), vwCl[t]? = some (C, T, N) ∧ f < N ∧ Cond.fieldLink (xnm o) x (T f).1 (T f).2.1 (T f).2.2.1 ∈ xTs ∧ xkd q (T f).2.2.1 = true
def XS3 : Prop := ∀ t C T N, vwCl[t]? = some (C, T, N) → (∀ w ∈ u_ws C T N, w ∈ xTs) ∧ (∀ k, k < N → parseFieldDescriptor (T k).2.2.1 = some (xtf t k)) ∧ (∀ a, a < N → ∀ b, b < N → a ≠ b → (T a).2.1 ≠ (T b).2.1) ∧ Cond.instantiable C N ∈ xTs ∧ Cond.initialized C ∈ xTs ∧ (xdf t).length = N ∧ (∀ j, j < N → defaultValue (xtf t j) = vp_V ((xdf t).map xv) j) ∧ C = xnm t
def XS4 : Prop := ∀ o x c, xcd o x = some c → c < 13 → Cond.classLink (xnm o) x (xnm c) ∈ xTs
def XS5 : Prop := (∀ o x v, xqi o x = some v → Cond.constant (xnm o) x v ∈ xTs) ∧ (∀ o x v, xql o x = some v → Cond.constantLong (xnm o) x v ∈ xTs) ∧ Cond.arrayClass .int ∈ xTs ∧ Cond.arrayClass .long ∈ xTs ∧ Cond.arrayClass .boolean ∈ xTs
section XF
variable {p : Program} {l : Launch} {e : Env} {R : Room} {s : State} {m : MethodId} {args : Array Value} {below : List Frame} {meth : Method} {c : Code} {U : State} {D : va_G} {P : State → Prop}
def XK (P : State → Prop) (U : State) (D : va_G) (mi : Nat) (p : Program) (R : Room) (s : State) (m : MethodId) (args : Array Value) (meth : Method) (c : Code) : Prop :=
  p.tables.exec = Jvm.exec ∧ c.code = xcb mi ∧ c.maxLocals = xmx mi ∧ s.vm.findClass (xnm (xow mi)) = some m.cls ∧ (∀ w ∈ xTs, w.before args s = true) ∧ meth.sig.returnType = xrt mi ∧ meth.locks = false ∧ (mi ∈ xinis → meth.name = "<init>") ∧ xdp mi ≤ R.frames ∧ 37 * xdp mi ≤ R.locals ∧ U.vm.Alike s.vm ∧ va_K D vwCl [] s ∧ (U.heap.size ≤ s.heap.size ∧ ∀ q : Nat, q < U.heap.size → s.heap[q]? = U.heap[q]?) ∧ P s
/-- the walk from a place on comes to Q -/
def XG (U : State) (D : va_G) (mi : Nat) (p : Program) (l : Launch) (e : Env) (R : Room) (s : State) (m : MethodId) (args : Array Value) (below : List Frame) (meth : Method) (c : Code) (u0 : Nat) (Q : State → Prop) (pc : Nat) (ls : XL) (st : List XE) (σ : XH) : Prop :=
  ∀ (H : Heap) (locs : List Loc) (la : Array Slot), XRep U D σ H → xhl la (xmx mi) ls → (∀ q ∈ locs, U.heap.size ≤ q.base) → s.heap.size ≤ σ.2.1 → u0 ≤ σ.2.2.1 → W p l e R s m args below meth c H locs (σ.2.1 - s.heap.size) (σ.2.2.1 - u0) Q (F0 m pc la (st.map xv))
end XF
