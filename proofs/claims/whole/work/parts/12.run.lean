/-- the receiver is an object of kind c -/
def xgd (σ : XH) (x : Option Nat) (c : Nat) (K : XR) : XR := match x with
  | none => none
  | some a => match σ.1 a with
    | none => none
    | some o => if o.1 = c then K else none
/-- behind a call -/
def xret (mi pc : Nat) (ls : XL) (r : XR) (q : Nat) (rest : List XE) (k : Nat → XL → List XE → XH → XR) : XR := bif Nat.ble (xwd rest) 8 then (match q with
  | 0 => xcv r fun σ' => k (pc + 3) ls rest σ'
  | 1 => bif xhs mi then xcx r (fun E _ σ' => xhd mi E fun h j => k h (xst0 ls j) [] σ') fun v σ' => k (pc + 3) ls (.inl v :: rest) σ' else xci r fun v σ' => k (pc + 3) ls (.inl v :: rest) σ'
  | 2 => xcl r fun v σ' => k (pc + 3) ls (.inr (.inl v) :: rest) σ'
  | _ => xcr r fun v σ' => k (pc + 3) ls (.inr (.inr v) :: rest) σ') else none
/-- a call: y says the method, its arguments' number, its answer's kind, its receiver's kind (90 static, 91 a constructor, 92 Object's, 93 Math.min, 94 Math.max, 95 a constructor that is a nest mate's own, 96 static with handlers) -/
def xinv (mi : Nat) (cal : Nat → List XE → XH → XR) (pc : Nat) (ls : XL) (y : Option (Nat × Nat × Nat × Nat)) (st : List XE) (σ : XH) (k : Nat → XL → List XE → XH → XR) : XR := match y with
  | none => none
  | some (mj, n, q, c) => match c with
    | 90 => bif Nat.ble n st.length then xret mi pc ls (cal mj (st.take n).reverse σ) q (st.drop n) k else none
    | 91 => (match st.drop n with
      | .inr (.inr (some a)) :: r => xret mi pc ls (cal mj (.inr (.inr (some a)) :: (st.take n).reverse) σ) q r k
      | _ => none)
    | 95 => (match st.drop n with
      | .inr (.inr (some a)) :: r => xret mi pc ls (cal mj (.inr (.inr (some a)) :: (st.take n).reverse) σ) q r k
      | _ => none)
    | 96 => bif Nat.ble n st.length then xret mi pc ls (cal mj (st.take n).reverse σ) q (st.drop n) k else none
    | 92 => (match st with
      | .inr (.inr x) :: r => if x = none then none else bif Nat.ble (xwd r) 8 then k (pc + 3) ls r σ else none
      | _ => none)
    | 93 => (match st with
      | .inl y :: .inl x :: r => bif Nat.ble (xwd r) 8 then k (pc + 3) ls (.inl (xmin x y) :: r) σ else none
      | _ => none)
    | 94 => (match st with
      | .inr (.inl y) :: .inr (.inl x) :: r => bif Nat.ble (xwd r) 8 then k (pc + 3) ls (.inr (.inl (xmax x y)) :: r) σ else none
      | _ => none)
    | c => (match st.drop n with
      | .inr (.inr x) :: r => xgd σ x c (xret mi pc ls (cal mj (.inr (.inr x) :: (st.take n).reverse) σ) q r k)
      | _ => none)
/-- one instruction; k goes on at a place -/
def xop (mi : Nat) (cal : Nat → List XE → XH → XR) (i : Instr) (len pc : Nat) (ls : XL) (st : List XE) (σ : XH) (k : Nat → XL → List XE → XH → XR) : XR :=
  match i with
  | .iconst n => k (pc + len) ls (.inl (xk n) :: st) σ
  | .bipush n => k (pc + len) ls (.inl (xk n) :: st) σ
  | .sipush n => k (pc + len) ls (.inl (xk n) :: st) σ
  | .lconst n => k (pc + len) ls (.inr (.inl (lN n)) :: st) σ
  | .aconst_null => k (pc + len) ls (.inr (.inr none) :: st) σ
  | .ldc x => (match xqi (xow mi) x with
    | some v => k (pc + len) ls (.inl v :: st) σ
    | none => none)
  | .ldc_w x => (match xqi (xow mi) x with
    | some v => k (pc + len) ls (.inl v :: st) σ
    | none => none)
  | .ldc2_w x => (match xql (xow mi) x with
    | some v => k (pc + len) ls (.inr (.inl v) :: st) σ
    | none => none)
  | .iload j => (match xlg ls j with
    | some (.inl v) => k (pc + len) ls (.inl v :: st) σ
    | _ => none)
  | .iload_n j => (match xlg ls j with
    | some (.inl v) => k (pc + len) ls (.inl v :: st) σ
    | _ => none)
  | .lload j => (match xlg ls j with
    | some (.inr (.inl v)) => k (pc + len) ls (.inr (.inl v) :: st) σ
    | _ => none)
  | .lload_n j => (match xlg ls j with
    | some (.inr (.inl v)) => k (pc + len) ls (.inr (.inl v) :: st) σ
    | _ => none)
  | .aload j => (match xlg ls j with
    | some (.inr (.inr v)) => k (pc + len) ls (.inr (.inr v) :: st) σ
    | _ => none)
  | .aload_n j => (match xlg ls j with
    | some (.inr (.inr v)) => k (pc + len) ls (.inr (.inr v) :: st) σ
    | _ => none)
  | .istore j => (match st with
    | .inl v :: r => k (pc + len) (xst1 ls j (.inl v)) r σ
    | _ => none)
  | .istore_n j => (match st with
    | .inl v :: r => k (pc + len) (xst1 ls j (.inl v)) r σ
    | _ => none)
  | .lstore j => (match st with
    | .inr (.inl v) :: r => k (pc + len) (xst2 ls j v) r σ
    | _ => none)
  | .lstore_n j => (match st with
    | .inr (.inl v) :: r => k (pc + len) (xst2 ls j v) r σ
    | _ => none)
  | .astore j => (match st with
    | .inr (.inr v) :: r => k (pc + len) (xst1 ls j (.inr (.inr v))) r σ
    | _ => none)
  | .astore_n j => (match st with
    | .inr (.inr v) :: r => k (pc + len) (xst1 ls j (.inr (.inr v))) r σ
    | _ => none)
  | .iinc j n => (match xlg ls j with
    | some (.inl v) => k (pc + len) (xst1 ls j (.inl (v + xk n))) st σ
    | _ => none)
  | .iadd => (match st with
    | .inl y :: .inl x :: r => k (pc + len) ls (.inl (x + y) :: r) σ
    | _ => none)
  | .isub => (match st with
    | .inl y :: .inl x :: r => k (pc + len) ls (.inl (x - y) :: r) σ
    | _ => none)
  | .imul => (match st with
    | .inl y :: .inl x :: r => k (pc + len) ls (.inl (x * y) :: r) σ
    | _ => none)
  | .iand => (match st with
    | .inl y :: .inl x :: r => k (pc + len) ls (.inl (x &&& y) :: r) σ
    | _ => none)
  | .ior => (match st with
    | .inl y :: .inl x :: r => k (pc + len) ls (.inl (x ||| y) :: r) σ
    | _ => none)
  | .ishr => (match st with
    | .inl y :: .inl x :: r => k (pc + len) ls (.inl (x >>> (y &&& 31)) :: r) σ
    | _ => none)
  | .idiv => (match st with
    | .inl y :: .inl x :: r => if y = 0 then none else k (pc + len) ls (.inl (x / y) :: r) σ
    | _ => none)
  | .irem => (match st with
    | .inl y :: .inl x :: r => if y = 0 then none else k (pc + len) ls (.inl (x - x / y * y) :: r) σ
    | _ => none)
  | .ineg => (match st with
    | .inl x :: r => k (pc + len) ls (.inl (-x) :: r) σ
    | _ => none)
  | .ladd => (match st with
    | .inr (.inl y) :: .inr (.inl x) :: r => k (pc + len) ls (.inr (.inl (x + y)) :: r) σ
    | _ => none)
  | .lcmp => (match st with
    | .inr (.inl y) :: .inr (.inl x) :: r => k (pc + len) ls (.inl (lg_cmp x y) :: r) σ
    | _ => none)
  | .i2l => (match st with
    | .inl x :: r => k (pc + len) ls (.inr (.inl x.toInt64) :: r) σ
    | _ => none)
  | .pop => (match st with
    | .inl _ :: r => k (pc + len) ls r σ
    | .inr (.inr _) :: r => k (pc + len) ls r σ
    | _ => none)
  | .dup => (match st with
    | .inl x :: r => k (pc + len) ls (.inl x :: .inl x :: r) σ
    | .inr (.inr x) :: r => k (pc + len) ls (.inr (.inr x) :: .inr (.inr x) :: r) σ
    | _ => none)
  | .dup_x1 => (match st with
    | .inl x :: .inr (.inr y) :: r => k (pc + len) ls (.inl x :: .inr (.inr y) :: .inl x :: r) σ
    | _ => none)
  | .dup2 => (match st with
    | .inl x :: .inr (.inr y) :: r => k (pc + len) ls (.inl x :: .inr (.inr y) :: .inl x :: .inr (.inr y) :: r) σ
    | _ => none)
  | .goto off => xj pc off fun t => k t ls st σ
  | .ifCond c off => (match st with
    | .inl x :: r => (match c with
      | .eq => if x = 0 then xj pc off fun t => k t ls r σ else k (pc + len) ls r σ
      | .ne => if x = 0 then k (pc + len) ls r σ else xj pc off fun t => k t ls r σ
      | .lt => if x < 0 then xj pc off fun t => k t ls r σ else k (pc + len) ls r σ
      | .ge => if x < 0 then k (pc + len) ls r σ else xj pc off fun t => k t ls r σ
      | .gt => if 0 < x then xj pc off fun t => k t ls r σ else k (pc + len) ls r σ
      | .le => if 0 < x then k (pc + len) ls r σ else xj pc off fun t => k t ls r σ)
    | _ => none)
  | .if_icmp c off => (match st with
    | .inl y :: .inl x :: r => (match c with
      | .eq => if x = y then xj pc off fun t => k t ls r σ else k (pc + len) ls r σ
      | .ne => if x = y then k (pc + len) ls r σ else xj pc off fun t => k t ls r σ
      | .lt => if x < y then xj pc off fun t => k t ls r σ else k (pc + len) ls r σ
      | .ge => if x < y then k (pc + len) ls r σ else xj pc off fun t => k t ls r σ
      | .gt => if y < x then xj pc off fun t => k t ls r σ else k (pc + len) ls r σ
      | .le => if y < x then k (pc + len) ls r σ else xj pc off fun t => k t ls r σ)
    | _ => none)
  | .if_acmp c off => (match st with
    | .inr (.inr y) :: .inr (.inr x) :: r => (match c with
      | .eq => if x = y then xj pc off fun t => k t ls r σ else k (pc + len) ls r σ
      | .ne => if x = y then k (pc + len) ls r σ else xj pc off fun t => k t ls r σ)
    | _ => none)
  | .ifnull off => (match st with
    | .inr (.inr x) :: r => if x = none then xj pc off fun t => k t ls r σ else k (pc + len) ls r σ
    | _ => none)
  | .ifnonnull off => (match st with
    | .inr (.inr x) :: r => if x = none then k (pc + len) ls r σ else xj pc off fun t => k t ls r σ
    | _ => none)
  | .tableswitch d lo _ offs => (match st with
    | .inl x :: r => (match lo with
      | .ofNat n => xsw x (fun off => xj pc off fun t => k t ls r σ) d n offs.toList
      | .negSucc _ => none)
    | _ => none)
  | .getfield x => (match xfd (xow mi) x, st with
    | some (t, f, q), .inr (.inr a) :: r => (match q with
      | 1 => (xgl σ a t f).bind fun v => k (pc + len) ls (.inr (.inl v) :: r) σ
      | 2 => (xgr σ a t f).bind fun v => k (pc + len) ls (.inr (.inr v) :: r) σ
      | _ => (xgi σ a t f).bind fun v => k (pc + len) ls (.inl v :: r) σ)
    | _, _ => none)
  | .putfield x => (match xfd (xow mi) x, st with
    | some (t, f, q), e :: .inr (.inr a) :: r => (match q, e with
      | 0, .inl v => (xpt σ a t f (.inl v)).bind fun σ' => k (pc + len) ls r σ'
      | 1, .inr (.inl v) => (xpt σ a t f (.inr (.inl v))).bind fun σ' => k (pc + len) ls r σ'
      | 2, .inr (.inr v) => (xpt σ a t f (.inr (.inr v))).bind fun σ' => k (pc + len) ls r σ'
      | 3, .inl v => (xpz σ a t f v).bind fun σ' => k (pc + len) ls r σ'
      | _, _ => none)
    | _, _ => none)
  | .getstatic x => (match xsd (xow mi) x with
    | some j => k (pc + len) ls (.inr (.inr (some (xgs σ j))) :: st) σ
    | none => none)
  | .arraylength => (match st with
    | .inr (.inr a) :: r => (xln σ a).bind fun v => k (pc + len) ls (.inl v :: r) σ
    | _ => none)
  | .iaload => (match st with
    | .inl j :: .inr (.inr a) :: r => (xai σ a j).bind fun v => k (pc + len) ls (.inl v :: r) σ
    | _ => none)
  | .laload => (match st with
    | .inl j :: .inr (.inr a) :: r => (xal σ a j).bind fun v => k (pc + len) ls (.inr (.inl v) :: r) σ
    | _ => none)
  | .baload => (match st with
    | .inl j :: .inr (.inr a) :: r => (xaz σ a j).bind fun v => k (pc + len) ls (.inl v :: r) σ
    | _ => none)
  | .aaload => (match st with
    | .inl j :: .inr (.inr a) :: r => (xar σ a j).bind fun v => k (pc + len) ls (.inr (.inr v) :: r) σ
    | _ => none)
  | .iastore => (match st with
    | .inl v :: .inl j :: .inr (.inr a) :: r => (xsi σ a j v).bind fun σ' => k (pc + len) ls r σ'
    | _ => none)
  | .lastore => (match st with
    | .inr (.inl v) :: .inl j :: .inr (.inr a) :: r => (xsl σ a j v).bind fun σ' => k (pc + len) ls r σ'
    | _ => none)
  | .bastore => (match st with
    | .inl v :: .inl j :: .inr (.inr a) :: r => (xsz σ a j v).bind fun σ' => k (pc + len) ls r σ'
    | _ => none)
  | .aastore => (match st with
    | .inr (.inr v) :: .inl j :: .inr (.inr a) :: r => (xsr σ a j v).bind fun σ' => k (pc + len) ls r σ'
    | _ => none)
  | .new x => (match xcd (xow mi) x with
    | some c => (match c with
      | 50 => xth σ st 50
      | 51 => xth σ st 51
      | c => xnw σ (c, xdf c) fun a σ' => k (pc + len) ls (.inr (.inr (some a)) :: st) σ')
    | none => none)
  | .newarray t => (match st with
    | .inl n :: r => (match t with
      | .int => xnwa σ 100 (.inl 0) n fun a σ' => k (pc + len) ls (.inr (.inr (some a)) :: r) σ'
      | .long => xnwa σ 101 (.inr (.inl 0)) n fun a σ' => k (pc + len) ls (.inr (.inr (some a)) :: r) σ'
      | .boolean => xnwa σ 102 (.inl 0) n fun a σ' => k (pc + len) ls (.inr (.inr (some a)) :: r) σ'
      | _ => none)
    | _ => none)
  | .anewarray x => (match xcd (xow mi) x, st with
    | some c, .inl n :: r => xnwa σ (xoa c) (.inr (.inr none)) n fun a σ' => k (pc + len) ls (.inr (.inr (some a)) :: r) σ'
    | _, _ => none)
  | .invokevirtual x => xinv mi cal pc ls (xmd (xow mi) x) st σ k
  | .invokestatic x => xinv mi cal pc ls (xmd (xow mi) x) st σ k
  | .invokespecial x => xinv mi cal pc ls (xmd (xow mi) x) st σ k
  | .ireturn => (match st with
    | [.inl v] => (match xrk mi with
      | 1 => some (.inl (some (.inl v)), σ)
      | 4 => if v = 0 ∨ v = 1 then some (.inl (some (.inl v)), σ) else none
      | _ => none)
    | _ => none)
  | .lreturn => (match st with
    | [.inr (.inl v)] => (match xrk mi with
      | 2 => some (.inl (some (.inr (.inl v))), σ)
      | _ => none)
    | _ => none)
  | .areturn => (match st with
    | [.inr (.inr v)] => (match xrk mi with
      | 3 => some (.inl (some (.inr (.inr v))), σ)
      | _ => none)
    | _ => none)
  | .return_ => (match st with
    | [] => (match xrk mi with
      | 0 => some (.inl none, σ)
      | _ => none)
    | _ => none)
  | _ => none
/-- up to n instructions, as far as a cut -/
def xin (rec : Nat → XL → List XE → XH → XR) (cal : Nat → List XE → XH → XR) (mi : Nat) : Nat → Nat → XL → List XE → XH → XR
  | 0, _, _, _, _ => none
  | n + 1, pc, ls, st, σ => match xtb mi pc with
    | none => none
    | some (i, len) => xop mi cal i len pc ls st σ fun pc' ls' st' σ' => match xct mi pc' with
      | some bs => rec pc' (xmsk bs ls') st' σ'
      | none => xin rec cal mi n pc' ls' st' σ'
/-- a method from a place on; F counts cuts and calls -/
def xrun : Nat → Nat → Nat → XL → List XE → XH → XR
  | 0, _, _, _, _, _ => none
  | F + 1, mi, pc, ls, st, σ => xin (fun pc' ls' st' σ' => xrun F mi pc' ls' st' σ') (fun mj as σ' => bif Nat.ble (xent as).length (xmx mj) then xrun F mj 0 (xpad (xmx mj) (xent as)) [] σ' else none) mi 3000 pc ls st σ
