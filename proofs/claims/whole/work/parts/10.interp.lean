/-! AN INTERPRETER of the claim's bytecode over an abstract heap: J functions are its normal forms, the machine follows it. -/
/-- a value: an int, a long, a reference -/
abbrev XE : Type := Int32 ⊕ Int64 ⊕ Option Nat
/-- an object: its kind (0..12 an object of that place in vwCl; 100.. arrays; 200 an int array that is only read), its contents -/
abbrev XO : Type := Nat × List XE
/-- the objects by address; how many cells there are; slots taken; the two static arrays -/
abbrev XH : Type := (Nat → Option XO) × Nat × Nat × Nat × Nat
/-- an answer, or an exception (which, where) -/
abbrev XV : Type := Option XE ⊕ (Nat × Nat)
abbrev XR : Type := Option (XV × XH)
abbrev XL : Type := List (Option XE)
def xk (n : Int) : Int32 := Int32.ofInt n
def xup (h : Nat → Option XO) (a : Nat) (o : XO) : Nat → Option XO := fun q => if q = a then some o else h q
def xset (σ : XH) (a : Nat) (o : XO) : XH := (xup σ.1 a o, σ.2)
def xtoI (e : XE) : Option Int32 := match e with
  | .inl x => some x
  | _ => none
def xtoL (e : XE) : Option Int64 := match e with
  | .inr (.inl x) => some x
  | _ => none
def xtoR (e : XE) : Option (Option Nat) := match e with
  | .inr (.inr x) => some x
  | _ => none
/-- place k of the object r of kind t -/
def xgt (σ : XH) (r : Option Nat) (t k : Nat) : Option XE := match r with
  | none => none
  | some a => match σ.1 a with
    | none => none
    | some o => if o.1 = t then o.2[k]? else none
def xgi (σ : XH) (r : Option Nat) (t k : Nat) : Option Int32 := (xgt σ r t k).bind xtoI
def xgl (σ : XH) (r : Option Nat) (t k : Nat) : Option Int64 := (xgt σ r t k).bind xtoL
def xgr (σ : XH) (r : Option Nat) (t k : Nat) : Option (Option Nat) := (xgt σ r t k).bind xtoR
def xpt (σ : XH) (r : Option Nat) (t k : Nat) (e : XE) : Option XH := match r with
  | none => none
  | some a => match σ.1 a with
    | none => none
    | some o => if o.1 = t ∧ k < o.2.length then some (xset σ a (t, o.2.set k e)) else none
/-- a boolean field -/
def xpz (σ : XH) (r : Option Nat) (t k : Nat) (x : Int32) : Option XH := if x = 0 ∨ x = 1 then xpt σ r t k (.inl x) else none
/-- arrays: load, store -/
def xix (i : Int32) (n : Nat) : Bool := decide (0 ≤ i) && decide (i.toNatClampNeg < n)
def xat (σ : XH) (r : Option Nat) (i : Int32) : Option (Nat × XE) := match r with
  | none => none
  | some a => match σ.1 a with
    | none => none
    | some o => if xix i o.2.length then (o.2[i.toNatClampNeg]?).map (fun e => (o.1, e)) else none
def xai (σ : XH) (r : Option Nat) (i : Int32) : Option Int32 := (xat σ r i).bind fun q => if q.1 = 100 ∨ q.1 = 200 then xtoI q.2 else none
def xal (σ : XH) (r : Option Nat) (i : Int32) : Option Int64 := (xat σ r i).bind fun q => if q.1 = 101 then xtoL q.2 else none
def xaz (σ : XH) (r : Option Nat) (i : Int32) : Option Int32 := (xat σ r i).bind fun q => if q.1 = 102 then xtoI q.2 else none
def xar (σ : XH) (r : Option Nat) (i : Int32) : Option (Option Nat) := (xat σ r i).bind fun q => if 103 ≤ q.1 ∧ q.1 < 108 then xtoR q.2 else none
def xas (σ : XH) (r : Option Nat) (t : Nat) (i : Int32) (e : XE) : Option XH := match r with
  | none => none
  | some a => match σ.1 a with
    | none => none
    | some o => if o.1 = t ∧ xix i o.2.length = true then some (xset σ a (t, o.2.set i.toNatClampNeg e)) else none
def xsi (σ : XH) (r : Option Nat) (i x : Int32) : Option XH := xas σ r 100 i (.inl x)
def xsl (σ : XH) (r : Option Nat) (i : Int32) (x : Int64) : Option XH := xas σ r 101 i (.inr (.inl x))
def xsz (σ : XH) (r : Option Nat) (i x : Int32) : Option XH := if x = 0 ∨ x = 1 then xas σ r 102 i (.inl x) else none
/-- the kind of an array of references, by the kind of what it holds -/
def xof (t : Nat) : Nat := match t with
  | 103 => 8
  | 104 => 7
  | 105 => 1
  | 106 => 4
  | _ => 10
def xsr (σ : XH) (r : Option Nat) (i : Int32) (x : Option Nat) : Option XH := match r with
  | none => none
  | some a => match σ.1 a with
    | none => none
    | some o => if 103 ≤ o.1 ∧ o.1 < 108 then (match x with
      | none => xas σ r o.1 i (.inr (.inr none))
      | some b => match σ.1 b with
        | none => none
        | some q => if q.1 = xof o.1 then xas σ r o.1 i (.inr (.inr (some b))) else none) else none
def xln (σ : XH) (r : Option Nat) : Option Int32 := match r with
  | none => none
  | some a => match σ.1 a with
    | none => none
    | some o => if 100 ≤ o.1 then some (nI o.2.length) else none
/-- new objects and arrays -/
def xpush (σ : XH) (o : XO) : XH := (xup σ.1 σ.2.1 o, σ.2.1 + 1, σ.2.2.1 + o.2.length, σ.2.2.2)
def xnw (σ : XH) (o : XO) (k : Nat → XH → XR) : XR := k σ.2.1 (xpush σ o)
def xnwa (σ : XH) (t : Nat) (d : XE) (n : Int32) (k : Nat → XH → XR) : XR := if n < 0 then none else if 100000 < n.toNatClampNeg then none else k σ.2.1 (xpush σ (t, List.replicate n.toNatClampNeg d))
/-- static arrays -/
def xgs (σ : XH) (j : Nat) : Nat := match j with
  | 0 => σ.2.2.2.1
  | _ => σ.2.2.2.2
/-- an exception: one cell of six slots -/
def xthr (σ : XH) (E : Nat) : XR := some (.inr (E, σ.2.1), (σ.1, σ.2.1 + 1, σ.2.2.1 + 6, σ.2.2.2))
/-- thrown with nothing on the stack -/
def xth (σ : XH) (st : List XE) (E : Nat) : XR := match st with
  | [] => xthr σ E
  | _ => none
/-- behind a call: nothing is caught -/
def xcv (r : XR) (k : XH → XR) : XR := match r with
  | some (.inl none, σ) => k σ
  | _ => none
def xci (r : XR) (k : Int32 → XH → XR) : XR := match r with
  | some (.inl (some (.inl x)), σ) => k x σ
  | _ => none
def xcl (r : XR) (k : Int64 → XH → XR) : XR := match r with
  | some (.inl (some (.inr (.inl x))), σ) => k x σ
  | _ => none
def xcr (r : XR) (k : Option Nat → XH → XR) : XR := match r with
  | some (.inl (some (.inr (.inr x))), σ) => k x σ
  | _ => none
/-- behind a call that may throw -/
def xcx (r : XR) (kx : Nat → Nat → XH → XR) (k : Int32 → XH → XR) : XR := match r with
  | some (.inl (some (.inl x)), σ) => k x σ
  | some (.inr (E, q), σ) => kx E q σ
  | _ => none
def xmin (x y : Int32) : Int32 := if y < x then y else x
def xmax (x y : Int64) : Int64 := if y < x then x else y
/-- words that operands take -/
def xwd : List XE → Nat
  | [] => 0
  | .inr (.inl _) :: r => xwd r + 2
  | _ :: r => xwd r + 1
/-- the locals -/
def xlg (ls : XL) (i : Nat) : Option XE := match ls[i]? with
  | some (some e) => some e
  | _ => none
def xcat2 (ls : XL) (j : Nat) : Bool := match ls[j]? with
  | some (some (.inr (.inl _))) => true
  | _ => false
/-- what lies below place i and reaches into it goes -/
def xclr (ls : XL) (i : Nat) : XL := match i with
  | 0 => ls
  | j + 1 => bif xcat2 ls j then ls.set j none else ls
def xst1 (ls : XL) (i : Nat) (e : XE) : XL := (xclr ls i).set i (some e)
/-- a place is forgotten -/
def xst0 (ls : XL) (i : Nat) : XL := (xclr ls i).set i none
def xst2 (ls : XL) (i : Nat) (x : Int64) : XL := ((xclr ls i).set i (some (.inr (.inl x)))).set (i + 1) none
def xent : List XE → XL
  | [] => []
  | e :: es => match e with
    | .inr (.inl _) => some e :: none :: xent es
    | _ => some e :: xent es
def xpad (n : Nat) (ls : XL) : XL := ls ++ List.replicate (n - ls.length) none
def xmsk : List Bool → XL → XL
  | b :: bs, l :: ls => (bif b then l else none) :: xmsk bs ls
  | _, _ => []
/-- a switch, case by case -/
def xsw (x : Int32) (k : Int → XR) (d : Int) : Nat → List Int → XR
  | _, [] => k d
  | n, o :: os => if x = nI n then k o else xsw x k d (n + 1) os
/-- where a jump leads -/
def xj (pc : Nat) (off : Int) (k : Nat → XR) : XR := match (pc : Int) + off with
  | .ofNat t => k t
  | .negSucc _ => none
