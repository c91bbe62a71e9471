/-! THE CLEAN MACHINE: places (small numbers) stand for addresses; one function a kind of contents. A method's run is a number of steps of it; 'ex' is the answer of a run that ends. -/
/-- places made, what each is, references, ints (also booleans, chars), longs, doubles -/
abbrev Mm : Type := Nat × (Nat → Nat × Nat) × (Nat → Nat → Option Nat) × (Nat → Nat → Int32) × (Nat → Nat → Int64) × (Nat → Nat → UInt64)
/-- method, place in its code, locals, operands, memory -/
abbrev Cf : Type := Nat × Nat × List Value × List Value × Mm
/-- returned, thrown (by a number of its class), or stopped at a place that the table leaves out -/
abbrev Ou : Type := (Option Value ⊕ Nat ⊕ (Nat × List Value × List Value)) × Mm
/-- a step: a branch or a guarded way on; a call (callee, arguments, and where it goes on); an end -/
abbrev Ac : Type := (Bool × Cf × Option Cf) ⊕ (Nat × List Value × Cf × List Value) ⊕ (Bool × Ou)
/-- an entry of a code table: instruction, length, locals kept on the way on, locals kept at the target, resolved numbers -/
abbrev CE : Type := Instr × Nat × List Bool × List Bool × Nat × Nat × Nat × Int32
/-- a local that nothing is known of -/
abbrev dv : Value := .retAddr 0
def mk : List Bool → List Value → List Value
  | b :: bs, v :: vs => (bif b then v else dv) :: mk bs vs
  | _, vs => vs
def inb (i : Int32) (n : Nat) : Bool := !(decide (i < 0) || Nat.ble n i.toNatClampNeg)
def ups (I : Nat → Nat → Int32) (p k : Nat) (x : Int32) : Nat → Nat → Int32 := fun q => bif Nat.beq q p then upd (I p) k x else I q
def upsL (J : Nat → Nat → Int64) (p k : Nat) (x : Int64) : Nat → Nat → Int64 := fun q => bif Nat.beq q p then vp_updL (J p) k x else J q
def upR {α : Type} (R : Nat → α) (p : Nat) (x : α) : Nat → α := fun q => bif Nat.beq q p then x else R q
def iEXC : Nat := 1000000
/-- what a method of the law has left of calls: no cell of the machine's, a measure of its room -/
def iCRD : Nat := 1000005
def go (μ pc : Nat) (ls st : List Value) (M : Mm) : Ac := .inl (true, (μ, pc, ls, st, M), none)
def gd (b : Bool) (μ pc : Nat) (ls st : List Value) (M : Mm) : Ac := .inl (b, (μ, pc, ls, st, M), none)
def br (b : Bool) (μ pt pf : Nat) (lt lf st : List Value) (M : Mm) : Ac := .inl (b, (μ, pt, lt, st, M), some (μ, pf, lf, st, M))
def hl : Ac := .inl (false, (0, 0, [], [], (0, fun _ => (0, 0), fun _ _ => none, fun _ _ => 0, fun _ _ => 0, fun _ _ => 0)), none)
def rt (b : Bool) (v : Option Value) (M : Mm) : Ac := .inr (.inr (b, .inl v, M))
/-- a local stored (one slot, two slots): what a store spoils is forgotten -/
def kill (L : List Value) : Nat → List Value
  | 0 => L
  | i + 1 => match L[i]? with
    | some (.long _) => L.set i dv
    | some (.double _) => L.set i dv
    | _ => L
def sto (L : List Value) (i : Nat) (v : Value) : List Value := (kill L i).set i v
def sto2 (L : List Value) (i : Nat) (v : Value) : List Value := ((kill L i).set i v).set (i + 1) dv
/-- the locals at a method's entry -/
def ent : List Value → List Value
  | [] => []
  | .long x :: r => .long x :: dv :: ent r
  | .double x :: r => .double x :: dv :: ent r
  | v :: r => v :: ent r
def pad (n : Nat) (L : List Value) : List Value := L ++ List.replicate (n - L.length) dv
