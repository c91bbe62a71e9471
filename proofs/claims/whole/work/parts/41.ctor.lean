/-! the constructors' runs, read off by the kernel: the memory at the law's loop head -/
def gM (o : Option Ou) : Mm := match o with
  | some x => x.2
  | none => (0, fun _ => (0, 0), fun _ _ => none, fun _ _ => 0, fun _ _ => 0, fun _ _ => 0)
def gO (o : Option Ou) : Option (Nat × List Value × List Value) := match o with
  | some (.inr (.inr z), _) => some z
  | _ => none
def gV (o : Option Ou) : Bool := match o with
  | some (.inl none, _) => true
  | _ => false
theorem gO_ok {x : Option Ou} {z : Nat × List Value × List Value} (h : gO x = some z) : x = some (.inr (.inr z), gM x) := by
  match x, h with
  | some (.inr (.inr y), M), h =>
    cases h
    rfl
  | some (.inl y, M), h => cases h
  | some (.inr (.inl y), M), h => cases h
  | none, h => cases h
theorem gV_ok {x : Option Ou} (h : gV x = true) : x = some (.inl none, gM x) := by
  match x, h with
  | some (.inl none, M), h => rfl
  | some (.inl (some y), M), h => cases h
  | some (.inr y, M), h => cases h
  | none, h => cases h
def gS (pc9 : Nat) (cf : Cf) : Option Ou := bif Nat.beq cf.2.1 pc9 then some (.inr (.inr (cf.2.1, cf.2.2.1, cf.2.2.2.1)), cf.2.2.2.2) else none
/-- no script yet: its length is a number that no script has -/
def Ic (p _j : Nat) : Int32 := bif Nat.beq p 1000001 then 5000 else 0
def Ma : Mm := (0, ssL 5000, fun _ _ => none, Ic, fun _ _ => 0, fun _ _ => 0)
def cfA : Cf := (309, 0, pad 10 (ent [.ref 1000002]), [], Ma)
def Mb : Mm := gM (itr 2 (gS 4) cfA)
def cfB : Cf := (89, 0, pad (mxl 89) (ent [.ref 0]), [], Mb)
def cfC (i : Nat) (M : Mm) : Cf := (89, 29, [.ref 0, .ref 1, .int (Int32.ofNat i)], [.int (Int32.ofNat i)], M)
def Mc : Nat → Mm
  | 0 => gM (run 20000 cfB)
  | i + 1 => gM (run 20000 (cfC i (Mc i)))
def Md : Mm := gM (run 20000 (cfC 8 (Mc 8)))
def cfE : Cf := (309, 7, pad 10 (ent [.ref 1000002]), [.ref 0], Md)
def Me : Mm := gM (run 100000 cfE)
theorem rA : gO (itr 2 (gS 4) cfA) = some (4, pad 10 (ent [.ref 1000002]), [.ref 0, .ref 0]) := by decide +kernel
theorem rB : gO (run 20000 cfB) = some (28, [.ref 0, .ref 1, .int 0], []) := by decide +kernel
theorem rC : (List.range 8).all (fun i => decide (gO (run 20000 (cfC i (Mc i))) = some (28, [.ref 0, .ref 1, .int (Int32.ofNat (i + 1))], []))) = true := by decide +kernel
theorem rD : gV (run 20000 (cfC 8 (Mc 8))) = true := by decide +kernel
theorem rE : gO (run 100000 cfE) = some (28, [.ref 1000002, .ref 0, .ref 316, .ref 335, .ref 336, .int 0, dv, dv, dv, dv], []) := by decide +kernel
theorem nE : Me.1 = 337 := by decide +kernel
theorem sE : (List.range 337).all (fun p => decide (Me.2.1 p = S0 p) && (List.range (bif Nat.blt (S0 p).1 12 then nfl (S0 p).1 else bif Nat.ble 25 (S0 p).1 then (S0 p).2 else 0)).all (fun j => decide (Me.2.2.1 p j = R0 p j))) = true := by decide +kernel
