/-! the constructors' runs, read off by the kernel: the memory at the law's loop head -/
def gM (o : Option Ou) : Mm := match o with
  | some x => x.2
  | none => (0, fun _ => (0, 0), fun _ _ => none, fun _ _ => 0, fun _ _ => 0, fun _ _ => 0)
def gO (o : Option Ou) : Option (Nat × List Value × List Value) := match o with
  | some (.inr (.inr z), _) => some z
  | _ => none
def gV (o : Option Ou) : Bool := match o with
  | some (.inl none, _) => true
  | _ => false
theorem gO_ok {x : Option Ou} {z : Nat × List Value × List Value} (h : gO x = some z) : x = some (.inr (.inr z), gM x) := by
  match x, h with
  | some (.inr (.inr y), M), h =>
    cases h
    rfl
  | some (.inl y, M), h => cases h
  | some (.inr (.inl y), M), h => cases h
  | none, h => cases h
theorem gV_ok {x : Option Ou} (h : gV x = true) : x = some (.inl none, gM x) := by
  match x, h with
  | some (.inl none, M), h => rfl
  | some (.inl (some y), M), h => cases h
  | some (.inr y, M), h => cases h
  | none, h => cases h
def gS (pc9 : Nat) (cf : Cf) : Option Ou := bif Nat.beq cf.2.1 pc9 then some (.inr (.inr (cf.2.1, cf.2.2.1, cf.2.2.2.1)), cf.2.2.2.2) else none
/-- the places at the law's start: itself, the book, its own rows -/
def S54 (p : Nat) : Nat × Nat := bif Nat.ble p 328 then (bif Nat.beq p 0 then (12, 0) else bif Nat.ble p 316 then S0 (p - 1) else bif Nat.ble p 319 then (20, 50) else bif Nat.beq p 320 then (26, 2) else bif Nat.ble p 322 then (20, 5) else bif Nat.beq p 323 then (26, 2) else bif Nat.ble p 325 then (20, 5) else bif Nat.beq p 326 then (20, 2) else bif Nat.beq p 327 then (20, 5) else (11, 0)) else ssp p
def R54 (p j : Nat) : Option Nat := bif Nat.ble p 328 then (bif Nat.beq p 0 then (bif Nat.beq j 0 then some 1 else bif Nat.beq j 1 then some 328 else bif Nat.beq j 2 then some 317 else bif Nat.beq j 3 then some 318 else bif Nat.beq j 4 then some 319 else bif Nat.beq j 7 then some 320 else bif Nat.beq j 8 then some 323 else bif Nat.beq j 9 then some 326 else bif Nat.beq j 10 then some 327 else none) else bif Nat.ble p 316 then (bif Nat.blt j 20 then (R0 (p - 1) j).map (fun q => q + 1) else none) else bif Nat.beq p 320 then (bif Nat.blt j 2 then some (321 + j) else none) else bif Nat.beq p 323 then (bif Nat.blt j 2 then some (324 + j) else none) else none) else none
/-- ahead of the draws -/
def R53 (p j : Nat) : Option Nat := bif Nat.beq p 0 && Nat.beq j 1 then none else R54 p j
def Iz (L : Nat) (xs : Nat → Int32) (c : Int32) (p j : Nat) : Int32 := bif Nat.beq p iSCL then Int32.ofNat L else bif Nat.beq p iSCR then xs j else bif Nat.beq p iCRD then c else 0
/-- where the law's constructor begins: the script is not looked at yet -/
def Ma : Mm := (1, upR (ssL 5000) 0 (12, 0), fun _ _ => none, Iz 5000 (fun _ => 0) 5, fun _ _ => 0, fun _ _ => 0)
def cfA : Cf := (320, 0, pad (mxl 320) (ent [.ref 0, .ref 1000002]), [], Ma)
def Mb : Mm := gM (itr 5 (gS 9) cfA)
/-- at the book's constructor: a call is paid -/
def Mb9 : Mm := (Mb.1, Mb.2.1, Mb.2.2.1, cI 320 89 Mb.2.2.2.1, Mb.2.2.2.2.1, Mb.2.2.2.2.2)
def cfB : Cf := (89, 0, pad (mxl 89) (ent [.ref 1]), [], cIn 89 Mb9)
def cfC (i : Nat) (M : Mm) : Cf := (89, 29, [.ref 1, .ref 2, .int (Int32.ofNat i)], [.int (Int32.ofNat i)], M)
def Mc : Nat → Mm
  | 0 => gM (run 20000 cfB)
  | i + 1 => gM (run 20000 (cfC i (Mc i)))
def Md0 : Mm := gM (run 20000 (cfC 8 (Mc 8)))
def Md : Mm := cOut 320 Mb9 Md0
def cfE : Cf := (320, 12, [.ref 0, .ref 1000002], [.ref 1, .ref 0], Md)
def Me : Mm := gM (itr 55 (gS 99) cfE)
theorem rA : gO (itr 5 (gS 9) cfA) = some (9, [.ref 0, .ref 1000002], [.ref 1, .ref 1, .ref 0]) := by decide +kernel
theorem gA : cG 320 89 Mb.2.2.2.1 = true := by decide +kernel
theorem rB : gO (run 20000 cfB) = some (28, [.ref 1, .ref 2, .int 0], []) := by decide +kernel
theorem rC : (List.range 8).all (fun i => decide (gO (run 20000 (cfC i (Mc i))) = some (28, [.ref 1, .ref 2, .int (Int32.ofNat (i + 1))], []))) = true := by decide +kernel
theorem rD : gV (run 20000 (cfC 8 (Mc 8))) = true := by decide +kernel
theorem rE : gO (itr 55 (gS 99) cfE) = some (99, [.ref 0, .ref 1000002], [.ref 1000002, .ref 328, .ref 328, .ref 0]) := by decide +kernel
theorem nE : Me.1 = 329 := by decide +kernel
theorem sE : (List.range 329).all (fun p => decide (Me.2.1 p = S54 p) && (List.range (bif Nat.blt (S54 p).1 15 then nfl (S54 p).1 else bif Nat.ble 25 (S54 p).1 then (S54 p).2 else 0)).all (fun j => decide (Me.2.2.1 p j = R53 p j))) = true := by decide +kernel
