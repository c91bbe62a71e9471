/-! every entry of every code table is right: what it decodes to, what it links, what it may cost -/
def cle (x y : Nat × Nat) : Bool := Nat.ble x.1 y.1 && Nat.ble x.2 y.2
def ada (x y : Nat × Nat) : Nat × Nat := (x.1 + y.1, x.2 + y.2)
def kk (a : Nat) : Nat := bif Nat.ble 318 a then cK a else 0
def rmk (a μ : Nat) : Bool := Nat.ble (fr a + 1) (fr μ) && Nat.ble (8 + (mxl a + 11) + lc a) (lc μ)
def icE (E : Nat) : Nat := bif Nat.ble E 1 then (bif Nat.ble E 0 then (bif Nat.beq E 0 then 78 else 0) else (bif Nat.beq E 1 then 135 else 0)) else (bif Nat.ble E 2 then (bif Nat.beq E 2 then 124 else 0) else (bif Nat.beq E 3 then 161 else 0))
def a3 (l : List (Nat × Nat × Nat × Nat)) (x y z : Nat) : Bool := l.any (fun e => Nat.beq e.1 x && (Nat.beq e.2.1 y && Nat.beq e.2.2.1 z))
def aC (x y : Nat) (k : Int32) : Bool := pC.any (fun e => Nat.beq e.1 x && (Nat.beq e.2.1 y && decide (e.2.2.1 = k)))
def aF (x y c f : Nat) : Bool := pFl.any (fun e => Nat.beq e.1 x && (Nat.beq e.2.1 y && (Nat.beq e.2.2.1 c && Nat.beq e.2.2.2.1 f)))
def aT (x y : Nat) : Bool := pTx.any (fun e => Nat.beq e.1 x && Nat.beq e.2.1 y)
def chT (μ pc E : Nat) : Bool := (Nat.beq (ow μ) 10 && ((hdl μ).isEmpty && (Nat.blt 5 (fr μ) && (Nat.ble 90 (lc μ) && (cle (1, 6) (cst μ pc) && Nat.blt E 4))))) &&
  (decide (decode (byt μ) (pc + 3) = .ok (.dup, 1)) && (match decode (byt μ) (pc + 4) with
    | .ok (.ldc s, 2) => aT (ow μ) s && (decide (decode (byt μ) (pc + 6) = .ok (.invokespecial (icE E), 3)) && decide (decode (byt μ) (pc + 9) = .ok (.athrow, 1)))
    | .ok (.ldc_w s, 3) => aT (ow μ) s && (decide (decode (byt μ) (pc + 7) = .ok (.invokespecial (icE E), 3)) && decide (decode (byt μ) (pc + 10) = .ok (.athrow, 1)))
    | _ => false))
def chA (t : ArrayType) (c : Nat) : Bool := match t with
  | .int => Nat.beq c 20
  | .boolean => Nat.beq c 21
  | .char => Nat.beq c 22
  | .long => Nat.beq c 23
  | .byte => Nat.beq c 29
  | _ => false
/-- what a call may cost: one of the book's from the law is paid out of what is left of calls -/
def chQ (a μ pc nx : Nat) : Bool := bif Nat.blt a 318 then (bif Nat.ble 318 μ then cle (cst a 0) (4, 24) && cle (cst μ nx) (cst μ pc) else cle (ada (cst a 0) (cst μ nx)) (cst μ pc)) else Nat.ble 318 μ && cle (ada (cst a 0) (cst μ nx)) (cst μ pc)
def chI (μ pc : Nat) (i : Instr) (len a b c : Nat) (k : Int32) : Bool :=
  match i with
  | .iconst n => decide (Int32.ofInt n = k) && cle (cst μ (pc + len)) (cst μ pc)
  | .bipush n => decide ((Int8.ofInt n).toInt32 = k) && cle (cst μ (pc + len)) (cst μ pc)
  | .sipush n => decide ((Int16.ofInt n).toInt32 = k) && cle (cst μ (pc + len)) (cst μ pc)
  | .fconst n => decide (n = 0) && cle (cst μ (pc + len)) (cst μ pc)
  | .ldc x => (bif Nat.beq a 0 then aC (ow μ) x k else (a3 pS (ow μ) x b && ((Nat.beq (ow μ) 9 || Nat.beq (ow μ) 12) && (Nat.ble 1000020 b && Nat.ble b 1000060)))) && cle (cst μ (pc + len)) (cst μ pc)
  | .ldc_w x => (bif Nat.beq a 0 then aC (ow μ) x k else (a3 pS (ow μ) x b && ((Nat.beq (ow μ) 9 || Nat.beq (ow μ) 12) && (Nat.ble 1000020 b && Nat.ble b 1000060)))) && cle (cst μ (pc + len)) (cst μ pc)
  | .daload => false
  | .dastore => false
  | .ldc2_w x => a3 pL (ow μ) x b && cle (cst μ (pc + len)) (cst μ pc)
  | .iinc _ n => decide (Int32.ofInt n = k) && cle (cst μ (pc + len)) (cst μ pc)
  | .ifCond _ off => decide ((pc : Int) + off = (a : Int)) && (cle (cst μ a) (cst μ pc) && cle (cst μ (pc + len)) (cst μ pc))
  | .if_icmp _ off => decide ((pc : Int) + off = (a : Int)) && (cle (cst μ a) (cst μ pc) && cle (cst μ (pc + len)) (cst μ pc))
  | .goto off => decide ((pc : Int) + off = (a : Int)) && cle (cst μ a) (cst μ pc)
  | .tableswitch d _ _ offs => cle (cst μ ((pc : Int) + d).toNat) (cst μ pc) && offs.toList.all (fun o => cle (cst μ ((pc : Int) + o).toNat) (cst μ pc))
  | .getfield x => (bif Nat.beq a 43 then a3 pFs (ow μ) x c && Nat.ble c 1 else (aF (ow μ) x a b && (Nat.beq (fkd a b) c && Nat.blt a 15))) && cle (cst μ (pc + len)) (cst μ pc)
  | .putfield x => (aF (ow μ) x a b && (Nat.beq (fkd a b) c && Nat.blt a 15)) && ((bif Nat.beq c 0 then decide (((clq a).2.1 b).2.2.2 = false ∧ clt a b = .int) else bif Nat.beq c 2 then decide (((clq a).2.1 b).2.2.2 = false ∧ clt a b = .long) else Nat.beq c 1 && (decide (((clq a).2.1 b).2.2.2 = false) || decide (((clq a).2.1 b).2.2.2 = true ∧ (nm μ).name = "<init>" ∧ ((clq a).2.1 b).1 = (nm μ).cls))) && cle (cst μ (pc + len)) (cst μ pc))
  | .getstatic x => a3 pSt (ow μ) x b && ((bif Nat.beq c 0 then Nat.ble 1000011 b && Nat.ble b 1000013 else Nat.beq b 0 && decide (k = 1)) && cle (cst μ (pc + len)) (cst μ pc))
  | .invokevirtual x => a3 pM (ow μ) x a && ((Nat.beq b (nar a + 1) && (Nat.beq (wix a).2.1 0 && ((hdl a).isEmpty && (rl2 a && (!Nat.beq a 358))))) && ((bif Nat.beq c 43 then decide ((nm a).cls = "java/lang/String") else Nat.blt c 15 && decide ((clq c).1 = (nm a).cls)) && (decide ((nm a).name ≠ "<init>") && ((rmk a μ && (hnd μ).all (fun h => chQ a μ pc h.2.2.1)) && chQ a μ pc (pc + len)))))
  | .invokestatic x =>
      bif Nat.ble 1000 a then a3 pX (ow μ) x a && ((bif Nat.beq a 1004 then Nat.ble 3 (fr μ) && Nat.ble 60 (lc μ) else Nat.ble 1 (fr μ) && Nat.ble (bif Nat.beq a 1000 then 26 else 22) (lc μ)) && (cle (cst μ (pc + len)) (cst μ pc) && (Nat.beq a 1000 || (Nat.beq a 1004 || (Nat.beq a 1005 || (Nat.beq a 1006 || (Nat.beq a 1007 || Nat.beq a 1008)))))))
      else a3 pM (ow μ) x a && ((Nat.beq b (nar a) && (!(Nat.beq (wix a).2.1 0) && (rl2 a && (!Nat.beq a 358)))) && (rmk a μ && (chQ a μ pc (pc + len) && (hnd μ).all (fun h => chQ a μ pc h.2.2.1))))
  | .invokespecial x =>
      bif Nat.beq a 1003 then a3 pX (ow μ) x 1003 && ((Nat.ble 1 (fr μ) && Nat.ble 20 (lc μ)) && cle (cst μ (pc + len)) (cst μ pc))
      else (a3 pM (ow μ) x a || a3 pN (ow μ) x a) && ((Nat.beq b (nar a + 1) && (Nat.beq (wix a).2.1 0 && ((hdl a).isEmpty && (rl2 a && (!Nat.beq a 358))))) && (decide ((nm a).name = "<init>" ∧ rtt a = none) && (rmk a μ && (chQ a μ pc (pc + len) && (hnd μ).all (fun h => chQ a μ pc h.2.2.1)))))
  | .new x => bif Nat.beq a 0 then a3 pK (ow μ) x b && (Nat.blt b 15 && cle (ada (1, nfl b) (cst μ (pc + len))) (cst μ pc)) else a3 pE (ow μ) x b && chT μ pc b
  | .newarray t => chA t c && (Nat.ble b 20000 && cle (ada (1, b) (cst μ (pc + len))) (cst μ pc))
  | .anewarray x => ((Nat.beq (ow μ) 10 && (Nat.beq x 7 && Nat.beq c 0)) || (Nat.beq (ow μ) 12 && (Nat.beq x 233 && Nat.beq c 30))) && ( (Nat.ble b 20000 && cle (ada (1, b) (cst μ (pc + len))) (cst μ pc)))
  | .multianewarray x _ => (bif Nat.beq a 20 then Nat.beq c 26 else bif Nat.beq a 21 then Nat.beq c 28 else (Nat.beq a 23 && Nat.beq c 27)) && ((Nat.ble b 20000 && decide (0 ≤ k)) && (Nat.ble k.toNatClampNeg 20000 && (((Nat.beq (ow μ) 1 && (Nat.beq x 9 && Nat.beq a 20)) || (Nat.beq (ow μ) 12 && ((Nat.beq x 26 && Nat.beq a 20) || (Nat.beq x 119 && Nat.beq a 21))) || (Nat.beq (ow μ) 4 && ((Nat.beq x 9 && Nat.beq a 20) || (Nat.beq x 16 && Nat.beq a 23)))) && cle (ada (1 + b, b + b * k.toNatClampNeg) (cst μ (pc + len))) (cst μ pc))))
  | .ireturn => bif Nat.beq c 0 then decide (rtt μ = some .int) else bif Nat.beq c 1 then decide (rtt μ = some .boolean) else bif Nat.beq c 2 then decide (rtt μ = some .char) else decide (rtt μ = some .byte)
  | .lreturn => decide (rtt μ = some .long)
  | .freturn => decide (rtt μ = some .float)
  | .dreturn => decide (rtt μ = some .double)
  | .areturn => (match rtt μ with
    | some (.object _) => true
    | some (.array _) => true
    | _ => false)
  | .return_ => decide (rtt μ = none)
  | _ => cle (cst μ (pc + len)) (cst μ pc)
/-- what the making of texts has beside -/
def chTx (μ pc : Nat) (i : Instr) (len a b c : Nat) (k : Int32) : Bool :=
  match i with
  | .pop => cle (cst μ (pc + len)) (cst μ pc)
  | .aconst_null => cle (cst μ (pc + len)) (cst μ pc)
  | .ifnonnull off => decide ((pc : Int) + off = (a : Int)) && cle (cst μ a) (cst μ pc)
  | .bastore => cle (cst μ (pc + len)) (cst μ pc)
  | .baload => cle (cst μ (pc + len)) (cst μ pc)
  | .getstatic x => a3 pSt (ow μ) x 1000014 && cle (cst μ (pc + len)) (cst μ pc)
  | .putfield x => (aF (ow μ) x a b && (Nat.beq (fkd a b) c && Nat.blt a 15)) && (((bif Nat.beq c 1 then true else bif Nat.beq c 0 then decide (clt a b = .int) else Nat.beq c 3 && decide (clt a b = .byte)) && (decide (((clq a).2.1 b).2.2.2 = false) || decide (((clq a).2.1 b).2.2.2 = true ∧ (nm μ).name = "<init>" ∧ ((clq a).2.1 b).1 = (nm μ).cls))) && cle (cst μ (pc + len)) (cst μ pc))
  | .invokevirtual x => ((a3 pM (ow μ) x a && (Nat.beq a 367 || (Nat.beq a 368 || (Nat.beq a 369 || (Nat.beq a 370 || Nat.beq a 372))))) || (a3 pM (ow μ) x 371 && Nat.beq a 363)) && (Nat.beq b (nar a + 1) && (rmk a μ && ((hnd μ).isEmpty && chQ a μ pc (pc + len))))
  | .invokestatic x => a3 pX (ow μ) x 1000 && ((Nat.ble 1 (fr μ) && Nat.ble 26 (lc μ)) && cle (cst μ (pc + len)) (cst μ pc))
  | .invokespecial x => (a3 pM (ow μ) x a && (Nat.beq a 365 || (Nat.beq a 366 || Nat.beq a 371))) && (Nat.beq (ow μ) 17 && (Nat.beq b (nar a + 1) && (rmk a μ && ((hnd μ).isEmpty && chQ a μ pc (pc + len)))))
  | _ => false
/-- the length that an instruction must have (a switch: any) -/
def ilc (i : Instr) (len : Nat) : Bool := match i with
  | .tableswitch _ _ _ _ => true
  | .bipush _ => Nat.beq len 2
  | .ldc _ => Nat.beq len 2
  | .iload _ => Nat.beq len 2
  | .lload _ => Nat.beq len 2
  | .dload _ => Nat.beq len 2
  | .aload _ => Nat.beq len 2
  | .istore _ => Nat.beq len 2
  | .lstore _ => Nat.beq len 2
  | .dstore _ => Nat.beq len 2
  | .astore _ => Nat.beq len 2
  | .newarray _ => Nat.beq len 2
  | .sipush _ => Nat.beq len 3
  | .ldc_w _ => Nat.beq len 3
  | .ldc2_w _ => Nat.beq len 3
  | .iinc _ _ => Nat.beq len 3
  | .ifCond _ _ => Nat.beq len 3
  | .if_icmp _ _ => Nat.beq len 3
  | .ifnull _ => Nat.beq len 3
  | .ifnonnull _ => Nat.beq len 3
  | .goto _ => Nat.beq len 3
  | .getfield _ => Nat.beq len 3
  | .putfield _ => Nat.beq len 3
  | .getstatic _ => Nat.beq len 3
  | .invokevirtual _ => Nat.beq len 3
  | .invokestatic _ => Nat.beq len 3
  | .invokespecial _ => Nat.beq len 3
  | .new _ => Nat.beq len 3
  | .anewarray _ => Nat.beq len 3
  | .multianewarray _ k => Nat.beq len 4 && decide (k = 2)
  | _ => Nat.beq len 1
def chk (μ pc : Nat) (e : CE) : Bool := (decide (decode (byt μ) pc = .ok (e.1, e.2.1)) && ilc e.1 e.2.1) && (bif spc e.1 e.2.2.2.2.1 e.2.2.2.2.2.1 e.2.2.2.2.2.2.1 && Nat.ble 359 μ then chTx μ pc e.1 e.2.1 e.2.2.2.2.1 e.2.2.2.2.2.1 e.2.2.2.2.2.2.1 e.2.2.2.2.2.2.2 else chI μ pc e.1 e.2.1 e.2.2.2.2.1 e.2.2.2.2.2.1 e.2.2.2.2.2.2.1 e.2.2.2.2.2.2.2)
def chO (μ pc : Nat) : Bool := match cins μ pc with
  | none => true
  | some e => chk μ pc e
/-- the same, but for the decoding (the law's own rows have that) -/
def chJ (μ pc : Nat) : Bool := match cins μ pc with
  | none => true
  | some e => ilc e.1 e.2.1 && (bif spc e.1 e.2.2.2.2.1 e.2.2.2.2.2.1 e.2.2.2.2.2.2.1 && Nat.ble 359 μ then chTx μ pc e.1 e.2.1 e.2.2.2.2.1 e.2.2.2.2.2.1 e.2.2.2.2.2.2.1 e.2.2.2.2.2.2.2 else chI μ pc e.1 e.2.1 e.2.2.2.2.1 e.2.2.2.2.2.1 e.2.2.2.2.2.2.1 e.2.2.2.2.2.2.2)
def dcO (μ pc : Nat) : Prop := match cins μ pc with
  | none => True
  | some e => decode (byt μ) pc = .ok (e.1, e.2.1)
theorem okG {i N : Nat} (h : (List.range N).all (fun pc => chO i pc) = true) (hn : ∀ pc, Nat.blt pc N = false → cins i pc = none) : ∀ pc, chO i pc = true := by
  intro pc
  cases hb : Nat.blt pc N with
  | true => exact List.all_eq_true.mp h pc (List.mem_range.mpr (Nat.blt_eq.mp hb))
  | false => simp [chO, hn pc hb]
theorem okD_0 : (List.range 55).all (fun pc => chO 0 pc) = true := by decide +kernel
theorem okE_0 : ∀ pc, chO 0 pc = true := okG okD_0 (fun pc h => by show (bif Nat.blt pc 55 then _ else none) = none; rw [h]; rfl)
theorem okD_1 : (List.range 61).all (fun pc => chO 1 pc) = true := by decide +kernel
theorem okE_1 : ∀ pc, chO 1 pc = true := okG okD_1 (fun pc h => by show (bif Nat.blt pc 61 then _ else none) = none; rw [h]; rfl)
theorem okD_2 : (List.range 18).all (fun pc => chO 2 pc) = true := by decide +kernel
theorem okE_2 : ∀ pc, chO 2 pc = true := okG okD_2 (fun pc h => by show (bif Nat.blt pc 18 then _ else none) = none; rw [h]; rfl)
theorem okD_3 : (List.range 100).all (fun pc => chO 3 pc) = true := by decide +kernel
theorem okE_3 : ∀ pc, chO 3 pc = true := okG okD_3 (fun pc h => by show (bif Nat.blt pc 100 then _ else none) = none; rw [h]; rfl)
theorem okD_4 : (List.range 77).all (fun pc => chO 4 pc) = true := by decide +kernel
theorem okE_4 : ∀ pc, chO 4 pc = true := okG okD_4 (fun pc h => by show (bif Nat.blt pc 77 then _ else none) = none; rw [h]; rfl)
theorem okD_5 : (List.range 97).all (fun pc => chO 5 pc) = true := by decide +kernel
theorem okE_5 : ∀ pc, chO 5 pc = true := okG okD_5 (fun pc h => by show (bif Nat.blt pc 97 then _ else none) = none; rw [h]; rfl)
theorem okD_6 : (List.range 35).all (fun pc => chO 6 pc) = true := by decide +kernel
theorem okE_6 : ∀ pc, chO 6 pc = true := okG okD_6 (fun pc h => by show (bif Nat.blt pc 35 then _ else none) = none; rw [h]; rfl)
theorem okD_7 : (List.range 48).all (fun pc => chO 7 pc) = true := by decide +kernel
theorem okE_7 : ∀ pc, chO 7 pc = true := okG okD_7 (fun pc h => by show (bif Nat.blt pc 48 then _ else none) = none; rw [h]; rfl)
theorem okD_8 : (List.range 58).all (fun pc => chO 8 pc) = true := by decide +kernel
theorem okE_8 : ∀ pc, chO 8 pc = true := okG okD_8 (fun pc h => by show (bif Nat.blt pc 58 then _ else none) = none; rw [h]; rfl)
theorem okD_9 : (List.range 77).all (fun pc => chO 9 pc) = true := by decide +kernel
theorem okE_9 : ∀ pc, chO 9 pc = true := okG okD_9 (fun pc h => by show (bif Nat.blt pc 77 then _ else none) = none; rw [h]; rfl)
theorem okD_10 : (List.range 98).all (fun pc => chO 10 pc) = true := by decide +kernel
theorem okE_10 : ∀ pc, chO 10 pc = true := okG okD_10 (fun pc h => by show (bif Nat.blt pc 98 then _ else none) = none; rw [h]; rfl)
theorem okD_11 : (List.range 163).all (fun pc => chO 11 pc) = true := by decide +kernel
theorem okE_11 : ∀ pc, chO 11 pc = true := okG okD_11 (fun pc h => by show (bif Nat.blt pc 163 then _ else none) = none; rw [h]; rfl)
theorem okD_12 : (List.range 72).all (fun pc => chO 12 pc) = true := by decide +kernel
theorem okE_12 : ∀ pc, chO 12 pc = true := okG okD_12 (fun pc h => by show (bif Nat.blt pc 72 then _ else none) = none; rw [h]; rfl)
theorem okD_13 : (List.range 132).all (fun pc => chO 13 pc) = true := by decide +kernel
theorem okE_13 : ∀ pc, chO 13 pc = true := okG okD_13 (fun pc h => by show (bif Nat.blt pc 132 then _ else none) = none; rw [h]; rfl)
theorem okD_14 : (List.range 53).all (fun pc => chO 14 pc) = true := by decide +kernel
theorem okE_14 : ∀ pc, chO 14 pc = true := okG okD_14 (fun pc h => by show (bif Nat.blt pc 53 then _ else none) = none; rw [h]; rfl)
theorem okD_15 : (List.range 20).all (fun pc => chO 15 pc) = true := by decide +kernel
theorem okE_15 : ∀ pc, chO 15 pc = true := okG okD_15 (fun pc h => by show (bif Nat.blt pc 20 then _ else none) = none; rw [h]; rfl)
theorem okD_16 : (List.range 9).all (fun pc => chO 16 pc) = true := by decide +kernel
theorem okE_16 : ∀ pc, chO 16 pc = true := okG okD_16 (fun pc h => by show (bif Nat.blt pc 9 then _ else none) = none; rw [h]; rfl)
theorem okD_18 : (List.range 29).all (fun pc => chO 18 pc) = true := by decide +kernel
theorem okE_18 : ∀ pc, chO 18 pc = true := okG okD_18 (fun pc h => by show (bif Nat.blt pc 29 then _ else none) = none; rw [h]; rfl)
theorem okD_19 : (List.range 69).all (fun pc => chO 19 pc) = true := by decide +kernel
theorem okE_19 : ∀ pc, chO 19 pc = true := okG okD_19 (fun pc h => by show (bif Nat.blt pc 69 then _ else none) = none; rw [h]; rfl)
theorem okD_20 : (List.range 50).all (fun pc => chO 20 pc) = true := by decide +kernel
theorem okE_20 : ∀ pc, chO 20 pc = true := okG okD_20 (fun pc h => by show (bif Nat.blt pc 50 then _ else none) = none; rw [h]; rfl)
theorem okD_21 : (List.range 55).all (fun pc => chO 21 pc) = true := by decide +kernel
theorem okE_21 : ∀ pc, chO 21 pc = true := okG okD_21 (fun pc h => by show (bif Nat.blt pc 55 then _ else none) = none; rw [h]; rfl)
theorem okD_22 : (List.range 42).all (fun pc => chO 22 pc) = true := by decide +kernel
theorem okE_22 : ∀ pc, chO 22 pc = true := okG okD_22 (fun pc h => by show (bif Nat.blt pc 42 then _ else none) = none; rw [h]; rfl)
theorem okD_23 : (List.range 112).all (fun pc => chO 23 pc) = true := by decide +kernel
theorem okE_23 : ∀ pc, chO 23 pc = true := okG okD_23 (fun pc h => by show (bif Nat.blt pc 112 then _ else none) = none; rw [h]; rfl)
theorem okD_24 : (List.range 58).all (fun pc => chO 24 pc) = true := by decide +kernel
theorem okE_24 : ∀ pc, chO 24 pc = true := okG okD_24 (fun pc h => by show (bif Nat.blt pc 58 then _ else none) = none; rw [h]; rfl)
theorem okD_25 : (List.range 45).all (fun pc => chO 25 pc) = true := by decide +kernel
theorem okE_25 : ∀ pc, chO 25 pc = true := okG okD_25 (fun pc h => by show (bif Nat.blt pc 45 then _ else none) = none; rw [h]; rfl)
theorem okD_26 : (List.range 65).all (fun pc => chO 26 pc) = true := by decide +kernel
theorem okE_26 : ∀ pc, chO 26 pc = true := okG okD_26 (fun pc h => by show (bif Nat.blt pc 65 then _ else none) = none; rw [h]; rfl)
theorem okD_27 : (List.range 34).all (fun pc => chO 27 pc) = true := by decide +kernel
theorem okE_27 : ∀ pc, chO 27 pc = true := okG okD_27 (fun pc h => by show (bif Nat.blt pc 34 then _ else none) = none; rw [h]; rfl)
theorem okD_28 : (List.range 14).all (fun pc => chO 28 pc) = true := by decide +kernel
theorem okE_28 : ∀ pc, chO 28 pc = true := okG okD_28 (fun pc h => by show (bif Nat.blt pc 14 then _ else none) = none; rw [h]; rfl)
theorem okD_29 : (List.range 94).all (fun pc => chO 29 pc) = true := by decide +kernel
theorem okE_29 : ∀ pc, chO 29 pc = true := okG okD_29 (fun pc h => by show (bif Nat.blt pc 94 then _ else none) = none; rw [h]; rfl)
theorem okD_30 : (List.range 31).all (fun pc => chO 30 pc) = true := by decide +kernel
theorem okE_30 : ∀ pc, chO 30 pc = true := okG okD_30 (fun pc h => by show (bif Nat.blt pc 31 then _ else none) = none; rw [h]; rfl)
theorem okD_31 : (List.range 68).all (fun pc => chO 31 pc) = true := by decide +kernel
theorem okE_31 : ∀ pc, chO 31 pc = true := okG okD_31 (fun pc h => by show (bif Nat.blt pc 68 then _ else none) = none; rw [h]; rfl)
theorem okD_32 : (List.range 27).all (fun pc => chO 32 pc) = true := by decide +kernel
theorem okE_32 : ∀ pc, chO 32 pc = true := okG okD_32 (fun pc h => by show (bif Nat.blt pc 27 then _ else none) = none; rw [h]; rfl)
theorem okD_33 : (List.range 45).all (fun pc => chO 33 pc) = true := by decide +kernel
theorem okE_33 : ∀ pc, chO 33 pc = true := okG okD_33 (fun pc h => by show (bif Nat.blt pc 45 then _ else none) = none; rw [h]; rfl)
theorem okD_34 : (List.range 76).all (fun pc => chO 34 pc) = true := by decide +kernel
theorem okE_34 : ∀ pc, chO 34 pc = true := okG okD_34 (fun pc h => by show (bif Nat.blt pc 76 then _ else none) = none; rw [h]; rfl)
theorem okD_35 : (List.range 56).all (fun pc => chO 35 pc) = true := by decide +kernel
theorem okE_35 : ∀ pc, chO 35 pc = true := okG okD_35 (fun pc h => by show (bif Nat.blt pc 56 then _ else none) = none; rw [h]; rfl)
theorem okD_36 : (List.range 177).all (fun pc => chO 36 pc) = true := by decide +kernel
theorem okE_36 : ∀ pc, chO 36 pc = true := okG okD_36 (fun pc h => by show (bif Nat.blt pc 177 then _ else none) = none; rw [h]; rfl)
theorem okD_37 : (List.range 95).all (fun pc => chO 37 pc) = true := by decide +kernel
theorem okE_37 : ∀ pc, chO 37 pc = true := okG okD_37 (fun pc h => by show (bif Nat.blt pc 95 then _ else none) = none; rw [h]; rfl)
theorem okD_38 : (List.range 121).all (fun pc => chO 38 pc) = true := by decide +kernel
theorem okE_38 : ∀ pc, chO 38 pc = true := okG okD_38 (fun pc h => by show (bif Nat.blt pc 121 then _ else none) = none; rw [h]; rfl)
theorem okD_39 : (List.range 166).all (fun pc => chO 39 pc) = true := by decide +kernel
theorem okE_39 : ∀ pc, chO 39 pc = true := okG okD_39 (fun pc h => by show (bif Nat.blt pc 166 then _ else none) = none; rw [h]; rfl)
theorem okD_40 : (List.range 128).all (fun pc => chO 40 pc) = true := by decide +kernel
theorem okE_40 : ∀ pc, chO 40 pc = true := okG okD_40 (fun pc h => by show (bif Nat.blt pc 128 then _ else none) = none; rw [h]; rfl)
theorem okD_41 : (List.range 76).all (fun pc => chO 41 pc) = true := by decide +kernel
theorem okE_41 : ∀ pc, chO 41 pc = true := okG okD_41 (fun pc h => by show (bif Nat.blt pc 76 then _ else none) = none; rw [h]; rfl)
theorem okD_42 : (List.range 49).all (fun pc => chO 42 pc) = true := by decide +kernel
theorem okE_42 : ∀ pc, chO 42 pc = true := okG okD_42 (fun pc h => by show (bif Nat.blt pc 49 then _ else none) = none; rw [h]; rfl)
theorem okD_43 : (List.range 70).all (fun pc => chO 43 pc) = true := by decide +kernel
theorem okE_43 : ∀ pc, chO 43 pc = true := okG okD_43 (fun pc h => by show (bif Nat.blt pc 70 then _ else none) = none; rw [h]; rfl)
theorem okD_44 : (List.range 86).all (fun pc => chO 44 pc) = true := by decide +kernel
theorem okE_44 : ∀ pc, chO 44 pc = true := okG okD_44 (fun pc h => by show (bif Nat.blt pc 86 then _ else none) = none; rw [h]; rfl)
theorem okD_45 : (List.range 16).all (fun pc => chO 45 pc) = true := by decide +kernel
theorem okE_45 : ∀ pc, chO 45 pc = true := okG okD_45 (fun pc h => by show (bif Nat.blt pc 16 then _ else none) = none; rw [h]; rfl)
theorem okD_46 : (List.range 64).all (fun pc => chO 46 pc) = true := by decide +kernel
theorem okE_46 : ∀ pc, chO 46 pc = true := okG okD_46 (fun pc h => by show (bif Nat.blt pc 64 then _ else none) = none; rw [h]; rfl)
theorem okD_47 : (List.range 91).all (fun pc => chO 47 pc) = true := by decide +kernel
theorem okE_47 : ∀ pc, chO 47 pc = true := okG okD_47 (fun pc h => by show (bif Nat.blt pc 91 then _ else none) = none; rw [h]; rfl)
theorem okD_48 : (List.range 18).all (fun pc => chO 48 pc) = true := by decide +kernel
theorem okE_48 : ∀ pc, chO 48 pc = true := okG okD_48 (fun pc h => by show (bif Nat.blt pc 18 then _ else none) = none; rw [h]; rfl)
theorem okD_49 : (List.range 6).all (fun pc => chO 49 pc) = true := by decide +kernel
theorem okE_49 : ∀ pc, chO 49 pc = true := okG okD_49 (fun pc h => by show (bif Nat.blt pc 6 then _ else none) = none; rw [h]; rfl)
theorem okD_50 : (List.range 14).all (fun pc => chO 50 pc) = true := by decide +kernel
theorem okE_50 : ∀ pc, chO 50 pc = true := okG okD_50 (fun pc h => by show (bif Nat.blt pc 14 then _ else none) = none; rw [h]; rfl)
theorem okD_53 : (List.range 27).all (fun pc => chO 53 pc) = true := by decide +kernel
theorem okE_53 : ∀ pc, chO 53 pc = true := okG okD_53 (fun pc h => by show (bif Nat.blt pc 27 then _ else none) = none; rw [h]; rfl)
theorem okD_54 : (List.range 42).all (fun pc => chO 54 pc) = true := by decide +kernel
theorem okE_54 : ∀ pc, chO 54 pc = true := okG okD_54 (fun pc h => by show (bif Nat.blt pc 42 then _ else none) = none; rw [h]; rfl)
theorem okD_55 : (List.range 45).all (fun pc => chO 55 pc) = true := by decide +kernel
theorem okE_55 : ∀ pc, chO 55 pc = true := okG okD_55 (fun pc h => by show (bif Nat.blt pc 45 then _ else none) = none; rw [h]; rfl)
theorem okD_56 : (List.range 33).all (fun pc => chO 56 pc) = true := by decide +kernel
theorem okE_56 : ∀ pc, chO 56 pc = true := okG okD_56 (fun pc h => by show (bif Nat.blt pc 33 then _ else none) = none; rw [h]; rfl)
theorem okD_57 : (List.range 84).all (fun pc => chO 57 pc) = true := by decide +kernel
theorem okE_57 : ∀ pc, chO 57 pc = true := okG okD_57 (fun pc h => by show (bif Nat.blt pc 84 then _ else none) = none; rw [h]; rfl)
theorem okD_58 : (List.range 16).all (fun pc => chO 58 pc) = true := by decide +kernel
theorem okE_58 : ∀ pc, chO 58 pc = true := okG okD_58 (fun pc h => by show (bif Nat.blt pc 16 then _ else none) = none; rw [h]; rfl)
theorem okD_59 : (List.range 75).all (fun pc => chO 59 pc) = true := by decide +kernel
theorem okE_59 : ∀ pc, chO 59 pc = true := okG okD_59 (fun pc h => by show (bif Nat.blt pc 75 then _ else none) = none; rw [h]; rfl)
theorem okD_60 : (List.range 28).all (fun pc => chO 60 pc) = true := by decide +kernel
theorem okE_60 : ∀ pc, chO 60 pc = true := okG okD_60 (fun pc h => by show (bif Nat.blt pc 28 then _ else none) = none; rw [h]; rfl)
theorem okD_61 : (List.range 32).all (fun pc => chO 61 pc) = true := by decide +kernel
theorem okE_61 : ∀ pc, chO 61 pc = true := okG okD_61 (fun pc h => by show (bif Nat.blt pc 32 then _ else none) = none; rw [h]; rfl)
theorem okD_62 : (List.range 81).all (fun pc => chO 62 pc) = true := by decide +kernel
theorem okE_62 : ∀ pc, chO 62 pc = true := okG okD_62 (fun pc h => by show (bif Nat.blt pc 81 then _ else none) = none; rw [h]; rfl)
theorem okD_63 : (List.range 47).all (fun pc => chO 63 pc) = true := by decide +kernel
theorem okE_63 : ∀ pc, chO 63 pc = true := okG okD_63 (fun pc h => by show (bif Nat.blt pc 47 then _ else none) = none; rw [h]; rfl)
theorem okD_64 : (List.range 12).all (fun pc => chO 64 pc) = true := by decide +kernel
theorem okE_64 : ∀ pc, chO 64 pc = true := okG okD_64 (fun pc h => by show (bif Nat.blt pc 12 then _ else none) = none; rw [h]; rfl)
theorem okD_65 : (List.range 13).all (fun pc => chO 65 pc) = true := by decide +kernel
theorem okE_65 : ∀ pc, chO 65 pc = true := okG okD_65 (fun pc h => by show (bif Nat.blt pc 13 then _ else none) = none; rw [h]; rfl)
theorem okD_66 : (List.range 33).all (fun pc => chO 66 pc) = true := by decide +kernel
theorem okE_66 : ∀ pc, chO 66 pc = true := okG okD_66 (fun pc h => by show (bif Nat.blt pc 33 then _ else none) = none; rw [h]; rfl)
theorem okD_67 : (List.range 30).all (fun pc => chO 67 pc) = true := by decide +kernel
theorem okE_67 : ∀ pc, chO 67 pc = true := okG okD_67 (fun pc h => by show (bif Nat.blt pc 30 then _ else none) = none; rw [h]; rfl)
theorem okD_68 : (List.range 32).all (fun pc => chO 68 pc) = true := by decide +kernel
theorem okE_68 : ∀ pc, chO 68 pc = true := okG okD_68 (fun pc h => by show (bif Nat.blt pc 32 then _ else none) = none; rw [h]; rfl)
theorem okD_70 : (List.range 106).all (fun pc => chO 70 pc) = true := by decide +kernel
theorem okE_70 : ∀ pc, chO 70 pc = true := okG okD_70 (fun pc h => by show (bif Nat.blt pc 106 then _ else none) = none; rw [h]; rfl)
theorem okD_71 : (List.range 34).all (fun pc => chO 71 pc) = true := by decide +kernel
theorem okE_71 : ∀ pc, chO 71 pc = true := okG okD_71 (fun pc h => by show (bif Nat.blt pc 34 then _ else none) = none; rw [h]; rfl)
theorem okD_72 : (List.range 49).all (fun pc => chO 72 pc) = true := by decide +kernel
theorem okE_72 : ∀ pc, chO 72 pc = true := okG okD_72 (fun pc h => by show (bif Nat.blt pc 49 then _ else none) = none; rw [h]; rfl)
theorem okD_73 : (List.range 28).all (fun pc => chO 73 pc) = true := by decide +kernel
theorem okE_73 : ∀ pc, chO 73 pc = true := okG okD_73 (fun pc h => by show (bif Nat.blt pc 28 then _ else none) = none; rw [h]; rfl)
theorem okD_75 : (List.range 42).all (fun pc => chO 75 pc) = true := by decide +kernel
theorem okE_75 : ∀ pc, chO 75 pc = true := okG okD_75 (fun pc h => by show (bif Nat.blt pc 42 then _ else none) = none; rw [h]; rfl)
theorem okD_76 : (List.range 26).all (fun pc => chO 76 pc) = true := by decide +kernel
theorem okE_76 : ∀ pc, chO 76 pc = true := okG okD_76 (fun pc h => by show (bif Nat.blt pc 26 then _ else none) = none; rw [h]; rfl)
theorem okD_77 : (List.range 55).all (fun pc => chO 77 pc) = true := by decide +kernel
theorem okE_77 : ∀ pc, chO 77 pc = true := okG okD_77 (fun pc h => by show (bif Nat.blt pc 55 then _ else none) = none; rw [h]; rfl)
theorem okD_78 : (List.range 39).all (fun pc => chO 78 pc) = true := by decide +kernel
theorem okE_78 : ∀ pc, chO 78 pc = true := okG okD_78 (fun pc h => by show (bif Nat.blt pc 39 then _ else none) = none; rw [h]; rfl)
theorem okD_79 : (List.range 12).all (fun pc => chO 79 pc) = true := by decide +kernel
theorem okE_79 : ∀ pc, chO 79 pc = true := okG okD_79 (fun pc h => by show (bif Nat.blt pc 12 then _ else none) = none; rw [h]; rfl)
theorem okD_80 : (List.range 48).all (fun pc => chO 80 pc) = true := by decide +kernel
theorem okE_80 : ∀ pc, chO 80 pc = true := okG okD_80 (fun pc h => by show (bif Nat.blt pc 48 then _ else none) = none; rw [h]; rfl)
theorem okD_81 : (List.range 57).all (fun pc => chO 81 pc) = true := by decide +kernel
theorem okE_81 : ∀ pc, chO 81 pc = true := okG okD_81 (fun pc h => by show (bif Nat.blt pc 57 then _ else none) = none; rw [h]; rfl)
theorem okD_82 : (List.range 113).all (fun pc => chO 82 pc) = true := by decide +kernel
theorem okE_82 : ∀ pc, chO 82 pc = true := okG okD_82 (fun pc h => by show (bif Nat.blt pc 113 then _ else none) = none; rw [h]; rfl)
theorem okD_83 : (List.range 71).all (fun pc => chO 83 pc) = true := by decide +kernel
theorem okE_83 : ∀ pc, chO 83 pc = true := okG okD_83 (fun pc h => by show (bif Nat.blt pc 71 then _ else none) = none; rw [h]; rfl)
theorem okD_84 : (List.range 35).all (fun pc => chO 84 pc) = true := by decide +kernel
theorem okE_84 : ∀ pc, chO 84 pc = true := okG okD_84 (fun pc h => by show (bif Nat.blt pc 35 then _ else none) = none; rw [h]; rfl)
theorem okD_85 : (List.range 54).all (fun pc => chO 85 pc) = true := by decide +kernel
theorem okE_85 : ∀ pc, chO 85 pc = true := okG okD_85 (fun pc h => by show (bif Nat.blt pc 54 then _ else none) = none; rw [h]; rfl)
theorem okD_86 : (List.range 63).all (fun pc => chO 86 pc) = true := by decide +kernel
theorem okE_86 : ∀ pc, chO 86 pc = true := okG okD_86 (fun pc h => by show (bif Nat.blt pc 63 then _ else none) = none; rw [h]; rfl)
theorem okD_87 : (List.range 159).all (fun pc => chO 87 pc) = true := by decide +kernel
theorem okE_87 : ∀ pc, chO 87 pc = true := okG okD_87 (fun pc h => by show (bif Nat.blt pc 159 then _ else none) = none; rw [h]; rfl)
theorem okD_88 : (List.range 35).all (fun pc => chO 88 pc) = true := by decide +kernel
theorem okE_88 : ∀ pc, chO 88 pc = true := okG okD_88 (fun pc h => by show (bif Nat.blt pc 35 then _ else none) = none; rw [h]; rfl)
theorem okD_89 : (List.range 117).all (fun pc => chO 89 pc) = true := by decide +kernel
theorem okE_89 : ∀ pc, chO 89 pc = true := okG okD_89 (fun pc h => by show (bif Nat.blt pc 117 then _ else none) = none; rw [h]; rfl)
theorem okD_90 : (List.range 56).all (fun pc => chO 90 pc) = true := by decide +kernel
theorem okE_90 : ∀ pc, chO 90 pc = true := okG okD_90 (fun pc h => by show (bif Nat.blt pc 56 then _ else none) = none; rw [h]; rfl)
theorem okD_91 : (List.range 9).all (fun pc => chO 91 pc) = true := by decide +kernel
theorem okE_91 : ∀ pc, chO 91 pc = true := okG okD_91 (fun pc h => by show (bif Nat.blt pc 9 then _ else none) = none; rw [h]; rfl)
theorem okD_92 : (List.range 8).all (fun pc => chO 92 pc) = true := by decide +kernel
theorem okE_92 : ∀ pc, chO 92 pc = true := okG okD_92 (fun pc h => by show (bif Nat.blt pc 8 then _ else none) = none; rw [h]; rfl)
theorem okD_93 : (List.range 31).all (fun pc => chO 93 pc) = true := by decide +kernel
theorem okE_93 : ∀ pc, chO 93 pc = true := okG okD_93 (fun pc h => by show (bif Nat.blt pc 31 then _ else none) = none; rw [h]; rfl)
theorem okD_94 : (List.range 48).all (fun pc => chO 94 pc) = true := by decide +kernel
theorem okE_94 : ∀ pc, chO 94 pc = true := okG okD_94 (fun pc h => by show (bif Nat.blt pc 48 then _ else none) = none; rw [h]; rfl)
theorem okD_95 : (List.range 8).all (fun pc => chO 95 pc) = true := by decide +kernel
theorem okE_95 : ∀ pc, chO 95 pc = true := okG okD_95 (fun pc h => by show (bif Nat.blt pc 8 then _ else none) = none; rw [h]; rfl)
theorem okD_96 : (List.range 7).all (fun pc => chO 96 pc) = true := by decide +kernel
theorem okE_96 : ∀ pc, chO 96 pc = true := okG okD_96 (fun pc h => by show (bif Nat.blt pc 7 then _ else none) = none; rw [h]; rfl)
theorem okD_97 : (List.range 8).all (fun pc => chO 97 pc) = true := by decide +kernel
theorem okE_97 : ∀ pc, chO 97 pc = true := okG okD_97 (fun pc h => by show (bif Nat.blt pc 8 then _ else none) = none; rw [h]; rfl)
theorem okD_98 : (List.range 35).all (fun pc => chO 98 pc) = true := by decide +kernel
theorem okE_98 : ∀ pc, chO 98 pc = true := okG okD_98 (fun pc h => by show (bif Nat.blt pc 35 then _ else none) = none; rw [h]; rfl)
theorem okD_100 : (List.range 11).all (fun pc => chO 100 pc) = true := by decide +kernel
theorem okE_100 : ∀ pc, chO 100 pc = true := okG okD_100 (fun pc h => by show (bif Nat.blt pc 11 then _ else none) = none; rw [h]; rfl)
theorem okD_101 : (List.range 71).all (fun pc => chO 101 pc) = true := by decide +kernel
theorem okE_101 : ∀ pc, chO 101 pc = true := okG okD_101 (fun pc h => by show (bif Nat.blt pc 71 then _ else none) = none; rw [h]; rfl)
theorem okD_103 : (List.range 20).all (fun pc => chO 103 pc) = true := by decide +kernel
theorem okE_103 : ∀ pc, chO 103 pc = true := okG okD_103 (fun pc h => by show (bif Nat.blt pc 20 then _ else none) = none; rw [h]; rfl)
theorem okD_104 : (List.range 8).all (fun pc => chO 104 pc) = true := by decide +kernel
theorem okE_104 : ∀ pc, chO 104 pc = true := okG okD_104 (fun pc h => by show (bif Nat.blt pc 8 then _ else none) = none; rw [h]; rfl)
theorem okD_105 : (List.range 33).all (fun pc => chO 105 pc) = true := by decide +kernel
theorem okE_105 : ∀ pc, chO 105 pc = true := okG okD_105 (fun pc h => by show (bif Nat.blt pc 33 then _ else none) = none; rw [h]; rfl)
theorem okD_106 : (List.range 33).all (fun pc => chO 106 pc) = true := by decide +kernel
theorem okE_106 : ∀ pc, chO 106 pc = true := okG okD_106 (fun pc h => by show (bif Nat.blt pc 33 then _ else none) = none; rw [h]; rfl)
theorem okD_107 : (List.range 44).all (fun pc => chO 107 pc) = true := by decide +kernel
theorem okE_107 : ∀ pc, chO 107 pc = true := okG okD_107 (fun pc h => by show (bif Nat.blt pc 44 then _ else none) = none; rw [h]; rfl)
theorem okD_108 : (List.range 21).all (fun pc => chO 108 pc) = true := by decide +kernel
theorem okE_108 : ∀ pc, chO 108 pc = true := okG okD_108 (fun pc h => by show (bif Nat.blt pc 21 then _ else none) = none; rw [h]; rfl)
theorem okD_109 : (List.range 62).all (fun pc => chO 109 pc) = true := by decide +kernel
theorem okE_109 : ∀ pc, chO 109 pc = true := okG okD_109 (fun pc h => by show (bif Nat.blt pc 62 then _ else none) = none; rw [h]; rfl)
theorem okD_111 : (List.range 117).all (fun pc => chO 111 pc) = true := by decide +kernel
theorem okE_111 : ∀ pc, chO 111 pc = true := okG okD_111 (fun pc h => by show (bif Nat.blt pc 117 then _ else none) = none; rw [h]; rfl)
theorem okD_113 : (List.range 17).all (fun pc => chO 113 pc) = true := by decide +kernel
theorem okE_113 : ∀ pc, chO 113 pc = true := okG okD_113 (fun pc h => by show (bif Nat.blt pc 17 then _ else none) = none; rw [h]; rfl)
theorem okD_114 : (List.range 21).all (fun pc => chO 114 pc) = true := by decide +kernel
theorem okE_114 : ∀ pc, chO 114 pc = true := okG okD_114 (fun pc h => by show (bif Nat.blt pc 21 then _ else none) = none; rw [h]; rfl)
theorem okD_115 : (List.range 21).all (fun pc => chO 115 pc) = true := by decide +kernel
theorem okE_115 : ∀ pc, chO 115 pc = true := okG okD_115 (fun pc h => by show (bif Nat.blt pc 21 then _ else none) = none; rw [h]; rfl)
theorem okD_116 : (List.range 53).all (fun pc => chO 116 pc) = true := by decide +kernel
theorem okE_116 : ∀ pc, chO 116 pc = true := okG okD_116 (fun pc h => by show (bif Nat.blt pc 53 then _ else none) = none; rw [h]; rfl)
theorem okD_117 : (List.range 63).all (fun pc => chO 117 pc) = true := by decide +kernel
theorem okE_117 : ∀ pc, chO 117 pc = true := okG okD_117 (fun pc h => by show (bif Nat.blt pc 63 then _ else none) = none; rw [h]; rfl)
theorem okD_118 : (List.range 64).all (fun pc => chO 118 pc) = true := by decide +kernel
theorem okE_118 : ∀ pc, chO 118 pc = true := okG okD_118 (fun pc h => by show (bif Nat.blt pc 64 then _ else none) = none; rw [h]; rfl)
theorem okD_120 : (List.range 42).all (fun pc => chO 120 pc) = true := by decide +kernel
theorem okE_120 : ∀ pc, chO 120 pc = true := okG okD_120 (fun pc h => by show (bif Nat.blt pc 42 then _ else none) = none; rw [h]; rfl)
theorem okD_121 : (List.range 66).all (fun pc => chO 121 pc) = true := by decide +kernel
theorem okE_121 : ∀ pc, chO 121 pc = true := okG okD_121 (fun pc h => by show (bif Nat.blt pc 66 then _ else none) = none; rw [h]; rfl)
theorem okD_122 : (List.range 51).all (fun pc => chO 122 pc) = true := by decide +kernel
theorem okE_122 : ∀ pc, chO 122 pc = true := okG okD_122 (fun pc h => by show (bif Nat.blt pc 51 then _ else none) = none; rw [h]; rfl)
theorem okD_124 : (List.range 24).all (fun pc => chO 124 pc) = true := by decide +kernel
theorem okE_124 : ∀ pc, chO 124 pc = true := okG okD_124 (fun pc h => by show (bif Nat.blt pc 24 then _ else none) = none; rw [h]; rfl)
theorem okD_126 : (List.range 17).all (fun pc => chO 126 pc) = true := by decide +kernel
theorem okE_126 : ∀ pc, chO 126 pc = true := okG okD_126 (fun pc h => by show (bif Nat.blt pc 17 then _ else none) = none; rw [h]; rfl)
theorem okD_127 : (List.range 23).all (fun pc => chO 127 pc) = true := by decide +kernel
theorem okE_127 : ∀ pc, chO 127 pc = true := okG okD_127 (fun pc h => by show (bif Nat.blt pc 23 then _ else none) = none; rw [h]; rfl)
theorem okD_128 : (List.range 17).all (fun pc => chO 128 pc) = true := by decide +kernel
theorem okE_128 : ∀ pc, chO 128 pc = true := okG okD_128 (fun pc h => by show (bif Nat.blt pc 17 then _ else none) = none; rw [h]; rfl)
theorem okD_129 : (List.range 69).all (fun pc => chO 129 pc) = true := by decide +kernel
theorem okE_129 : ∀ pc, chO 129 pc = true := okG okD_129 (fun pc h => by show (bif Nat.blt pc 69 then _ else none) = none; rw [h]; rfl)
