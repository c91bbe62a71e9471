/-! every entry of every code table is right: what it decodes to, what it links, what it may cost -/
def cle (x y : Nat × Nat) : Bool := Nat.ble x.1 y.1 && Nat.ble x.2 y.2
def ada (x y : Nat × Nat) : Nat × Nat := (x.1 + y.1, x.2 + y.2)
def rmk (a μ : Nat) : Bool := Nat.ble (fr a + 1) (fr μ) && Nat.ble (8 + (mxl a + 11) + lc a) (lc μ)
def icE (E : Nat) : Nat := bif Nat.ble E 1 then (bif Nat.ble E 0 then (bif Nat.beq E 0 then 78 else 0) else (bif Nat.beq E 1 then 135 else 0)) else (bif Nat.ble E 2 then (bif Nat.beq E 2 then 124 else 0) else (bif Nat.beq E 3 then 161 else 0))
def a3 (l : List (Nat × Nat × Nat × Nat)) (x y z : Nat) : Bool := l.any (fun e => Nat.beq e.1 x && (Nat.beq e.2.1 y && Nat.beq e.2.2.1 z))
def aC (x y : Nat) (k : Int32) : Bool := pC.any (fun e => Nat.beq e.1 x && (Nat.beq e.2.1 y && decide (e.2.2.1 = k)))
def aF (x y c f : Nat) : Bool := pFl.any (fun e => Nat.beq e.1 x && (Nat.beq e.2.1 y && (Nat.beq e.2.2.1 c && Nat.beq e.2.2.2.1 f)))
def aT (x y : Nat) : Bool := pTx.any (fun e => Nat.beq e.1 x && Nat.beq e.2.1 y)
def chT (μ pc E : Nat) : Bool := (Nat.beq (ow μ) 10 && ((hdl μ).isEmpty && (Nat.blt 5 (fr μ) && (Nat.ble 90 (lc μ) && (cle (1, 6) (cst μ pc) && Nat.blt E 4))))) &&
  (decide (decode (byt μ) (pc + 3) = .ok (.dup, 1)) && (match decode (byt μ) (pc + 4) with
    | .ok (.ldc s, 2) => aT (ow μ) s && (decide (decode (byt μ) (pc + 6) = .ok (.invokespecial (icE E), 3)) && decide (decode (byt μ) (pc + 9) = .ok (.athrow, 1)))
    | .ok (.ldc_w s, 3) => aT (ow μ) s && (decide (decode (byt μ) (pc + 7) = .ok (.invokespecial (icE E), 3)) && decide (decode (byt μ) (pc + 10) = .ok (.athrow, 1)))
    | _ => false))
def chA (t : ArrayType) (c : Nat) : Bool := match t with
  | .int => Nat.beq c 20
  | .boolean => Nat.beq c 21
  | .char => Nat.beq c 22
  | .long => Nat.beq c 23
  | .double => Nat.beq c 24
  | _ => false
def chI (μ pc : Nat) (i : Instr) (len a b c : Nat) (k : Int32) : Bool :=
  match i with
  | .iconst n => decide (Int32.ofInt n = k) && cle (cst μ (pc + len)) (cst μ pc)
  | .bipush n => decide ((Int8.ofInt n).toInt32 = k) && cle (cst μ (pc + len)) (cst μ pc)
  | .sipush n => decide ((Int16.ofInt n).toInt32 = k) && cle (cst μ (pc + len)) (cst μ pc)
  | .fconst n => decide (n = 0) && cle (cst μ (pc + len)) (cst μ pc)
  | .ldc x => (bif Nat.beq a 0 then aC (ow μ) x k else (a3 pS (ow μ) x b && (Nat.beq (ow μ) 9 && (Nat.ble 1000020 b && Nat.ble b 1000025)))) && cle (cst μ (pc + len)) (cst μ pc)
  | .ldc_w x => aC (ow μ) x k && cle (cst μ (pc + len)) (cst μ pc)
  | .ldc2_w x => a3 pL (ow μ) x b && cle (cst μ (pc + len)) (cst μ pc)
  | .iinc _ n => decide (Int32.ofInt n = k) && cle (cst μ (pc + len)) (cst μ pc)
  | .ifCond _ off => decide ((pc : Int) + off = (a : Int)) && (cle (cst μ a) (cst μ pc) && cle (cst μ (pc + len)) (cst μ pc))
  | .if_icmp _ off => decide ((pc : Int) + off = (a : Int)) && (cle (cst μ a) (cst μ pc) && cle (cst μ (pc + len)) (cst μ pc))
  | .goto off => decide ((pc : Int) + off = (a : Int)) && cle (cst μ a) (cst μ pc)
  | .tableswitch d _ _ offs => cle (cst μ ((pc : Int) + d).toNat) (cst μ pc) && offs.toList.all (fun o => cle (cst μ ((pc : Int) + o).toNat) (cst μ pc))
  | .getfield x => (bif Nat.beq a 43 then a3 pFs (ow μ) x c && Nat.ble c 1 else (aF (ow μ) x a b && (Nat.beq (fkd a b) c && Nat.blt a 12))) && cle (cst μ (pc + len)) (cst μ pc)
  | .putfield x => (aF (ow μ) x a b && (Nat.beq (fkd a b) c && Nat.blt a 12)) && ((bif Nat.beq c 0 then decide (((clq a).2.1 b).2.2.2 = false ∧ clt a b = .int) else decide (((clq a).2.1 b).2.2.2 = true ∧ (nm μ).name = "<init>" ∧ ((clq a).2.1 b).1 = (nm μ).cls)) && cle (cst μ (pc + len)) (cst μ pc))
  | .getstatic x => a3 pSt (ow μ) x b && ((bif Nat.beq c 0 then Nat.ble 1000011 b && Nat.ble b 1000013 else Nat.beq b 0 && decide (k = 1)) && cle (cst μ (pc + len)) (cst μ pc))
  | .invokevirtual x => a3 pM (ow μ) x a && ((Nat.beq b (nar a + 1) && (Nat.beq (wix a).2.1 0 && ((hdl a).isEmpty && (Nat.blt a 317 && (!Nat.beq a 309))))) && ((bif Nat.beq c 43 then decide ((nm a).cls = "java/lang/String") else Nat.blt c 12 && decide ((clq c).1 = (nm a).cls)) && (decide ((nm a).name ≠ "<init>") && (rmk a μ && cle (ada (cst a 0) (cst μ (pc + len))) (cst μ pc)))))
  | .invokestatic x =>
      bif Nat.ble 1000 a then a3 pX (ow μ) x a && ((bif Nat.beq a 1004 then Nat.ble 3 (fr μ) && Nat.ble 60 (lc μ) else Nat.ble 1 (fr μ) && Nat.ble 26 (lc μ)) && (cle (cst μ (pc + len)) (cst μ pc) && (Nat.beq a 1000 || (Nat.beq a 1004 || (Nat.beq a 1005 || (Nat.beq a 1006 || (Nat.beq a 1007 || Nat.beq a 1008)))))))
      else a3 pM (ow μ) x a && ((Nat.beq b (nar a) && (!(Nat.beq (wix a).2.1 0) && (Nat.blt a 317 && (!Nat.beq a 309)))) && (rmk a μ && (cle (ada (cst a 0) (cst μ (pc + len))) (cst μ pc) && (hnd μ).all (fun h => cle (ada (cst a 0) (cst μ h.2.2.1)) (cst μ pc)))))
  | .invokespecial x =>
      bif Nat.beq a 1003 then a3 pX (ow μ) x 1003 && ((Nat.ble 1 (fr μ) && Nat.ble 20 (lc μ)) && cle (cst μ (pc + len)) (cst μ pc))
      else (a3 pM (ow μ) x a || a3 pN (ow μ) x a) && ((Nat.beq b (nar a + 1) && (Nat.beq (wix a).2.1 0 && ((hdl a).isEmpty && (Nat.blt a 317 && (!Nat.beq a 309))))) && (decide ((nm a).name = "<init>" ∧ rtt a = none) && (rmk a μ && cle (ada (cst a 0) (cst μ (pc + len))) (cst μ pc))))
  | .new x => bif Nat.beq a 0 then a3 pK (ow μ) x b && (Nat.blt b 12 && cle (ada (1, nfl b) (cst μ (pc + len))) (cst μ pc)) else a3 pE (ow μ) x b && chT μ pc b
  | .newarray t => chA t c && (Nat.ble b 20000 && cle (ada (1, b) (cst μ (pc + len))) (cst μ pc))
  | .anewarray x => Nat.beq (ow μ) 10 && (Nat.beq x 7 && (Nat.ble b 20000 && cle (ada (1, b) (cst μ (pc + len))) (cst μ pc)))
  | .multianewarray x _ => (bif Nat.beq a 20 then Nat.beq c 26 else (Nat.beq a 23 && Nat.beq c 27)) && ((Nat.ble b 20000 && decide (0 ≤ k)) && (Nat.ble k.toNatClampNeg 20000 && (((Nat.beq (ow μ) 1 && (Nat.beq x 9 && Nat.beq a 20)) || (Nat.beq (ow μ) 4 && ((Nat.beq x 9 && Nat.beq a 20) || (Nat.beq x 16 && Nat.beq a 23)))) && cle (ada (1 + b, b + b * k.toNatClampNeg) (cst μ (pc + len))) (cst μ pc))))
  | .ireturn => bif Nat.beq c 0 then decide (rtt μ = some .int) else bif Nat.beq c 1 then decide (rtt μ = some .boolean) else bif Nat.beq c 2 then decide (rtt μ = some .char) else decide (rtt μ = some .byte)
  | .lreturn => decide (rtt μ = some .long)
  | .freturn => decide (rtt μ = some .float)
  | .dreturn => decide (rtt μ = some .double)
  | .areturn => (match rtt μ with
    | some (.object _) => true
    | some (.array _) => true
    | _ => false)
  | .return_ => decide (rtt μ = none)
  | _ => cle (cst μ (pc + len)) (cst μ pc)
def chk (μ pc : Nat) (e : CE) : Bool := decide (decode (byt μ) pc = .ok (e.1, e.2.1)) && chI μ pc e.1 e.2.1 e.2.2.2.2.1 e.2.2.2.2.2.1 e.2.2.2.2.2.2.1 e.2.2.2.2.2.2.2
def chO (μ pc : Nat) : Bool := match cins μ pc with
  | none => true
  | some e => chk μ pc e
theorem okD_0 : (List.range 55).all (fun pc => chO 0 pc) = true := by decide +kernel
theorem okD_1 : (List.range 61).all (fun pc => chO 1 pc) = true := by decide +kernel
theorem okD_2 : (List.range 18).all (fun pc => chO 2 pc) = true := by decide +kernel
theorem okD_3 : (List.range 100).all (fun pc => chO 3 pc) = true := by decide +kernel
theorem okD_4 : (List.range 77).all (fun pc => chO 4 pc) = true := by decide +kernel
theorem okD_5 : (List.range 97).all (fun pc => chO 5 pc) = true := by decide +kernel
theorem okD_6 : (List.range 35).all (fun pc => chO 6 pc) = true := by decide +kernel
theorem okD_7 : (List.range 48).all (fun pc => chO 7 pc) = true := by decide +kernel
theorem okD_8 : (List.range 58).all (fun pc => chO 8 pc) = true := by decide +kernel
theorem okD_9 : (List.range 77).all (fun pc => chO 9 pc) = true := by decide +kernel
theorem okD_10 : (List.range 98).all (fun pc => chO 10 pc) = true := by decide +kernel
theorem okD_11 : (List.range 163).all (fun pc => chO 11 pc) = true := by decide +kernel
theorem okD_12 : (List.range 72).all (fun pc => chO 12 pc) = true := by decide +kernel
theorem okD_13 : (List.range 132).all (fun pc => chO 13 pc) = true := by decide +kernel
theorem okD_14 : (List.range 53).all (fun pc => chO 14 pc) = true := by decide +kernel
theorem okD_15 : (List.range 20).all (fun pc => chO 15 pc) = true := by decide +kernel
theorem okD_16 : (List.range 9).all (fun pc => chO 16 pc) = true := by decide +kernel
theorem okD_17 : (List.range 9).all (fun pc => chO 17 pc) = true := by decide +kernel
theorem okD_18 : (List.range 29).all (fun pc => chO 18 pc) = true := by decide +kernel
theorem okD_19 : (List.range 69).all (fun pc => chO 19 pc) = true := by decide +kernel
theorem okD_20 : (List.range 50).all (fun pc => chO 20 pc) = true := by decide +kernel
theorem okD_21 : (List.range 55).all (fun pc => chO 21 pc) = true := by decide +kernel
theorem okD_22 : (List.range 42).all (fun pc => chO 22 pc) = true := by decide +kernel
theorem okD_23 : (List.range 109).all (fun pc => chO 23 pc) = true := by decide +kernel
theorem okD_24 : (List.range 45).all (fun pc => chO 24 pc) = true := by decide +kernel
theorem okD_25 : (List.range 80).all (fun pc => chO 25 pc) = true := by decide +kernel
theorem okD_26 : (List.range 65).all (fun pc => chO 26 pc) = true := by decide +kernel
theorem okD_27 : (List.range 34).all (fun pc => chO 27 pc) = true := by decide +kernel
theorem okD_28 : (List.range 14).all (fun pc => chO 28 pc) = true := by decide +kernel
theorem okD_29 : (List.range 94).all (fun pc => chO 29 pc) = true := by decide +kernel
theorem okD_30 : (List.range 31).all (fun pc => chO 30 pc) = true := by decide +kernel
theorem okD_31 : (List.range 68).all (fun pc => chO 31 pc) = true := by decide +kernel
theorem okD_32 : (List.range 27).all (fun pc => chO 32 pc) = true := by decide +kernel
theorem okD_33 : (List.range 45).all (fun pc => chO 33 pc) = true := by decide +kernel
theorem okD_34 : (List.range 76).all (fun pc => chO 34 pc) = true := by decide +kernel
theorem okD_35 : (List.range 56).all (fun pc => chO 35 pc) = true := by decide +kernel
theorem okD_36 : (List.range 177).all (fun pc => chO 36 pc) = true := by decide +kernel
theorem okD_37 : (List.range 95).all (fun pc => chO 37 pc) = true := by decide +kernel
theorem okD_38 : (List.range 121).all (fun pc => chO 38 pc) = true := by decide +kernel
theorem okD_39 : (List.range 166).all (fun pc => chO 39 pc) = true := by decide +kernel
theorem okD_40 : (List.range 128).all (fun pc => chO 40 pc) = true := by decide +kernel
theorem okD_41 : (List.range 76).all (fun pc => chO 41 pc) = true := by decide +kernel
theorem okD_42 : (List.range 49).all (fun pc => chO 42 pc) = true := by decide +kernel
theorem okD_43 : (List.range 70).all (fun pc => chO 43 pc) = true := by decide +kernel
theorem okD_44 : (List.range 86).all (fun pc => chO 44 pc) = true := by decide +kernel
theorem okD_45 : (List.range 16).all (fun pc => chO 45 pc) = true := by decide +kernel
theorem okD_46 : (List.range 64).all (fun pc => chO 46 pc) = true := by decide +kernel
theorem okD_47 : (List.range 91).all (fun pc => chO 47 pc) = true := by decide +kernel
theorem okD_48 : (List.range 18).all (fun pc => chO 48 pc) = true := by decide +kernel
theorem okD_49 : (List.range 6).all (fun pc => chO 49 pc) = true := by decide +kernel
theorem okD_50 : (List.range 14).all (fun pc => chO 50 pc) = true := by decide +kernel
theorem okD_51 : (List.range 16).all (fun pc => chO 51 pc) = true := by decide +kernel
theorem okD_52 : (List.range 20).all (fun pc => chO 52 pc) = true := by decide +kernel
theorem okD_53 : (List.range 27).all (fun pc => chO 53 pc) = true := by decide +kernel
theorem okD_54 : (List.range 42).all (fun pc => chO 54 pc) = true := by decide +kernel
theorem okD_55 : (List.range 45).all (fun pc => chO 55 pc) = true := by decide +kernel
theorem okD_56 : (List.range 33).all (fun pc => chO 56 pc) = true := by decide +kernel
theorem okD_57 : (List.range 84).all (fun pc => chO 57 pc) = true := by decide +kernel
theorem okD_58 : (List.range 16).all (fun pc => chO 58 pc) = true := by decide +kernel
theorem okD_59 : (List.range 75).all (fun pc => chO 59 pc) = true := by decide +kernel
theorem okD_60 : (List.range 28).all (fun pc => chO 60 pc) = true := by decide +kernel
theorem okD_61 : (List.range 32).all (fun pc => chO 61 pc) = true := by decide +kernel
theorem okD_62 : (List.range 81).all (fun pc => chO 62 pc) = true := by decide +kernel
theorem okD_63 : (List.range 47).all (fun pc => chO 63 pc) = true := by decide +kernel
theorem okD_64 : (List.range 12).all (fun pc => chO 64 pc) = true := by decide +kernel
theorem okD_65 : (List.range 13).all (fun pc => chO 65 pc) = true := by decide +kernel
theorem okD_66 : (List.range 33).all (fun pc => chO 66 pc) = true := by decide +kernel
theorem okD_67 : (List.range 30).all (fun pc => chO 67 pc) = true := by decide +kernel
theorem okD_68 : (List.range 32).all (fun pc => chO 68 pc) = true := by decide +kernel
theorem okD_69 : (List.range 42).all (fun pc => chO 69 pc) = true := by decide +kernel
theorem okD_70 : (List.range 106).all (fun pc => chO 70 pc) = true := by decide +kernel
theorem okD_71 : (List.range 34).all (fun pc => chO 71 pc) = true := by decide +kernel
theorem okD_72 : (List.range 49).all (fun pc => chO 72 pc) = true := by decide +kernel
theorem okD_73 : (List.range 28).all (fun pc => chO 73 pc) = true := by decide +kernel
theorem okD_74 : (List.range 27).all (fun pc => chO 74 pc) = true := by decide +kernel
theorem okD_75 : (List.range 42).all (fun pc => chO 75 pc) = true := by decide +kernel
theorem okD_76 : (List.range 26).all (fun pc => chO 76 pc) = true := by decide +kernel
theorem okD_77 : (List.range 55).all (fun pc => chO 77 pc) = true := by decide +kernel
theorem okD_78 : (List.range 39).all (fun pc => chO 78 pc) = true := by decide +kernel
theorem okD_79 : (List.range 12).all (fun pc => chO 79 pc) = true := by decide +kernel
theorem okD_80 : (List.range 48).all (fun pc => chO 80 pc) = true := by decide +kernel
theorem okD_81 : (List.range 57).all (fun pc => chO 81 pc) = true := by decide +kernel
theorem okD_82 : (List.range 113).all (fun pc => chO 82 pc) = true := by decide +kernel
theorem okD_83 : (List.range 71).all (fun pc => chO 83 pc) = true := by decide +kernel
theorem okD_84 : (List.range 35).all (fun pc => chO 84 pc) = true := by decide +kernel
theorem okD_85 : (List.range 54).all (fun pc => chO 85 pc) = true := by decide +kernel
theorem okD_86 : (List.range 63).all (fun pc => chO 86 pc) = true := by decide +kernel
theorem okD_87 : (List.range 159).all (fun pc => chO 87 pc) = true := by decide +kernel
theorem okD_88 : (List.range 35).all (fun pc => chO 88 pc) = true := by decide +kernel
theorem okD_89 : (List.range 117).all (fun pc => chO 89 pc) = true := by decide +kernel
theorem okD_90 : (List.range 56).all (fun pc => chO 90 pc) = true := by decide +kernel
theorem okD_91 : (List.range 9).all (fun pc => chO 91 pc) = true := by decide +kernel
theorem okD_92 : (List.range 8).all (fun pc => chO 92 pc) = true := by decide +kernel
theorem okD_93 : (List.range 31).all (fun pc => chO 93 pc) = true := by decide +kernel
theorem okD_94 : (List.range 48).all (fun pc => chO 94 pc) = true := by decide +kernel
theorem okD_95 : (List.range 8).all (fun pc => chO 95 pc) = true := by decide +kernel
theorem okD_96 : (List.range 7).all (fun pc => chO 96 pc) = true := by decide +kernel
theorem okD_97 : (List.range 8).all (fun pc => chO 97 pc) = true := by decide +kernel
theorem okD_98 : (List.range 35).all (fun pc => chO 98 pc) = true := by decide +kernel
theorem okD_99 : (List.range 11).all (fun pc => chO 99 pc) = true := by decide +kernel
theorem okD_100 : (List.range 11).all (fun pc => chO 100 pc) = true := by decide +kernel
theorem okD_101 : (List.range 71).all (fun pc => chO 101 pc) = true := by decide +kernel
theorem okD_102 : (List.range 59).all (fun pc => chO 102 pc) = true := by decide +kernel
theorem okD_103 : (List.range 20).all (fun pc => chO 103 pc) = true := by decide +kernel
theorem okD_104 : (List.range 8).all (fun pc => chO 104 pc) = true := by decide +kernel
theorem okD_105 : (List.range 33).all (fun pc => chO 105 pc) = true := by decide +kernel
theorem okD_106 : (List.range 33).all (fun pc => chO 106 pc) = true := by decide +kernel
theorem okD_107 : (List.range 44).all (fun pc => chO 107 pc) = true := by decide +kernel
theorem okD_108 : (List.range 21).all (fun pc => chO 108 pc) = true := by decide +kernel
theorem okD_109 : (List.range 62).all (fun pc => chO 109 pc) = true := by decide +kernel
theorem okD_110 : (List.range 77).all (fun pc => chO 110 pc) = true := by decide +kernel
theorem okD_111 : (List.range 117).all (fun pc => chO 111 pc) = true := by decide +kernel
theorem okD_112 : (List.range 81).all (fun pc => chO 112 pc) = true := by decide +kernel
theorem okD_113 : (List.range 17).all (fun pc => chO 113 pc) = true := by decide +kernel
theorem okD_114 : (List.range 21).all (fun pc => chO 114 pc) = true := by decide +kernel
theorem okD_115 : (List.range 21).all (fun pc => chO 115 pc) = true := by decide +kernel
theorem okD_116 : (List.range 53).all (fun pc => chO 116 pc) = true := by decide +kernel
theorem okD_117 : (List.range 63).all (fun pc => chO 117 pc) = true := by decide +kernel
theorem okD_118 : (List.range 64).all (fun pc => chO 118 pc) = true := by decide +kernel
theorem okD_119 : (List.range 57).all (fun pc => chO 119 pc) = true := by decide +kernel
theorem okD_120 : (List.range 42).all (fun pc => chO 120 pc) = true := by decide +kernel
theorem okD_121 : (List.range 66).all (fun pc => chO 121 pc) = true := by decide +kernel
theorem okD_122 : (List.range 51).all (fun pc => chO 122 pc) = true := by decide +kernel
theorem okD_123 : (List.range 64).all (fun pc => chO 123 pc) = true := by decide +kernel
theorem okD_124 : (List.range 24).all (fun pc => chO 124 pc) = true := by decide +kernel
theorem okD_125 : (List.range 24).all (fun pc => chO 125 pc) = true := by decide +kernel
theorem okD_126 : (List.range 17).all (fun pc => chO 126 pc) = true := by decide +kernel
theorem okD_127 : (List.range 23).all (fun pc => chO 127 pc) = true := by decide +kernel
theorem okD_128 : (List.range 17).all (fun pc => chO 128 pc) = true := by decide +kernel
theorem okD_129 : (List.range 69).all (fun pc => chO 129 pc) = true := by decide +kernel
theorem okD_130 : (List.range 84).all (fun pc => chO 130 pc) = true := by decide +kernel
theorem okD_131 : (List.range 19).all (fun pc => chO 131 pc) = true := by decide +kernel
theorem okD_132 : (List.range 11).all (fun pc => chO 132 pc) = true := by decide +kernel
theorem okD_133 : (List.range 62).all (fun pc => chO 133 pc) = true := by decide +kernel
theorem okD_134 : (List.range 15).all (fun pc => chO 134 pc) = true := by decide +kernel
theorem okD_135 : (List.range 95).all (fun pc => chO 135 pc) = true := by decide +kernel
theorem okD_136 : (List.range 71).all (fun pc => chO 136 pc) = true := by decide +kernel
theorem okD_137 : (List.range 5).all (fun pc => chO 137 pc) = true := by decide +kernel
theorem okD_138 : (List.range 30).all (fun pc => chO 138 pc) = true := by decide +kernel
theorem okD_139 : (List.range 38).all (fun pc => chO 139 pc) = true := by decide +kernel
theorem okD_140 : (List.range 30).all (fun pc => chO 140 pc) = true := by decide +kernel
theorem okD_141 : (List.range 51).all (fun pc => chO 141 pc) = true := by decide +kernel
theorem okD_142 : (List.range 118).all (fun pc => chO 142 pc) = true := by decide +kernel
theorem okD_143 : (List.range 41).all (fun pc => chO 143 pc) = true := by decide +kernel
theorem okD_144 : (List.range 12).all (fun pc => chO 144 pc) = true := by decide +kernel
theorem okD_145 : (List.range 84).all (fun pc => chO 145 pc) = true := by decide +kernel
theorem okD_146 : (List.range 30).all (fun pc => chO 146 pc) = true := by decide +kernel
theorem okD_147 : (List.range 31).all (fun pc => chO 147 pc) = true := by decide +kernel
theorem okD_148 : (List.range 56).all (fun pc => chO 148 pc) = true := by decide +kernel
theorem okD_149 : (List.range 6).all (fun pc => chO 149 pc) = true := by decide +kernel
theorem okD_150 : (List.range 16).all (fun pc => chO 150 pc) = true := by decide +kernel
theorem okD_151 : (List.range 32).all (fun pc => chO 151 pc) = true := by decide +kernel
theorem okD_152 : (List.range 21).all (fun pc => chO 152 pc) = true := by decide +kernel
theorem okD_153 : (List.range 22).all (fun pc => chO 153 pc) = true := by decide +kernel
theorem okD_154 : (List.range 246).all (fun pc => chO 154 pc) = true := by decide +kernel
theorem okD_155 : (List.range 5).all (fun pc => chO 155 pc) = true := by decide +kernel
theorem okD_156 : (List.range 15).all (fun pc => chO 156 pc) = true := by decide +kernel
theorem okD_157 : (List.range 16).all (fun pc => chO 157 pc) = true := by decide +kernel
theorem okD_158 : (List.range 15).all (fun pc => chO 158 pc) = true := by decide +kernel
theorem okD_159 : (List.range 20).all (fun pc => chO 159 pc) = true := by decide +kernel
theorem okD_160 : (List.range 17).all (fun pc => chO 160 pc) = true := by decide +kernel
theorem okD_161 : (List.range 77).all (fun pc => chO 161 pc) = true := by decide +kernel
theorem okD_162 : (List.range 71).all (fun pc => chO 162 pc) = true := by decide +kernel
theorem okD_163 : (List.range 10).all (fun pc => chO 163 pc) = true := by decide +kernel
theorem okD_164 : (List.range 47).all (fun pc => chO 164 pc) = true := by decide +kernel
theorem okD_165 : (List.range 12).all (fun pc => chO 165 pc) = true := by decide +kernel
theorem okD_166 : (List.range 12).all (fun pc => chO 166 pc) = true := by decide +kernel
theorem okD_167 : (List.range 262).all (fun pc => chO 167 pc) = true := by decide +kernel
theorem okD_168 : (List.range 163).all (fun pc => chO 168 pc) = true := by decide +kernel
theorem okD_169 : (List.range 130).all (fun pc => chO 169 pc) = true := by decide +kernel
theorem okD_170 : (List.range 88).all (fun pc => chO 170 pc) = true := by decide +kernel
theorem okD_171 : (List.range 255).all (fun pc => chO 171 pc) = true := by decide +kernel
theorem okD_172 : (List.range 9).all (fun pc => chO 172 pc) = true := by decide +kernel
theorem okD_173 : (List.range 9).all (fun pc => chO 173 pc) = true := by decide +kernel
theorem okD_174 : (List.range 35).all (fun pc => chO 174 pc) = true := by decide +kernel
theorem okD_175 : (List.range 54).all (fun pc => chO 175 pc) = true := by decide +kernel
theorem okD_176 : (List.range 30).all (fun pc => chO 176 pc) = true := by decide +kernel
theorem okD_177 : (List.range 81).all (fun pc => chO 177 pc) = true := by decide +kernel
theorem okD_178 : (List.range 17).all (fun pc => chO 178 pc) = true := by decide +kernel
theorem okD_179 : (List.range 64).all (fun pc => chO 179 pc) = true := by decide +kernel
theorem okD_180 : (List.range 63).all (fun pc => chO 180 pc) = true := by decide +kernel
theorem okD_181 : (List.range 10).all (fun pc => chO 181 pc) = true := by decide +kernel
theorem okD_182 : (List.range 30).all (fun pc => chO 182 pc) = true := by decide +kernel
theorem okD_183 : (List.range 12).all (fun pc => chO 183 pc) = true := by decide +kernel
theorem okD_184 : (List.range 10).all (fun pc => chO 184 pc) = true := by decide +kernel
theorem okD_185 : (List.range 141).all (fun pc => chO 185 pc) = true := by decide +kernel
theorem okD_186 : (List.range 12).all (fun pc => chO 186 pc) = true := by decide +kernel
theorem okD_187 : (List.range 55).all (fun pc => chO 187 pc) = true := by decide +kernel
theorem okD_188 : (List.range 53).all (fun pc => chO 188 pc) = true := by decide +kernel
theorem okD_189 : (List.range 102).all (fun pc => chO 189 pc) = true := by decide +kernel
theorem okD_190 : (List.range 88).all (fun pc => chO 190 pc) = true := by decide +kernel
theorem okD_191 : (List.range 42).all (fun pc => chO 191 pc) = true := by decide +kernel
theorem okD_192 : (List.range 10).all (fun pc => chO 192 pc) = true := by decide +kernel
theorem okD_193 : (List.range 87).all (fun pc => chO 193 pc) = true := by decide +kernel
theorem okD_194 : (List.range 55).all (fun pc => chO 194 pc) = true := by decide +kernel
theorem okD_195 : (List.range 148).all (fun pc => chO 195 pc) = true := by decide +kernel
theorem okD_196 : (List.range 73).all (fun pc => chO 196 pc) = true := by decide +kernel
theorem okD_197 : (List.range 144).all (fun pc => chO 197 pc) = true := by decide +kernel
theorem okD_198 : (List.range 7).all (fun pc => chO 198 pc) = true := by decide +kernel
theorem okD_199 : (List.range 33).all (fun pc => chO 199 pc) = true := by decide +kernel
theorem okD_200 : (List.range 141).all (fun pc => chO 200 pc) = true := by decide +kernel
theorem okD_201 : (List.range 107).all (fun pc => chO 201 pc) = true := by decide +kernel
theorem okD_202 : (List.range 16).all (fun pc => chO 202 pc) = true := by decide +kernel
theorem okD_203 : (List.range 42).all (fun pc => chO 203 pc) = true := by decide +kernel
theorem okD_204 : (List.range 62).all (fun pc => chO 204 pc) = true := by decide +kernel
theorem okD_205 : (List.range 106).all (fun pc => chO 205 pc) = true := by decide +kernel
theorem okD_206 : (List.range 86).all (fun pc => chO 206 pc) = true := by decide +kernel
theorem okD_207 : (List.range 27).all (fun pc => chO 207 pc) = true := by decide +kernel
theorem okD_208 : (List.range 16).all (fun pc => chO 208 pc) = true := by decide +kernel
theorem okD_209 : (List.range 16).all (fun pc => chO 209 pc) = true := by decide +kernel
theorem okD_210 : (List.range 63).all (fun pc => chO 210 pc) = true := by decide +kernel
theorem okD_211 : (List.range 32).all (fun pc => chO 211 pc) = true := by decide +kernel
theorem okD_212 : (List.range 112).all (fun pc => chO 212 pc) = true := by decide +kernel
theorem okD_213 : (List.range 216).all (fun pc => chO 213 pc) = true := by decide +kernel
theorem okD_214 : (List.range 7).all (fun pc => chO 214 pc) = true := by decide +kernel
theorem okD_215 : (List.range 60).all (fun pc => chO 215 pc) = true := by decide +kernel
theorem okD_216 : (List.range 278).all (fun pc => chO 216 pc) = true := by decide +kernel
theorem okD_217 : (List.range 18).all (fun pc => chO 217 pc) = true := by decide +kernel
theorem okD_218 : (List.range 18).all (fun pc => chO 218 pc) = true := by decide +kernel
theorem okD_219 : (List.range 170).all (fun pc => chO 219 pc) = true := by decide +kernel
theorem okD_220 : (List.range 38).all (fun pc => chO 220 pc) = true := by decide +kernel
theorem okD_221 : (List.range 68).all (fun pc => chO 221 pc) = true := by decide +kernel
theorem okD_222 : (List.range 16).all (fun pc => chO 222 pc) = true := by decide +kernel
theorem okD_223 : (List.range 67).all (fun pc => chO 223 pc) = true := by decide +kernel
theorem okD_224 : (List.range 77).all (fun pc => chO 224 pc) = true := by decide +kernel
theorem okD_225 : (List.range 68).all (fun pc => chO 225 pc) = true := by decide +kernel
theorem okD_226 : (List.range 149).all (fun pc => chO 226 pc) = true := by decide +kernel
theorem okD_227 : (List.range 8).all (fun pc => chO 227 pc) = true := by decide +kernel
theorem okD_228 : (List.range 8).all (fun pc => chO 228 pc) = true := by decide +kernel
theorem okD_229 : (List.range 7).all (fun pc => chO 229 pc) = true := by decide +kernel
theorem okD_230 : (List.range 24).all (fun pc => chO 230 pc) = true := by decide +kernel
theorem okD_231 : (List.range 35).all (fun pc => chO 231 pc) = true := by decide +kernel
theorem okD_232 : (List.range 87).all (fun pc => chO 232 pc) = true := by decide +kernel
theorem okD_233 : (List.range 87).all (fun pc => chO 233 pc) = true := by decide +kernel
theorem okD_234 : (List.range 77).all (fun pc => chO 234 pc) = true := by decide +kernel
theorem okD_235 : (List.range 35).all (fun pc => chO 235 pc) = true := by decide +kernel
theorem okD_236 : (List.range 15).all (fun pc => chO 236 pc) = true := by decide +kernel
theorem okD_237 : (List.range 89).all (fun pc => chO 237 pc) = true := by decide +kernel
theorem okD_238 : (List.range 54).all (fun pc => chO 238 pc) = true := by decide +kernel
theorem okD_239 : (List.range 20).all (fun pc => chO 239 pc) = true := by decide +kernel
theorem okD_240 : (List.range 82).all (fun pc => chO 240 pc) = true := by decide +kernel
theorem okD_241 : (List.range 66).all (fun pc => chO 241 pc) = true := by decide +kernel
theorem okD_242 : (List.range 20).all (fun pc => chO 242 pc) = true := by decide +kernel
theorem okD_243 : (List.range 34).all (fun pc => chO 243 pc) = true := by decide +kernel
theorem okD_244 : (List.range 37).all (fun pc => chO 244 pc) = true := by decide +kernel
theorem okD_245 : (List.range 93).all (fun pc => chO 245 pc) = true := by decide +kernel
theorem okD_246 : (List.range 93).all (fun pc => chO 246 pc) = true := by decide +kernel
theorem okD_247 : (List.range 225).all (fun pc => chO 247 pc) = true := by decide +kernel
theorem okD_248 : (List.range 122).all (fun pc => chO 248 pc) = true := by decide +kernel
theorem okD_249 : (List.range 30).all (fun pc => chO 249 pc) = true := by decide +kernel
theorem okD_250 : (List.range 14).all (fun pc => chO 250 pc) = true := by decide +kernel
theorem okD_251 : (List.range 166).all (fun pc => chO 251 pc) = true := by decide +kernel
theorem okD_252 : (List.range 91).all (fun pc => chO 252 pc) = true := by decide +kernel
theorem okD_253 : (List.range 78).all (fun pc => chO 253 pc) = true := by decide +kernel
theorem okD_254 : (List.range 22).all (fun pc => chO 254 pc) = true := by decide +kernel
theorem okD_255 : (List.range 47).all (fun pc => chO 255 pc) = true := by decide +kernel
theorem okD_256 : (List.range 59).all (fun pc => chO 256 pc) = true := by decide +kernel
theorem okD_257 : (List.range 88).all (fun pc => chO 257 pc) = true := by decide +kernel
theorem okD_258 : (List.range 24).all (fun pc => chO 258 pc) = true := by decide +kernel
theorem okD_259 : (List.range 81).all (fun pc => chO 259 pc) = true := by decide +kernel
theorem okD_260 : (List.range 16).all (fun pc => chO 260 pc) = true := by decide +kernel
theorem okD_261 : (List.range 133).all (fun pc => chO 261 pc) = true := by decide +kernel
theorem okD_262 : (List.range 85).all (fun pc => chO 262 pc) = true := by decide +kernel
theorem okD_263 : (List.range 10).all (fun pc => chO 263 pc) = true := by decide +kernel
theorem okD_264 : (List.range 136).all (fun pc => chO 264 pc) = true := by decide +kernel
theorem okD_265 : (List.range 97).all (fun pc => chO 265 pc) = true := by decide +kernel
theorem okD_266 : (List.range 64).all (fun pc => chO 266 pc) = true := by decide +kernel
theorem okD_267 : (List.range 75).all (fun pc => chO 267 pc) = true := by decide +kernel
theorem okD_268 : (List.range 7).all (fun pc => chO 268 pc) = true := by decide +kernel
theorem okD_269 : (List.range 16).all (fun pc => chO 269 pc) = true := by decide +kernel
theorem okD_270 : (List.range 29).all (fun pc => chO 270 pc) = true := by decide +kernel
theorem okD_271 : (List.range 29).all (fun pc => chO 271 pc) = true := by decide +kernel
theorem okD_272 : (List.range 20).all (fun pc => chO 272 pc) = true := by decide +kernel
theorem okD_273 : (List.range 27).all (fun pc => chO 273 pc) = true := by decide +kernel
theorem okD_274 : (List.range 23).all (fun pc => chO 274 pc) = true := by decide +kernel
theorem okD_275 : (List.range 23).all (fun pc => chO 275 pc) = true := by decide +kernel
theorem okD_276 : (List.range 17).all (fun pc => chO 276 pc) = true := by decide +kernel
theorem okD_277 : (List.range 27).all (fun pc => chO 277 pc) = true := by decide +kernel
theorem okD_278 : (List.range 23).all (fun pc => chO 278 pc) = true := by decide +kernel
theorem okD_279 : (List.range 26).all (fun pc => chO 279 pc) = true := by decide +kernel
theorem okD_280 : (List.range 17).all (fun pc => chO 280 pc) = true := by decide +kernel
theorem okD_281 : (List.range 15).all (fun pc => chO 281 pc) = true := by decide +kernel
theorem okD_282 : (List.range 17).all (fun pc => chO 282 pc) = true := by decide +kernel
theorem okD_283 : (List.range 17).all (fun pc => chO 283 pc) = true := by decide +kernel
theorem okD_284 : (List.range 29).all (fun pc => chO 284 pc) = true := by decide +kernel
theorem okD_285 : (List.range 21).all (fun pc => chO 285 pc) = true := by decide +kernel
theorem okD_286 : (List.range 23).all (fun pc => chO 286 pc) = true := by decide +kernel
theorem okD_287 : (List.range 23).all (fun pc => chO 287 pc) = true := by decide +kernel
theorem okD_288 : (List.range 17).all (fun pc => chO 288 pc) = true := by decide +kernel
theorem okD_289 : (List.range 19).all (fun pc => chO 289 pc) = true := by decide +kernel
theorem okD_290 : (List.range 26).all (fun pc => chO 290 pc) = true := by decide +kernel
theorem okD_291 : (List.range 29).all (fun pc => chO 291 pc) = true := by decide +kernel
theorem okD_292 : (List.range 23).all (fun pc => chO 292 pc) = true := by decide +kernel
theorem okD_293 : (List.range 23).all (fun pc => chO 293 pc) = true := by decide +kernel
theorem okD_294 : (List.range 25).all (fun pc => chO 294 pc) = true := by decide +kernel
theorem okD_295 : (List.range 25).all (fun pc => chO 295 pc) = true := by decide +kernel
theorem okD_296 : (List.range 23).all (fun pc => chO 296 pc) = true := by decide +kernel
theorem okD_297 : (List.range 23).all (fun pc => chO 297 pc) = true := by decide +kernel
theorem okD_298 : (List.range 23).all (fun pc => chO 298 pc) = true := by decide +kernel
theorem okD_299 : (List.range 20).all (fun pc => chO 299 pc) = true := by decide +kernel
theorem okD_300 : (List.range 23).all (fun pc => chO 300 pc) = true := by decide +kernel
theorem okD_301 : (List.range 20).all (fun pc => chO 301 pc) = true := by decide +kernel
theorem okD_302 : (List.range 25).all (fun pc => chO 302 pc) = true := by decide +kernel
theorem okD_303 : (List.range 23).all (fun pc => chO 303 pc) = true := by decide +kernel
theorem okD_304 : (List.range 17).all (fun pc => chO 304 pc) = true := by decide +kernel
theorem okD_305 : (List.range 22).all (fun pc => chO 305 pc) = true := by decide +kernel
theorem okD_306 : (List.range 22).all (fun pc => chO 306 pc) = true := by decide +kernel
theorem okD_307 : (List.range 16).all (fun pc => chO 307 pc) = true := by decide +kernel
theorem okD_308 : (List.range 19).all (fun pc => chO 308 pc) = true := by decide +kernel
theorem okD_309 : (List.range 3119).all (fun pc => chO 309 pc) = true := by decide +kernel
theorem okD_310 : (List.range 53).all (fun pc => chO 310 pc) = true := by decide +kernel
theorem okD_311 : (List.range 21).all (fun pc => chO 311 pc) = true := by decide +kernel
theorem okD_312 : (List.range 11).all (fun pc => chO 312 pc) = true := by decide +kernel
theorem okD_313 : (List.range 15).all (fun pc => chO 313 pc) = true := by decide +kernel
theorem okD_314 : (List.range 19).all (fun pc => chO 314 pc) = true := by decide +kernel
theorem okD_315 : (List.range 25).all (fun pc => chO 315 pc) = true := by decide +kernel
theorem okD_316 : (List.range 15).all (fun pc => chO 316 pc) = true := by decide +kernel
