/-! how long the text is stays, but for the methods that type: over the whole machine -/
section TF
def tF (a : Nat) : Bool := Nat.blt a 355 && !(Nat.beq a 78 || (Nat.beq a 81 || (Nat.beq a 89 || (Nat.beq a 133 || (Nat.beq a 135 || (Nat.beq a 305 || (Nat.beq a 306 || Nat.beq a 309)))))))
def tkI (i : Instr) (a b : Nat) : Bool := match i with
  | .putfield _ => !(Nat.beq a 9 && Nat.beq b 3)
  | .invokevirtual _ => tF a
  | .invokestatic _ => tF a || (Nat.beq a 1000 || (Nat.beq a 1005 || (Nat.beq a 1006 || (Nat.beq a 1007 || (Nat.beq a 1008 || Nat.beq a 1004)))))
  | .invokespecial _ => tF a || Nat.beq a 1003
  | _ => true
def tkX (μ pc : Nat) : Bool := match cins μ pc with
  | none => true
  | some (i, _, _, _, a, b, _, _) => tkI i a b
theorem tfG {i N : Nat} (h : (List.range N).all (fun pc => tkX i pc) = true) (hn : ∀ pc, Nat.blt pc N = false → cins i pc = none) : ∀ pc, tkX i pc = true := by
  intro pc
  cases hb : Nat.blt pc N with
  | true => exact List.all_eq_true.mp h pc (List.mem_range.mpr (Nat.blt_eq.mp hb))
  | false => unfold tkX; rw [hn pc hb]
theorem tfD_0 : (List.range 55).all (fun pc => tkX 0 pc) = true := by decide +kernel
theorem tfE_0 : tF 0 = true → ∀ pc, tkX 0 pc = true := fun _ => tfG tfD_0 (fun pc h => by show (bif Nat.blt pc 55 then _ else none) = none; rw [h]; rfl)
theorem tfD_1 : (List.range 61).all (fun pc => tkX 1 pc) = true := by decide +kernel
theorem tfE_1 : tF 1 = true → ∀ pc, tkX 1 pc = true := fun _ => tfG tfD_1 (fun pc h => by show (bif Nat.blt pc 61 then _ else none) = none; rw [h]; rfl)
theorem tfD_2 : (List.range 18).all (fun pc => tkX 2 pc) = true := by decide +kernel
theorem tfE_2 : tF 2 = true → ∀ pc, tkX 2 pc = true := fun _ => tfG tfD_2 (fun pc h => by show (bif Nat.blt pc 18 then _ else none) = none; rw [h]; rfl)
theorem tfD_3 : (List.range 100).all (fun pc => tkX 3 pc) = true := by decide +kernel
theorem tfE_3 : tF 3 = true → ∀ pc, tkX 3 pc = true := fun _ => tfG tfD_3 (fun pc h => by show (bif Nat.blt pc 100 then _ else none) = none; rw [h]; rfl)
theorem tfD_4 : (List.range 77).all (fun pc => tkX 4 pc) = true := by decide +kernel
theorem tfE_4 : tF 4 = true → ∀ pc, tkX 4 pc = true := fun _ => tfG tfD_4 (fun pc h => by show (bif Nat.blt pc 77 then _ else none) = none; rw [h]; rfl)
theorem tfD_5 : (List.range 97).all (fun pc => tkX 5 pc) = true := by decide +kernel
theorem tfE_5 : tF 5 = true → ∀ pc, tkX 5 pc = true := fun _ => tfG tfD_5 (fun pc h => by show (bif Nat.blt pc 97 then _ else none) = none; rw [h]; rfl)
theorem tfD_6 : (List.range 35).all (fun pc => tkX 6 pc) = true := by decide +kernel
theorem tfE_6 : tF 6 = true → ∀ pc, tkX 6 pc = true := fun _ => tfG tfD_6 (fun pc h => by show (bif Nat.blt pc 35 then _ else none) = none; rw [h]; rfl)
theorem tfD_7 : (List.range 48).all (fun pc => tkX 7 pc) = true := by decide +kernel
theorem tfE_7 : tF 7 = true → ∀ pc, tkX 7 pc = true := fun _ => tfG tfD_7 (fun pc h => by show (bif Nat.blt pc 48 then _ else none) = none; rw [h]; rfl)
theorem tfD_8 : (List.range 58).all (fun pc => tkX 8 pc) = true := by decide +kernel
theorem tfE_8 : tF 8 = true → ∀ pc, tkX 8 pc = true := fun _ => tfG tfD_8 (fun pc h => by show (bif Nat.blt pc 58 then _ else none) = none; rw [h]; rfl)
theorem tfD_9 : (List.range 77).all (fun pc => tkX 9 pc) = true := by decide +kernel
theorem tfE_9 : tF 9 = true → ∀ pc, tkX 9 pc = true := fun _ => tfG tfD_9 (fun pc h => by show (bif Nat.blt pc 77 then _ else none) = none; rw [h]; rfl)
theorem tfD_10 : (List.range 98).all (fun pc => tkX 10 pc) = true := by decide +kernel
theorem tfE_10 : tF 10 = true → ∀ pc, tkX 10 pc = true := fun _ => tfG tfD_10 (fun pc h => by show (bif Nat.blt pc 98 then _ else none) = none; rw [h]; rfl)
theorem tfD_11 : (List.range 163).all (fun pc => tkX 11 pc) = true := by decide +kernel
theorem tfE_11 : tF 11 = true → ∀ pc, tkX 11 pc = true := fun _ => tfG tfD_11 (fun pc h => by show (bif Nat.blt pc 163 then _ else none) = none; rw [h]; rfl)
theorem tfD_12 : (List.range 72).all (fun pc => tkX 12 pc) = true := by decide +kernel
theorem tfE_12 : tF 12 = true → ∀ pc, tkX 12 pc = true := fun _ => tfG tfD_12 (fun pc h => by show (bif Nat.blt pc 72 then _ else none) = none; rw [h]; rfl)
theorem tfD_13 : (List.range 132).all (fun pc => tkX 13 pc) = true := by decide +kernel
theorem tfE_13 : tF 13 = true → ∀ pc, tkX 13 pc = true := fun _ => tfG tfD_13 (fun pc h => by show (bif Nat.blt pc 132 then _ else none) = none; rw [h]; rfl)
theorem tfD_14 : (List.range 53).all (fun pc => tkX 14 pc) = true := by decide +kernel
theorem tfE_14 : tF 14 = true → ∀ pc, tkX 14 pc = true := fun _ => tfG tfD_14 (fun pc h => by show (bif Nat.blt pc 53 then _ else none) = none; rw [h]; rfl)
theorem tfD_15 : (List.range 20).all (fun pc => tkX 15 pc) = true := by decide +kernel
theorem tfE_15 : tF 15 = true → ∀ pc, tkX 15 pc = true := fun _ => tfG tfD_15 (fun pc h => by show (bif Nat.blt pc 20 then _ else none) = none; rw [h]; rfl)
theorem tfD_16 : (List.range 9).all (fun pc => tkX 16 pc) = true := by decide +kernel
theorem tfE_16 : tF 16 = true → ∀ pc, tkX 16 pc = true := fun _ => tfG tfD_16 (fun pc h => by show (bif Nat.blt pc 9 then _ else none) = none; rw [h]; rfl)
theorem tfD_17 : (List.range 9).all (fun pc => tkX 17 pc) = true := by decide +kernel
theorem tfE_17 : tF 17 = true → ∀ pc, tkX 17 pc = true := fun _ => tfG tfD_17 (fun pc h => by show (bif Nat.blt pc 9 then _ else none) = none; rw [h]; rfl)
theorem tfD_18 : (List.range 29).all (fun pc => tkX 18 pc) = true := by decide +kernel
theorem tfE_18 : tF 18 = true → ∀ pc, tkX 18 pc = true := fun _ => tfG tfD_18 (fun pc h => by show (bif Nat.blt pc 29 then _ else none) = none; rw [h]; rfl)
theorem tfD_19 : (List.range 69).all (fun pc => tkX 19 pc) = true := by decide +kernel
theorem tfE_19 : tF 19 = true → ∀ pc, tkX 19 pc = true := fun _ => tfG tfD_19 (fun pc h => by show (bif Nat.blt pc 69 then _ else none) = none; rw [h]; rfl)
theorem tfD_20 : (List.range 50).all (fun pc => tkX 20 pc) = true := by decide +kernel
theorem tfE_20 : tF 20 = true → ∀ pc, tkX 20 pc = true := fun _ => tfG tfD_20 (fun pc h => by show (bif Nat.blt pc 50 then _ else none) = none; rw [h]; rfl)
theorem tfD_21 : (List.range 55).all (fun pc => tkX 21 pc) = true := by decide +kernel
theorem tfE_21 : tF 21 = true → ∀ pc, tkX 21 pc = true := fun _ => tfG tfD_21 (fun pc h => by show (bif Nat.blt pc 55 then _ else none) = none; rw [h]; rfl)
theorem tfD_22 : (List.range 42).all (fun pc => tkX 22 pc) = true := by decide +kernel
theorem tfE_22 : tF 22 = true → ∀ pc, tkX 22 pc = true := fun _ => tfG tfD_22 (fun pc h => by show (bif Nat.blt pc 42 then _ else none) = none; rw [h]; rfl)
theorem tfD_23 : (List.range 112).all (fun pc => tkX 23 pc) = true := by decide +kernel
theorem tfE_23 : tF 23 = true → ∀ pc, tkX 23 pc = true := fun _ => tfG tfD_23 (fun pc h => by show (bif Nat.blt pc 112 then _ else none) = none; rw [h]; rfl)
theorem tfD_24 : (List.range 58).all (fun pc => tkX 24 pc) = true := by decide +kernel
theorem tfE_24 : tF 24 = true → ∀ pc, tkX 24 pc = true := fun _ => tfG tfD_24 (fun pc h => by show (bif Nat.blt pc 58 then _ else none) = none; rw [h]; rfl)
theorem tfD_25 : (List.range 45).all (fun pc => tkX 25 pc) = true := by decide +kernel
theorem tfE_25 : tF 25 = true → ∀ pc, tkX 25 pc = true := fun _ => tfG tfD_25 (fun pc h => by show (bif Nat.blt pc 45 then _ else none) = none; rw [h]; rfl)
theorem tfD_26 : (List.range 65).all (fun pc => tkX 26 pc) = true := by decide +kernel
theorem tfE_26 : tF 26 = true → ∀ pc, tkX 26 pc = true := fun _ => tfG tfD_26 (fun pc h => by show (bif Nat.blt pc 65 then _ else none) = none; rw [h]; rfl)
theorem tfD_27 : (List.range 34).all (fun pc => tkX 27 pc) = true := by decide +kernel
theorem tfE_27 : tF 27 = true → ∀ pc, tkX 27 pc = true := fun _ => tfG tfD_27 (fun pc h => by show (bif Nat.blt pc 34 then _ else none) = none; rw [h]; rfl)
theorem tfD_28 : (List.range 14).all (fun pc => tkX 28 pc) = true := by decide +kernel
theorem tfE_28 : tF 28 = true → ∀ pc, tkX 28 pc = true := fun _ => tfG tfD_28 (fun pc h => by show (bif Nat.blt pc 14 then _ else none) = none; rw [h]; rfl)
theorem tfD_29 : (List.range 94).all (fun pc => tkX 29 pc) = true := by decide +kernel
theorem tfE_29 : tF 29 = true → ∀ pc, tkX 29 pc = true := fun _ => tfG tfD_29 (fun pc h => by show (bif Nat.blt pc 94 then _ else none) = none; rw [h]; rfl)
theorem tfD_30 : (List.range 31).all (fun pc => tkX 30 pc) = true := by decide +kernel
theorem tfE_30 : tF 30 = true → ∀ pc, tkX 30 pc = true := fun _ => tfG tfD_30 (fun pc h => by show (bif Nat.blt pc 31 then _ else none) = none; rw [h]; rfl)
theorem tfD_31 : (List.range 68).all (fun pc => tkX 31 pc) = true := by decide +kernel
theorem tfE_31 : tF 31 = true → ∀ pc, tkX 31 pc = true := fun _ => tfG tfD_31 (fun pc h => by show (bif Nat.blt pc 68 then _ else none) = none; rw [h]; rfl)
theorem tfD_32 : (List.range 27).all (fun pc => tkX 32 pc) = true := by decide +kernel
theorem tfE_32 : tF 32 = true → ∀ pc, tkX 32 pc = true := fun _ => tfG tfD_32 (fun pc h => by show (bif Nat.blt pc 27 then _ else none) = none; rw [h]; rfl)
theorem tfD_33 : (List.range 45).all (fun pc => tkX 33 pc) = true := by decide +kernel
theorem tfE_33 : tF 33 = true → ∀ pc, tkX 33 pc = true := fun _ => tfG tfD_33 (fun pc h => by show (bif Nat.blt pc 45 then _ else none) = none; rw [h]; rfl)
theorem tfD_34 : (List.range 76).all (fun pc => tkX 34 pc) = true := by decide +kernel
theorem tfE_34 : tF 34 = true → ∀ pc, tkX 34 pc = true := fun _ => tfG tfD_34 (fun pc h => by show (bif Nat.blt pc 76 then _ else none) = none; rw [h]; rfl)
theorem tfD_35 : (List.range 56).all (fun pc => tkX 35 pc) = true := by decide +kernel
theorem tfE_35 : tF 35 = true → ∀ pc, tkX 35 pc = true := fun _ => tfG tfD_35 (fun pc h => by show (bif Nat.blt pc 56 then _ else none) = none; rw [h]; rfl)
theorem tfD_36 : (List.range 177).all (fun pc => tkX 36 pc) = true := by decide +kernel
theorem tfE_36 : tF 36 = true → ∀ pc, tkX 36 pc = true := fun _ => tfG tfD_36 (fun pc h => by show (bif Nat.blt pc 177 then _ else none) = none; rw [h]; rfl)
theorem tfD_37 : (List.range 95).all (fun pc => tkX 37 pc) = true := by decide +kernel
theorem tfE_37 : tF 37 = true → ∀ pc, tkX 37 pc = true := fun _ => tfG tfD_37 (fun pc h => by show (bif Nat.blt pc 95 then _ else none) = none; rw [h]; rfl)
theorem tfD_38 : (List.range 121).all (fun pc => tkX 38 pc) = true := by decide +kernel
theorem tfE_38 : tF 38 = true → ∀ pc, tkX 38 pc = true := fun _ => tfG tfD_38 (fun pc h => by show (bif Nat.blt pc 121 then _ else none) = none; rw [h]; rfl)
theorem tfD_39 : (List.range 166).all (fun pc => tkX 39 pc) = true := by decide +kernel
theorem tfE_39 : tF 39 = true → ∀ pc, tkX 39 pc = true := fun _ => tfG tfD_39 (fun pc h => by show (bif Nat.blt pc 166 then _ else none) = none; rw [h]; rfl)
theorem tfD_40 : (List.range 128).all (fun pc => tkX 40 pc) = true := by decide +kernel
theorem tfE_40 : tF 40 = true → ∀ pc, tkX 40 pc = true := fun _ => tfG tfD_40 (fun pc h => by show (bif Nat.blt pc 128 then _ else none) = none; rw [h]; rfl)
theorem tfD_41 : (List.range 76).all (fun pc => tkX 41 pc) = true := by decide +kernel
theorem tfE_41 : tF 41 = true → ∀ pc, tkX 41 pc = true := fun _ => tfG tfD_41 (fun pc h => by show (bif Nat.blt pc 76 then _ else none) = none; rw [h]; rfl)
theorem tfD_42 : (List.range 49).all (fun pc => tkX 42 pc) = true := by decide +kernel
theorem tfE_42 : tF 42 = true → ∀ pc, tkX 42 pc = true := fun _ => tfG tfD_42 (fun pc h => by show (bif Nat.blt pc 49 then _ else none) = none; rw [h]; rfl)
theorem tfD_43 : (List.range 70).all (fun pc => tkX 43 pc) = true := by decide +kernel
theorem tfE_43 : tF 43 = true → ∀ pc, tkX 43 pc = true := fun _ => tfG tfD_43 (fun pc h => by show (bif Nat.blt pc 70 then _ else none) = none; rw [h]; rfl)
theorem tfD_44 : (List.range 86).all (fun pc => tkX 44 pc) = true := by decide +kernel
theorem tfE_44 : tF 44 = true → ∀ pc, tkX 44 pc = true := fun _ => tfG tfD_44 (fun pc h => by show (bif Nat.blt pc 86 then _ else none) = none; rw [h]; rfl)
theorem tfD_45 : (List.range 16).all (fun pc => tkX 45 pc) = true := by decide +kernel
theorem tfE_45 : tF 45 = true → ∀ pc, tkX 45 pc = true := fun _ => tfG tfD_45 (fun pc h => by show (bif Nat.blt pc 16 then _ else none) = none; rw [h]; rfl)
theorem tfD_46 : (List.range 64).all (fun pc => tkX 46 pc) = true := by decide +kernel
theorem tfE_46 : tF 46 = true → ∀ pc, tkX 46 pc = true := fun _ => tfG tfD_46 (fun pc h => by show (bif Nat.blt pc 64 then _ else none) = none; rw [h]; rfl)
theorem tfD_47 : (List.range 91).all (fun pc => tkX 47 pc) = true := by decide +kernel
theorem tfE_47 : tF 47 = true → ∀ pc, tkX 47 pc = true := fun _ => tfG tfD_47 (fun pc h => by show (bif Nat.blt pc 91 then _ else none) = none; rw [h]; rfl)
theorem tfD_48 : (List.range 18).all (fun pc => tkX 48 pc) = true := by decide +kernel
theorem tfE_48 : tF 48 = true → ∀ pc, tkX 48 pc = true := fun _ => tfG tfD_48 (fun pc h => by show (bif Nat.blt pc 18 then _ else none) = none; rw [h]; rfl)
theorem tfD_49 : (List.range 6).all (fun pc => tkX 49 pc) = true := by decide +kernel
theorem tfE_49 : tF 49 = true → ∀ pc, tkX 49 pc = true := fun _ => tfG tfD_49 (fun pc h => by show (bif Nat.blt pc 6 then _ else none) = none; rw [h]; rfl)
theorem tfD_50 : (List.range 14).all (fun pc => tkX 50 pc) = true := by decide +kernel
theorem tfE_50 : tF 50 = true → ∀ pc, tkX 50 pc = true := fun _ => tfG tfD_50 (fun pc h => by show (bif Nat.blt pc 14 then _ else none) = none; rw [h]; rfl)
theorem tfD_51 : (List.range 16).all (fun pc => tkX 51 pc) = true := by decide +kernel
theorem tfE_51 : tF 51 = true → ∀ pc, tkX 51 pc = true := fun _ => tfG tfD_51 (fun pc h => by show (bif Nat.blt pc 16 then _ else none) = none; rw [h]; rfl)
theorem tfD_52 : (List.range 20).all (fun pc => tkX 52 pc) = true := by decide +kernel
theorem tfE_52 : tF 52 = true → ∀ pc, tkX 52 pc = true := fun _ => tfG tfD_52 (fun pc h => by show (bif Nat.blt pc 20 then _ else none) = none; rw [h]; rfl)
theorem tfD_53 : (List.range 27).all (fun pc => tkX 53 pc) = true := by decide +kernel
theorem tfE_53 : tF 53 = true → ∀ pc, tkX 53 pc = true := fun _ => tfG tfD_53 (fun pc h => by show (bif Nat.blt pc 27 then _ else none) = none; rw [h]; rfl)
theorem tfD_54 : (List.range 42).all (fun pc => tkX 54 pc) = true := by decide +kernel
theorem tfE_54 : tF 54 = true → ∀ pc, tkX 54 pc = true := fun _ => tfG tfD_54 (fun pc h => by show (bif Nat.blt pc 42 then _ else none) = none; rw [h]; rfl)
theorem tfD_55 : (List.range 45).all (fun pc => tkX 55 pc) = true := by decide +kernel
theorem tfE_55 : tF 55 = true → ∀ pc, tkX 55 pc = true := fun _ => tfG tfD_55 (fun pc h => by show (bif Nat.blt pc 45 then _ else none) = none; rw [h]; rfl)
theorem tfD_56 : (List.range 33).all (fun pc => tkX 56 pc) = true := by decide +kernel
theorem tfE_56 : tF 56 = true → ∀ pc, tkX 56 pc = true := fun _ => tfG tfD_56 (fun pc h => by show (bif Nat.blt pc 33 then _ else none) = none; rw [h]; rfl)
theorem tfD_57 : (List.range 84).all (fun pc => tkX 57 pc) = true := by decide +kernel
theorem tfE_57 : tF 57 = true → ∀ pc, tkX 57 pc = true := fun _ => tfG tfD_57 (fun pc h => by show (bif Nat.blt pc 84 then _ else none) = none; rw [h]; rfl)
theorem tfD_58 : (List.range 16).all (fun pc => tkX 58 pc) = true := by decide +kernel
theorem tfE_58 : tF 58 = true → ∀ pc, tkX 58 pc = true := fun _ => tfG tfD_58 (fun pc h => by show (bif Nat.blt pc 16 then _ else none) = none; rw [h]; rfl)
theorem tfD_59 : (List.range 75).all (fun pc => tkX 59 pc) = true := by decide +kernel
theorem tfE_59 : tF 59 = true → ∀ pc, tkX 59 pc = true := fun _ => tfG tfD_59 (fun pc h => by show (bif Nat.blt pc 75 then _ else none) = none; rw [h]; rfl)
theorem tfD_60 : (List.range 28).all (fun pc => tkX 60 pc) = true := by decide +kernel
theorem tfE_60 : tF 60 = true → ∀ pc, tkX 60 pc = true := fun _ => tfG tfD_60 (fun pc h => by show (bif Nat.blt pc 28 then _ else none) = none; rw [h]; rfl)
theorem tfD_61 : (List.range 32).all (fun pc => tkX 61 pc) = true := by decide +kernel
theorem tfE_61 : tF 61 = true → ∀ pc, tkX 61 pc = true := fun _ => tfG tfD_61 (fun pc h => by show (bif Nat.blt pc 32 then _ else none) = none; rw [h]; rfl)
theorem tfD_62 : (List.range 81).all (fun pc => tkX 62 pc) = true := by decide +kernel
theorem tfE_62 : tF 62 = true → ∀ pc, tkX 62 pc = true := fun _ => tfG tfD_62 (fun pc h => by show (bif Nat.blt pc 81 then _ else none) = none; rw [h]; rfl)
theorem tfD_63 : (List.range 47).all (fun pc => tkX 63 pc) = true := by decide +kernel
theorem tfE_63 : tF 63 = true → ∀ pc, tkX 63 pc = true := fun _ => tfG tfD_63 (fun pc h => by show (bif Nat.blt pc 47 then _ else none) = none; rw [h]; rfl)
theorem tfD_64 : (List.range 12).all (fun pc => tkX 64 pc) = true := by decide +kernel
theorem tfE_64 : tF 64 = true → ∀ pc, tkX 64 pc = true := fun _ => tfG tfD_64 (fun pc h => by show (bif Nat.blt pc 12 then _ else none) = none; rw [h]; rfl)
theorem tfD_65 : (List.range 13).all (fun pc => tkX 65 pc) = true := by decide +kernel
theorem tfE_65 : tF 65 = true → ∀ pc, tkX 65 pc = true := fun _ => tfG tfD_65 (fun pc h => by show (bif Nat.blt pc 13 then _ else none) = none; rw [h]; rfl)
theorem tfD_66 : (List.range 33).all (fun pc => tkX 66 pc) = true := by decide +kernel
theorem tfE_66 : tF 66 = true → ∀ pc, tkX 66 pc = true := fun _ => tfG tfD_66 (fun pc h => by show (bif Nat.blt pc 33 then _ else none) = none; rw [h]; rfl)
theorem tfD_67 : (List.range 30).all (fun pc => tkX 67 pc) = true := by decide +kernel
theorem tfE_67 : tF 67 = true → ∀ pc, tkX 67 pc = true := fun _ => tfG tfD_67 (fun pc h => by show (bif Nat.blt pc 30 then _ else none) = none; rw [h]; rfl)
theorem tfD_68 : (List.range 32).all (fun pc => tkX 68 pc) = true := by decide +kernel
theorem tfE_68 : tF 68 = true → ∀ pc, tkX 68 pc = true := fun _ => tfG tfD_68 (fun pc h => by show (bif Nat.blt pc 32 then _ else none) = none; rw [h]; rfl)
theorem tfD_69 : (List.range 42).all (fun pc => tkX 69 pc) = true := by decide +kernel
theorem tfE_69 : tF 69 = true → ∀ pc, tkX 69 pc = true := fun _ => tfG tfD_69 (fun pc h => by show (bif Nat.blt pc 42 then _ else none) = none; rw [h]; rfl)
theorem tfD_70 : (List.range 106).all (fun pc => tkX 70 pc) = true := by decide +kernel
theorem tfE_70 : tF 70 = true → ∀ pc, tkX 70 pc = true := fun _ => tfG tfD_70 (fun pc h => by show (bif Nat.blt pc 106 then _ else none) = none; rw [h]; rfl)
theorem tfD_71 : (List.range 34).all (fun pc => tkX 71 pc) = true := by decide +kernel
theorem tfE_71 : tF 71 = true → ∀ pc, tkX 71 pc = true := fun _ => tfG tfD_71 (fun pc h => by show (bif Nat.blt pc 34 then _ else none) = none; rw [h]; rfl)
theorem tfD_72 : (List.range 49).all (fun pc => tkX 72 pc) = true := by decide +kernel
theorem tfE_72 : tF 72 = true → ∀ pc, tkX 72 pc = true := fun _ => tfG tfD_72 (fun pc h => by show (bif Nat.blt pc 49 then _ else none) = none; rw [h]; rfl)
theorem tfD_73 : (List.range 28).all (fun pc => tkX 73 pc) = true := by decide +kernel
theorem tfE_73 : tF 73 = true → ∀ pc, tkX 73 pc = true := fun _ => tfG tfD_73 (fun pc h => by show (bif Nat.blt pc 28 then _ else none) = none; rw [h]; rfl)
theorem tfD_74 : (List.range 27).all (fun pc => tkX 74 pc) = true := by decide +kernel
theorem tfE_74 : tF 74 = true → ∀ pc, tkX 74 pc = true := fun _ => tfG tfD_74 (fun pc h => by show (bif Nat.blt pc 27 then _ else none) = none; rw [h]; rfl)
theorem tfD_75 : (List.range 42).all (fun pc => tkX 75 pc) = true := by decide +kernel
theorem tfE_75 : tF 75 = true → ∀ pc, tkX 75 pc = true := fun _ => tfG tfD_75 (fun pc h => by show (bif Nat.blt pc 42 then _ else none) = none; rw [h]; rfl)
theorem tfD_76 : (List.range 26).all (fun pc => tkX 76 pc) = true := by decide +kernel
theorem tfE_76 : tF 76 = true → ∀ pc, tkX 76 pc = true := fun _ => tfG tfD_76 (fun pc h => by show (bif Nat.blt pc 26 then _ else none) = none; rw [h]; rfl)
theorem tfD_77 : (List.range 55).all (fun pc => tkX 77 pc) = true := by decide +kernel
theorem tfE_77 : tF 77 = true → ∀ pc, tkX 77 pc = true := fun _ => tfG tfD_77 (fun pc h => by show (bif Nat.blt pc 55 then _ else none) = none; rw [h]; rfl)
theorem tfE_78 : tF 78 = true → ∀ pc, tkX 78 pc = true := fun h => absurd h (by decide)
theorem tfD_79 : (List.range 12).all (fun pc => tkX 79 pc) = true := by decide +kernel
theorem tfE_79 : tF 79 = true → ∀ pc, tkX 79 pc = true := fun _ => tfG tfD_79 (fun pc h => by show (bif Nat.blt pc 12 then _ else none) = none; rw [h]; rfl)
theorem tfD_80 : (List.range 48).all (fun pc => tkX 80 pc) = true := by decide +kernel
theorem tfE_80 : tF 80 = true → ∀ pc, tkX 80 pc = true := fun _ => tfG tfD_80 (fun pc h => by show (bif Nat.blt pc 48 then _ else none) = none; rw [h]; rfl)
theorem tfE_81 : tF 81 = true → ∀ pc, tkX 81 pc = true := fun h => absurd h (by decide)
theorem tfD_82 : (List.range 113).all (fun pc => tkX 82 pc) = true := by decide +kernel
theorem tfE_82 : tF 82 = true → ∀ pc, tkX 82 pc = true := fun _ => tfG tfD_82 (fun pc h => by show (bif Nat.blt pc 113 then _ else none) = none; rw [h]; rfl)
theorem tfD_83 : (List.range 71).all (fun pc => tkX 83 pc) = true := by decide +kernel
theorem tfE_83 : tF 83 = true → ∀ pc, tkX 83 pc = true := fun _ => tfG tfD_83 (fun pc h => by show (bif Nat.blt pc 71 then _ else none) = none; rw [h]; rfl)
theorem tfD_84 : (List.range 35).all (fun pc => tkX 84 pc) = true := by decide +kernel
theorem tfE_84 : tF 84 = true → ∀ pc, tkX 84 pc = true := fun _ => tfG tfD_84 (fun pc h => by show (bif Nat.blt pc 35 then _ else none) = none; rw [h]; rfl)
theorem tfD_85 : (List.range 54).all (fun pc => tkX 85 pc) = true := by decide +kernel
theorem tfE_85 : tF 85 = true → ∀ pc, tkX 85 pc = true := fun _ => tfG tfD_85 (fun pc h => by show (bif Nat.blt pc 54 then _ else none) = none; rw [h]; rfl)
theorem tfD_86 : (List.range 63).all (fun pc => tkX 86 pc) = true := by decide +kernel
theorem tfE_86 : tF 86 = true → ∀ pc, tkX 86 pc = true := fun _ => tfG tfD_86 (fun pc h => by show (bif Nat.blt pc 63 then _ else none) = none; rw [h]; rfl)
theorem tfD_87 : (List.range 159).all (fun pc => tkX 87 pc) = true := by decide +kernel
theorem tfE_87 : tF 87 = true → ∀ pc, tkX 87 pc = true := fun _ => tfG tfD_87 (fun pc h => by show (bif Nat.blt pc 159 then _ else none) = none; rw [h]; rfl)
theorem tfD_88 : (List.range 35).all (fun pc => tkX 88 pc) = true := by decide +kernel
theorem tfE_88 : tF 88 = true → ∀ pc, tkX 88 pc = true := fun _ => tfG tfD_88 (fun pc h => by show (bif Nat.blt pc 35 then _ else none) = none; rw [h]; rfl)
theorem tfE_89 : tF 89 = true → ∀ pc, tkX 89 pc = true := fun h => absurd h (by decide)
theorem tfD_90 : (List.range 56).all (fun pc => tkX 90 pc) = true := by decide +kernel
theorem tfE_90 : tF 90 = true → ∀ pc, tkX 90 pc = true := fun _ => tfG tfD_90 (fun pc h => by show (bif Nat.blt pc 56 then _ else none) = none; rw [h]; rfl)
theorem tfD_91 : (List.range 9).all (fun pc => tkX 91 pc) = true := by decide +kernel
theorem tfE_91 : tF 91 = true → ∀ pc, tkX 91 pc = true := fun _ => tfG tfD_91 (fun pc h => by show (bif Nat.blt pc 9 then _ else none) = none; rw [h]; rfl)
theorem tfD_92 : (List.range 8).all (fun pc => tkX 92 pc) = true := by decide +kernel
theorem tfE_92 : tF 92 = true → ∀ pc, tkX 92 pc = true := fun _ => tfG tfD_92 (fun pc h => by show (bif Nat.blt pc 8 then _ else none) = none; rw [h]; rfl)
theorem tfD_93 : (List.range 31).all (fun pc => tkX 93 pc) = true := by decide +kernel
theorem tfE_93 : tF 93 = true → ∀ pc, tkX 93 pc = true := fun _ => tfG tfD_93 (fun pc h => by show (bif Nat.blt pc 31 then _ else none) = none; rw [h]; rfl)
theorem tfD_94 : (List.range 48).all (fun pc => tkX 94 pc) = true := by decide +kernel
theorem tfE_94 : tF 94 = true → ∀ pc, tkX 94 pc = true := fun _ => tfG tfD_94 (fun pc h => by show (bif Nat.blt pc 48 then _ else none) = none; rw [h]; rfl)
theorem tfD_95 : (List.range 8).all (fun pc => tkX 95 pc) = true := by decide +kernel
theorem tfE_95 : tF 95 = true → ∀ pc, tkX 95 pc = true := fun _ => tfG tfD_95 (fun pc h => by show (bif Nat.blt pc 8 then _ else none) = none; rw [h]; rfl)
theorem tfD_96 : (List.range 7).all (fun pc => tkX 96 pc) = true := by decide +kernel
theorem tfE_96 : tF 96 = true → ∀ pc, tkX 96 pc = true := fun _ => tfG tfD_96 (fun pc h => by show (bif Nat.blt pc 7 then _ else none) = none; rw [h]; rfl)
theorem tfD_97 : (List.range 8).all (fun pc => tkX 97 pc) = true := by decide +kernel
theorem tfE_97 : tF 97 = true → ∀ pc, tkX 97 pc = true := fun _ => tfG tfD_97 (fun pc h => by show (bif Nat.blt pc 8 then _ else none) = none; rw [h]; rfl)
theorem tfD_98 : (List.range 35).all (fun pc => tkX 98 pc) = true := by decide +kernel
theorem tfE_98 : tF 98 = true → ∀ pc, tkX 98 pc = true := fun _ => tfG tfD_98 (fun pc h => by show (bif Nat.blt pc 35 then _ else none) = none; rw [h]; rfl)
theorem tfD_99 : (List.range 11).all (fun pc => tkX 99 pc) = true := by decide +kernel
theorem tfE_99 : tF 99 = true → ∀ pc, tkX 99 pc = true := fun _ => tfG tfD_99 (fun pc h => by show (bif Nat.blt pc 11 then _ else none) = none; rw [h]; rfl)
theorem tfD_100 : (List.range 11).all (fun pc => tkX 100 pc) = true := by decide +kernel
theorem tfE_100 : tF 100 = true → ∀ pc, tkX 100 pc = true := fun _ => tfG tfD_100 (fun pc h => by show (bif Nat.blt pc 11 then _ else none) = none; rw [h]; rfl)
theorem tfD_101 : (List.range 71).all (fun pc => tkX 101 pc) = true := by decide +kernel
theorem tfE_101 : tF 101 = true → ∀ pc, tkX 101 pc = true := fun _ => tfG tfD_101 (fun pc h => by show (bif Nat.blt pc 71 then _ else none) = none; rw [h]; rfl)
theorem tfD_102 : (List.range 59).all (fun pc => tkX 102 pc) = true := by decide +kernel
theorem tfE_102 : tF 102 = true → ∀ pc, tkX 102 pc = true := fun _ => tfG tfD_102 (fun pc h => by show (bif Nat.blt pc 59 then _ else none) = none; rw [h]; rfl)
theorem tfD_103 : (List.range 20).all (fun pc => tkX 103 pc) = true := by decide +kernel
theorem tfE_103 : tF 103 = true → ∀ pc, tkX 103 pc = true := fun _ => tfG tfD_103 (fun pc h => by show (bif Nat.blt pc 20 then _ else none) = none; rw [h]; rfl)
theorem tfD_104 : (List.range 8).all (fun pc => tkX 104 pc) = true := by decide +kernel
theorem tfE_104 : tF 104 = true → ∀ pc, tkX 104 pc = true := fun _ => tfG tfD_104 (fun pc h => by show (bif Nat.blt pc 8 then _ else none) = none; rw [h]; rfl)
theorem tfD_105 : (List.range 33).all (fun pc => tkX 105 pc) = true := by decide +kernel
theorem tfE_105 : tF 105 = true → ∀ pc, tkX 105 pc = true := fun _ => tfG tfD_105 (fun pc h => by show (bif Nat.blt pc 33 then _ else none) = none; rw [h]; rfl)
theorem tfD_106 : (List.range 33).all (fun pc => tkX 106 pc) = true := by decide +kernel
theorem tfE_106 : tF 106 = true → ∀ pc, tkX 106 pc = true := fun _ => tfG tfD_106 (fun pc h => by show (bif Nat.blt pc 33 then _ else none) = none; rw [h]; rfl)
theorem tfD_107 : (List.range 44).all (fun pc => tkX 107 pc) = true := by decide +kernel
theorem tfE_107 : tF 107 = true → ∀ pc, tkX 107 pc = true := fun _ => tfG tfD_107 (fun pc h => by show (bif Nat.blt pc 44 then _ else none) = none; rw [h]; rfl)
theorem tfD_108 : (List.range 21).all (fun pc => tkX 108 pc) = true := by decide +kernel
theorem tfE_108 : tF 108 = true → ∀ pc, tkX 108 pc = true := fun _ => tfG tfD_108 (fun pc h => by show (bif Nat.blt pc 21 then _ else none) = none; rw [h]; rfl)
theorem tfD_109 : (List.range 62).all (fun pc => tkX 109 pc) = true := by decide +kernel
theorem tfE_109 : tF 109 = true → ∀ pc, tkX 109 pc = true := fun _ => tfG tfD_109 (fun pc h => by show (bif Nat.blt pc 62 then _ else none) = none; rw [h]; rfl)
theorem tfD_110 : (List.range 77).all (fun pc => tkX 110 pc) = true := by decide +kernel
theorem tfE_110 : tF 110 = true → ∀ pc, tkX 110 pc = true := fun _ => tfG tfD_110 (fun pc h => by show (bif Nat.blt pc 77 then _ else none) = none; rw [h]; rfl)
theorem tfD_111 : (List.range 117).all (fun pc => tkX 111 pc) = true := by decide +kernel
theorem tfE_111 : tF 111 = true → ∀ pc, tkX 111 pc = true := fun _ => tfG tfD_111 (fun pc h => by show (bif Nat.blt pc 117 then _ else none) = none; rw [h]; rfl)
theorem tfD_112 : (List.range 81).all (fun pc => tkX 112 pc) = true := by decide +kernel
theorem tfE_112 : tF 112 = true → ∀ pc, tkX 112 pc = true := fun _ => tfG tfD_112 (fun pc h => by show (bif Nat.blt pc 81 then _ else none) = none; rw [h]; rfl)
theorem tfD_113 : (List.range 17).all (fun pc => tkX 113 pc) = true := by decide +kernel
theorem tfE_113 : tF 113 = true → ∀ pc, tkX 113 pc = true := fun _ => tfG tfD_113 (fun pc h => by show (bif Nat.blt pc 17 then _ else none) = none; rw [h]; rfl)
theorem tfD_114 : (List.range 21).all (fun pc => tkX 114 pc) = true := by decide +kernel
theorem tfE_114 : tF 114 = true → ∀ pc, tkX 114 pc = true := fun _ => tfG tfD_114 (fun pc h => by show (bif Nat.blt pc 21 then _ else none) = none; rw [h]; rfl)
theorem tfD_115 : (List.range 21).all (fun pc => tkX 115 pc) = true := by decide +kernel
theorem tfE_115 : tF 115 = true → ∀ pc, tkX 115 pc = true := fun _ => tfG tfD_115 (fun pc h => by show (bif Nat.blt pc 21 then _ else none) = none; rw [h]; rfl)
theorem tfD_116 : (List.range 53).all (fun pc => tkX 116 pc) = true := by decide +kernel
theorem tfE_116 : tF 116 = true → ∀ pc, tkX 116 pc = true := fun _ => tfG tfD_116 (fun pc h => by show (bif Nat.blt pc 53 then _ else none) = none; rw [h]; rfl)
theorem tfD_117 : (List.range 63).all (fun pc => tkX 117 pc) = true := by decide +kernel
theorem tfE_117 : tF 117 = true → ∀ pc, tkX 117 pc = true := fun _ => tfG tfD_117 (fun pc h => by show (bif Nat.blt pc 63 then _ else none) = none; rw [h]; rfl)
theorem tfD_118 : (List.range 64).all (fun pc => tkX 118 pc) = true := by decide +kernel
theorem tfE_118 : tF 118 = true → ∀ pc, tkX 118 pc = true := fun _ => tfG tfD_118 (fun pc h => by show (bif Nat.blt pc 64 then _ else none) = none; rw [h]; rfl)
theorem tfD_119 : (List.range 57).all (fun pc => tkX 119 pc) = true := by decide +kernel
theorem tfE_119 : tF 119 = true → ∀ pc, tkX 119 pc = true := fun _ => tfG tfD_119 (fun pc h => by show (bif Nat.blt pc 57 then _ else none) = none; rw [h]; rfl)
theorem tfD_120 : (List.range 42).all (fun pc => tkX 120 pc) = true := by decide +kernel
theorem tfE_120 : tF 120 = true → ∀ pc, tkX 120 pc = true := fun _ => tfG tfD_120 (fun pc h => by show (bif Nat.blt pc 42 then _ else none) = none; rw [h]; rfl)
theorem tfD_121 : (List.range 66).all (fun pc => tkX 121 pc) = true := by decide +kernel
theorem tfE_121 : tF 121 = true → ∀ pc, tkX 121 pc = true := fun _ => tfG tfD_121 (fun pc h => by show (bif Nat.blt pc 66 then _ else none) = none; rw [h]; rfl)
theorem tfD_122 : (List.range 51).all (fun pc => tkX 122 pc) = true := by decide +kernel
theorem tfE_122 : tF 122 = true → ∀ pc, tkX 122 pc = true := fun _ => tfG tfD_122 (fun pc h => by show (bif Nat.blt pc 51 then _ else none) = none; rw [h]; rfl)
theorem tfD_123 : (List.range 64).all (fun pc => tkX 123 pc) = true := by decide +kernel
theorem tfE_123 : tF 123 = true → ∀ pc, tkX 123 pc = true := fun _ => tfG tfD_123 (fun pc h => by show (bif Nat.blt pc 64 then _ else none) = none; rw [h]; rfl)
theorem tfD_124 : (List.range 24).all (fun pc => tkX 124 pc) = true := by decide +kernel
theorem tfE_124 : tF 124 = true → ∀ pc, tkX 124 pc = true := fun _ => tfG tfD_124 (fun pc h => by show (bif Nat.blt pc 24 then _ else none) = none; rw [h]; rfl)
theorem tfD_125 : (List.range 24).all (fun pc => tkX 125 pc) = true := by decide +kernel
theorem tfE_125 : tF 125 = true → ∀ pc, tkX 125 pc = true := fun _ => tfG tfD_125 (fun pc h => by show (bif Nat.blt pc 24 then _ else none) = none; rw [h]; rfl)
theorem tfD_126 : (List.range 17).all (fun pc => tkX 126 pc) = true := by decide +kernel
theorem tfE_126 : tF 126 = true → ∀ pc, tkX 126 pc = true := fun _ => tfG tfD_126 (fun pc h => by show (bif Nat.blt pc 17 then _ else none) = none; rw [h]; rfl)
theorem tfD_127 : (List.range 23).all (fun pc => tkX 127 pc) = true := by decide +kernel
theorem tfE_127 : tF 127 = true → ∀ pc, tkX 127 pc = true := fun _ => tfG tfD_127 (fun pc h => by show (bif Nat.blt pc 23 then _ else none) = none; rw [h]; rfl)
theorem tfD_128 : (List.range 17).all (fun pc => tkX 128 pc) = true := by decide +kernel
theorem tfE_128 : tF 128 = true → ∀ pc, tkX 128 pc = true := fun _ => tfG tfD_128 (fun pc h => by show (bif Nat.blt pc 17 then _ else none) = none; rw [h]; rfl)
theorem tfD_129 : (List.range 69).all (fun pc => tkX 129 pc) = true := by decide +kernel
theorem tfE_129 : tF 129 = true → ∀ pc, tkX 129 pc = true := fun _ => tfG tfD_129 (fun pc h => by show (bif Nat.blt pc 69 then _ else none) = none; rw [h]; rfl)
theorem tfD_130 : (List.range 84).all (fun pc => tkX 130 pc) = true := by decide +kernel
theorem tfE_130 : tF 130 = true → ∀ pc, tkX 130 pc = true := fun _ => tfG tfD_130 (fun pc h => by show (bif Nat.blt pc 84 then _ else none) = none; rw [h]; rfl)
theorem tfD_131 : (List.range 19).all (fun pc => tkX 131 pc) = true := by decide +kernel
theorem tfE_131 : tF 131 = true → ∀ pc, tkX 131 pc = true := fun _ => tfG tfD_131 (fun pc h => by show (bif Nat.blt pc 19 then _ else none) = none; rw [h]; rfl)
theorem tfD_132 : (List.range 11).all (fun pc => tkX 132 pc) = true := by decide +kernel
theorem tfE_132 : tF 132 = true → ∀ pc, tkX 132 pc = true := fun _ => tfG tfD_132 (fun pc h => by show (bif Nat.blt pc 11 then _ else none) = none; rw [h]; rfl)
theorem tfE_133 : tF 133 = true → ∀ pc, tkX 133 pc = true := fun h => absurd h (by decide)
theorem tfD_134 : (List.range 15).all (fun pc => tkX 134 pc) = true := by decide +kernel
theorem tfE_134 : tF 134 = true → ∀ pc, tkX 134 pc = true := fun _ => tfG tfD_134 (fun pc h => by show (bif Nat.blt pc 15 then _ else none) = none; rw [h]; rfl)
theorem tfE_135 : tF 135 = true → ∀ pc, tkX 135 pc = true := fun h => absurd h (by decide)
theorem tfD_136 : (List.range 71).all (fun pc => tkX 136 pc) = true := by decide +kernel
theorem tfE_136 : tF 136 = true → ∀ pc, tkX 136 pc = true := fun _ => tfG tfD_136 (fun pc h => by show (bif Nat.blt pc 71 then _ else none) = none; rw [h]; rfl)
theorem tfD_137 : (List.range 5).all (fun pc => tkX 137 pc) = true := by decide +kernel
theorem tfE_137 : tF 137 = true → ∀ pc, tkX 137 pc = true := fun _ => tfG tfD_137 (fun pc h => by show (bif Nat.blt pc 5 then _ else none) = none; rw [h]; rfl)
theorem tfD_138 : (List.range 30).all (fun pc => tkX 138 pc) = true := by decide +kernel
theorem tfE_138 : tF 138 = true → ∀ pc, tkX 138 pc = true := fun _ => tfG tfD_138 (fun pc h => by show (bif Nat.blt pc 30 then _ else none) = none; rw [h]; rfl)
theorem tfD_139 : (List.range 38).all (fun pc => tkX 139 pc) = true := by decide +kernel
theorem tfE_139 : tF 139 = true → ∀ pc, tkX 139 pc = true := fun _ => tfG tfD_139 (fun pc h => by show (bif Nat.blt pc 38 then _ else none) = none; rw [h]; rfl)
theorem tfD_140 : (List.range 30).all (fun pc => tkX 140 pc) = true := by decide +kernel
theorem tfE_140 : tF 140 = true → ∀ pc, tkX 140 pc = true := fun _ => tfG tfD_140 (fun pc h => by show (bif Nat.blt pc 30 then _ else none) = none; rw [h]; rfl)
theorem tfD_141 : (List.range 51).all (fun pc => tkX 141 pc) = true := by decide +kernel
theorem tfE_141 : tF 141 = true → ∀ pc, tkX 141 pc = true := fun _ => tfG tfD_141 (fun pc h => by show (bif Nat.blt pc 51 then _ else none) = none; rw [h]; rfl)
theorem tfD_142 : (List.range 118).all (fun pc => tkX 142 pc) = true := by decide +kernel
theorem tfE_142 : tF 142 = true → ∀ pc, tkX 142 pc = true := fun _ => tfG tfD_142 (fun pc h => by show (bif Nat.blt pc 118 then _ else none) = none; rw [h]; rfl)
theorem tfD_143 : (List.range 41).all (fun pc => tkX 143 pc) = true := by decide +kernel
theorem tfE_143 : tF 143 = true → ∀ pc, tkX 143 pc = true := fun _ => tfG tfD_143 (fun pc h => by show (bif Nat.blt pc 41 then _ else none) = none; rw [h]; rfl)
theorem tfD_144 : (List.range 12).all (fun pc => tkX 144 pc) = true := by decide +kernel
theorem tfE_144 : tF 144 = true → ∀ pc, tkX 144 pc = true := fun _ => tfG tfD_144 (fun pc h => by show (bif Nat.blt pc 12 then _ else none) = none; rw [h]; rfl)
theorem tfD_145 : (List.range 84).all (fun pc => tkX 145 pc) = true := by decide +kernel
theorem tfE_145 : tF 145 = true → ∀ pc, tkX 145 pc = true := fun _ => tfG tfD_145 (fun pc h => by show (bif Nat.blt pc 84 then _ else none) = none; rw [h]; rfl)
theorem tfD_146 : (List.range 30).all (fun pc => tkX 146 pc) = true := by decide +kernel
theorem tfE_146 : tF 146 = true → ∀ pc, tkX 146 pc = true := fun _ => tfG tfD_146 (fun pc h => by show (bif Nat.blt pc 30 then _ else none) = none; rw [h]; rfl)
theorem tfD_147 : (List.range 31).all (fun pc => tkX 147 pc) = true := by decide +kernel
theorem tfE_147 : tF 147 = true → ∀ pc, tkX 147 pc = true := fun _ => tfG tfD_147 (fun pc h => by show (bif Nat.blt pc 31 then _ else none) = none; rw [h]; rfl)
theorem tfD_148 : (List.range 56).all (fun pc => tkX 148 pc) = true := by decide +kernel
theorem tfE_148 : tF 148 = true → ∀ pc, tkX 148 pc = true := fun _ => tfG tfD_148 (fun pc h => by show (bif Nat.blt pc 56 then _ else none) = none; rw [h]; rfl)
theorem tfD_149 : (List.range 6).all (fun pc => tkX 149 pc) = true := by decide +kernel
theorem tfE_149 : tF 149 = true → ∀ pc, tkX 149 pc = true := fun _ => tfG tfD_149 (fun pc h => by show (bif Nat.blt pc 6 then _ else none) = none; rw [h]; rfl)
theorem tfD_150 : (List.range 16).all (fun pc => tkX 150 pc) = true := by decide +kernel
theorem tfE_150 : tF 150 = true → ∀ pc, tkX 150 pc = true := fun _ => tfG tfD_150 (fun pc h => by show (bif Nat.blt pc 16 then _ else none) = none; rw [h]; rfl)
theorem tfD_151 : (List.range 32).all (fun pc => tkX 151 pc) = true := by decide +kernel
theorem tfE_151 : tF 151 = true → ∀ pc, tkX 151 pc = true := fun _ => tfG tfD_151 (fun pc h => by show (bif Nat.blt pc 32 then _ else none) = none; rw [h]; rfl)
theorem tfD_152 : (List.range 21).all (fun pc => tkX 152 pc) = true := by decide +kernel
theorem tfE_152 : tF 152 = true → ∀ pc, tkX 152 pc = true := fun _ => tfG tfD_152 (fun pc h => by show (bif Nat.blt pc 21 then _ else none) = none; rw [h]; rfl)
theorem tfD_153 : (List.range 22).all (fun pc => tkX 153 pc) = true := by decide +kernel
theorem tfE_153 : tF 153 = true → ∀ pc, tkX 153 pc = true := fun _ => tfG tfD_153 (fun pc h => by show (bif Nat.blt pc 22 then _ else none) = none; rw [h]; rfl)
theorem tfD_154 : (List.range 246).all (fun pc => tkX 154 pc) = true := by decide +kernel
theorem tfE_154 : tF 154 = true → ∀ pc, tkX 154 pc = true := fun _ => tfG tfD_154 (fun pc h => by show (bif Nat.blt pc 246 then _ else none) = none; rw [h]; rfl)
theorem tfD_155 : (List.range 5).all (fun pc => tkX 155 pc) = true := by decide +kernel
theorem tfE_155 : tF 155 = true → ∀ pc, tkX 155 pc = true := fun _ => tfG tfD_155 (fun pc h => by show (bif Nat.blt pc 5 then _ else none) = none; rw [h]; rfl)
theorem tfD_156 : (List.range 15).all (fun pc => tkX 156 pc) = true := by decide +kernel
theorem tfE_156 : tF 156 = true → ∀ pc, tkX 156 pc = true := fun _ => tfG tfD_156 (fun pc h => by show (bif Nat.blt pc 15 then _ else none) = none; rw [h]; rfl)
theorem tfD_157 : (List.range 16).all (fun pc => tkX 157 pc) = true := by decide +kernel
theorem tfE_157 : tF 157 = true → ∀ pc, tkX 157 pc = true := fun _ => tfG tfD_157 (fun pc h => by show (bif Nat.blt pc 16 then _ else none) = none; rw [h]; rfl)
theorem tfD_158 : (List.range 15).all (fun pc => tkX 158 pc) = true := by decide +kernel
theorem tfE_158 : tF 158 = true → ∀ pc, tkX 158 pc = true := fun _ => tfG tfD_158 (fun pc h => by show (bif Nat.blt pc 15 then _ else none) = none; rw [h]; rfl)
theorem tfD_159 : (List.range 20).all (fun pc => tkX 159 pc) = true := by decide +kernel
theorem tfE_159 : tF 159 = true → ∀ pc, tkX 159 pc = true := fun _ => tfG tfD_159 (fun pc h => by show (bif Nat.blt pc 20 then _ else none) = none; rw [h]; rfl)
theorem tfD_160 : (List.range 17).all (fun pc => tkX 160 pc) = true := by decide +kernel
theorem tfE_160 : tF 160 = true → ∀ pc, tkX 160 pc = true := fun _ => tfG tfD_160 (fun pc h => by show (bif Nat.blt pc 17 then _ else none) = none; rw [h]; rfl)
theorem tfD_161 : (List.range 77).all (fun pc => tkX 161 pc) = true := by decide +kernel
theorem tfE_161 : tF 161 = true → ∀ pc, tkX 161 pc = true := fun _ => tfG tfD_161 (fun pc h => by show (bif Nat.blt pc 77 then _ else none) = none; rw [h]; rfl)
theorem tfD_162 : (List.range 71).all (fun pc => tkX 162 pc) = true := by decide +kernel
theorem tfE_162 : tF 162 = true → ∀ pc, tkX 162 pc = true := fun _ => tfG tfD_162 (fun pc h => by show (bif Nat.blt pc 71 then _ else none) = none; rw [h]; rfl)
theorem tfD_163 : (List.range 10).all (fun pc => tkX 163 pc) = true := by decide +kernel
theorem tfE_163 : tF 163 = true → ∀ pc, tkX 163 pc = true := fun _ => tfG tfD_163 (fun pc h => by show (bif Nat.blt pc 10 then _ else none) = none; rw [h]; rfl)
theorem tfD_164 : (List.range 47).all (fun pc => tkX 164 pc) = true := by decide +kernel
theorem tfE_164 : tF 164 = true → ∀ pc, tkX 164 pc = true := fun _ => tfG tfD_164 (fun pc h => by show (bif Nat.blt pc 47 then _ else none) = none; rw [h]; rfl)
theorem tfD_165 : (List.range 12).all (fun pc => tkX 165 pc) = true := by decide +kernel
theorem tfE_165 : tF 165 = true → ∀ pc, tkX 165 pc = true := fun _ => tfG tfD_165 (fun pc h => by show (bif Nat.blt pc 12 then _ else none) = none; rw [h]; rfl)
theorem tfD_166 : (List.range 12).all (fun pc => tkX 166 pc) = true := by decide +kernel
theorem tfE_166 : tF 166 = true → ∀ pc, tkX 166 pc = true := fun _ => tfG tfD_166 (fun pc h => by show (bif Nat.blt pc 12 then _ else none) = none; rw [h]; rfl)
theorem tfD_167 : (List.range 262).all (fun pc => tkX 167 pc) = true := by decide +kernel
theorem tfE_167 : tF 167 = true → ∀ pc, tkX 167 pc = true := fun _ => tfG tfD_167 (fun pc h => by show (bif Nat.blt pc 262 then _ else none) = none; rw [h]; rfl)
theorem tfD_168 : (List.range 163).all (fun pc => tkX 168 pc) = true := by decide +kernel
theorem tfE_168 : tF 168 = true → ∀ pc, tkX 168 pc = true := fun _ => tfG tfD_168 (fun pc h => by show (bif Nat.blt pc 163 then _ else none) = none; rw [h]; rfl)
theorem tfD_169 : (List.range 130).all (fun pc => tkX 169 pc) = true := by decide +kernel
theorem tfE_169 : tF 169 = true → ∀ pc, tkX 169 pc = true := fun _ => tfG tfD_169 (fun pc h => by show (bif Nat.blt pc 130 then _ else none) = none; rw [h]; rfl)
theorem tfD_170 : (List.range 88).all (fun pc => tkX 170 pc) = true := by decide +kernel
theorem tfE_170 : tF 170 = true → ∀ pc, tkX 170 pc = true := fun _ => tfG tfD_170 (fun pc h => by show (bif Nat.blt pc 88 then _ else none) = none; rw [h]; rfl)
theorem tfD_171 : (List.range 255).all (fun pc => tkX 171 pc) = true := by decide +kernel
theorem tfE_171 : tF 171 = true → ∀ pc, tkX 171 pc = true := fun _ => tfG tfD_171 (fun pc h => by show (bif Nat.blt pc 255 then _ else none) = none; rw [h]; rfl)
theorem tfD_172 : (List.range 9).all (fun pc => tkX 172 pc) = true := by decide +kernel
theorem tfE_172 : tF 172 = true → ∀ pc, tkX 172 pc = true := fun _ => tfG tfD_172 (fun pc h => by show (bif Nat.blt pc 9 then _ else none) = none; rw [h]; rfl)
theorem tfD_173 : (List.range 9).all (fun pc => tkX 173 pc) = true := by decide +kernel
theorem tfE_173 : tF 173 = true → ∀ pc, tkX 173 pc = true := fun _ => tfG tfD_173 (fun pc h => by show (bif Nat.blt pc 9 then _ else none) = none; rw [h]; rfl)
theorem tfD_174 : (List.range 35).all (fun pc => tkX 174 pc) = true := by decide +kernel
theorem tfE_174 : tF 174 = true → ∀ pc, tkX 174 pc = true := fun _ => tfG tfD_174 (fun pc h => by show (bif Nat.blt pc 35 then _ else none) = none; rw [h]; rfl)
theorem tfD_175 : (List.range 54).all (fun pc => tkX 175 pc) = true := by decide +kernel
theorem tfE_175 : tF 175 = true → ∀ pc, tkX 175 pc = true := fun _ => tfG tfD_175 (fun pc h => by show (bif Nat.blt pc 54 then _ else none) = none; rw [h]; rfl)
theorem tfD_176 : (List.range 30).all (fun pc => tkX 176 pc) = true := by decide +kernel
theorem tfE_176 : tF 176 = true → ∀ pc, tkX 176 pc = true := fun _ => tfG tfD_176 (fun pc h => by show (bif Nat.blt pc 30 then _ else none) = none; rw [h]; rfl)
theorem tfD_177 : (List.range 81).all (fun pc => tkX 177 pc) = true := by decide +kernel
theorem tfE_177 : tF 177 = true → ∀ pc, tkX 177 pc = true := fun _ => tfG tfD_177 (fun pc h => by show (bif Nat.blt pc 81 then _ else none) = none; rw [h]; rfl)
theorem tfD_178 : (List.range 17).all (fun pc => tkX 178 pc) = true := by decide +kernel
theorem tfE_178 : tF 178 = true → ∀ pc, tkX 178 pc = true := fun _ => tfG tfD_178 (fun pc h => by show (bif Nat.blt pc 17 then _ else none) = none; rw [h]; rfl)
theorem tfD_179 : (List.range 64).all (fun pc => tkX 179 pc) = true := by decide +kernel
theorem tfE_179 : tF 179 = true → ∀ pc, tkX 179 pc = true := fun _ => tfG tfD_179 (fun pc h => by show (bif Nat.blt pc 64 then _ else none) = none; rw [h]; rfl)
theorem tfD_180 : (List.range 63).all (fun pc => tkX 180 pc) = true := by decide +kernel
theorem tfE_180 : tF 180 = true → ∀ pc, tkX 180 pc = true := fun _ => tfG tfD_180 (fun pc h => by show (bif Nat.blt pc 63 then _ else none) = none; rw [h]; rfl)
theorem tfD_181 : (List.range 10).all (fun pc => tkX 181 pc) = true := by decide +kernel
theorem tfE_181 : tF 181 = true → ∀ pc, tkX 181 pc = true := fun _ => tfG tfD_181 (fun pc h => by show (bif Nat.blt pc 10 then _ else none) = none; rw [h]; rfl)
theorem tfD_182 : (List.range 30).all (fun pc => tkX 182 pc) = true := by decide +kernel
theorem tfE_182 : tF 182 = true → ∀ pc, tkX 182 pc = true := fun _ => tfG tfD_182 (fun pc h => by show (bif Nat.blt pc 30 then _ else none) = none; rw [h]; rfl)
theorem tfD_183 : (List.range 12).all (fun pc => tkX 183 pc) = true := by decide +kernel
theorem tfE_183 : tF 183 = true → ∀ pc, tkX 183 pc = true := fun _ => tfG tfD_183 (fun pc h => by show (bif Nat.blt pc 12 then _ else none) = none; rw [h]; rfl)
theorem tfD_184 : (List.range 10).all (fun pc => tkX 184 pc) = true := by decide +kernel
theorem tfE_184 : tF 184 = true → ∀ pc, tkX 184 pc = true := fun _ => tfG tfD_184 (fun pc h => by show (bif Nat.blt pc 10 then _ else none) = none; rw [h]; rfl)
theorem tfD_185 : (List.range 141).all (fun pc => tkX 185 pc) = true := by decide +kernel
theorem tfE_185 : tF 185 = true → ∀ pc, tkX 185 pc = true := fun _ => tfG tfD_185 (fun pc h => by show (bif Nat.blt pc 141 then _ else none) = none; rw [h]; rfl)
theorem tfD_186 : (List.range 12).all (fun pc => tkX 186 pc) = true := by decide +kernel
theorem tfE_186 : tF 186 = true → ∀ pc, tkX 186 pc = true := fun _ => tfG tfD_186 (fun pc h => by show (bif Nat.blt pc 12 then _ else none) = none; rw [h]; rfl)
theorem tfD_187 : (List.range 55).all (fun pc => tkX 187 pc) = true := by decide +kernel
theorem tfE_187 : tF 187 = true → ∀ pc, tkX 187 pc = true := fun _ => tfG tfD_187 (fun pc h => by show (bif Nat.blt pc 55 then _ else none) = none; rw [h]; rfl)
theorem tfD_188 : (List.range 53).all (fun pc => tkX 188 pc) = true := by decide +kernel
theorem tfE_188 : tF 188 = true → ∀ pc, tkX 188 pc = true := fun _ => tfG tfD_188 (fun pc h => by show (bif Nat.blt pc 53 then _ else none) = none; rw [h]; rfl)
theorem tfD_189 : (List.range 102).all (fun pc => tkX 189 pc) = true := by decide +kernel
theorem tfE_189 : tF 189 = true → ∀ pc, tkX 189 pc = true := fun _ => tfG tfD_189 (fun pc h => by show (bif Nat.blt pc 102 then _ else none) = none; rw [h]; rfl)
theorem tfD_190 : (List.range 88).all (fun pc => tkX 190 pc) = true := by decide +kernel
theorem tfE_190 : tF 190 = true → ∀ pc, tkX 190 pc = true := fun _ => tfG tfD_190 (fun pc h => by show (bif Nat.blt pc 88 then _ else none) = none; rw [h]; rfl)
theorem tfD_191 : (List.range 42).all (fun pc => tkX 191 pc) = true := by decide +kernel
theorem tfE_191 : tF 191 = true → ∀ pc, tkX 191 pc = true := fun _ => tfG tfD_191 (fun pc h => by show (bif Nat.blt pc 42 then _ else none) = none; rw [h]; rfl)
theorem tfD_192 : (List.range 10).all (fun pc => tkX 192 pc) = true := by decide +kernel
theorem tfE_192 : tF 192 = true → ∀ pc, tkX 192 pc = true := fun _ => tfG tfD_192 (fun pc h => by show (bif Nat.blt pc 10 then _ else none) = none; rw [h]; rfl)
theorem tfD_193 : (List.range 87).all (fun pc => tkX 193 pc) = true := by decide +kernel
theorem tfE_193 : tF 193 = true → ∀ pc, tkX 193 pc = true := fun _ => tfG tfD_193 (fun pc h => by show (bif Nat.blt pc 87 then _ else none) = none; rw [h]; rfl)
theorem tfD_194 : (List.range 55).all (fun pc => tkX 194 pc) = true := by decide +kernel
theorem tfE_194 : tF 194 = true → ∀ pc, tkX 194 pc = true := fun _ => tfG tfD_194 (fun pc h => by show (bif Nat.blt pc 55 then _ else none) = none; rw [h]; rfl)
theorem tfD_195 : (List.range 148).all (fun pc => tkX 195 pc) = true := by decide +kernel
theorem tfE_195 : tF 195 = true → ∀ pc, tkX 195 pc = true := fun _ => tfG tfD_195 (fun pc h => by show (bif Nat.blt pc 148 then _ else none) = none; rw [h]; rfl)
theorem tfD_196 : (List.range 73).all (fun pc => tkX 196 pc) = true := by decide +kernel
theorem tfE_196 : tF 196 = true → ∀ pc, tkX 196 pc = true := fun _ => tfG tfD_196 (fun pc h => by show (bif Nat.blt pc 73 then _ else none) = none; rw [h]; rfl)
theorem tfD_197 : (List.range 144).all (fun pc => tkX 197 pc) = true := by decide +kernel
theorem tfE_197 : tF 197 = true → ∀ pc, tkX 197 pc = true := fun _ => tfG tfD_197 (fun pc h => by show (bif Nat.blt pc 144 then _ else none) = none; rw [h]; rfl)
theorem tfD_198 : (List.range 7).all (fun pc => tkX 198 pc) = true := by decide +kernel
theorem tfE_198 : tF 198 = true → ∀ pc, tkX 198 pc = true := fun _ => tfG tfD_198 (fun pc h => by show (bif Nat.blt pc 7 then _ else none) = none; rw [h]; rfl)
theorem tfD_199 : (List.range 33).all (fun pc => tkX 199 pc) = true := by decide +kernel
theorem tfE_199 : tF 199 = true → ∀ pc, tkX 199 pc = true := fun _ => tfG tfD_199 (fun pc h => by show (bif Nat.blt pc 33 then _ else none) = none; rw [h]; rfl)
theorem tfD_200 : (List.range 141).all (fun pc => tkX 200 pc) = true := by decide +kernel
theorem tfE_200 : tF 200 = true → ∀ pc, tkX 200 pc = true := fun _ => tfG tfD_200 (fun pc h => by show (bif Nat.blt pc 141 then _ else none) = none; rw [h]; rfl)
theorem tfD_201 : (List.range 107).all (fun pc => tkX 201 pc) = true := by decide +kernel
theorem tfE_201 : tF 201 = true → ∀ pc, tkX 201 pc = true := fun _ => tfG tfD_201 (fun pc h => by show (bif Nat.blt pc 107 then _ else none) = none; rw [h]; rfl)
theorem tfD_202 : (List.range 16).all (fun pc => tkX 202 pc) = true := by decide +kernel
theorem tfE_202 : tF 202 = true → ∀ pc, tkX 202 pc = true := fun _ => tfG tfD_202 (fun pc h => by show (bif Nat.blt pc 16 then _ else none) = none; rw [h]; rfl)
theorem tfD_203 : (List.range 42).all (fun pc => tkX 203 pc) = true := by decide +kernel
theorem tfE_203 : tF 203 = true → ∀ pc, tkX 203 pc = true := fun _ => tfG tfD_203 (fun pc h => by show (bif Nat.blt pc 42 then _ else none) = none; rw [h]; rfl)
theorem tfD_204 : (List.range 62).all (fun pc => tkX 204 pc) = true := by decide +kernel
theorem tfE_204 : tF 204 = true → ∀ pc, tkX 204 pc = true := fun _ => tfG tfD_204 (fun pc h => by show (bif Nat.blt pc 62 then _ else none) = none; rw [h]; rfl)
theorem tfD_205 : (List.range 106).all (fun pc => tkX 205 pc) = true := by decide +kernel
theorem tfE_205 : tF 205 = true → ∀ pc, tkX 205 pc = true := fun _ => tfG tfD_205 (fun pc h => by show (bif Nat.blt pc 106 then _ else none) = none; rw [h]; rfl)
theorem tfD_206 : (List.range 86).all (fun pc => tkX 206 pc) = true := by decide +kernel
theorem tfE_206 : tF 206 = true → ∀ pc, tkX 206 pc = true := fun _ => tfG tfD_206 (fun pc h => by show (bif Nat.blt pc 86 then _ else none) = none; rw [h]; rfl)
theorem tfD_207 : (List.range 27).all (fun pc => tkX 207 pc) = true := by decide +kernel
theorem tfE_207 : tF 207 = true → ∀ pc, tkX 207 pc = true := fun _ => tfG tfD_207 (fun pc h => by show (bif Nat.blt pc 27 then _ else none) = none; rw [h]; rfl)
theorem tfD_208 : (List.range 16).all (fun pc => tkX 208 pc) = true := by decide +kernel
theorem tfE_208 : tF 208 = true → ∀ pc, tkX 208 pc = true := fun _ => tfG tfD_208 (fun pc h => by show (bif Nat.blt pc 16 then _ else none) = none; rw [h]; rfl)
theorem tfD_209 : (List.range 16).all (fun pc => tkX 209 pc) = true := by decide +kernel
theorem tfE_209 : tF 209 = true → ∀ pc, tkX 209 pc = true := fun _ => tfG tfD_209 (fun pc h => by show (bif Nat.blt pc 16 then _ else none) = none; rw [h]; rfl)
theorem tfD_210 : (List.range 63).all (fun pc => tkX 210 pc) = true := by decide +kernel
theorem tfE_210 : tF 210 = true → ∀ pc, tkX 210 pc = true := fun _ => tfG tfD_210 (fun pc h => by show (bif Nat.blt pc 63 then _ else none) = none; rw [h]; rfl)
theorem tfD_211 : (List.range 32).all (fun pc => tkX 211 pc) = true := by decide +kernel
theorem tfE_211 : tF 211 = true → ∀ pc, tkX 211 pc = true := fun _ => tfG tfD_211 (fun pc h => by show (bif Nat.blt pc 32 then _ else none) = none; rw [h]; rfl)
theorem tfD_212 : (List.range 112).all (fun pc => tkX 212 pc) = true := by decide +kernel
theorem tfE_212 : tF 212 = true → ∀ pc, tkX 212 pc = true := fun _ => tfG tfD_212 (fun pc h => by show (bif Nat.blt pc 112 then _ else none) = none; rw [h]; rfl)
theorem tfD_213 : (List.range 216).all (fun pc => tkX 213 pc) = true := by decide +kernel
theorem tfE_213 : tF 213 = true → ∀ pc, tkX 213 pc = true := fun _ => tfG tfD_213 (fun pc h => by show (bif Nat.blt pc 216 then _ else none) = none; rw [h]; rfl)
theorem tfD_214 : (List.range 7).all (fun pc => tkX 214 pc) = true := by decide +kernel
theorem tfE_214 : tF 214 = true → ∀ pc, tkX 214 pc = true := fun _ => tfG tfD_214 (fun pc h => by show (bif Nat.blt pc 7 then _ else none) = none; rw [h]; rfl)
theorem tfD_215 : (List.range 60).all (fun pc => tkX 215 pc) = true := by decide +kernel
theorem tfE_215 : tF 215 = true → ∀ pc, tkX 215 pc = true := fun _ => tfG tfD_215 (fun pc h => by show (bif Nat.blt pc 60 then _ else none) = none; rw [h]; rfl)
theorem tfD_216 : (List.range 278).all (fun pc => tkX 216 pc) = true := by decide +kernel
theorem tfE_216 : tF 216 = true → ∀ pc, tkX 216 pc = true := fun _ => tfG tfD_216 (fun pc h => by show (bif Nat.blt pc 278 then _ else none) = none; rw [h]; rfl)
theorem tfD_217 : (List.range 18).all (fun pc => tkX 217 pc) = true := by decide +kernel
theorem tfE_217 : tF 217 = true → ∀ pc, tkX 217 pc = true := fun _ => tfG tfD_217 (fun pc h => by show (bif Nat.blt pc 18 then _ else none) = none; rw [h]; rfl)
theorem tfD_218 : (List.range 18).all (fun pc => tkX 218 pc) = true := by decide +kernel
theorem tfE_218 : tF 218 = true → ∀ pc, tkX 218 pc = true := fun _ => tfG tfD_218 (fun pc h => by show (bif Nat.blt pc 18 then _ else none) = none; rw [h]; rfl)
theorem tfD_219 : (List.range 170).all (fun pc => tkX 219 pc) = true := by decide +kernel
theorem tfE_219 : tF 219 = true → ∀ pc, tkX 219 pc = true := fun _ => tfG tfD_219 (fun pc h => by show (bif Nat.blt pc 170 then _ else none) = none; rw [h]; rfl)
theorem tfD_220 : (List.range 38).all (fun pc => tkX 220 pc) = true := by decide +kernel
theorem tfE_220 : tF 220 = true → ∀ pc, tkX 220 pc = true := fun _ => tfG tfD_220 (fun pc h => by show (bif Nat.blt pc 38 then _ else none) = none; rw [h]; rfl)
theorem tfD_221 : (List.range 68).all (fun pc => tkX 221 pc) = true := by decide +kernel
theorem tfE_221 : tF 221 = true → ∀ pc, tkX 221 pc = true := fun _ => tfG tfD_221 (fun pc h => by show (bif Nat.blt pc 68 then _ else none) = none; rw [h]; rfl)
theorem tfD_222 : (List.range 16).all (fun pc => tkX 222 pc) = true := by decide +kernel
theorem tfE_222 : tF 222 = true → ∀ pc, tkX 222 pc = true := fun _ => tfG tfD_222 (fun pc h => by show (bif Nat.blt pc 16 then _ else none) = none; rw [h]; rfl)
theorem tfD_223 : (List.range 67).all (fun pc => tkX 223 pc) = true := by decide +kernel
theorem tfE_223 : tF 223 = true → ∀ pc, tkX 223 pc = true := fun _ => tfG tfD_223 (fun pc h => by show (bif Nat.blt pc 67 then _ else none) = none; rw [h]; rfl)
theorem tfD_224 : (List.range 77).all (fun pc => tkX 224 pc) = true := by decide +kernel
theorem tfE_224 : tF 224 = true → ∀ pc, tkX 224 pc = true := fun _ => tfG tfD_224 (fun pc h => by show (bif Nat.blt pc 77 then _ else none) = none; rw [h]; rfl)
theorem tfD_225 : (List.range 68).all (fun pc => tkX 225 pc) = true := by decide +kernel
theorem tfE_225 : tF 225 = true → ∀ pc, tkX 225 pc = true := fun _ => tfG tfD_225 (fun pc h => by show (bif Nat.blt pc 68 then _ else none) = none; rw [h]; rfl)
theorem tfD_226 : (List.range 149).all (fun pc => tkX 226 pc) = true := by decide +kernel
theorem tfE_226 : tF 226 = true → ∀ pc, tkX 226 pc = true := fun _ => tfG tfD_226 (fun pc h => by show (bif Nat.blt pc 149 then _ else none) = none; rw [h]; rfl)
theorem tfD_227 : (List.range 8).all (fun pc => tkX 227 pc) = true := by decide +kernel
theorem tfE_227 : tF 227 = true → ∀ pc, tkX 227 pc = true := fun _ => tfG tfD_227 (fun pc h => by show (bif Nat.blt pc 8 then _ else none) = none; rw [h]; rfl)
theorem tfD_228 : (List.range 8).all (fun pc => tkX 228 pc) = true := by decide +kernel
theorem tfE_228 : tF 228 = true → ∀ pc, tkX 228 pc = true := fun _ => tfG tfD_228 (fun pc h => by show (bif Nat.blt pc 8 then _ else none) = none; rw [h]; rfl)
theorem tfD_229 : (List.range 7).all (fun pc => tkX 229 pc) = true := by decide +kernel
theorem tfE_229 : tF 229 = true → ∀ pc, tkX 229 pc = true := fun _ => tfG tfD_229 (fun pc h => by show (bif Nat.blt pc 7 then _ else none) = none; rw [h]; rfl)
theorem tfD_230 : (List.range 24).all (fun pc => tkX 230 pc) = true := by decide +kernel
theorem tfE_230 : tF 230 = true → ∀ pc, tkX 230 pc = true := fun _ => tfG tfD_230 (fun pc h => by show (bif Nat.blt pc 24 then _ else none) = none; rw [h]; rfl)
theorem tfD_231 : (List.range 35).all (fun pc => tkX 231 pc) = true := by decide +kernel
theorem tfE_231 : tF 231 = true → ∀ pc, tkX 231 pc = true := fun _ => tfG tfD_231 (fun pc h => by show (bif Nat.blt pc 35 then _ else none) = none; rw [h]; rfl)
theorem tfD_232 : (List.range 87).all (fun pc => tkX 232 pc) = true := by decide +kernel
theorem tfE_232 : tF 232 = true → ∀ pc, tkX 232 pc = true := fun _ => tfG tfD_232 (fun pc h => by show (bif Nat.blt pc 87 then _ else none) = none; rw [h]; rfl)
theorem tfD_233 : (List.range 87).all (fun pc => tkX 233 pc) = true := by decide +kernel
theorem tfE_233 : tF 233 = true → ∀ pc, tkX 233 pc = true := fun _ => tfG tfD_233 (fun pc h => by show (bif Nat.blt pc 87 then _ else none) = none; rw [h]; rfl)
theorem tfD_234 : (List.range 77).all (fun pc => tkX 234 pc) = true := by decide +kernel
theorem tfE_234 : tF 234 = true → ∀ pc, tkX 234 pc = true := fun _ => tfG tfD_234 (fun pc h => by show (bif Nat.blt pc 77 then _ else none) = none; rw [h]; rfl)
theorem tfD_235 : (List.range 35).all (fun pc => tkX 235 pc) = true := by decide +kernel
theorem tfE_235 : tF 235 = true → ∀ pc, tkX 235 pc = true := fun _ => tfG tfD_235 (fun pc h => by show (bif Nat.blt pc 35 then _ else none) = none; rw [h]; rfl)
theorem tfD_236 : (List.range 15).all (fun pc => tkX 236 pc) = true := by decide +kernel
theorem tfE_236 : tF 236 = true → ∀ pc, tkX 236 pc = true := fun _ => tfG tfD_236 (fun pc h => by show (bif Nat.blt pc 15 then _ else none) = none; rw [h]; rfl)
theorem tfD_237 : (List.range 89).all (fun pc => tkX 237 pc) = true := by decide +kernel
theorem tfE_237 : tF 237 = true → ∀ pc, tkX 237 pc = true := fun _ => tfG tfD_237 (fun pc h => by show (bif Nat.blt pc 89 then _ else none) = none; rw [h]; rfl)
theorem tfD_238 : (List.range 54).all (fun pc => tkX 238 pc) = true := by decide +kernel
theorem tfE_238 : tF 238 = true → ∀ pc, tkX 238 pc = true := fun _ => tfG tfD_238 (fun pc h => by show (bif Nat.blt pc 54 then _ else none) = none; rw [h]; rfl)
theorem tfD_239 : (List.range 20).all (fun pc => tkX 239 pc) = true := by decide +kernel
theorem tfE_239 : tF 239 = true → ∀ pc, tkX 239 pc = true := fun _ => tfG tfD_239 (fun pc h => by show (bif Nat.blt pc 20 then _ else none) = none; rw [h]; rfl)
theorem tfD_240 : (List.range 82).all (fun pc => tkX 240 pc) = true := by decide +kernel
theorem tfE_240 : tF 240 = true → ∀ pc, tkX 240 pc = true := fun _ => tfG tfD_240 (fun pc h => by show (bif Nat.blt pc 82 then _ else none) = none; rw [h]; rfl)
theorem tfD_241 : (List.range 66).all (fun pc => tkX 241 pc) = true := by decide +kernel
theorem tfE_241 : tF 241 = true → ∀ pc, tkX 241 pc = true := fun _ => tfG tfD_241 (fun pc h => by show (bif Nat.blt pc 66 then _ else none) = none; rw [h]; rfl)
theorem tfD_242 : (List.range 20).all (fun pc => tkX 242 pc) = true := by decide +kernel
theorem tfE_242 : tF 242 = true → ∀ pc, tkX 242 pc = true := fun _ => tfG tfD_242 (fun pc h => by show (bif Nat.blt pc 20 then _ else none) = none; rw [h]; rfl)
theorem tfD_243 : (List.range 34).all (fun pc => tkX 243 pc) = true := by decide +kernel
theorem tfE_243 : tF 243 = true → ∀ pc, tkX 243 pc = true := fun _ => tfG tfD_243 (fun pc h => by show (bif Nat.blt pc 34 then _ else none) = none; rw [h]; rfl)
theorem tfD_244 : (List.range 37).all (fun pc => tkX 244 pc) = true := by decide +kernel
theorem tfE_244 : tF 244 = true → ∀ pc, tkX 244 pc = true := fun _ => tfG tfD_244 (fun pc h => by show (bif Nat.blt pc 37 then _ else none) = none; rw [h]; rfl)
theorem tfD_245 : (List.range 93).all (fun pc => tkX 245 pc) = true := by decide +kernel
theorem tfE_245 : tF 245 = true → ∀ pc, tkX 245 pc = true := fun _ => tfG tfD_245 (fun pc h => by show (bif Nat.blt pc 93 then _ else none) = none; rw [h]; rfl)
theorem tfD_246 : (List.range 93).all (fun pc => tkX 246 pc) = true := by decide +kernel
theorem tfE_246 : tF 246 = true → ∀ pc, tkX 246 pc = true := fun _ => tfG tfD_246 (fun pc h => by show (bif Nat.blt pc 93 then _ else none) = none; rw [h]; rfl)
theorem tfD_247 : (List.range 225).all (fun pc => tkX 247 pc) = true := by decide +kernel
theorem tfE_247 : tF 247 = true → ∀ pc, tkX 247 pc = true := fun _ => tfG tfD_247 (fun pc h => by show (bif Nat.blt pc 225 then _ else none) = none; rw [h]; rfl)
theorem tfD_248 : (List.range 122).all (fun pc => tkX 248 pc) = true := by decide +kernel
theorem tfE_248 : tF 248 = true → ∀ pc, tkX 248 pc = true := fun _ => tfG tfD_248 (fun pc h => by show (bif Nat.blt pc 122 then _ else none) = none; rw [h]; rfl)
theorem tfD_249 : (List.range 30).all (fun pc => tkX 249 pc) = true := by decide +kernel
theorem tfE_249 : tF 249 = true → ∀ pc, tkX 249 pc = true := fun _ => tfG tfD_249 (fun pc h => by show (bif Nat.blt pc 30 then _ else none) = none; rw [h]; rfl)
theorem tfD_250 : (List.range 14).all (fun pc => tkX 250 pc) = true := by decide +kernel
theorem tfE_250 : tF 250 = true → ∀ pc, tkX 250 pc = true := fun _ => tfG tfD_250 (fun pc h => by show (bif Nat.blt pc 14 then _ else none) = none; rw [h]; rfl)
theorem tfD_251 : (List.range 166).all (fun pc => tkX 251 pc) = true := by decide +kernel
theorem tfE_251 : tF 251 = true → ∀ pc, tkX 251 pc = true := fun _ => tfG tfD_251 (fun pc h => by show (bif Nat.blt pc 166 then _ else none) = none; rw [h]; rfl)
theorem tfD_252 : (List.range 91).all (fun pc => tkX 252 pc) = true := by decide +kernel
theorem tfE_252 : tF 252 = true → ∀ pc, tkX 252 pc = true := fun _ => tfG tfD_252 (fun pc h => by show (bif Nat.blt pc 91 then _ else none) = none; rw [h]; rfl)
theorem tfD_253 : (List.range 78).all (fun pc => tkX 253 pc) = true := by decide +kernel
theorem tfE_253 : tF 253 = true → ∀ pc, tkX 253 pc = true := fun _ => tfG tfD_253 (fun pc h => by show (bif Nat.blt pc 78 then _ else none) = none; rw [h]; rfl)
theorem tfD_254 : (List.range 22).all (fun pc => tkX 254 pc) = true := by decide +kernel
theorem tfE_254 : tF 254 = true → ∀ pc, tkX 254 pc = true := fun _ => tfG tfD_254 (fun pc h => by show (bif Nat.blt pc 22 then _ else none) = none; rw [h]; rfl)
theorem tfD_255 : (List.range 47).all (fun pc => tkX 255 pc) = true := by decide +kernel
theorem tfE_255 : tF 255 = true → ∀ pc, tkX 255 pc = true := fun _ => tfG tfD_255 (fun pc h => by show (bif Nat.blt pc 47 then _ else none) = none; rw [h]; rfl)
theorem tfD_256 : (List.range 59).all (fun pc => tkX 256 pc) = true := by decide +kernel
theorem tfE_256 : tF 256 = true → ∀ pc, tkX 256 pc = true := fun _ => tfG tfD_256 (fun pc h => by show (bif Nat.blt pc 59 then _ else none) = none; rw [h]; rfl)
theorem tfD_257 : (List.range 88).all (fun pc => tkX 257 pc) = true := by decide +kernel
theorem tfE_257 : tF 257 = true → ∀ pc, tkX 257 pc = true := fun _ => tfG tfD_257 (fun pc h => by show (bif Nat.blt pc 88 then _ else none) = none; rw [h]; rfl)
theorem tfD_258 : (List.range 24).all (fun pc => tkX 258 pc) = true := by decide +kernel
theorem tfE_258 : tF 258 = true → ∀ pc, tkX 258 pc = true := fun _ => tfG tfD_258 (fun pc h => by show (bif Nat.blt pc 24 then _ else none) = none; rw [h]; rfl)
theorem tfD_259 : (List.range 81).all (fun pc => tkX 259 pc) = true := by decide +kernel
theorem tfE_259 : tF 259 = true → ∀ pc, tkX 259 pc = true := fun _ => tfG tfD_259 (fun pc h => by show (bif Nat.blt pc 81 then _ else none) = none; rw [h]; rfl)
theorem tfD_260 : (List.range 16).all (fun pc => tkX 260 pc) = true := by decide +kernel
theorem tfE_260 : tF 260 = true → ∀ pc, tkX 260 pc = true := fun _ => tfG tfD_260 (fun pc h => by show (bif Nat.blt pc 16 then _ else none) = none; rw [h]; rfl)
theorem tfD_261 : (List.range 133).all (fun pc => tkX 261 pc) = true := by decide +kernel
theorem tfE_261 : tF 261 = true → ∀ pc, tkX 261 pc = true := fun _ => tfG tfD_261 (fun pc h => by show (bif Nat.blt pc 133 then _ else none) = none; rw [h]; rfl)
theorem tfD_262 : (List.range 85).all (fun pc => tkX 262 pc) = true := by decide +kernel
theorem tfE_262 : tF 262 = true → ∀ pc, tkX 262 pc = true := fun _ => tfG tfD_262 (fun pc h => by show (bif Nat.blt pc 85 then _ else none) = none; rw [h]; rfl)
theorem tfD_263 : (List.range 10).all (fun pc => tkX 263 pc) = true := by decide +kernel
theorem tfE_263 : tF 263 = true → ∀ pc, tkX 263 pc = true := fun _ => tfG tfD_263 (fun pc h => by show (bif Nat.blt pc 10 then _ else none) = none; rw [h]; rfl)
theorem tfD_264 : (List.range 136).all (fun pc => tkX 264 pc) = true := by decide +kernel
theorem tfE_264 : tF 264 = true → ∀ pc, tkX 264 pc = true := fun _ => tfG tfD_264 (fun pc h => by show (bif Nat.blt pc 136 then _ else none) = none; rw [h]; rfl)
theorem tfD_265 : (List.range 97).all (fun pc => tkX 265 pc) = true := by decide +kernel
theorem tfE_265 : tF 265 = true → ∀ pc, tkX 265 pc = true := fun _ => tfG tfD_265 (fun pc h => by show (bif Nat.blt pc 97 then _ else none) = none; rw [h]; rfl)
theorem tfD_266 : (List.range 64).all (fun pc => tkX 266 pc) = true := by decide +kernel
theorem tfE_266 : tF 266 = true → ∀ pc, tkX 266 pc = true := fun _ => tfG tfD_266 (fun pc h => by show (bif Nat.blt pc 64 then _ else none) = none; rw [h]; rfl)
theorem tfD_267 : (List.range 75).all (fun pc => tkX 267 pc) = true := by decide +kernel
theorem tfE_267 : tF 267 = true → ∀ pc, tkX 267 pc = true := fun _ => tfG tfD_267 (fun pc h => by show (bif Nat.blt pc 75 then _ else none) = none; rw [h]; rfl)
theorem tfD_268 : (List.range 7).all (fun pc => tkX 268 pc) = true := by decide +kernel
theorem tfE_268 : tF 268 = true → ∀ pc, tkX 268 pc = true := fun _ => tfG tfD_268 (fun pc h => by show (bif Nat.blt pc 7 then _ else none) = none; rw [h]; rfl)
theorem tfD_269 : (List.range 16).all (fun pc => tkX 269 pc) = true := by decide +kernel
theorem tfE_269 : tF 269 = true → ∀ pc, tkX 269 pc = true := fun _ => tfG tfD_269 (fun pc h => by show (bif Nat.blt pc 16 then _ else none) = none; rw [h]; rfl)
theorem tfD_270 : (List.range 29).all (fun pc => tkX 270 pc) = true := by decide +kernel
theorem tfE_270 : tF 270 = true → ∀ pc, tkX 270 pc = true := fun _ => tfG tfD_270 (fun pc h => by show (bif Nat.blt pc 29 then _ else none) = none; rw [h]; rfl)
theorem tfD_271 : (List.range 29).all (fun pc => tkX 271 pc) = true := by decide +kernel
theorem tfE_271 : tF 271 = true → ∀ pc, tkX 271 pc = true := fun _ => tfG tfD_271 (fun pc h => by show (bif Nat.blt pc 29 then _ else none) = none; rw [h]; rfl)
theorem tfD_272 : (List.range 20).all (fun pc => tkX 272 pc) = true := by decide +kernel
theorem tfE_272 : tF 272 = true → ∀ pc, tkX 272 pc = true := fun _ => tfG tfD_272 (fun pc h => by show (bif Nat.blt pc 20 then _ else none) = none; rw [h]; rfl)
theorem tfD_273 : (List.range 27).all (fun pc => tkX 273 pc) = true := by decide +kernel
theorem tfE_273 : tF 273 = true → ∀ pc, tkX 273 pc = true := fun _ => tfG tfD_273 (fun pc h => by show (bif Nat.blt pc 27 then _ else none) = none; rw [h]; rfl)
theorem tfD_274 : (List.range 23).all (fun pc => tkX 274 pc) = true := by decide +kernel
theorem tfE_274 : tF 274 = true → ∀ pc, tkX 274 pc = true := fun _ => tfG tfD_274 (fun pc h => by show (bif Nat.blt pc 23 then _ else none) = none; rw [h]; rfl)
theorem tfD_275 : (List.range 23).all (fun pc => tkX 275 pc) = true := by decide +kernel
theorem tfE_275 : tF 275 = true → ∀ pc, tkX 275 pc = true := fun _ => tfG tfD_275 (fun pc h => by show (bif Nat.blt pc 23 then _ else none) = none; rw [h]; rfl)
theorem tfD_276 : (List.range 17).all (fun pc => tkX 276 pc) = true := by decide +kernel
theorem tfE_276 : tF 276 = true → ∀ pc, tkX 276 pc = true := fun _ => tfG tfD_276 (fun pc h => by show (bif Nat.blt pc 17 then _ else none) = none; rw [h]; rfl)
theorem tfD_277 : (List.range 27).all (fun pc => tkX 277 pc) = true := by decide +kernel
theorem tfE_277 : tF 277 = true → ∀ pc, tkX 277 pc = true := fun _ => tfG tfD_277 (fun pc h => by show (bif Nat.blt pc 27 then _ else none) = none; rw [h]; rfl)
theorem tfD_278 : (List.range 23).all (fun pc => tkX 278 pc) = true := by decide +kernel
theorem tfE_278 : tF 278 = true → ∀ pc, tkX 278 pc = true := fun _ => tfG tfD_278 (fun pc h => by show (bif Nat.blt pc 23 then _ else none) = none; rw [h]; rfl)
theorem tfD_279 : (List.range 26).all (fun pc => tkX 279 pc) = true := by decide +kernel
theorem tfE_279 : tF 279 = true → ∀ pc, tkX 279 pc = true := fun _ => tfG tfD_279 (fun pc h => by show (bif Nat.blt pc 26 then _ else none) = none; rw [h]; rfl)
theorem tfD_280 : (List.range 17).all (fun pc => tkX 280 pc) = true := by decide +kernel
theorem tfE_280 : tF 280 = true → ∀ pc, tkX 280 pc = true := fun _ => tfG tfD_280 (fun pc h => by show (bif Nat.blt pc 17 then _ else none) = none; rw [h]; rfl)
theorem tfD_281 : (List.range 15).all (fun pc => tkX 281 pc) = true := by decide +kernel
theorem tfE_281 : tF 281 = true → ∀ pc, tkX 281 pc = true := fun _ => tfG tfD_281 (fun pc h => by show (bif Nat.blt pc 15 then _ else none) = none; rw [h]; rfl)
theorem tfD_282 : (List.range 17).all (fun pc => tkX 282 pc) = true := by decide +kernel
theorem tfE_282 : tF 282 = true → ∀ pc, tkX 282 pc = true := fun _ => tfG tfD_282 (fun pc h => by show (bif Nat.blt pc 17 then _ else none) = none; rw [h]; rfl)
theorem tfD_283 : (List.range 17).all (fun pc => tkX 283 pc) = true := by decide +kernel
theorem tfE_283 : tF 283 = true → ∀ pc, tkX 283 pc = true := fun _ => tfG tfD_283 (fun pc h => by show (bif Nat.blt pc 17 then _ else none) = none; rw [h]; rfl)
theorem tfD_284 : (List.range 29).all (fun pc => tkX 284 pc) = true := by decide +kernel
theorem tfE_284 : tF 284 = true → ∀ pc, tkX 284 pc = true := fun _ => tfG tfD_284 (fun pc h => by show (bif Nat.blt pc 29 then _ else none) = none; rw [h]; rfl)
theorem tfD_285 : (List.range 21).all (fun pc => tkX 285 pc) = true := by decide +kernel
theorem tfE_285 : tF 285 = true → ∀ pc, tkX 285 pc = true := fun _ => tfG tfD_285 (fun pc h => by show (bif Nat.blt pc 21 then _ else none) = none; rw [h]; rfl)
theorem tfD_286 : (List.range 23).all (fun pc => tkX 286 pc) = true := by decide +kernel
theorem tfE_286 : tF 286 = true → ∀ pc, tkX 286 pc = true := fun _ => tfG tfD_286 (fun pc h => by show (bif Nat.blt pc 23 then _ else none) = none; rw [h]; rfl)
theorem tfD_287 : (List.range 23).all (fun pc => tkX 287 pc) = true := by decide +kernel
theorem tfE_287 : tF 287 = true → ∀ pc, tkX 287 pc = true := fun _ => tfG tfD_287 (fun pc h => by show (bif Nat.blt pc 23 then _ else none) = none; rw [h]; rfl)
theorem tfD_288 : (List.range 17).all (fun pc => tkX 288 pc) = true := by decide +kernel
theorem tfE_288 : tF 288 = true → ∀ pc, tkX 288 pc = true := fun _ => tfG tfD_288 (fun pc h => by show (bif Nat.blt pc 17 then _ else none) = none; rw [h]; rfl)
theorem tfD_289 : (List.range 19).all (fun pc => tkX 289 pc) = true := by decide +kernel
theorem tfE_289 : tF 289 = true → ∀ pc, tkX 289 pc = true := fun _ => tfG tfD_289 (fun pc h => by show (bif Nat.blt pc 19 then _ else none) = none; rw [h]; rfl)
theorem tfD_290 : (List.range 26).all (fun pc => tkX 290 pc) = true := by decide +kernel
theorem tfE_290 : tF 290 = true → ∀ pc, tkX 290 pc = true := fun _ => tfG tfD_290 (fun pc h => by show (bif Nat.blt pc 26 then _ else none) = none; rw [h]; rfl)
theorem tfD_291 : (List.range 29).all (fun pc => tkX 291 pc) = true := by decide +kernel
theorem tfE_291 : tF 291 = true → ∀ pc, tkX 291 pc = true := fun _ => tfG tfD_291 (fun pc h => by show (bif Nat.blt pc 29 then _ else none) = none; rw [h]; rfl)
theorem tfD_292 : (List.range 23).all (fun pc => tkX 292 pc) = true := by decide +kernel
theorem tfE_292 : tF 292 = true → ∀ pc, tkX 292 pc = true := fun _ => tfG tfD_292 (fun pc h => by show (bif Nat.blt pc 23 then _ else none) = none; rw [h]; rfl)
theorem tfD_293 : (List.range 23).all (fun pc => tkX 293 pc) = true := by decide +kernel
theorem tfE_293 : tF 293 = true → ∀ pc, tkX 293 pc = true := fun _ => tfG tfD_293 (fun pc h => by show (bif Nat.blt pc 23 then _ else none) = none; rw [h]; rfl)
theorem tfD_294 : (List.range 25).all (fun pc => tkX 294 pc) = true := by decide +kernel
theorem tfE_294 : tF 294 = true → ∀ pc, tkX 294 pc = true := fun _ => tfG tfD_294 (fun pc h => by show (bif Nat.blt pc 25 then _ else none) = none; rw [h]; rfl)
theorem tfD_295 : (List.range 25).all (fun pc => tkX 295 pc) = true := by decide +kernel
theorem tfE_295 : tF 295 = true → ∀ pc, tkX 295 pc = true := fun _ => tfG tfD_295 (fun pc h => by show (bif Nat.blt pc 25 then _ else none) = none; rw [h]; rfl)
theorem tfD_296 : (List.range 23).all (fun pc => tkX 296 pc) = true := by decide +kernel
theorem tfE_296 : tF 296 = true → ∀ pc, tkX 296 pc = true := fun _ => tfG tfD_296 (fun pc h => by show (bif Nat.blt pc 23 then _ else none) = none; rw [h]; rfl)
theorem tfD_297 : (List.range 23).all (fun pc => tkX 297 pc) = true := by decide +kernel
theorem tfE_297 : tF 297 = true → ∀ pc, tkX 297 pc = true := fun _ => tfG tfD_297 (fun pc h => by show (bif Nat.blt pc 23 then _ else none) = none; rw [h]; rfl)
theorem tfD_298 : (List.range 23).all (fun pc => tkX 298 pc) = true := by decide +kernel
theorem tfE_298 : tF 298 = true → ∀ pc, tkX 298 pc = true := fun _ => tfG tfD_298 (fun pc h => by show (bif Nat.blt pc 23 then _ else none) = none; rw [h]; rfl)
theorem tfD_299 : (List.range 20).all (fun pc => tkX 299 pc) = true := by decide +kernel
theorem tfE_299 : tF 299 = true → ∀ pc, tkX 299 pc = true := fun _ => tfG tfD_299 (fun pc h => by show (bif Nat.blt pc 20 then _ else none) = none; rw [h]; rfl)
theorem tfD_300 : (List.range 23).all (fun pc => tkX 300 pc) = true := by decide +kernel
theorem tfE_300 : tF 300 = true → ∀ pc, tkX 300 pc = true := fun _ => tfG tfD_300 (fun pc h => by show (bif Nat.blt pc 23 then _ else none) = none; rw [h]; rfl)
theorem tfD_301 : (List.range 20).all (fun pc => tkX 301 pc) = true := by decide +kernel
theorem tfE_301 : tF 301 = true → ∀ pc, tkX 301 pc = true := fun _ => tfG tfD_301 (fun pc h => by show (bif Nat.blt pc 20 then _ else none) = none; rw [h]; rfl)
theorem tfD_302 : (List.range 25).all (fun pc => tkX 302 pc) = true := by decide +kernel
theorem tfE_302 : tF 302 = true → ∀ pc, tkX 302 pc = true := fun _ => tfG tfD_302 (fun pc h => by show (bif Nat.blt pc 25 then _ else none) = none; rw [h]; rfl)
theorem tfD_303 : (List.range 23).all (fun pc => tkX 303 pc) = true := by decide +kernel
theorem tfE_303 : tF 303 = true → ∀ pc, tkX 303 pc = true := fun _ => tfG tfD_303 (fun pc h => by show (bif Nat.blt pc 23 then _ else none) = none; rw [h]; rfl)
theorem tfD_304 : (List.range 17).all (fun pc => tkX 304 pc) = true := by decide +kernel
theorem tfE_304 : tF 304 = true → ∀ pc, tkX 304 pc = true := fun _ => tfG tfD_304 (fun pc h => by show (bif Nat.blt pc 17 then _ else none) = none; rw [h]; rfl)
theorem tfE_305 : tF 305 = true → ∀ pc, tkX 305 pc = true := fun h => absurd h (by decide)
theorem tfE_306 : tF 306 = true → ∀ pc, tkX 306 pc = true := fun h => absurd h (by decide)
theorem tfD_307 : (List.range 16).all (fun pc => tkX 307 pc) = true := by decide +kernel
theorem tfE_307 : tF 307 = true → ∀ pc, tkX 307 pc = true := fun _ => tfG tfD_307 (fun pc h => by show (bif Nat.blt pc 16 then _ else none) = none; rw [h]; rfl)
theorem tfD_308 : (List.range 19).all (fun pc => tkX 308 pc) = true := by decide +kernel
theorem tfE_308 : tF 308 = true → ∀ pc, tkX 308 pc = true := fun _ => tfG tfD_308 (fun pc h => by show (bif Nat.blt pc 19 then _ else none) = none; rw [h]; rfl)
theorem tfE_309 : tF 309 = true → ∀ pc, tkX 309 pc = true := fun h => absurd h (by decide)
theorem tfD_310 : (List.range 53).all (fun pc => tkX 310 pc) = true := by decide +kernel
theorem tfE_310 : tF 310 = true → ∀ pc, tkX 310 pc = true := fun _ => tfG tfD_310 (fun pc h => by show (bif Nat.blt pc 53 then _ else none) = none; rw [h]; rfl)
theorem tfD_311 : (List.range 21).all (fun pc => tkX 311 pc) = true := by decide +kernel
theorem tfE_311 : tF 311 = true → ∀ pc, tkX 311 pc = true := fun _ => tfG tfD_311 (fun pc h => by show (bif Nat.blt pc 21 then _ else none) = none; rw [h]; rfl)
theorem tfD_312 : (List.range 11).all (fun pc => tkX 312 pc) = true := by decide +kernel
theorem tfE_312 : tF 312 = true → ∀ pc, tkX 312 pc = true := fun _ => tfG tfD_312 (fun pc h => by show (bif Nat.blt pc 11 then _ else none) = none; rw [h]; rfl)
theorem tfD_313 : (List.range 15).all (fun pc => tkX 313 pc) = true := by decide +kernel
theorem tfE_313 : tF 313 = true → ∀ pc, tkX 313 pc = true := fun _ => tfG tfD_313 (fun pc h => by show (bif Nat.blt pc 15 then _ else none) = none; rw [h]; rfl)
theorem tfD_314 : (List.range 19).all (fun pc => tkX 314 pc) = true := by decide +kernel
theorem tfE_314 : tF 314 = true → ∀ pc, tkX 314 pc = true := fun _ => tfG tfD_314 (fun pc h => by show (bif Nat.blt pc 19 then _ else none) = none; rw [h]; rfl)
theorem tfD_315 : (List.range 25).all (fun pc => tkX 315 pc) = true := by decide +kernel
theorem tfE_315 : tF 315 = true → ∀ pc, tkX 315 pc = true := fun _ => tfG tfD_315 (fun pc h => by show (bif Nat.blt pc 25 then _ else none) = none; rw [h]; rfl)
theorem tfD_316 : (List.range 15).all (fun pc => tkX 316 pc) = true := by decide +kernel
theorem tfE_316 : tF 316 = true → ∀ pc, tkX 316 pc = true := fun _ => tfG tfD_316 (fun pc h => by show (bif Nat.blt pc 15 then _ else none) = none; rw [h]; rfl)
theorem tfD_317 : (List.range 23).all (fun pc => tkX 317 pc) = true := by decide +kernel
theorem tfE_317 : tF 317 = true → ∀ pc, tkX 317 pc = true := fun _ => tfG tfD_317 (fun pc h => by show (bif Nat.blt pc 23 then _ else none) = none; rw [h]; rfl)
theorem tfD_318 : (List.range 53).all (fun pc => tkX 318 pc) = true := by decide +kernel
theorem tfE_318 : tF 318 = true → ∀ pc, tkX 318 pc = true := fun _ => tfG tfD_318 (fun pc h => by show (bif Nat.blt pc 53 then _ else none) = none; rw [h]; rfl)
theorem tfD_319 : (List.range 25).all (fun pc => tkX 319 pc) = true := by decide +kernel
theorem tfE_319 : tF 319 = true → ∀ pc, tkX 319 pc = true := fun _ => tfG tfD_319 (fun pc h => by show (bif Nat.blt pc 25 then _ else none) = none; rw [h]; rfl)
theorem tfD_320 : (List.range 106).all (fun pc => tkX 320 pc) = true := by decide +kernel
theorem tfE_320 : tF 320 = true → ∀ pc, tkX 320 pc = true := fun _ => tfG tfD_320 (fun pc h => by show (bif Nat.blt pc 106 then _ else none) = none; rw [h]; rfl)
theorem tfD_321 : (List.range 27).all (fun pc => tkX 321 pc) = true := by decide +kernel
theorem tfE_321 : tF 321 = true → ∀ pc, tkX 321 pc = true := fun _ => tfG tfD_321 (fun pc h => by show (bif Nat.blt pc 27 then _ else none) = none; rw [h]; rfl)
theorem tfD_322 : (List.range 11).all (fun pc => tkX 322 pc) = true := by decide +kernel
theorem tfE_322 : tF 322 = true → ∀ pc, tkX 322 pc = true := fun _ => tfG tfD_322 (fun pc h => by show (bif Nat.blt pc 11 then _ else none) = none; rw [h]; rfl)
theorem tfD_323 : (List.range 128).all (fun pc => tkX 323 pc) = true := by decide +kernel
theorem tfE_323 : tF 323 = true → ∀ pc, tkX 323 pc = true := fun _ => tfG tfD_323 (fun pc h => by show (bif Nat.blt pc 128 then _ else none) = none; rw [h]; rfl)
theorem tfD_324 : (List.range 319).all (fun pc => tkX 324 pc) = true := by decide +kernel
theorem tfE_324 : tF 324 = true → ∀ pc, tkX 324 pc = true := fun _ => tfG tfD_324 (fun pc h => by show (bif Nat.blt pc 319 then _ else none) = none; rw [h]; rfl)
theorem tfD_325 : (List.range 413).all (fun pc => tkX 325 pc) = true := by decide +kernel
theorem tfE_325 : tF 325 = true → ∀ pc, tkX 325 pc = true := fun _ => tfG tfD_325 (fun pc h => by show (bif Nat.blt pc 413 then _ else none) = none; rw [h]; rfl)
theorem tfD_326 : (List.range 10).all (fun pc => tkX 326 pc) = true := by decide +kernel
theorem tfE_326 : tF 326 = true → ∀ pc, tkX 326 pc = true := fun _ => tfG tfD_326 (fun pc h => by show (bif Nat.blt pc 10 then _ else none) = none; rw [h]; rfl)
theorem tfD_327 : (List.range 121).all (fun pc => tkX 327 pc) = true := by decide +kernel
theorem tfE_327 : tF 327 = true → ∀ pc, tkX 327 pc = true := fun _ => tfG tfD_327 (fun pc h => by show (bif Nat.blt pc 121 then _ else none) = none; rw [h]; rfl)
theorem tfD_328 : (List.range 121).all (fun pc => tkX 328 pc) = true := by decide +kernel
theorem tfE_328 : tF 328 = true → ∀ pc, tkX 328 pc = true := fun _ => tfG tfD_328 (fun pc h => by show (bif Nat.blt pc 121 then _ else none) = none; rw [h]; rfl)
theorem tfD_329 : (List.range 121).all (fun pc => tkX 329 pc) = true := by decide +kernel
theorem tfE_329 : tF 329 = true → ∀ pc, tkX 329 pc = true := fun _ => tfG tfD_329 (fun pc h => by show (bif Nat.blt pc 121 then _ else none) = none; rw [h]; rfl)
theorem tfD_330 : (List.range 121).all (fun pc => tkX 330 pc) = true := by decide +kernel
theorem tfE_330 : tF 330 = true → ∀ pc, tkX 330 pc = true := fun _ => tfG tfD_330 (fun pc h => by show (bif Nat.blt pc 121 then _ else none) = none; rw [h]; rfl)
theorem tfD_331 : (List.range 121).all (fun pc => tkX 331 pc) = true := by decide +kernel
theorem tfE_331 : tF 331 = true → ∀ pc, tkX 331 pc = true := fun _ => tfG tfD_331 (fun pc h => by show (bif Nat.blt pc 121 then _ else none) = none; rw [h]; rfl)
theorem tfD_332 : (List.range 121).all (fun pc => tkX 332 pc) = true := by decide +kernel
theorem tfE_332 : tF 332 = true → ∀ pc, tkX 332 pc = true := fun _ => tfG tfD_332 (fun pc h => by show (bif Nat.blt pc 121 then _ else none) = none; rw [h]; rfl)
theorem tfD_333 : (List.range 121).all (fun pc => tkX 333 pc) = true := by decide +kernel
theorem tfE_333 : tF 333 = true → ∀ pc, tkX 333 pc = true := fun _ => tfG tfD_333 (fun pc h => by show (bif Nat.blt pc 121 then _ else none) = none; rw [h]; rfl)
theorem tfD_334 : (List.range 522).all (fun pc => tkX 334 pc) = true := by decide +kernel
theorem tfE_334 : tF 334 = true → ∀ pc, tkX 334 pc = true := fun _ => tfG tfD_334 (fun pc h => by show (bif Nat.blt pc 522 then _ else none) = none; rw [h]; rfl)
theorem tfD_335 : (List.range 516).all (fun pc => tkX 335 pc) = true := by decide +kernel
theorem tfE_335 : tF 335 = true → ∀ pc, tkX 335 pc = true := fun _ => tfG tfD_335 (fun pc h => by show (bif Nat.blt pc 516 then _ else none) = none; rw [h]; rfl)
theorem tfD_336 : (List.range 516).all (fun pc => tkX 336 pc) = true := by decide +kernel
theorem tfE_336 : tF 336 = true → ∀ pc, tkX 336 pc = true := fun _ => tfG tfD_336 (fun pc h => by show (bif Nat.blt pc 516 then _ else none) = none; rw [h]; rfl)
theorem tfD_337 : (List.range 516).all (fun pc => tkX 337 pc) = true := by decide +kernel
theorem tfE_337 : tF 337 = true → ∀ pc, tkX 337 pc = true := fun _ => tfG tfD_337 (fun pc h => by show (bif Nat.blt pc 516 then _ else none) = none; rw [h]; rfl)
theorem tfD_338 : (List.range 516).all (fun pc => tkX 338 pc) = true := by decide +kernel
theorem tfE_338 : tF 338 = true → ∀ pc, tkX 338 pc = true := fun _ => tfG tfD_338 (fun pc h => by show (bif Nat.blt pc 516 then _ else none) = none; rw [h]; rfl)
theorem tfD_339 : (List.range 516).all (fun pc => tkX 339 pc) = true := by decide +kernel
theorem tfE_339 : tF 339 = true → ∀ pc, tkX 339 pc = true := fun _ => tfG tfD_339 (fun pc h => by show (bif Nat.blt pc 516 then _ else none) = none; rw [h]; rfl)
theorem tfD_340 : (List.range 516).all (fun pc => tkX 340 pc) = true := by decide +kernel
theorem tfE_340 : tF 340 = true → ∀ pc, tkX 340 pc = true := fun _ => tfG tfD_340 (fun pc h => by show (bif Nat.blt pc 516 then _ else none) = none; rw [h]; rfl)
theorem tfD_341 : (List.range 516).all (fun pc => tkX 341 pc) = true := by decide +kernel
theorem tfE_341 : tF 341 = true → ∀ pc, tkX 341 pc = true := fun _ => tfG tfD_341 (fun pc h => by show (bif Nat.blt pc 516 then _ else none) = none; rw [h]; rfl)
theorem tfD_342 : (List.range 516).all (fun pc => tkX 342 pc) = true := by decide +kernel
theorem tfE_342 : tF 342 = true → ∀ pc, tkX 342 pc = true := fun _ => tfG tfD_342 (fun pc h => by show (bif Nat.blt pc 516 then _ else none) = none; rw [h]; rfl)
theorem tfD_343 : (List.range 516).all (fun pc => tkX 343 pc) = true := by decide +kernel
theorem tfE_343 : tF 343 = true → ∀ pc, tkX 343 pc = true := fun _ => tfG tfD_343 (fun pc h => by show (bif Nat.blt pc 516 then _ else none) = none; rw [h]; rfl)
theorem tfD_344 : (List.range 516).all (fun pc => tkX 344 pc) = true := by decide +kernel
theorem tfE_344 : tF 344 = true → ∀ pc, tkX 344 pc = true := fun _ => tfG tfD_344 (fun pc h => by show (bif Nat.blt pc 516 then _ else none) = none; rw [h]; rfl)
theorem tfD_345 : (List.range 516).all (fun pc => tkX 345 pc) = true := by decide +kernel
theorem tfE_345 : tF 345 = true → ∀ pc, tkX 345 pc = true := fun _ => tfG tfD_345 (fun pc h => by show (bif Nat.blt pc 516 then _ else none) = none; rw [h]; rfl)
theorem tfD_346 : (List.range 32).all (fun pc => tkX 346 pc) = true := by decide +kernel
theorem tfE_346 : tF 346 = true → ∀ pc, tkX 346 pc = true := fun _ => tfG tfD_346 (fun pc h => by show (bif Nat.blt pc 32 then _ else none) = none; rw [h]; rfl)
theorem tfD_347 : (List.range 10).all (fun pc => tkX 347 pc) = true := by decide +kernel
theorem tfE_347 : tF 347 = true → ∀ pc, tkX 347 pc = true := fun _ => tfG tfD_347 (fun pc h => by show (bif Nat.blt pc 10 then _ else none) = none; rw [h]; rfl)
theorem tfD_348 : (List.range 335).all (fun pc => tkX 348 pc) = true := by decide +kernel
theorem tfE_348 : tF 348 = true → ∀ pc, tkX 348 pc = true := fun _ => tfG tfD_348 (fun pc h => by show (bif Nat.blt pc 335 then _ else none) = none; rw [h]; rfl)
theorem tfD_349 : (List.range 13).all (fun pc => tkX 349 pc) = true := by decide +kernel
theorem tfE_349 : tF 349 = true → ∀ pc, tkX 349 pc = true := fun _ => tfG tfD_349 (fun pc h => by show (bif Nat.blt pc 13 then _ else none) = none; rw [h]; rfl)
theorem tfD_350 : (List.range 10).all (fun pc => tkX 350 pc) = true := by decide +kernel
theorem tfE_350 : tF 350 = true → ∀ pc, tkX 350 pc = true := fun _ => tfG tfD_350 (fun pc h => by show (bif Nat.blt pc 10 then _ else none) = none; rw [h]; rfl)
theorem tfD_351 : (List.range 114).all (fun pc => tkX 351 pc) = true := by decide +kernel
theorem tfE_351 : tF 351 = true → ∀ pc, tkX 351 pc = true := fun _ => tfG tfD_351 (fun pc h => by show (bif Nat.blt pc 114 then _ else none) = none; rw [h]; rfl)
theorem tfD_352 : (List.range 232).all (fun pc => tkX 352 pc) = true := by decide +kernel
theorem tfE_352 : tF 352 = true → ∀ pc, tkX 352 pc = true := fun _ => tfG tfD_352 (fun pc h => by show (bif Nat.blt pc 232 then _ else none) = none; rw [h]; rfl)
theorem tfD_353 : (List.range 29).all (fun pc => tkX 353 pc) = true := by decide +kernel
theorem tfE_353 : tF 353 = true → ∀ pc, tkX 353 pc = true := fun _ => tfG tfD_353 (fun pc h => by show (bif Nat.blt pc 29 then _ else none) = none; rw [h]; rfl)
theorem tfD_354 : (List.range 216).all (fun pc => tkX 354 pc) = true := by decide +kernel
theorem tfE_354 : tF 354 = true → ∀ pc, tkX 354 pc = true := fun _ => tfG tfD_354 (fun pc h => by show (bif Nat.blt pc 216 then _ else none) = none; rw [h]; rfl)
theorem tfs {p : Nat → Prop} {n : Nat} (h : ∀ j, j < n → p j) (h2 : p n) : ∀ j, j < n + 1 → p j := fun j hj => by
  by_cases e : j = n
  · subst e; exact h2
  · exact h j (by omega)
theorem tfA_30 : ∀ j, j < 30 → tF j = true → ∀ pc, tkX j pc = true := tfs (p := fun j => tF j = true → ∀ pc, tkX j pc = true) (tfs (p := fun j => tF j = true → ∀ pc, tkX j pc = true) (tfs (p := fun j => tF j = true → ∀ pc, tkX j pc = true) (tfs (p := fun j => tF j = true → ∀ pc, tkX j pc = true) (tfs (p := fun j => tF j = true → ∀ pc, tkX j pc = true) (tfs (p := fun j => tF j = true → ∀ pc, tkX j pc = true) (tfs (p := fun j => tF j = true → ∀ pc, tkX j pc = true) (tfs (p := fun j => tF j = true → ∀ pc, tkX j pc = true) (tfs (p := fun j => tF j = true → ∀ pc, tkX j pc = true) (tfs (p := fun j => tF j = true → ∀ pc, tkX j pc = true) (tfs (p := fun j => tF j = true → ∀ pc, tkX j pc = true) (tfs (p := fun j => tF j = true → ∀ pc, tkX j pc = true) (tfs (p := fun j => tF j = true → ∀ pc, tkX j pc = true) (tfs (p := fun j => tF j = true → ∀ pc, tkX j pc = true) (tfs (p := fun j => tF j = true → ∀ pc, tkX j pc = true) (tfs (p := fun j => tF j = true → ∀ pc, tkX j pc = true) (tfs (p := fun j => tF j = true → ∀ pc, tkX j pc = true) (tfs (p := fun j => tF j = true → ∀ pc, tkX j pc = true) (tfs (p := fun j => tF j = true → ∀ pc, tkX j pc = true) (tfs (p := fun j => tF j = true → ∀ pc, tkX j pc = true) (tfs (p := fun j => tF j = true → ∀ pc, tkX j pc = true) (tfs (p := fun j => tF j = true → ∀ pc, tkX j pc = true) (tfs (p := fun j => tF j = true → ∀ pc, tkX j pc = true) (tfs (p := fun j => tF j = true → ∀ pc, tkX j pc = true) (tfs (p := fun j => tF j = true → ∀ pc, tkX j pc = true) (tfs (p := fun j => tF j = true → ∀ pc, tkX j pc = true) (tfs (p := fun j => tF j = true → ∀ pc, tkX j pc = true) (tfs (p := fun j => tF j = true → ∀ pc, tkX j pc = true) (tfs (p := fun j => tF j = true → ∀ pc, tkX j pc = true) (tfs (p := fun j => tF j = true → ∀ pc, tkX j pc = true) ((fun j hj => absurd hj (Nat.not_lt_zero j))) tfE_0) tfE_1) tfE_2) tfE_3) tfE_4) tfE_5) tfE_6) tfE_7) tfE_8) tfE_9) tfE_10) tfE_11) tfE_12) tfE_13) tfE_14) tfE_15) tfE_16) tfE_17) tfE_18) tfE_19) tfE_20) tfE_21) tfE_22) tfE_23) tfE_24) tfE_25) tfE_26) tfE_27) tfE_28) tfE_29
theorem tfA_60 : ∀ j, j < 60 → tF j = true → ∀ pc, tkX j pc = true := tfs (p := fun j => tF j = true → ∀ pc, tkX j pc = true) (tfs (p := fun j => tF j = true → ∀ pc, tkX j pc = true) (tfs (p := fun j => tF j = true → ∀ pc, tkX j pc = true) (tfs (p := fun j => tF j = true → ∀ pc, tkX j pc = true) (tfs (p := fun j => tF j = true → ∀ pc, tkX j pc = true) (tfs (p := fun j => tF j = true → ∀ pc, tkX j pc = true) (tfs (p := fun j => tF j = true → ∀ pc, tkX j pc = true) (tfs (p := fun j => tF j = true → ∀ pc, tkX j pc = true) (tfs (p := fun j => tF j = true → ∀ pc, tkX j pc = true) (tfs (p := fun j => tF j = true → ∀ pc, tkX j pc = true) (tfs (p := fun j => tF j = true → ∀ pc, tkX j pc = true) (tfs (p := fun j => tF j = true → ∀ pc, tkX j pc = true) (tfs (p := fun j => tF j = true → ∀ pc, tkX j pc = true) (tfs (p := fun j => tF j = true → ∀ pc, tkX j pc = true) (tfs (p := fun j => tF j = true → ∀ pc, tkX j pc = true) (tfs (p := fun j => tF j = true → ∀ pc, tkX j pc = true) (tfs (p := fun j => tF j = true → ∀ pc, tkX j pc = true) (tfs (p := fun j => tF j = true → ∀ pc, tkX j pc = true) (tfs (p := fun j => tF j = true → ∀ pc, tkX j pc = true) (tfs (p := fun j => tF j = true → ∀ pc, tkX j pc = true) (tfs (p := fun j => tF j = true → ∀ pc, tkX j pc = true) (tfs (p := fun j => tF j = true → ∀ pc, tkX j pc = true) (tfs (p := fun j => tF j = true → ∀ pc, tkX j pc = true) (tfs (p := fun j => tF j = true → ∀ pc, tkX j pc = true) (tfs (p := fun j => tF j = true → ∀ pc, tkX j pc = true) (tfs (p := fun j => tF j = true → ∀ pc, tkX j pc = true) (tfs (p := fun j => tF j = true → ∀ pc, tkX j pc = true) (tfs (p := fun j => tF j = true → ∀ pc, tkX j pc = true) (tfs (p := fun j => tF j = true → ∀ pc, tkX j pc = true) (tfs (p := fun j => tF j = true → ∀ pc, tkX j pc = true) (tfA_30) tfE_30) tfE_31) tfE_32) tfE_33) tfE_34) tfE_35) tfE_36) tfE_37) tfE_38) tfE_39) tfE_40) tfE_41) tfE_42) tfE_43) tfE_44) tfE_45) tfE_46) tfE_47) tfE_48) tfE_49) tfE_50) tfE_51) tfE_52) tfE_53) tfE_54) tfE_55) tfE_56) tfE_57) tfE_58) tfE_59
theorem tfA_90 : ∀ j, j < 90 → tF j = true → ∀ pc, tkX j pc = true := tfs (p := fun j => tF j = true → ∀ pc, tkX j pc = true) (tfs (p := fun j => tF j = true → ∀ pc, tkX j pc = true) (tfs (p := fun j => tF j = true → ∀ pc, tkX j pc = true) (tfs (p := fun j => tF j = true → ∀ pc, tkX j pc = true) (tfs (p := fun j => tF j = true → ∀ pc, tkX j pc = true) (tfs (p := fun j => tF j = true → ∀ pc, tkX j pc = true) (tfs (p := fun j => tF j = true → ∀ pc, tkX j pc = true) (tfs (p := fun j => tF j = true → ∀ pc, tkX j pc = true) (tfs (p := fun j => tF j = true → ∀ pc, tkX j pc = true) (tfs (p := fun j => tF j = true → ∀ pc, tkX j pc = true) (tfs (p := fun j => tF j = true → ∀ pc, tkX j pc = true) (tfs (p := fun j => tF j = true → ∀ pc, tkX j pc = true) (tfs (p := fun j => tF j = true → ∀ pc, tkX j pc = true) (tfs (p := fun j => tF j = true → ∀ pc, tkX j pc = true) (tfs (p := fun j => tF j = true → ∀ pc, tkX j pc = true) (tfs (p := fun j => tF j = true → ∀ pc, tkX j pc = true) (tfs (p := fun j => tF j = true → ∀ pc, tkX j pc = true) (tfs (p := fun j => tF j = true → ∀ pc, tkX j pc = true) (tfs (p := fun j => tF j = true → ∀ pc, tkX j pc = true) (tfs (p := fun j => tF j = true → ∀ pc, tkX j pc = true) (tfs (p := fun j => tF j = true → ∀ pc, tkX j pc = true) (tfs (p := fun j => tF j = true → ∀ pc, tkX j pc = true) (tfs (p := fun j => tF j = true → ∀ pc, tkX j pc = true) (tfs (p := fun j => tF j = true → ∀ pc, tkX j pc = true) (tfs (p := fun j => tF j = true → ∀ pc, tkX j pc = true) (tfs (p := fun j => tF j = true → ∀ pc, tkX j pc = true) (tfs (p := fun j => tF j = true → ∀ pc, tkX j pc = true) (tfs (p := fun j => tF j = true → ∀ pc, tkX j pc = true) (tfs (p := fun j => tF j = true → ∀ pc, tkX j pc = true) (tfs (p := fun j => tF j = true → ∀ pc, tkX j pc = true) (tfA_60) tfE_60) tfE_61) tfE_62) tfE_63) tfE_64) tfE_65) tfE_66) tfE_67) tfE_68) tfE_69) tfE_70) tfE_71) tfE_72) tfE_73) tfE_74) tfE_75) tfE_76) tfE_77) tfE_78) tfE_79) tfE_80) tfE_81) tfE_82) tfE_83) tfE_84) tfE_85) tfE_86) tfE_87) tfE_88) tfE_89
theorem tfA_120 : ∀ j, j < 120 → tF j = true → ∀ pc, tkX j pc = true := tfs (p := fun j => tF j = true → ∀ pc, tkX j pc = true) (tfs (p := fun j => tF j = true → ∀ pc, tkX j pc = true) (tfs (p := fun j => tF j = true → ∀ pc, tkX j pc = true) (tfs (p := fun j => tF j = true → ∀ pc, tkX j pc = true) (tfs (p := fun j => tF j = true → ∀ pc, tkX j pc = true) (tfs (p := fun j => tF j = true → ∀ pc, tkX j pc = true) (tfs (p := fun j => tF j = true → ∀ pc, tkX j pc = true) (tfs (p := fun j => tF j = true → ∀ pc, tkX j pc = true) (tfs (p := fun j => tF j = true → ∀ pc, tkX j pc = true) (tfs (p := fun j => tF j = true → ∀ pc, tkX j pc = true) (tfs (p := fun j => tF j = true → ∀ pc, tkX j pc = true) (tfs (p := fun j => tF j = true → ∀ pc, tkX j pc = true) (tfs (p := fun j => tF j = true → ∀ pc, tkX j pc = true) (tfs (p := fun j => tF j = true → ∀ pc, tkX j pc = true) (tfs (p := fun j => tF j = true → ∀ pc, tkX j pc = true) (tfs (p := fun j => tF j = true → ∀ pc, tkX j pc = true) (tfs (p := fun j => tF j = true → ∀ pc, tkX j pc = true) (tfs (p := fun j => tF j = true → ∀ pc, tkX j pc = true) (tfs (p := fun j => tF j = true → ∀ pc, tkX j pc = true) (tfs (p := fun j => tF j = true → ∀ pc, tkX j pc = true) (tfs (p := fun j => tF j = true → ∀ pc, tkX j pc = true) (tfs (p := fun j => tF j = true → ∀ pc, tkX j pc = true) (tfs (p := fun j => tF j = true → ∀ pc, tkX j pc = true) (tfs (p := fun j => tF j = true → ∀ pc, tkX j pc = true) (tfs (p := fun j => tF j = true → ∀ pc, tkX j pc = true) (tfs (p := fun j => tF j = true → ∀ pc, tkX j pc = true) (tfs (p := fun j => tF j = true → ∀ pc, tkX j pc = true) (tfs (p := fun j => tF j = true → ∀ pc, tkX j pc = true) (tfs (p := fun j => tF j = true → ∀ pc, tkX j pc = true) (tfs (p := fun j => tF j = true → ∀ pc, tkX j pc = true) (tfA_90) tfE_90) tfE_91) tfE_92) tfE_93) tfE_94) tfE_95) tfE_96) tfE_97) tfE_98) tfE_99) tfE_100) tfE_101) tfE_102) tfE_103) tfE_104) tfE_105) tfE_106) tfE_107) tfE_108) tfE_109) tfE_110) tfE_111) tfE_112) tfE_113) tfE_114) tfE_115) tfE_116) tfE_117) tfE_118) tfE_119
theorem tfA_150 : ∀ j, j < 150 → tF j = true → ∀ pc, tkX j pc = true := tfs (p := fun j => tF j = true → ∀ pc, tkX j pc = true) (tfs (p := fun j => tF j = true → ∀ pc, tkX j pc = true) (tfs (p := fun j => tF j = true → ∀ pc, tkX j pc = true) (tfs (p := fun j => tF j = true → ∀ pc, tkX j pc = true) (tfs (p := fun j => tF j = true → ∀ pc, tkX j pc = true) (tfs (p := fun j => tF j = true → ∀ pc, tkX j pc = true) (tfs (p := fun j => tF j = true → ∀ pc, tkX j pc = true) (tfs (p := fun j => tF j = true → ∀ pc, tkX j pc = true) (tfs (p := fun j => tF j = true → ∀ pc, tkX j pc = true) (tfs (p := fun j => tF j = true → ∀ pc, tkX j pc = true) (tfs (p := fun j => tF j = true → ∀ pc, tkX j pc = true) (tfs (p := fun j => tF j = true → ∀ pc, tkX j pc = true) (tfs (p := fun j => tF j = true → ∀ pc, tkX j pc = true) (tfs (p := fun j => tF j = true → ∀ pc, tkX j pc = true) (tfs (p := fun j => tF j = true → ∀ pc, tkX j pc = true) (tfs (p := fun j => tF j = true → ∀ pc, tkX j pc = true) (tfs (p := fun j => tF j = true → ∀ pc, tkX j pc = true) (tfs (p := fun j => tF j = true → ∀ pc, tkX j pc = true) (tfs (p := fun j => tF j = true → ∀ pc, tkX j pc = true) (tfs (p := fun j => tF j = true → ∀ pc, tkX j pc = true) (tfs (p := fun j => tF j = true → ∀ pc, tkX j pc = true) (tfs (p := fun j => tF j = true → ∀ pc, tkX j pc = true) (tfs (p := fun j => tF j = true → ∀ pc, tkX j pc = true) (tfs (p := fun j => tF j = true → ∀ pc, tkX j pc = true) (tfs (p := fun j => tF j = true → ∀ pc, tkX j pc = true) (tfs (p := fun j => tF j = true → ∀ pc, tkX j pc = true) (tfs (p := fun j => tF j = true → ∀ pc, tkX j pc = true) (tfs (p := fun j => tF j = true → ∀ pc, tkX j pc = true) (tfs (p := fun j => tF j = true → ∀ pc, tkX j pc = true) (tfs (p := fun j => tF j = true → ∀ pc, tkX j pc = true) (tfA_120) tfE_120) tfE_121) tfE_122) tfE_123) tfE_124) tfE_125) tfE_126) tfE_127) tfE_128) tfE_129) tfE_130) tfE_131) tfE_132) tfE_133) tfE_134) tfE_135) tfE_136) tfE_137) tfE_138) tfE_139) tfE_140) tfE_141) tfE_142) tfE_143) tfE_144) tfE_145) tfE_146) tfE_147) tfE_148) tfE_149
theorem tfA_180 : ∀ j, j < 180 → tF j = true → ∀ pc, tkX j pc = true := tfs (p := fun j => tF j = true → ∀ pc, tkX j pc = true) (tfs (p := fun j => tF j = true → ∀ pc, tkX j pc = true) (tfs (p := fun j => tF j = true → ∀ pc, tkX j pc = true) (tfs (p := fun j => tF j = true → ∀ pc, tkX j pc = true) (tfs (p := fun j => tF j = true → ∀ pc, tkX j pc = true) (tfs (p := fun j => tF j = true → ∀ pc, tkX j pc = true) (tfs (p := fun j => tF j = true → ∀ pc, tkX j pc = true) (tfs (p := fun j => tF j = true → ∀ pc, tkX j pc = true) (tfs (p := fun j => tF j = true → ∀ pc, tkX j pc = true) (tfs (p := fun j => tF j = true → ∀ pc, tkX j pc = true) (tfs (p := fun j => tF j = true → ∀ pc, tkX j pc = true) (tfs (p := fun j => tF j = true → ∀ pc, tkX j pc = true) (tfs (p := fun j => tF j = true → ∀ pc, tkX j pc = true) (tfs (p := fun j => tF j = true → ∀ pc, tkX j pc = true) (tfs (p := fun j => tF j = true → ∀ pc, tkX j pc = true) (tfs (p := fun j => tF j = true → ∀ pc, tkX j pc = true) (tfs (p := fun j => tF j = true → ∀ pc, tkX j pc = true) (tfs (p := fun j => tF j = true → ∀ pc, tkX j pc = true) (tfs (p := fun j => tF j = true → ∀ pc, tkX j pc = true) (tfs (p := fun j => tF j = true → ∀ pc, tkX j pc = true) (tfs (p := fun j => tF j = true → ∀ pc, tkX j pc = true) (tfs (p := fun j => tF j = true → ∀ pc, tkX j pc = true) (tfs (p := fun j => tF j = true → ∀ pc, tkX j pc = true) (tfs (p := fun j => tF j = true → ∀ pc, tkX j pc = true) (tfs (p := fun j => tF j = true → ∀ pc, tkX j pc = true) (tfs (p := fun j => tF j = true → ∀ pc, tkX j pc = true) (tfs (p := fun j => tF j = true → ∀ pc, tkX j pc = true) (tfs (p := fun j => tF j = true → ∀ pc, tkX j pc = true) (tfs (p := fun j => tF j = true → ∀ pc, tkX j pc = true) (tfs (p := fun j => tF j = true → ∀ pc, tkX j pc = true) (tfA_150) tfE_150) tfE_151) tfE_152) tfE_153) tfE_154) tfE_155) tfE_156) tfE_157) tfE_158) tfE_159) tfE_160) tfE_161) tfE_162) tfE_163) tfE_164) tfE_165) tfE_166) tfE_167) tfE_168) tfE_169) tfE_170) tfE_171) tfE_172) tfE_173) tfE_174) tfE_175) tfE_176) tfE_177) tfE_178) tfE_179
theorem tfA_210 : ∀ j, j < 210 → tF j = true → ∀ pc, tkX j pc = true := tfs (p := fun j => tF j = true → ∀ pc, tkX j pc = true) (tfs (p := fun j => tF j = true → ∀ pc, tkX j pc = true) (tfs (p := fun j => tF j = true → ∀ pc, tkX j pc = true) (tfs (p := fun j => tF j = true → ∀ pc, tkX j pc = true) (tfs (p := fun j => tF j = true → ∀ pc, tkX j pc = true) (tfs (p := fun j => tF j = true → ∀ pc, tkX j pc = true) (tfs (p := fun j => tF j = true → ∀ pc, tkX j pc = true) (tfs (p := fun j => tF j = true → ∀ pc, tkX j pc = true) (tfs (p := fun j => tF j = true → ∀ pc, tkX j pc = true) (tfs (p := fun j => tF j = true → ∀ pc, tkX j pc = true) (tfs (p := fun j => tF j = true → ∀ pc, tkX j pc = true) (tfs (p := fun j => tF j = true → ∀ pc, tkX j pc = true) (tfs (p := fun j => tF j = true → ∀ pc, tkX j pc = true) (tfs (p := fun j => tF j = true → ∀ pc, tkX j pc = true) (tfs (p := fun j => tF j = true → ∀ pc, tkX j pc = true) (tfs (p := fun j => tF j = true → ∀ pc, tkX j pc = true) (tfs (p := fun j => tF j = true → ∀ pc, tkX j pc = true) (tfs (p := fun j => tF j = true → ∀ pc, tkX j pc = true) (tfs (p := fun j => tF j = true → ∀ pc, tkX j pc = true) (tfs (p := fun j => tF j = true → ∀ pc, tkX j pc = true) (tfs (p := fun j => tF j = true → ∀ pc, tkX j pc = true) (tfs (p := fun j => tF j = true → ∀ pc, tkX j pc = true) (tfs (p := fun j => tF j = true → ∀ pc, tkX j pc = true) (tfs (p := fun j => tF j = true → ∀ pc, tkX j pc = true) (tfs (p := fun j => tF j = true → ∀ pc, tkX j pc = true) (tfs (p := fun j => tF j = true → ∀ pc, tkX j pc = true) (tfs (p := fun j => tF j = true → ∀ pc, tkX j pc = true) (tfs (p := fun j => tF j = true → ∀ pc, tkX j pc = true) (tfs (p := fun j => tF j = true → ∀ pc, tkX j pc = true) (tfs (p := fun j => tF j = true → ∀ pc, tkX j pc = true) (tfA_180) tfE_180) tfE_181) tfE_182) tfE_183) tfE_184) tfE_185) tfE_186) tfE_187) tfE_188) tfE_189) tfE_190) tfE_191) tfE_192) tfE_193) tfE_194) tfE_195) tfE_196) tfE_197) tfE_198) tfE_199) tfE_200) tfE_201) tfE_202) tfE_203) tfE_204) tfE_205) tfE_206) tfE_207) tfE_208) tfE_209
theorem tfA_240 : ∀ j, j < 240 → tF j = true → ∀ pc, tkX j pc = true := tfs (p := fun j => tF j = true → ∀ pc, tkX j pc = true) (tfs (p := fun j => tF j = true → ∀ pc, tkX j pc = true) (tfs (p := fun j => tF j = true → ∀ pc, tkX j pc = true) (tfs (p := fun j => tF j = true → ∀ pc, tkX j pc = true) (tfs (p := fun j => tF j = true → ∀ pc, tkX j pc = true) (tfs (p := fun j => tF j = true → ∀ pc, tkX j pc = true) (tfs (p := fun j => tF j = true → ∀ pc, tkX j pc = true) (tfs (p := fun j => tF j = true → ∀ pc, tkX j pc = true) (tfs (p := fun j => tF j = true → ∀ pc, tkX j pc = true) (tfs (p := fun j => tF j = true → ∀ pc, tkX j pc = true) (tfs (p := fun j => tF j = true → ∀ pc, tkX j pc = true) (tfs (p := fun j => tF j = true → ∀ pc, tkX j pc = true) (tfs (p := fun j => tF j = true → ∀ pc, tkX j pc = true) (tfs (p := fun j => tF j = true → ∀ pc, tkX j pc = true) (tfs (p := fun j => tF j = true → ∀ pc, tkX j pc = true) (tfs (p := fun j => tF j = true → ∀ pc, tkX j pc = true) (tfs (p := fun j => tF j = true → ∀ pc, tkX j pc = true) (tfs (p := fun j => tF j = true → ∀ pc, tkX j pc = true) (tfs (p := fun j => tF j = true → ∀ pc, tkX j pc = true) (tfs (p := fun j => tF j = true → ∀ pc, tkX j pc = true) (tfs (p := fun j => tF j = true → ∀ pc, tkX j pc = true) (tfs (p := fun j => tF j = true → ∀ pc, tkX j pc = true) (tfs (p := fun j => tF j = true → ∀ pc, tkX j pc = true) (tfs (p := fun j => tF j = true → ∀ pc, tkX j pc = true) (tfs (p := fun j => tF j = true → ∀ pc, tkX j pc = true) (tfs (p := fun j => tF j = true → ∀ pc, tkX j pc = true) (tfs (p := fun j => tF j = true → ∀ pc, tkX j pc = true) (tfs (p := fun j => tF j = true → ∀ pc, tkX j pc = true) (tfs (p := fun j => tF j = true → ∀ pc, tkX j pc = true) (tfs (p := fun j => tF j = true → ∀ pc, tkX j pc = true) (tfA_210) tfE_210) tfE_211) tfE_212) tfE_213) tfE_214) tfE_215) tfE_216) tfE_217) tfE_218) tfE_219) tfE_220) tfE_221) tfE_222) tfE_223) tfE_224) tfE_225) tfE_226) tfE_227) tfE_228) tfE_229) tfE_230) tfE_231) tfE_232) tfE_233) tfE_234) tfE_235) tfE_236) tfE_237) tfE_238) tfE_239
theorem tfA_270 : ∀ j, j < 270 → tF j = true → ∀ pc, tkX j pc = true := tfs (p := fun j => tF j = true → ∀ pc, tkX j pc = true) (tfs (p := fun j => tF j = true → ∀ pc, tkX j pc = true) (tfs (p := fun j => tF j = true → ∀ pc, tkX j pc = true) (tfs (p := fun j => tF j = true → ∀ pc, tkX j pc = true) (tfs (p := fun j => tF j = true → ∀ pc, tkX j pc = true) (tfs (p := fun j => tF j = true → ∀ pc, tkX j pc = true) (tfs (p := fun j => tF j = true → ∀ pc, tkX j pc = true) (tfs (p := fun j => tF j = true → ∀ pc, tkX j pc = true) (tfs (p := fun j => tF j = true → ∀ pc, tkX j pc = true) (tfs (p := fun j => tF j = true → ∀ pc, tkX j pc = true) (tfs (p := fun j => tF j = true → ∀ pc, tkX j pc = true) (tfs (p := fun j => tF j = true → ∀ pc, tkX j pc = true) (tfs (p := fun j => tF j = true → ∀ pc, tkX j pc = true) (tfs (p := fun j => tF j = true → ∀ pc, tkX j pc = true) (tfs (p := fun j => tF j = true → ∀ pc, tkX j pc = true) (tfs (p := fun j => tF j = true → ∀ pc, tkX j pc = true) (tfs (p := fun j => tF j = true → ∀ pc, tkX j pc = true) (tfs (p := fun j => tF j = true → ∀ pc, tkX j pc = true) (tfs (p := fun j => tF j = true → ∀ pc, tkX j pc = true) (tfs (p := fun j => tF j = true → ∀ pc, tkX j pc = true) (tfs (p := fun j => tF j = true → ∀ pc, tkX j pc = true) (tfs (p := fun j => tF j = true → ∀ pc, tkX j pc = true) (tfs (p := fun j => tF j = true → ∀ pc, tkX j pc = true) (tfs (p := fun j => tF j = true → ∀ pc, tkX j pc = true) (tfs (p := fun j => tF j = true → ∀ pc, tkX j pc = true) (tfs (p := fun j => tF j = true → ∀ pc, tkX j pc = true) (tfs (p := fun j => tF j = true → ∀ pc, tkX j pc = true) (tfs (p := fun j => tF j = true → ∀ pc, tkX j pc = true) (tfs (p := fun j => tF j = true → ∀ pc, tkX j pc = true) (tfs (p := fun j => tF j = true → ∀ pc, tkX j pc = true) (tfA_240) tfE_240) tfE_241) tfE_242) tfE_243) tfE_244) tfE_245) tfE_246) tfE_247) tfE_248) tfE_249) tfE_250) tfE_251) tfE_252) tfE_253) tfE_254) tfE_255) tfE_256) tfE_257) tfE_258) tfE_259) tfE_260) tfE_261) tfE_262) tfE_263) tfE_264) tfE_265) tfE_266) tfE_267) tfE_268) tfE_269
theorem tfA_300 : ∀ j, j < 300 → tF j = true → ∀ pc, tkX j pc = true := tfs (p := fun j => tF j = true → ∀ pc, tkX j pc = true) (tfs (p := fun j => tF j = true → ∀ pc, tkX j pc = true) (tfs (p := fun j => tF j = true → ∀ pc, tkX j pc = true) (tfs (p := fun j => tF j = true → ∀ pc, tkX j pc = true) (tfs (p := fun j => tF j = true → ∀ pc, tkX j pc = true) (tfs (p := fun j => tF j = true → ∀ pc, tkX j pc = true) (tfs (p := fun j => tF j = true → ∀ pc, tkX j pc = true) (tfs (p := fun j => tF j = true → ∀ pc, tkX j pc = true) (tfs (p := fun j => tF j = true → ∀ pc, tkX j pc = true) (tfs (p := fun j => tF j = true → ∀ pc, tkX j pc = true) (tfs (p := fun j => tF j = true → ∀ pc, tkX j pc = true) (tfs (p := fun j => tF j = true → ∀ pc, tkX j pc = true) (tfs (p := fun j => tF j = true → ∀ pc, tkX j pc = true) (tfs (p := fun j => tF j = true → ∀ pc, tkX j pc = true) (tfs (p := fun j => tF j = true → ∀ pc, tkX j pc = true) (tfs (p := fun j => tF j = true → ∀ pc, tkX j pc = true) (tfs (p := fun j => tF j = true → ∀ pc, tkX j pc = true) (tfs (p := fun j => tF j = true → ∀ pc, tkX j pc = true) (tfs (p := fun j => tF j = true → ∀ pc, tkX j pc = true) (tfs (p := fun j => tF j = true → ∀ pc, tkX j pc = true) (tfs (p := fun j => tF j = true → ∀ pc, tkX j pc = true) (tfs (p := fun j => tF j = true → ∀ pc, tkX j pc = true) (tfs (p := fun j => tF j = true → ∀ pc, tkX j pc = true) (tfs (p := fun j => tF j = true → ∀ pc, tkX j pc = true) (tfs (p := fun j => tF j = true → ∀ pc, tkX j pc = true) (tfs (p := fun j => tF j = true → ∀ pc, tkX j pc = true) (tfs (p := fun j => tF j = true → ∀ pc, tkX j pc = true) (tfs (p := fun j => tF j = true → ∀ pc, tkX j pc = true) (tfs (p := fun j => tF j = true → ∀ pc, tkX j pc = true) (tfs (p := fun j => tF j = true → ∀ pc, tkX j pc = true) (tfA_270) tfE_270) tfE_271) tfE_272) tfE_273) tfE_274) tfE_275) tfE_276) tfE_277) tfE_278) tfE_279) tfE_280) tfE_281) tfE_282) tfE_283) tfE_284) tfE_285) tfE_286) tfE_287) tfE_288) tfE_289) tfE_290) tfE_291) tfE_292) tfE_293) tfE_294) tfE_295) tfE_296) tfE_297) tfE_298) tfE_299
theorem tfA_330 : ∀ j, j < 330 → tF j = true → ∀ pc, tkX j pc = true := tfs (p := fun j => tF j = true → ∀ pc, tkX j pc = true) (tfs (p := fun j => tF j = true → ∀ pc, tkX j pc = true) (tfs (p := fun j => tF j = true → ∀ pc, tkX j pc = true) (tfs (p := fun j => tF j = true → ∀ pc, tkX j pc = true) (tfs (p := fun j => tF j = true → ∀ pc, tkX j pc = true) (tfs (p := fun j => tF j = true → ∀ pc, tkX j pc = true) (tfs (p := fun j => tF j = true → ∀ pc, tkX j pc = true) (tfs (p := fun j => tF j = true → ∀ pc, tkX j pc = true) (tfs (p := fun j => tF j = true → ∀ pc, tkX j pc = true) (tfs (p := fun j => tF j = true → ∀ pc, tkX j pc = true) (tfs (p := fun j => tF j = true → ∀ pc, tkX j pc = true) (tfs (p := fun j => tF j = true → ∀ pc, tkX j pc = true) (tfs (p := fun j => tF j = true → ∀ pc, tkX j pc = true) (tfs (p := fun j => tF j = true → ∀ pc, tkX j pc = true) (tfs (p := fun j => tF j = true → ∀ pc, tkX j pc = true) (tfs (p := fun j => tF j = true → ∀ pc, tkX j pc = true) (tfs (p := fun j => tF j = true → ∀ pc, tkX j pc = true) (tfs (p := fun j => tF j = true → ∀ pc, tkX j pc = true) (tfs (p := fun j => tF j = true → ∀ pc, tkX j pc = true) (tfs (p := fun j => tF j = true → ∀ pc, tkX j pc = true) (tfs (p := fun j => tF j = true → ∀ pc, tkX j pc = true) (tfs (p := fun j => tF j = true → ∀ pc, tkX j pc = true) (tfs (p := fun j => tF j = true → ∀ pc, tkX j pc = true) (tfs (p := fun j => tF j = true → ∀ pc, tkX j pc = true) (tfs (p := fun j => tF j = true → ∀ pc, tkX j pc = true) (tfs (p := fun j => tF j = true → ∀ pc, tkX j pc = true) (tfs (p := fun j => tF j = true → ∀ pc, tkX j pc = true) (tfs (p := fun j => tF j = true → ∀ pc, tkX j pc = true) (tfs (p := fun j => tF j = true → ∀ pc, tkX j pc = true) (tfs (p := fun j => tF j = true → ∀ pc, tkX j pc = true) (tfA_300) tfE_300) tfE_301) tfE_302) tfE_303) tfE_304) tfE_305) tfE_306) tfE_307) tfE_308) tfE_309) tfE_310) tfE_311) tfE_312) tfE_313) tfE_314) tfE_315) tfE_316) tfE_317) tfE_318) tfE_319) tfE_320) tfE_321) tfE_322) tfE_323) tfE_324) tfE_325) tfE_326) tfE_327) tfE_328) tfE_329
theorem tfA_355 : ∀ j, j < 355 → tF j = true → ∀ pc, tkX j pc = true := tfs (p := fun j => tF j = true → ∀ pc, tkX j pc = true) (tfs (p := fun j => tF j = true → ∀ pc, tkX j pc = true) (tfs (p := fun j => tF j = true → ∀ pc, tkX j pc = true) (tfs (p := fun j => tF j = true → ∀ pc, tkX j pc = true) (tfs (p := fun j => tF j = true → ∀ pc, tkX j pc = true) (tfs (p := fun j => tF j = true → ∀ pc, tkX j pc = true) (tfs (p := fun j => tF j = true → ∀ pc, tkX j pc = true) (tfs (p := fun j => tF j = true → ∀ pc, tkX j pc = true) (tfs (p := fun j => tF j = true → ∀ pc, tkX j pc = true) (tfs (p := fun j => tF j = true → ∀ pc, tkX j pc = true) (tfs (p := fun j => tF j = true → ∀ pc, tkX j pc = true) (tfs (p := fun j => tF j = true → ∀ pc, tkX j pc = true) (tfs (p := fun j => tF j = true → ∀ pc, tkX j pc = true) (tfs (p := fun j => tF j = true → ∀ pc, tkX j pc = true) (tfs (p := fun j => tF j = true → ∀ pc, tkX j pc = true) (tfs (p := fun j => tF j = true → ∀ pc, tkX j pc = true) (tfs (p := fun j => tF j = true → ∀ pc, tkX j pc = true) (tfs (p := fun j => tF j = true → ∀ pc, tkX j pc = true) (tfs (p := fun j => tF j = true → ∀ pc, tkX j pc = true) (tfs (p := fun j => tF j = true → ∀ pc, tkX j pc = true) (tfs (p := fun j => tF j = true → ∀ pc, tkX j pc = true) (tfs (p := fun j => tF j = true → ∀ pc, tkX j pc = true) (tfs (p := fun j => tF j = true → ∀ pc, tkX j pc = true) (tfs (p := fun j => tF j = true → ∀ pc, tkX j pc = true) (tfs (p := fun j => tF j = true → ∀ pc, tkX j pc = true) (tfA_330) tfE_330) tfE_331) tfE_332) tfE_333) tfE_334) tfE_335) tfE_336) tfE_337) tfE_338) tfE_339) tfE_340) tfE_341) tfE_342) tfE_343) tfE_344) tfE_345) tfE_346) tfE_347) tfE_348) tfE_349) tfE_350) tfE_351) tfE_352) tfE_353) tfE_354
theorem tf_lt {μ : Nat} (h : tF μ = true) : μ < 355 := by
  unfold tF at h
  rw [Bool.and_eq_true] at h
  exact Nat.blt_eq.mp h.1
theorem tf_ch {μ : Nat} (h : tF μ = true) (pc : Nat) : tkX μ pc = true := tfA_355 μ (tf_lt h) h pc
/-- a memory: the text is at its place, and so long -/
def MT (v : Int32) (n : Nat) (S : Nat → Nat × Nat) (I : Nat → Nat → Int32) : Prop := 313 < n ∧ (S 313).1 = 9 ∧ I 313 3 = v
def tkC (v : Int32) (c : Cf) : Prop := tF c.1 = true ∧ MT v c.2.2.2.2.1 c.2.2.2.2.2.1 c.2.2.2.2.2.2.2.1
def tkO (v : Int32) (o : Ou) : Prop := MT v o.2.1 o.2.2.1 o.2.2.2.2.1
def tkA (v : Int32) (a : Ac) : Prop := match a with
  | .inl (b, c, d) => (b = true → tkC v c) ∧ ∀ c', d = some c' → tkC v c'
  | .inr (.inl (a, _, c, _)) => tF a = true ∧ tkC v c
  | .inr (.inr (b, o)) => b = true → tkO v o
variable {v : Int32} {n : Nat} {S : Nat → Nat × Nat} {R : Nat → Nat → Option Nat} {I : Nat → Nat → Int32} {J : Nat → Nat → Int64} {D : Nat → Nat → UInt64}
variable {μ pc a : Nat} {ls st as : List Value}
theorem MT.arr {p T j : Nat} {x : Int32} (h : MT v n S I) (hp : Nat.beq (S p).1 T = true) (hT : Nat.beq T 9 = false) : MT v n S (ups I p j x) := by
  obtain ⟨h1, h2, h3⟩ := h
  refine ⟨h1, h2, ?_⟩
  have e : 313 ≠ p := fun e => by
    subst e
    rw [h2] at hp
    rw [← beq_e hp] at hT
    exact absurd hT (by decide)
  rw [w_un e]
  exact h3
theorem MT.cpy {q : Nat} {f : Nat → Int32} (h : MT v n S I) (hp : Nat.beq (S q).1 20 = true) : MT v n S (upR I q f) := by
  obtain ⟨h1, h2, h3⟩ := h
  refine ⟨h1, h2, ?_⟩
  have e : 313 ≠ q := fun e => by
    subst e
    rw [h2] at hp
    exact absurd hp (by decide)
  rw [upR_n (f := I) e]
  exact h3
theorem MT.put {p b : Nat} {x : Int32} (h : MT v n S I) (hp : Nat.beq (S p).1 a = true) (hc : (!(Nat.beq a 9 && Nat.beq b 3)) = true) : MT v n S (ups I p b x) := by
  obtain ⟨h1, h2, h3⟩ := h
  refine ⟨h1, h2, ?_⟩
  by_cases e : 313 = p
  · subst e
    rw [h2] at hp
    have ea := beq_e hp
    subst ea
    have eb : 3 ≠ b := fun q => by
      subst q
      exact absurd hc (by decide)
    rw [w_uk eb]
    exact h3
  · rw [w_un e]
    exact h3
theorem MT.mk1 {q : Nat × Nat} {f : Nat → Int32} (h : MT v n S I) : MT v (n + 1) (upR S n q) (upR I n f) := by
  obtain ⟨h1, h2, h3⟩ := h
  have e : 313 ≠ n := by omega
  exact ⟨by omega, by rw [upR_n (f := S) e]; exact h2, by rw [upR_n (f := I) e]; exact h3⟩
theorem MT.mk0 {q : Nat × Nat} (h : MT v n S I) : MT v (n + 1) (upR S n q) I := by
  obtain ⟨h1, h2, h3⟩ := h
  have e : 313 ≠ n := by omega
  exact ⟨by omega, by rw [upR_n (f := S) e]; exact h2, h3⟩
theorem MT.mkm {x : Nat} {q r : Nat × Nat} {f : Nat → Nat → Int32} (h : MT v n S I) : MT v (n + 1 + x) (fun z => bif Nat.beq z n then q else bif Nat.blt n z && Nat.ble z (n + x) then r else S z) (fun z => bif Nat.blt n z && Nat.ble z (n + x) then f z else I z) := by
  obtain ⟨h1, h2, h3⟩ := h
  have e1 : Nat.beq 313 n = false := nbeq (by omega)
  have e2 : Nat.blt n 313 = false := by
    cases hb : Nat.blt n 313 with
    | false => rfl
    | true => exact absurd (Nat.blt_eq.mp hb) (by omega)
  refine ⟨by omega, ?_, ?_⟩
  · show (bif Nat.beq 313 n then q else bif Nat.blt n 313 && Nat.ble 313 (n + x) then r else S 313).1 = 9
    rw [e1, e2]
    exact h2
  · show (bif Nat.blt n 313 && Nat.ble 313 (n + x) then f 313 else I 313) 3 = v
    rw [e2]
    exact h3
theorem MT.crd {k : Nat} {x : Int32} (h : MT v n S I) : MT v n S (ups I iCRD k x) := ⟨h.1, h.2.1, by rw [w_un (by decide)]; exact h.2.2⟩
theorem MT.cI (h : MT v n S I) : MT v n S (cI μ a I) := by
  show MT v n S (bif Nat.ble 318 μ then ups I iCRD 0 (I iCRD 0 - Int32.ofNat (cK a)) else I)
  cases Nat.ble 318 μ with
  | true => exact h.crd
  | false => exact h
theorem mt_in {M : Mm} (h : MT v M.1 M.2.1 M.2.2.2.1) : MT v (cIn a M).1 (cIn a M).2.1 (cIn a M).2.2.2.1 := by
  unfold cIn
  cases Nat.ble 318 a with
  | true => exact h.crd
  | false => exact h
theorem mt_out {M M' : Mm} (h : MT v M'.1 M'.2.1 M'.2.2.2.1) : MT v (cOut a M M').1 (cOut a M M').2.1 (cOut a M M').2.2.2.1 := by
  unfold cOut
  cases Nat.ble 318 a with
  | true => exact h.crd
  | false => exact h
theorem ok_hl : tkA v hl := ⟨fun h => (by cases h), fun _ h => (by cases h)⟩
theorem ok_go (hF : tF μ = true) (h : MT v n S I) : tkA v (go μ pc ls st (n, S, R, I, J, D)) := ⟨fun _ => ⟨hF, h⟩, fun _ h => (by cases h)⟩
theorem ok_gd {b : Bool} (hF : tF μ = true) (h : MT v n S I) : tkA v (gd b μ pc ls st (n, S, R, I, J, D)) := ⟨fun _ => ⟨hF, h⟩, fun _ h => (by cases h)⟩
theorem ok_br {b : Bool} {pt pf : Nat} {lt lf : List Value} (hF : tF μ = true) (h : MT v n S I) : tkA v (br b μ pt pf lt lf st (n, S, R, I, J, D)) := ⟨fun _ => ⟨hF, h⟩, fun _ e => by cases e; exact ⟨hF, h⟩⟩
theorem ok_rt {b : Bool} {w : Option Value} (h : MT v n S I) : tkA v (rt b w (n, S, R, I, J, D)) := fun _ => h
theorem ok_thr {b : Bool} {E : Nat} (h : MT v n S I) : tkA v (.inr (.inr (b, .inr (.inl E), (n, S, R, I, J, D)))) := fun _ => h
theorem ok_cal {l0 : List Value} (ha : tF a = true) (hF : tF μ = true) (h : MT v n S I) : tkA v (.inr (.inl (a, as, (μ, pc, ls, st, (n, S, R, cI μ a I, J, D)), l0))) := ⟨ha, hF, h.cI⟩
theorem ok_bif {b : Bool} {x y : Ac} (h1 : b = true → tkA v x) (h2 : b = false → tkA v y) : tkA v (bif b then x else y) := by
  cases b with
  | true => exact h1 rfl
  | false => exact h2 rfl
theorem ok_lk {w : Option Value} {f : Value → Ac} (h : ∀ w, tkA v (f w)) : tkA v (lk w f) := by
  cases w with
  | none => exact ok_hl
  | some w => exact h w
theorem ok_fI {w : Value} {f : Int32 → Ac} (h : ∀ x, tkA v (f x)) : tkA v (fI w f) := by
  cases w with
  | int x => exact h x
  | _ => exact ok_hl
theorem ok_fL {w : Value} {f : Int64 → Ac} (h : ∀ x, tkA v (f x)) : tkA v (fL w f) := by
  cases w with
  | long x => exact h x
  | _ => exact ok_hl
theorem ok_fF {w : Value} {f : UInt32 → Ac} (h : ∀ x, tkA v (f x)) : tkA v (fF w f) := by
  cases w with
  | float x => exact h x
  | _ => exact ok_hl
theorem ok_fD {w : Value} {f : UInt64 → Ac} (h : ∀ x, tkA v (f x)) : tkA v (fD w f) := by
  cases w with
  | double x => exact h x
  | _ => exact ok_hl
theorem ok_fR {w : Value} {f : Nat → Ac} (h : ∀ x, tkA v (f x)) : tkA v (fR w f) := by
  cases w with
  | ref x => exact h x
  | _ => exact ok_hl
theorem ok_f1 {f : Value → List Value → Ac} (h : ∀ x r, tkA v (f x r)) : tkA v (f1 st f) := by
  match st with
  | [] => exact ok_hl
  | x :: r => exact h x r
theorem ok_f2 {f : Value → Value → List Value → Ac} (h : ∀ x y r, tkA v (f x y r)) : tkA v (f2 st f) := by
  match st with
  | [] => exact ok_hl
  | [_] => exact ok_hl
  | x :: y :: r => exact h x y r
theorem ok_f3 {f : Value → Value → Value → List Value → Ac} (h : ∀ x y z r, tkA v (f x y z r)) : tkA v (f3 st f) := by
  match st with
  | [] => exact ok_hl
  | [_] => exact ok_hl
  | [_, _] => exact ok_hl
  | x :: y :: z :: r => exact h x y z r
theorem ok_i2 {f : Int32 → Int32 → List Value → Ac} (h : ∀ x y r, tkA v (f x y r)) : tkA v (i2 st f) := ok_f2 fun _ _ _ => ok_fI fun _ => ok_fI fun _ => h _ _ _
theorem ok_i1 {f : Int32 → List Value → Ac} (h : ∀ x r, tkA v (f x r)) : tkA v (i1 st f) := ok_f1 fun _ _ => ok_fI fun _ => h _ _
theorem ok_l2 {f : Int64 → Int64 → List Value → Ac} (h : ∀ x y r, tkA v (f x y r)) : tkA v (l2 st f) := ok_f2 fun _ _ _ => ok_fL fun _ => ok_fL fun _ => h _ _ _
theorem ok_l1 {f : Int64 → List Value → Ac} (h : ∀ x r, tkA v (f x r)) : tkA v (l1 st f) := ok_f1 fun _ _ => ok_fL fun _ => h _ _
theorem and_r {x y : Bool} (h : (x && y) = true) : y = true := by
  rw [Bool.and_eq_true] at h
  exact h.2
/-- a step keeps it -/
theorem tf_step {len : Nat} {fm tm : List Bool} {b c : Nat} {k : Int32} (hF : tF μ = true) (hM : MT v n S I) (i : Instr) (hch : tkI i a b = true) : tkA v (stA μ pc ls st n S R I J D i len fm tm a b c k) := by
  cases i with
  | iconst q => exact ok_go hF hM
  | bipush q => exact ok_go hF hM
  | sipush q => exact ok_go hF hM
  | lconst q => exact ok_go hF hM
  | ldc q => exact ok_go hF hM
  | ldc_w q => exact ok_go hF hM
  | ldc2_w q => exact ok_go hF hM
  | getstatic q => exact ok_go hF hM
  | goto z => exact ok_go hF hM
  | fconst q => exact ok_bif (fun _ => ok_go hF hM) (fun _ => ok_hl)
  | iload_n q => exact ok_lk (fun _ => ok_fI (fun _ => ok_go hF hM))
  | iload q => exact ok_lk (fun _ => ok_fI (fun _ => ok_go hF hM))
  | lload_n q => exact ok_lk (fun _ => ok_fL (fun _ => ok_go hF hM))
  | lload q => exact ok_lk (fun _ => ok_fL (fun _ => ok_go hF hM))
  | dload q => exact ok_lk (fun _ => ok_fD (fun _ => ok_go hF hM))
  | aload_n q => exact ok_lk (fun _ => ok_fR (fun _ => ok_go hF hM))
  | aload q => exact ok_lk (fun _ => ok_fR (fun _ => ok_go hF hM))
  | istore_n q => exact ok_i1 (fun _ _ => ok_gd hF hM)
  | istore q => exact ok_i1 (fun _ _ => ok_gd hF hM)
  | lstore_n q => exact ok_l1 (fun _ _ => ok_gd hF hM)
  | lstore q => exact ok_l1 (fun _ _ => ok_gd hF hM)
  | dstore q => exact ok_f1 (fun _ _ => ok_fD (fun _ => ok_gd hF hM))
  | astore_n q => exact ok_f1 (fun _ _ => ok_fR (fun _ => ok_gd hF hM))
  | astore q => exact ok_f1 (fun _ _ => ok_fR (fun _ => ok_gd hF hM))
  | iinc q z => exact ok_lk (fun _ => ok_fI (fun _ => ok_go hF hM))
  | iadd => exact ok_i2 (fun _ _ _ => ok_go hF hM)
  | isub => exact ok_i2 (fun _ _ _ => ok_go hF hM)
  | imul => exact ok_i2 (fun _ _ _ => ok_go hF hM)
  | iand => exact ok_i2 (fun _ _ _ => ok_go hF hM)
  | ior => exact ok_i2 (fun _ _ _ => ok_go hF hM)
  | ixor => exact ok_i2 (fun _ _ _ => ok_go hF hM)
  | ishl => exact ok_i2 (fun _ _ _ => ok_go hF hM)
  | ishr => exact ok_i2 (fun _ _ _ => ok_go hF hM)
  | iushr => exact ok_i2 (fun _ _ _ => ok_go hF hM)
  | idiv => exact ok_i2 (fun _ _ _ => ok_gd hF hM)
  | irem => exact ok_i2 (fun _ _ _ => ok_gd hF hM)
  | ineg => exact ok_i1 (fun _ _ => ok_go hF hM)
  | i2l => exact ok_i1 (fun _ _ => ok_go hF hM)
  | i2c => exact ok_i1 (fun _ _ => ok_go hF hM)
  | i2d => exact ok_i1 (fun _ _ => ok_go hF hM)
  | i2f => exact ok_i1 (fun _ _ => ok_go hF hM)
  | ladd => exact ok_l2 (fun _ _ _ => ok_go hF hM)
  | lsub => exact ok_l2 (fun _ _ _ => ok_go hF hM)
  | lmul => exact ok_l2 (fun _ _ _ => ok_go hF hM)
  | land => exact ok_l2 (fun _ _ _ => ok_go hF hM)
  | lor => exact ok_l2 (fun _ _ _ => ok_go hF hM)
  | lcmp => exact ok_l2 (fun _ _ _ => ok_go hF hM)
  | lneg => exact ok_l1 (fun _ _ => ok_go hF hM)
  | l2i => exact ok_l1 (fun _ _ => ok_go hF hM)
  | lshl => exact ok_f2 (fun _ _ _ => ok_fI (fun _ => ok_fL (fun _ => ok_go hF hM)))
  | lshr => exact ok_f2 (fun _ _ _ => ok_fI (fun _ => ok_fL (fun _ => ok_go hF hM)))
  | lushr => exact ok_f2 (fun _ _ _ => ok_fI (fun _ => ok_fL (fun _ => ok_go hF hM)))
  | f2d => exact ok_f1 (fun _ _ => ok_fF (fun _ => ok_gd hF hM))
  | ddiv => exact ok_f2 (fun _ _ _ => ok_fD (fun _ => ok_fD (fun _ => ok_gd hF hM)))
  | fdiv => exact ok_f2 (fun _ _ _ => ok_fF (fun _ => ok_fF (fun _ => ok_gd hF hM)))
  | dcmp q => exact ok_f2 (fun _ _ _ => ok_fD (fun _ => ok_fD (fun _ => ok_go hF hM)))
  | dup => exact ok_f1 (fun _ _ => ok_bif (fun _ => ok_go hF hM) (fun _ => ok_hl))
  | dup2 => exact ok_f2 (fun _ _ _ => ok_bif (fun _ => ok_go hF hM) (fun _ => ok_hl))
  | ifCond q z => exact ok_i1 (fun _ _ => ok_br hF hM)
  | if_icmp q z => exact ok_i2 (fun _ _ _ => ok_br hF hM)
  | ifnull z => exact ok_f1 (fun _ _ => ok_fR (fun _ => ok_go hF hM))
  | tableswitch d lo hi offs => exact ok_i1 (fun _ _ => ok_gd hF hM)
  | iaload => exact ok_f2 (fun _ _ _ => ok_fI (fun _ => ok_fR (fun _ => ok_bif (fun _ => ok_gd hF hM) (fun _ => ok_bif (fun _ => ok_gd hF hM) (fun _ => ok_bif (fun _ => ok_gd hF hM) (fun _ => ok_hl))))))
  | baload => exact ok_f2 (fun _ _ _ => ok_fI (fun _ => ok_fR (fun _ => ok_bif (fun _ => ok_gd hF hM) (fun _ => ok_bif (fun _ => ok_gd hF hM) (fun _ => ok_bif (fun _ => ok_gd hF hM) (fun _ => ok_hl))))))
  | caload => exact ok_f2 (fun _ _ _ => ok_fI (fun _ => ok_fR (fun _ => ok_bif (fun _ => ok_gd hF hM) (fun _ => ok_hl))))
  | laload => exact ok_f2 (fun _ _ _ => ok_fI (fun _ => ok_fR (fun _ => ok_bif (fun _ => ok_gd hF hM) (fun _ => ok_hl))))
  | daload => exact ok_f2 (fun _ _ _ => ok_fI (fun _ => ok_fR (fun _ => ok_bif (fun _ => ok_gd hF hM) (fun _ => ok_hl))))
  | aaload => exact ok_f2 (fun _ _ _ => ok_fI (fun _ => ok_fR (fun _ => ok_bif (fun _ => ok_gd hF hM) (fun _ => ok_hl))))
  | iastore => exact ok_f3 (fun _ _ _ _ => ok_fI (fun _ => ok_fI (fun _ => ok_fR (fun _ => ok_bif (fun hp => ok_gd hF (hM.arr hp rfl)) (fun _ => ok_hl)))))
  | bastore => exact ok_f3 (fun _ _ _ _ => ok_fI (fun _ => ok_fI (fun _ => ok_fR (fun _ => ok_bif (fun hp => ok_gd hF (hM.arr hp rfl)) (fun _ => ok_hl)))))
  | castore => exact ok_f3 (fun _ _ _ _ => ok_fI (fun _ => ok_fI (fun _ => ok_fR (fun _ => ok_bif (fun hp => ok_gd hF (hM.arr hp rfl)) (fun _ => ok_hl)))))
  | lastore => exact ok_f3 (fun _ _ _ _ => ok_fL (fun _ => ok_fI (fun _ => ok_fR (fun _ => ok_bif (fun _ => ok_gd hF hM) (fun _ => ok_hl)))))
  | dastore => exact ok_f3 (fun _ _ _ _ => ok_fD (fun _ => ok_fI (fun _ => ok_fR (fun _ => ok_bif (fun _ => ok_gd hF hM) (fun _ => ok_hl)))))
  | aastore => exact ok_f3 (fun _ _ _ _ => ok_fR (fun _ => ok_fI (fun _ => ok_fR (fun _ => ok_bif (fun _ => ok_gd hF hM) (fun _ => ok_bif (fun _ => ok_gd hF hM) (fun _ => ok_hl))))))
  | arraylength => exact ok_f1 (fun _ _ => ok_fR (fun _ => ok_bif (fun _ => ok_gd hF hM) (fun _ => ok_bif (fun _ => ok_go hF hM) (fun _ => ok_bif (fun _ => ok_go hF hM) (fun _ => ok_hl)))))
  | getfield q => exact ok_f1 (fun _ _ => ok_fR (fun _ => ok_bif (fun _ => ok_bif (fun _ => ok_go hF hM) (fun _ => ok_bif (fun _ => ok_gd hF hM) (fun _ => ok_hl))) (fun _ => ok_bif (fun _ => ok_gd hF hM) (fun _ => ok_hl))))
  | putfield q => exact ok_f2 (fun _ _ _ => ok_fR (fun _ => ok_bif (fun hp => ok_bif (fun _ => ok_fI (fun _ => ok_gd hF (hM.put hp hch))) (fun _ => ok_bif (fun _ => ok_fL (fun _ => ok_gd hF hM)) (fun _ => ok_fR (fun _ => ok_gd hF hM)))) (fun _ => ok_hl)))
  | invokevirtual q => exact ok_lk (fun _ => ok_fR (fun _ => ok_bif (fun _ => ok_cal hch hF hM) (fun _ => ok_hl)))
  | ireturn => exact ok_i1 (fun _ _ => ok_rt hM)
  | lreturn => exact ok_l1 (fun _ _ => ok_rt hM)
  | freturn => exact ok_f1 (fun _ _ => ok_fF (fun _ => ok_rt hM))
  | dreturn => exact ok_f1 (fun _ _ => ok_fD (fun _ => ok_rt hM))
  | areturn => exact ok_f1 (fun _ _ => ok_fR (fun _ => ok_rt hM))
  | return_ => exact ok_rt hM
  | new q => exact ok_bif (fun _ => ok_gd hF hM.mk1) (fun _ => ok_thr hM)
  | newarray q => exact ok_i1 (fun _ _ => ok_gd hF hM.mk1)
  | anewarray q => exact ok_i1 (fun _ _ => ok_gd hF hM.mk0)
  | multianewarray q z => exact ok_i2 (fun _ _ _ => ok_gd hF hM.mkm)
  | invokespecial q =>
    refine ok_bif (fun _ => ok_f1 (fun _ _ => ok_fR (fun _ => ok_gd hF hM))) (fun h3 => ?_)
    have hch : (tF a || Nat.beq a 1003) = true := hch
    rw [h3, Bool.or_false] at hch
    exact ok_lk (fun _ => ok_fR (fun _ => ok_bif (fun _ => ok_cal hch hF hM) (fun _ => ok_hl)))
  | invokestatic q =>
    refine ok_bif (fun _ => ?_) (fun z0 => ok_bif (fun _ => ok_i2 (fun _ _ _ => ok_gd hF hM)) (fun z5 => ok_bif (fun _ => ok_i2 (fun _ _ _ => ok_gd hF hM)) (fun z6 => ok_bif (fun _ => ok_i1 (fun _ _ => ok_gd hF hM)) (fun z7 => ok_bif (fun _ => ok_i2 (fun _ _ _ => ok_gd hF hM)) (fun z8 => ok_bif (fun _ => ok_i2 (fun _ _ _ => ok_gd hF hM)) (fun z4 => ?_))))))
    · split
      · exact ok_bif (fun hq => ok_gd hF (hM.cpy (and_r hq))) (fun _ => ok_hl)
      · exact ok_hl
    · have hch : (tF a || (Nat.beq a 1000 || (Nat.beq a 1005 || (Nat.beq a 1006 || (Nat.beq a 1007 || (Nat.beq a 1008 || Nat.beq a 1004)))))) = true := hch
      rw [z0, z5, z6, z7, z8, z4] at hch
      rw [show (false || (false || (false || (false || (false || false))))) = false from rfl, Bool.or_false] at hch
      exact ok_bif (fun _ => ok_cal hch hF hM) (fun _ => ok_hl)
  | _ => exact ok_hl
theorem tf_st1 {c : Cf} (h : tkC v c) : tkA v (st1 c) := by
  obtain ⟨μ, pc, ls, st, n, S, R, I, J, D⟩ := c
  obtain ⟨hF, hM⟩ := h
  have hF : tF μ = true := hF
  have hM : MT v n S I := hM
  have hch := tf_ch hF pc
  unfold tkX at hch
  unfold st1
  dsimp only
  cases he : cins μ pc with
  | none => exact fun _ => hM
  | some e =>
    obtain ⟨i, len, fm, tm, a, b, c, k⟩ := e
    rw [he] at hch
    dsimp only at hch
    dsimp only
    rw [stX_lo (by have := tf_lt hF; omega)]
    exact tf_step hF hM i hch
theorem tf_acK {f g : Cf → Option Ou} (hf : ∀ c o, tkC v c → f c = some o → tkO v o) (hg : ∀ c o, tkC v c → g c = some o → tkO v o) (c0 : Cf) (a : Ac) (ha : tkA v a) (o : Ou) (h : acK f g c0 a = some o) : tkO v o := by
  rcases a with ⟨b, c, d⟩ | ⟨μ', as, c, ls0⟩ | ⟨b, o'⟩
  · obtain ⟨h1, h2⟩ := ha
    cases b with
    | true => exact hg _ _ (h1 rfl) h
    | false =>
      cases d with
      | none => exact absurd h (by simp [acK])
      | some c => exact hg _ _ (h2 c rfl) h
  · obtain ⟨h1, h2, h3⟩ := ha
    simp only [acK] at h
    generalize hx : f (μ', 0, pad (mxl μ') (ent as), [], cIn μ' c.2.2.2.2) = x at h
    cases x with
    | none => exact absurd h (by simp)
    | some o1 =>
      have h9 : tkO v o1 := hf _ _ ⟨h1, mt_in h3⟩ hx
      rcases o1 with ⟨w | E | s, M'⟩
      · exact hg (c.1, c.2.1, c.2.2.1, w.toList ++ c.2.2.2.1, cOut c.1 c.2.2.2.2 M') _ ⟨h2, mt_out h9⟩ h
      · dsimp only at h
        cases hc : ctc c0.1 c0.2.1 E with
        | none =>
          rw [hc] at h
          cases h
          exact mt_out h9
        | some q =>
          rw [hc] at h
          exact hg (c.1, q, mk (hmk c0.1) ls0, [.ref iEXC], cOut c.1 c.2.2.2.2 M') _ ⟨h2, mt_out h9⟩ h
      · exact absurd h (by simp)
  · cases b with
    | true =>
      cases h
      exact ha rfl
    | false => cases h
theorem tf_run : ∀ (N : Nat) (c : Cf) (o : Ou), tkC v c → run N c = some o → tkO v o
  | 0, _, _, _, h => absurd h (by simp [run])
  | N + 1, c, o, hc, h => tf_acK (tf_run N) (tf_run N) c _ (tf_st1 hc) o h
/-- a run leaves the text as long as it was -/
theorem tf_ex {c : Cf} {o : Ou} (hc : tkC v c) (h : ex c = some o) : tkO v o := by
  obtain ⟨N, hN⟩ := ex_run h
  exact tf_run N c o hc hN
end TF
section TG
variable {n n2 : Nat} {S S2 : Nat → Nat × Nat} {R R2 : Nat → Nat → Option Nat} {QD QD2 : Nat → Nat → UInt64}
variable {X : Nat → Nat → Int32} {QJ : Nat → Nat → Int64} {I : Nat → Nat → Int32} {J : Nat → Nat → Int64} {D : Nat → Nat → UInt64}
variable {μ pc : Nat} {ls st : List Value}
variable {P : Option Value → (Nat → Nat → Int32) → (Nat → Nat → Int64) → (Nat → Nat → Int32) → (Nat → Nat → Int64) → (Nat → Nat → UInt64) → Prop}
/-- so does a run of one of the law's methods -/
theorem wo_tx (hμ : tF μ = true) (hn : 313 < n) (hS : (S 313).1 = 9) (h : WO n2 S2 R2 QD2 P (ex (μ, pc, ls, st, n, S, R, ovr I X, ovr J QJ, ovr D QD))) :
    WO n2 S2 R2 QD2 (fun v X2 QJ2 I2 J2 D2 => P v X2 QJ2 I2 J2 D2 ∧ I2 312 3 = I 312 3) (ex (μ, pc, ls, st, n, S, R, ovr I X, ovr J QJ, ovr D QD)) := by
  obtain ⟨v, X2, QJ2, I2, J2, D2, e, hp⟩ := h
  have h9 := tf_ex (v := I 312 3) ⟨hμ, hn, hS, rfl⟩ e
  exact ⟨v, X2, QJ2, I2, J2, D2, e, hp, h9.2.2⟩
end TG
