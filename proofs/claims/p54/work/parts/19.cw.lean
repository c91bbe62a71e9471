/-! the code words of all methods, by their places -/
theorem cwg (μ : Nat) : goodWord (cwd μ) = true := by unfold cwd; split <;> rfl
theorem tm1 {w : Jvm.Cond} (h : w ∈ tables_1_1) : w ∈ lw_tbl := List.mem_append_right _ (List.mem_append_left _ h)
theorem tm2 {w : Jvm.Cond} (h : w ∈ tables_1_2) : w ∈ lw_tbl := List.mem_append_right _ (List.mem_append_right _ (List.mem_append_left _ h))
theorem tm3 {w : Jvm.Cond} (h : w ∈ tables_1_3) : w ∈ lw_tbl := List.mem_append_right _ (List.mem_append_right _ (List.mem_append_right _ (List.mem_append_left _ h)))
theorem tm4 {w : Jvm.Cond} (h : w ∈ tables_1_4) : w ∈ lw_tbl := List.mem_append_right _ (List.mem_append_right _ (List.mem_append_right _ (List.mem_append_right _ (List.mem_append_left _ h))))
theorem tm5 {w : Jvm.Cond} (h : w ∈ tables_1_5) : w ∈ lw_tbl := List.mem_append_right _ (List.mem_append_right _ (List.mem_append_right _ (List.mem_append_right _ (List.mem_append_right _ (List.mem_append_left _ h)))))
theorem tm6 {w : Jvm.Cond} (h : w ∈ tables_1_6) : w ∈ lw_tbl := List.mem_append_right _ (List.mem_append_right _ (List.mem_append_right _ (List.mem_append_right _ (List.mem_append_right _ (List.mem_append_right _ (List.mem_append_left _ h))))))
theorem tm7 {w : Jvm.Cond} (h : w ∈ tables_1_7) : w ∈ lw_tbl := List.mem_append_right _ (List.mem_append_right _ (List.mem_append_right _ (List.mem_append_right _ (List.mem_append_right _ (List.mem_append_right _ (List.mem_append_right _ (h)))))))
theorem cw_0 : rl2 0 = true → 0 = 358 ∨ cwd 0 ∈ WALL := fun _ => Or.inr (List.mem_filter.mpr ⟨tm1 (List.mem_of_getElem? (i := 56) rfl), cwg _⟩)
theorem cw_1 : rl2 1 = true → 1 = 358 ∨ cwd 1 ∈ WALL := fun _ => Or.inr (List.mem_filter.mpr ⟨tm3 (List.mem_of_getElem? (i := 178) rfl), cwg _⟩)
theorem cw_2 : rl2 2 = true → 2 = 358 ∨ cwd 2 ∈ WALL := fun _ => Or.inr (List.mem_filter.mpr ⟨tm3 (List.mem_of_getElem? (i := 225) rfl), cwg _⟩)
theorem cw_3 : rl2 3 = true → 3 = 358 ∨ cwd 3 ∈ WALL := fun _ => Or.inr (List.mem_filter.mpr ⟨tm7 (List.mem_of_getElem? (i := 38) rfl), cwg _⟩)
theorem cw_4 : rl2 4 = true → 4 = 358 ∨ cwd 4 ∈ WALL := fun _ => Or.inr (List.mem_filter.mpr ⟨tm7 (List.mem_of_getElem? (i := 43) rfl), cwg _⟩)
theorem cw_5 : rl2 5 = true → 5 = 358 ∨ cwd 5 ∈ WALL := fun _ => Or.inr (List.mem_filter.mpr ⟨tm3 (List.mem_of_getElem? (i := 37) rfl), cwg _⟩)
theorem cw_6 : rl2 6 = true → 6 = 358 ∨ cwd 6 ∈ WALL := fun _ => Or.inr (List.mem_filter.mpr ⟨tm1 (List.mem_of_getElem? (i := 226) rfl), cwg _⟩)
theorem cw_7 : rl2 7 = true → 7 = 358 ∨ cwd 7 ∈ WALL := fun _ => Or.inr (List.mem_filter.mpr ⟨tm3 (List.mem_of_getElem? (i := 103) rfl), cwg _⟩)
theorem cw_8 : rl2 8 = true → 8 = 358 ∨ cwd 8 ∈ WALL := fun _ => Or.inr (List.mem_filter.mpr ⟨tm3 (List.mem_of_getElem? (i := 165) rfl), cwg _⟩)
theorem cw_9 : rl2 9 = true → 9 = 358 ∨ cwd 9 ∈ WALL := fun _ => Or.inr (List.mem_filter.mpr ⟨tm3 (List.mem_of_getElem? (i := 169) rfl), cwg _⟩)
theorem cw_10 : rl2 10 = true → 10 = 358 ∨ cwd 10 ∈ WALL := fun _ => Or.inr (List.mem_filter.mpr ⟨tm3 (List.mem_of_getElem? (i := 173) rfl), cwg _⟩)
theorem cw_11 : rl2 11 = true → 11 = 358 ∨ cwd 11 ∈ WALL := fun _ => Or.inr (List.mem_filter.mpr ⟨tm3 (List.mem_of_getElem? (i := 107) rfl), cwg _⟩)
theorem cw_12 : rl2 12 = true → 12 = 358 ∨ cwd 12 ∈ WALL := fun _ => Or.inr (List.mem_filter.mpr ⟨tm2 (List.mem_of_getElem? (i := 9) rfl), cwg _⟩)
theorem cw_13 : rl2 13 = true → 13 = 358 ∨ cwd 13 ∈ WALL := fun _ => Or.inr (List.mem_filter.mpr ⟨tm4 (List.mem_of_getElem? (i := 16) rfl), cwg _⟩)
theorem cw_14 : rl2 14 = true → 14 = 358 ∨ cwd 14 ∈ WALL := fun _ => Or.inr (List.mem_filter.mpr ⟨tm4 (List.mem_of_getElem? (i := 21) rfl), cwg _⟩)
theorem cw_15 : rl2 15 = true → 15 = 358 ∨ cwd 15 ∈ WALL := fun _ => Or.inr (List.mem_filter.mpr ⟨tm4 (List.mem_of_getElem? (i := 29) rfl), cwg _⟩)
theorem cw_16 : rl2 16 = true → 16 = 358 ∨ cwd 16 ∈ WALL := fun _ => Or.inr (List.mem_filter.mpr ⟨tm4 (List.mem_of_getElem? (i := 40) rfl), cwg _⟩)
theorem cw_17 : rl2 17 = true → 17 = 358 ∨ cwd 17 ∈ WALL := fun h => by cases h
theorem cw_18 : rl2 18 = true → 18 = 358 ∨ cwd 18 ∈ WALL := fun _ => Or.inr (List.mem_filter.mpr ⟨tm4 (List.mem_of_getElem? (i := 44) rfl), cwg _⟩)
theorem cw_19 : rl2 19 = true → 19 = 358 ∨ cwd 19 ∈ WALL := fun _ => Or.inr (List.mem_filter.mpr ⟨tm4 (List.mem_of_getElem? (i := 63) rfl), cwg _⟩)
theorem cw_20 : rl2 20 = true → 20 = 358 ∨ cwd 20 ∈ WALL := fun _ => Or.inr (List.mem_filter.mpr ⟨tm4 (List.mem_of_getElem? (i := 71) rfl), cwg _⟩)
theorem cw_21 : rl2 21 = true → 21 = 358 ∨ cwd 21 ∈ WALL := fun _ => Or.inr (List.mem_filter.mpr ⟨tm4 (List.mem_of_getElem? (i := 75) rfl), cwg _⟩)
theorem cw_22 : rl2 22 = true → 22 = 358 ∨ cwd 22 ∈ WALL := fun _ => Or.inr (List.mem_filter.mpr ⟨tm4 (List.mem_of_getElem? (i := 79) rfl), cwg _⟩)
theorem cw_23 : rl2 23 = true → 23 = 358 ∨ cwd 23 ∈ WALL := fun _ => Or.inr (List.mem_filter.mpr ⟨tm4 (List.mem_of_getElem? (i := 100) rfl), cwg _⟩)
theorem cw_24 : rl2 24 = true → 24 = 358 ∨ cwd 24 ∈ WALL := fun _ => Or.inr (List.mem_filter.mpr ⟨tm4 (List.mem_of_getElem? (i := 111) rfl), cwg _⟩)
theorem cw_25 : rl2 25 = true → 25 = 358 ∨ cwd 25 ∈ WALL := fun _ => Or.inr (List.mem_filter.mpr ⟨tm4 (List.mem_of_getElem? (i := 104) rfl), cwg _⟩)
theorem cw_26 : rl2 26 = true → 26 = 358 ∨ cwd 26 ∈ WALL := fun _ => Or.inr (List.mem_filter.mpr ⟨tm7 (List.mem_of_getElem? (i := 47) rfl), cwg _⟩)
theorem cw_27 : rl2 27 = true → 27 = 358 ∨ cwd 27 ∈ WALL := fun _ => Or.inr (List.mem_filter.mpr ⟨tm1 (List.mem_of_getElem? (i := 164) rfl), cwg _⟩)
theorem cw_28 : rl2 28 = true → 28 = 358 ∨ cwd 28 ∈ WALL := fun _ => Or.inr (List.mem_filter.mpr ⟨tm5 (List.mem_of_getElem? (i := 143) rfl), cwg _⟩)
theorem cw_29 : rl2 29 = true → 29 = 358 ∨ cwd 29 ∈ WALL := fun _ => Or.inr (List.mem_filter.mpr ⟨tm5 (List.mem_of_getElem? (i := 134) rfl), cwg _⟩)
theorem cw_30 : rl2 30 = true → 30 = 358 ∨ cwd 30 ∈ WALL := fun _ => Or.inr (List.mem_filter.mpr ⟨tm5 (List.mem_of_getElem? (i := 139) rfl), cwg _⟩)
theorem cw_31 : rl2 31 = true → 31 = 358 ∨ cwd 31 ∈ WALL := fun _ => Or.inr (List.mem_filter.mpr ⟨tm5 (List.mem_of_getElem? (i := 149) rfl), cwg _⟩)
theorem cw_32 : rl2 32 = true → 32 = 358 ∨ cwd 32 ∈ WALL := fun _ => Or.inr (List.mem_filter.mpr ⟨tm5 (List.mem_of_getElem? (i := 153) rfl), cwg _⟩)
theorem cw_33 : rl2 33 = true → 33 = 358 ∨ cwd 33 ∈ WALL := fun _ => Or.inr (List.mem_filter.mpr ⟨tm3 (List.mem_of_getElem? (i := 59) rfl), cwg _⟩)
theorem cw_34 : rl2 34 = true → 34 = 358 ∨ cwd 34 ∈ WALL := fun _ => Or.inr (List.mem_filter.mpr ⟨tm2 (List.mem_of_getElem? (i := 46) rfl), cwg _⟩)
theorem cw_35 : rl2 35 = true → 35 = 358 ∨ cwd 35 ∈ WALL := fun _ => Or.inr (List.mem_filter.mpr ⟨tm4 (List.mem_of_getElem? (i := 181) rfl), cwg _⟩)
theorem cw_36 : rl2 36 = true → 36 = 358 ∨ cwd 36 ∈ WALL := fun _ => Or.inr (List.mem_filter.mpr ⟨tm4 (List.mem_of_getElem? (i := 185) rfl), cwg _⟩)
theorem cw_37 : rl2 37 = true → 37 = 358 ∨ cwd 37 ∈ WALL := fun _ => Or.inr (List.mem_filter.mpr ⟨tm4 (List.mem_of_getElem? (i := 192) rfl), cwg _⟩)
theorem cw_38 : rl2 38 = true → 38 = 358 ∨ cwd 38 ∈ WALL := fun _ => Or.inr (List.mem_filter.mpr ⟨tm4 (List.mem_of_getElem? (i := 198) rfl), cwg _⟩)
theorem cw_39 : rl2 39 = true → 39 = 358 ∨ cwd 39 ∈ WALL := fun _ => Or.inr (List.mem_filter.mpr ⟨tm4 (List.mem_of_getElem? (i := 202) rfl), cwg _⟩)
theorem cw_40 : rl2 40 = true → 40 = 358 ∨ cwd 40 ∈ WALL := fun _ => Or.inr (List.mem_filter.mpr ⟨tm4 (List.mem_of_getElem? (i := 207) rfl), cwg _⟩)
theorem cw_41 : rl2 41 = true → 41 = 358 ∨ cwd 41 ∈ WALL := fun _ => Or.inr (List.mem_filter.mpr ⟨tm4 (List.mem_of_getElem? (i := 219) rfl), cwg _⟩)
theorem cw_42 : rl2 42 = true → 42 = 358 ∨ cwd 42 ∈ WALL := fun _ => Or.inr (List.mem_filter.mpr ⟨tm4 (List.mem_of_getElem? (i := 224) rfl), cwg _⟩)
theorem cw_43 : rl2 43 = true → 43 = 358 ∨ cwd 43 ∈ WALL := fun _ => Or.inr (List.mem_filter.mpr ⟨tm4 (List.mem_of_getElem? (i := 228) rfl), cwg _⟩)
theorem cw_44 : rl2 44 = true → 44 = 358 ∨ cwd 44 ∈ WALL := fun _ => Or.inr (List.mem_filter.mpr ⟨tm1 (List.mem_of_getElem? (i := 50) rfl), cwg _⟩)
theorem cw_45 : rl2 45 = true → 45 = 358 ∨ cwd 45 ∈ WALL := fun _ => Or.inr (List.mem_filter.mpr ⟨tm4 (List.mem_of_getElem? (i := 135) rfl), cwg _⟩)
theorem cw_46 : rl2 46 = true → 46 = 358 ∨ cwd 46 ∈ WALL := fun _ => Or.inr (List.mem_filter.mpr ⟨tm4 (List.mem_of_getElem? (i := 156) rfl), cwg _⟩)
theorem cw_47 : rl2 47 = true → 47 = 358 ∨ cwd 47 ∈ WALL := fun _ => Or.inr (List.mem_filter.mpr ⟨tm3 (List.mem_of_getElem? (i := 33) rfl), cwg _⟩)
theorem cw_48 : rl2 48 = true → 48 = 358 ∨ cwd 48 ∈ WALL := fun _ => Or.inr (List.mem_filter.mpr ⟨tm1 (List.mem_of_getElem? (i := 97) rfl), cwg _⟩)
theorem cw_49 : rl2 49 = true → 49 = 358 ∨ cwd 49 ∈ WALL := fun _ => Or.inr (List.mem_filter.mpr ⟨tm4 (List.mem_of_getElem? (i := 24) rfl), cwg _⟩)
theorem cw_50 : rl2 50 = true → 50 = 358 ∨ cwd 50 ∈ WALL := fun _ => Or.inr (List.mem_filter.mpr ⟨tm4 (List.mem_of_getElem? (i := 35) rfl), cwg _⟩)
theorem cw_51 : rl2 51 = true → 51 = 358 ∨ cwd 51 ∈ WALL := fun h => by cases h
theorem cw_52 : rl2 52 = true → 52 = 358 ∨ cwd 52 ∈ WALL := fun h => by cases h
theorem cw_53 : rl2 53 = true → 53 = 358 ∨ cwd 53 ∈ WALL := fun _ => Or.inr (List.mem_filter.mpr ⟨tm3 (List.mem_of_getElem? (i := 44) rfl), cwg _⟩)
theorem cw_54 : rl2 54 = true → 54 = 358 ∨ cwd 54 ∈ WALL := fun _ => Or.inr (List.mem_filter.mpr ⟨tm1 (List.mem_of_getElem? (i := 113) rfl), cwg _⟩)
theorem cw_55 : rl2 55 = true → 55 = 358 ∨ cwd 55 ∈ WALL := fun _ => Or.inr (List.mem_filter.mpr ⟨tm4 (List.mem_of_getElem? (i := 140) rfl), cwg _⟩)
theorem cw_56 : rl2 56 = true → 56 = 358 ∨ cwd 56 ∈ WALL := fun _ => Or.inr (List.mem_filter.mpr ⟨tm4 (List.mem_of_getElem? (i := 161) rfl), cwg _⟩)
theorem cw_57 : rl2 57 = true → 57 = 358 ∨ cwd 57 ∈ WALL := fun _ => Or.inr (List.mem_filter.mpr ⟨tm5 (List.mem_of_getElem? (i := 8) rfl), cwg _⟩)
theorem cw_58 : rl2 58 = true → 58 = 358 ∨ cwd 58 ∈ WALL := fun _ => Or.inr (List.mem_filter.mpr ⟨tm5 (List.mem_of_getElem? (i := 13) rfl), cwg _⟩)
theorem cw_59 : rl2 59 = true → 59 = 358 ∨ cwd 59 ∈ WALL := fun _ => Or.inr (List.mem_filter.mpr ⟨tm5 (List.mem_of_getElem? (i := 24) rfl), cwg _⟩)
theorem cw_60 : rl2 60 = true → 60 = 358 ∨ cwd 60 ∈ WALL := fun _ => Or.inr (List.mem_filter.mpr ⟨tm5 (List.mem_of_getElem? (i := 28) rfl), cwg _⟩)
theorem cw_61 : rl2 61 = true → 61 = 358 ∨ cwd 61 ∈ WALL := fun _ => Or.inr (List.mem_filter.mpr ⟨tm5 (List.mem_of_getElem? (i := 32) rfl), cwg _⟩)
theorem cw_62 : rl2 62 = true → 62 = 358 ∨ cwd 62 ∈ WALL := fun _ => Or.inr (List.mem_filter.mpr ⟨tm3 (List.mem_of_getElem? (i := 49) rfl), cwg _⟩)
theorem cw_63 : rl2 63 = true → 63 = 358 ∨ cwd 63 ∈ WALL := fun _ => Or.inr (List.mem_filter.mpr ⟨tm1 (List.mem_of_getElem? (i := 143) rfl), cwg _⟩)
theorem cw_64 : rl2 64 = true → 64 = 358 ∨ cwd 64 ∈ WALL := fun _ => Or.inr (List.mem_filter.mpr ⟨tm5 (List.mem_of_getElem? (i := 53) rfl), cwg _⟩)
theorem cw_65 : rl2 65 = true → 65 = 358 ∨ cwd 65 ∈ WALL := fun _ => Or.inr (List.mem_filter.mpr ⟨tm5 (List.mem_of_getElem? (i := 45) rfl), cwg _⟩)
theorem cw_66 : rl2 66 = true → 66 = 358 ∨ cwd 66 ∈ WALL := fun _ => Or.inr (List.mem_filter.mpr ⟨tm5 (List.mem_of_getElem? (i := 49) rfl), cwg _⟩)
theorem cw_67 : rl2 67 = true → 67 = 358 ∨ cwd 67 ∈ WALL := fun _ => Or.inr (List.mem_filter.mpr ⟨tm5 (List.mem_of_getElem? (i := 78) rfl), cwg _⟩)
theorem cw_68 : rl2 68 = true → 68 = 358 ∨ cwd 68 ∈ WALL := fun _ => Or.inr (List.mem_filter.mpr ⟨tm5 (List.mem_of_getElem? (i := 82) rfl), cwg _⟩)
theorem cw_69 : rl2 69 = true → 69 = 358 ∨ cwd 69 ∈ WALL := fun h => by cases h
theorem cw_70 : rl2 70 = true → 70 = 358 ∨ cwd 70 ∈ WALL := fun _ => Or.inr (List.mem_filter.mpr ⟨tm5 (List.mem_of_getElem? (i := 74) rfl), cwg _⟩)
theorem cw_71 : rl2 71 = true → 71 = 358 ∨ cwd 71 ∈ WALL := fun _ => Or.inr (List.mem_filter.mpr ⟨tm5 (List.mem_of_getElem? (i := 106) rfl), cwg _⟩)
theorem cw_72 : rl2 72 = true → 72 = 358 ∨ cwd 72 ∈ WALL := fun _ => Or.inr (List.mem_filter.mpr ⟨tm5 (List.mem_of_getElem? (i := 70) rfl), cwg _⟩)
theorem cw_73 : rl2 73 = true → 73 = 358 ∨ cwd 73 ∈ WALL := fun _ => Or.inr (List.mem_filter.mpr ⟨tm5 (List.mem_of_getElem? (i := 93) rfl), cwg _⟩)
theorem cw_74 : rl2 74 = true → 74 = 358 ∨ cwd 74 ∈ WALL := fun h => by cases h
theorem cw_75 : rl2 75 = true → 75 = 358 ∨ cwd 75 ∈ WALL := fun _ => Or.inr (List.mem_filter.mpr ⟨tm7 (List.mem_of_getElem? (i := 51) rfl), cwg _⟩)
theorem cw_76 : rl2 76 = true → 76 = 358 ∨ cwd 76 ∈ WALL := fun _ => Or.inr (List.mem_filter.mpr ⟨tm7 (List.mem_of_getElem? (i := 56) rfl), cwg _⟩)
theorem cw_77 : rl2 77 = true → 77 = 358 ∨ cwd 77 ∈ WALL := fun _ => Or.inr (List.mem_filter.mpr ⟨tm3 (List.mem_of_getElem? (i := 54) rfl), cwg _⟩)
theorem cw_78 : rl2 78 = true → 78 = 358 ∨ cwd 78 ∈ WALL := fun _ => Or.inr (List.mem_filter.mpr ⟨tm2 (List.mem_of_getElem? (i := 87) rfl), cwg _⟩)
theorem cw_79 : rl2 79 = true → 79 = 358 ∨ cwd 79 ∈ WALL := fun _ => Or.inr (List.mem_filter.mpr ⟨tm6 (List.mem_of_getElem? (i := 193) rfl), cwg _⟩)
theorem cw_80 : rl2 80 = true → 80 = 358 ∨ cwd 80 ∈ WALL := fun _ => Or.inr (List.mem_filter.mpr ⟨tm6 (List.mem_of_getElem? (i := 190) rfl), cwg _⟩)
theorem cw_81 : rl2 81 = true → 81 = 358 ∨ cwd 81 ∈ WALL := fun _ => Or.inr (List.mem_filter.mpr ⟨tm6 (List.mem_of_getElem? (i := 199) rfl), cwg _⟩)
theorem cw_82 : rl2 82 = true → 82 = 358 ∨ cwd 82 ∈ WALL := fun _ => Or.inr (List.mem_filter.mpr ⟨tm6 (List.mem_of_getElem? (i := 207) rfl), cwg _⟩)
theorem cw_83 : rl2 83 = true → 83 = 358 ∨ cwd 83 ∈ WALL := fun _ => Or.inr (List.mem_filter.mpr ⟨tm6 (List.mem_of_getElem? (i := 211) rfl), cwg _⟩)
theorem cw_84 : rl2 84 = true → 84 = 358 ∨ cwd 84 ∈ WALL := fun _ => Or.inr (List.mem_filter.mpr ⟨tm6 (List.mem_of_getElem? (i := 215) rfl), cwg _⟩)
theorem cw_85 : rl2 85 = true → 85 = 358 ∨ cwd 85 ∈ WALL := fun _ => Or.inr (List.mem_filter.mpr ⟨tm6 (List.mem_of_getElem? (i := 218) rfl), cwg _⟩)
theorem cw_86 : rl2 86 = true → 86 = 358 ∨ cwd 86 ∈ WALL := fun _ => Or.inr (List.mem_filter.mpr ⟨tm6 (List.mem_of_getElem? (i := 228) rfl), cwg _⟩)
theorem cw_87 : rl2 87 = true → 87 = 358 ∨ cwd 87 ∈ WALL := fun _ => Or.inr (List.mem_filter.mpr ⟨tm6 (List.mem_of_getElem? (i := 236) rfl), cwg _⟩)
theorem cw_88 : rl2 88 = true → 88 = 358 ∨ cwd 88 ∈ WALL := fun _ => Or.inr (List.mem_filter.mpr ⟨tm7 (List.mem_of_getElem? (i := 9) rfl), cwg _⟩)
theorem cw_89 : rl2 89 = true → 89 = 358 ∨ cwd 89 ∈ WALL := fun _ => Or.inr (List.mem_filter.mpr ⟨tm1 (List.mem_of_getElem? (i := 44) rfl), cwg _⟩)
theorem cw_90 : rl2 90 = true → 90 = 358 ∨ cwd 90 ∈ WALL := fun _ => Or.inr (List.mem_filter.mpr ⟨tm2 (List.mem_of_getElem? (i := 196) rfl), cwg _⟩)
theorem cw_91 : rl2 91 = true → 91 = 358 ∨ cwd 91 ∈ WALL := fun _ => Or.inr (List.mem_filter.mpr ⟨tm3 (List.mem_of_getElem? (i := 136) rfl), cwg _⟩)
theorem cw_92 : rl2 92 = true → 92 = 358 ∨ cwd 92 ∈ WALL := fun _ => Or.inr (List.mem_filter.mpr ⟨tm3 (List.mem_of_getElem? (i := 182) rfl), cwg _⟩)
theorem cw_93 : rl2 93 = true → 93 = 358 ∨ cwd 93 ∈ WALL := fun _ => Or.inr (List.mem_filter.mpr ⟨tm3 (List.mem_of_getElem? (i := 221) rfl), cwg _⟩)
theorem cw_94 : rl2 94 = true → 94 = 358 ∨ cwd 94 ∈ WALL := fun _ => Or.inr (List.mem_filter.mpr ⟨tm3 (List.mem_of_getElem? (i := 211) rfl), cwg _⟩)
theorem cw_95 : rl2 95 = true → 95 = 358 ∨ cwd 95 ∈ WALL := fun _ => Or.inr (List.mem_filter.mpr ⟨tm3 (List.mem_of_getElem? (i := 207) rfl), cwg _⟩)
theorem cw_96 : rl2 96 = true → 96 = 358 ∨ cwd 96 ∈ WALL := fun _ => Or.inr (List.mem_filter.mpr ⟨tm3 (List.mem_of_getElem? (i := 75) rfl), cwg _⟩)
theorem cw_97 : rl2 97 = true → 97 = 358 ∨ cwd 97 ∈ WALL := fun _ => Or.inr (List.mem_filter.mpr ⟨tm3 (List.mem_of_getElem? (i := 190) rfl), cwg _⟩)
theorem cw_98 : rl2 98 = true → 98 = 358 ∨ cwd 98 ∈ WALL := fun _ => Or.inr (List.mem_filter.mpr ⟨tm3 (List.mem_of_getElem? (i := 194) rfl), cwg _⟩)
theorem cw_99 : rl2 99 = true → 99 = 358 ∨ cwd 99 ∈ WALL := fun h => by cases h
theorem cw_100 : rl2 100 = true → 100 = 358 ∨ cwd 100 ∈ WALL := fun _ => Or.inr (List.mem_filter.mpr ⟨tm3 (List.mem_of_getElem? (i := 199) rfl), cwg _⟩)
theorem cw_101 : rl2 101 = true → 101 = 358 ∨ cwd 101 ∈ WALL := fun _ => Or.inr (List.mem_filter.mpr ⟨tm4 (List.mem_of_getElem? (i := 3) rfl), cwg _⟩)
theorem cw_102 : rl2 102 = true → 102 = 358 ∨ cwd 102 ∈ WALL := fun h => by cases h
theorem cw_103 : rl2 103 = true → 103 = 358 ∨ cwd 103 ∈ WALL := fun _ => Or.inr (List.mem_filter.mpr ⟨tm4 (List.mem_of_getElem? (i := 54) rfl), cwg _⟩)
theorem cw_104 : rl2 104 = true → 104 = 358 ∨ cwd 104 ∈ WALL := fun _ => Or.inr (List.mem_filter.mpr ⟨tm4 (List.mem_of_getElem? (i := 91) rfl), cwg _⟩)
theorem cw_105 : rl2 105 = true → 105 = 358 ∨ cwd 105 ∈ WALL := fun _ => Or.inr (List.mem_filter.mpr ⟨tm4 (List.mem_of_getElem? (i := 58) rfl), cwg _⟩)
theorem cw_106 : rl2 106 = true → 106 = 358 ∨ cwd 106 ∈ WALL := fun _ => Or.inr (List.mem_filter.mpr ⟨tm4 (List.mem_of_getElem? (i := 95) rfl), cwg _⟩)
theorem cw_107 : rl2 107 = true → 107 = 358 ∨ cwd 107 ∈ WALL := fun _ => Or.inr (List.mem_filter.mpr ⟨tm4 (List.mem_of_getElem? (i := 86) rfl), cwg _⟩)
theorem cw_108 : rl2 108 = true → 108 = 358 ∨ cwd 108 ∈ WALL := fun _ => Or.inr (List.mem_filter.mpr ⟨tm4 (List.mem_of_getElem? (i := 67) rfl), cwg _⟩)
theorem cw_109 : rl2 109 = true → 109 = 358 ∨ cwd 109 ∈ WALL := fun _ => Or.inr (List.mem_filter.mpr ⟨tm4 (List.mem_of_getElem? (i := 123) rfl), cwg _⟩)
theorem cw_110 : rl2 110 = true → 110 = 358 ∨ cwd 110 ∈ WALL := fun h => by cases h
theorem cw_111 : rl2 111 = true → 111 = 358 ∨ cwd 111 ∈ WALL := fun _ => Or.inr (List.mem_filter.mpr ⟨tm4 (List.mem_of_getElem? (i := 147) rfl), cwg _⟩)
theorem cw_112 : rl2 112 = true → 112 = 358 ∨ cwd 112 ∈ WALL := fun h => by cases h
theorem cw_113 : rl2 113 = true → 113 = 358 ∨ cwd 113 ∈ WALL := fun _ => Or.inr (List.mem_filter.mpr ⟨tm5 (List.mem_of_getElem? (i := 161) rfl), cwg _⟩)
theorem cw_114 : rl2 114 = true → 114 = 358 ∨ cwd 114 ∈ WALL := fun _ => Or.inr (List.mem_filter.mpr ⟨tm4 (List.mem_of_getElem? (i := 177) rfl), cwg _⟩)
theorem cw_115 : rl2 115 = true → 115 = 358 ∨ cwd 115 ∈ WALL := fun _ => Or.inr (List.mem_filter.mpr ⟨tm4 (List.mem_of_getElem? (i := 211) rfl), cwg _⟩)
theorem cw_116 : rl2 116 = true → 116 = 358 ∨ cwd 116 ∈ WALL := fun _ => Or.inr (List.mem_filter.mpr ⟨tm4 (List.mem_of_getElem? (i := 215) rfl), cwg _⟩)
theorem cw_117 : rl2 117 = true → 117 = 358 ∨ cwd 117 ∈ WALL := fun _ => Or.inr (List.mem_filter.mpr ⟨tm4 (List.mem_of_getElem? (i := 232) rfl), cwg _⟩)
theorem cw_118 : rl2 118 = true → 118 = 358 ∨ cwd 118 ∈ WALL := fun _ => Or.inr (List.mem_filter.mpr ⟨tm5 (List.mem_of_getElem? (i := 3) rfl), cwg _⟩)
theorem cw_119 : rl2 119 = true → 119 = 358 ∨ cwd 119 ∈ WALL := fun h => by cases h
theorem cw_120 : rl2 120 = true → 120 = 358 ∨ cwd 120 ∈ WALL := fun _ => Or.inr (List.mem_filter.mpr ⟨tm5 (List.mem_of_getElem? (i := 20) rfl), cwg _⟩)
theorem cw_121 : rl2 121 = true → 121 = 358 ∨ cwd 121 ∈ WALL := fun _ => Or.inr (List.mem_filter.mpr ⟨tm5 (List.mem_of_getElem? (i := 57) rfl), cwg _⟩)
theorem cw_122 : rl2 122 = true → 122 = 358 ∨ cwd 122 ∈ WALL := fun _ => Or.inr (List.mem_filter.mpr ⟨tm5 (List.mem_of_getElem? (i := 41) rfl), cwg _⟩)
theorem cw_123 : rl2 123 = true → 123 = 358 ∨ cwd 123 ∈ WALL := fun h => by cases h
theorem cw_124 : rl2 124 = true → 124 = 358 ∨ cwd 124 ∈ WALL := fun _ => Or.inr (List.mem_filter.mpr ⟨tm5 (List.mem_of_getElem? (i := 97) rfl), cwg _⟩)
theorem cw_125 : rl2 125 = true → 125 = 358 ∨ cwd 125 ∈ WALL := fun h => by cases h
theorem cw_126 : rl2 126 = true → 126 = 358 ∨ cwd 126 ∈ WALL := fun _ => Or.inr (List.mem_filter.mpr ⟨tm5 (List.mem_of_getElem? (i := 102) rfl), cwg _⟩)
theorem cw_127 : rl2 127 = true → 127 = 358 ∨ cwd 127 ∈ WALL := fun _ => Or.inr (List.mem_filter.mpr ⟨tm5 (List.mem_of_getElem? (i := 61) rfl), cwg _⟩)
theorem cw_128 : rl2 128 = true → 128 = 358 ∨ cwd 128 ∈ WALL := fun _ => Or.inr (List.mem_filter.mpr ⟨tm5 (List.mem_of_getElem? (i := 89) rfl), cwg _⟩)
theorem cw_129 : rl2 129 = true → 129 = 358 ∨ cwd 129 ∈ WALL := fun _ => Or.inr (List.mem_filter.mpr ⟨tm5 (List.mem_of_getElem? (i := 114) rfl), cwg _⟩)
theorem cw_130 : rl2 130 = true → 130 = 358 ∨ cwd 130 ∈ WALL := fun _ => Or.inr (List.mem_filter.mpr ⟨tm5 (List.mem_of_getElem? (i := 130) rfl), cwg _⟩)
theorem cw_131 : rl2 131 = true → 131 = 358 ∨ cwd 131 ∈ WALL := fun _ => Or.inr (List.mem_filter.mpr ⟨tm5 (List.mem_of_getElem? (i := 122) rfl), cwg _⟩)
theorem cw_132 : rl2 132 = true → 132 = 358 ∨ cwd 132 ∈ WALL := fun _ => Or.inr (List.mem_filter.mpr ⟨tm5 (List.mem_of_getElem? (i := 126) rfl), cwg _⟩)
theorem cw_133 : rl2 133 = true → 133 = 358 ∨ cwd 133 ∈ WALL := fun _ => Or.inr (List.mem_filter.mpr ⟨tm6 (List.mem_of_getElem? (i := 187) rfl), cwg _⟩)
theorem cw_134 : rl2 134 = true → 134 = 358 ∨ cwd 134 ∈ WALL := fun _ => Or.inr (List.mem_filter.mpr ⟨tm6 (List.mem_of_getElem? (i := 203) rfl), cwg _⟩)
theorem cw_135 : rl2 135 = true → 135 = 358 ∨ cwd 135 ∈ WALL := fun _ => Or.inr (List.mem_filter.mpr ⟨tm7 (List.mem_of_getElem? (i := 4) rfl), cwg _⟩)
theorem cw_136 : rl2 136 = true → 136 = 358 ∨ cwd 136 ∈ WALL := fun _ => Or.inr (List.mem_filter.mpr ⟨tm3 (List.mem_of_getElem? (i := 229) rfl), cwg _⟩)
theorem cw_137 : rl2 137 = true → 137 = 358 ∨ cwd 137 ∈ WALL := fun h => by cases h
theorem cw_138 : rl2 138 = true → 138 = 358 ∨ cwd 138 ∈ WALL := fun h => by cases h
theorem cw_139 : rl2 139 = true → 139 = 358 ∨ cwd 139 ∈ WALL := fun h => by cases h
theorem cw_140 : rl2 140 = true → 140 = 358 ∨ cwd 140 ∈ WALL := fun _ => Or.inr (List.mem_filter.mpr ⟨tm7 (List.mem_of_getElem? (i := 34) rfl), cwg _⟩)
theorem cw_141 : rl2 141 = true → 141 = 358 ∨ cwd 141 ∈ WALL := fun _ => Or.inr (List.mem_filter.mpr ⟨tm3 (List.mem_of_getElem? (i := 29) rfl), cwg _⟩)
theorem cw_142 : rl2 142 = true → 142 = 358 ∨ cwd 142 ∈ WALL := fun _ => Or.inr (List.mem_filter.mpr ⟨tm3 (List.mem_of_getElem? (i := 140) rfl), cwg _⟩)
theorem cw_143 : rl2 143 = true → 143 = 358 ∨ cwd 143 ∈ WALL := fun _ => Or.inr (List.mem_filter.mpr ⟨tm3 (List.mem_of_getElem? (i := 79) rfl), cwg _⟩)
theorem cw_144 : rl2 144 = true → 144 = 358 ∨ cwd 144 ∈ WALL := fun _ => Or.inr (List.mem_filter.mpr ⟨tm4 (List.mem_of_getElem? (i := 12) rfl), cwg _⟩)
theorem cw_145 : rl2 145 = true → 145 = 358 ∨ cwd 145 ∈ WALL := fun _ => Or.inr (List.mem_filter.mpr ⟨tm7 (List.mem_of_getElem? (i := 14) rfl), cwg _⟩)
theorem cw_146 : rl2 146 = true → 146 = 358 ∨ cwd 146 ∈ WALL := fun _ => Or.inr (List.mem_filter.mpr ⟨tm3 (List.mem_of_getElem? (i := 83) rfl), cwg _⟩)
theorem cw_147 : rl2 147 = true → 147 = 358 ∨ cwd 147 ∈ WALL := fun _ => Or.inr (List.mem_filter.mpr ⟨tm4 (List.mem_of_getElem? (i := 7) rfl), cwg _⟩)
theorem cw_148 : rl2 148 = true → 148 = 358 ∨ cwd 148 ∈ WALL := fun _ => Or.inr (List.mem_filter.mpr ⟨tm3 (List.mem_of_getElem? (i := 215) rfl), cwg _⟩)
theorem cw_149 : rl2 149 = true → 149 = 358 ∨ cwd 149 ∈ WALL := fun _ => Or.inr (List.mem_filter.mpr ⟨tm4 (List.mem_of_getElem? (i := 127) rfl), cwg _⟩)
theorem cw_150 : rl2 150 = true → 150 = 358 ∨ cwd 150 ∈ WALL := fun _ => Or.inr (List.mem_filter.mpr ⟨tm4 (List.mem_of_getElem? (i := 151) rfl), cwg _⟩)
theorem cw_151 : rl2 151 = true → 151 = 358 ∨ cwd 151 ∈ WALL := fun _ => Or.inr (List.mem_filter.mpr ⟨tm5 (List.mem_of_getElem? (i := 65) rfl), cwg _⟩)
theorem cw_152 : rl2 152 = true → 152 = 358 ∨ cwd 152 ∈ WALL := fun _ => Or.inr (List.mem_filter.mpr ⟨tm4 (List.mem_of_getElem? (i := 130) rfl), cwg _⟩)
theorem cw_153 : rl2 153 = true → 153 = 358 ∨ cwd 153 ∈ WALL := fun _ => Or.inr (List.mem_filter.mpr ⟨tm3 (List.mem_of_getElem? (i := 159) rfl), cwg _⟩)
theorem cw_154 : rl2 154 = true → 154 = 358 ∨ cwd 154 ∈ WALL := fun h => by cases h
theorem cw_155 : rl2 155 = true → 155 = 358 ∨ cwd 155 ∈ WALL := fun h => by cases h
theorem cw_156 : rl2 156 = true → 156 = 358 ∨ cwd 156 ∈ WALL := fun h => by cases h
theorem cw_157 : rl2 157 = true → 157 = 358 ∨ cwd 157 ∈ WALL := fun h => by cases h
theorem cw_158 : rl2 158 = true → 158 = 358 ∨ cwd 158 ∈ WALL := fun h => by cases h
theorem cw_159 : rl2 159 = true → 159 = 358 ∨ cwd 159 ∈ WALL := fun h => by cases h
theorem cw_160 : rl2 160 = true → 160 = 358 ∨ cwd 160 ∈ WALL := fun h => by cases h
theorem cw_161 : rl2 161 = true → 161 = 358 ∨ cwd 161 ∈ WALL := fun h => by cases h
theorem cw_162 : rl2 162 = true → 162 = 358 ∨ cwd 162 ∈ WALL := fun h => by cases h
theorem cw_163 : rl2 163 = true → 163 = 358 ∨ cwd 163 ∈ WALL := fun h => by cases h
theorem cw_164 : rl2 164 = true → 164 = 358 ∨ cwd 164 ∈ WALL := fun h => by cases h
theorem cw_165 : rl2 165 = true → 165 = 358 ∨ cwd 165 ∈ WALL := fun h => by cases h
theorem cw_166 : rl2 166 = true → 166 = 358 ∨ cwd 166 ∈ WALL := fun h => by cases h
theorem cw_167 : rl2 167 = true → 167 = 358 ∨ cwd 167 ∈ WALL := fun h => by cases h
theorem cw_168 : rl2 168 = true → 168 = 358 ∨ cwd 168 ∈ WALL := fun h => by cases h
theorem cw_169 : rl2 169 = true → 169 = 358 ∨ cwd 169 ∈ WALL := fun h => by cases h
theorem cw_170 : rl2 170 = true → 170 = 358 ∨ cwd 170 ∈ WALL := fun h => by cases h
theorem cw_171 : rl2 171 = true → 171 = 358 ∨ cwd 171 ∈ WALL := fun h => by cases h
theorem cw_172 : rl2 172 = true → 172 = 358 ∨ cwd 172 ∈ WALL := fun h => by cases h
theorem cw_173 : rl2 173 = true → 173 = 358 ∨ cwd 173 ∈ WALL := fun h => by cases h
theorem cw_174 : rl2 174 = true → 174 = 358 ∨ cwd 174 ∈ WALL := fun h => by cases h
theorem cw_175 : rl2 175 = true → 175 = 358 ∨ cwd 175 ∈ WALL := fun h => by cases h
theorem cw_176 : rl2 176 = true → 176 = 358 ∨ cwd 176 ∈ WALL := fun h => by cases h
theorem cw_177 : rl2 177 = true → 177 = 358 ∨ cwd 177 ∈ WALL := fun h => by cases h
theorem cw_178 : rl2 178 = true → 178 = 358 ∨ cwd 178 ∈ WALL := fun h => by cases h
theorem cw_179 : rl2 179 = true → 179 = 358 ∨ cwd 179 ∈ WALL := fun h => by cases h
theorem cw_180 : rl2 180 = true → 180 = 358 ∨ cwd 180 ∈ WALL := fun h => by cases h
theorem cw_181 : rl2 181 = true → 181 = 358 ∨ cwd 181 ∈ WALL := fun h => by cases h
theorem cw_182 : rl2 182 = true → 182 = 358 ∨ cwd 182 ∈ WALL := fun h => by cases h
theorem cw_183 : rl2 183 = true → 183 = 358 ∨ cwd 183 ∈ WALL := fun h => by cases h
theorem cw_184 : rl2 184 = true → 184 = 358 ∨ cwd 184 ∈ WALL := fun h => by cases h
theorem cw_185 : rl2 185 = true → 185 = 358 ∨ cwd 185 ∈ WALL := fun h => by cases h
theorem cw_186 : rl2 186 = true → 186 = 358 ∨ cwd 186 ∈ WALL := fun h => by cases h
theorem cw_187 : rl2 187 = true → 187 = 358 ∨ cwd 187 ∈ WALL := fun h => by cases h
theorem cw_188 : rl2 188 = true → 188 = 358 ∨ cwd 188 ∈ WALL := fun h => by cases h
theorem cw_189 : rl2 189 = true → 189 = 358 ∨ cwd 189 ∈ WALL := fun h => by cases h
theorem cw_190 : rl2 190 = true → 190 = 358 ∨ cwd 190 ∈ WALL := fun h => by cases h
theorem cw_191 : rl2 191 = true → 191 = 358 ∨ cwd 191 ∈ WALL := fun h => by cases h
theorem cw_192 : rl2 192 = true → 192 = 358 ∨ cwd 192 ∈ WALL := fun h => by cases h
theorem cw_193 : rl2 193 = true → 193 = 358 ∨ cwd 193 ∈ WALL := fun h => by cases h
theorem cw_194 : rl2 194 = true → 194 = 358 ∨ cwd 194 ∈ WALL := fun h => by cases h
theorem cw_195 : rl2 195 = true → 195 = 358 ∨ cwd 195 ∈ WALL := fun h => by cases h
theorem cw_196 : rl2 196 = true → 196 = 358 ∨ cwd 196 ∈ WALL := fun h => by cases h
theorem cw_197 : rl2 197 = true → 197 = 358 ∨ cwd 197 ∈ WALL := fun h => by cases h
theorem cw_198 : rl2 198 = true → 198 = 358 ∨ cwd 198 ∈ WALL := fun h => by cases h
theorem cw_199 : rl2 199 = true → 199 = 358 ∨ cwd 199 ∈ WALL := fun h => by cases h
theorem cw_200 : rl2 200 = true → 200 = 358 ∨ cwd 200 ∈ WALL := fun h => by cases h
theorem cw_201 : rl2 201 = true → 201 = 358 ∨ cwd 201 ∈ WALL := fun h => by cases h
theorem cw_202 : rl2 202 = true → 202 = 358 ∨ cwd 202 ∈ WALL := fun h => by cases h
theorem cw_203 : rl2 203 = true → 203 = 358 ∨ cwd 203 ∈ WALL := fun h => by cases h
theorem cw_204 : rl2 204 = true → 204 = 358 ∨ cwd 204 ∈ WALL := fun h => by cases h
theorem cw_205 : rl2 205 = true → 205 = 358 ∨ cwd 205 ∈ WALL := fun h => by cases h
theorem cw_206 : rl2 206 = true → 206 = 358 ∨ cwd 206 ∈ WALL := fun h => by cases h
theorem cw_207 : rl2 207 = true → 207 = 358 ∨ cwd 207 ∈ WALL := fun h => by cases h
theorem cw_208 : rl2 208 = true → 208 = 358 ∨ cwd 208 ∈ WALL := fun h => by cases h
theorem cw_209 : rl2 209 = true → 209 = 358 ∨ cwd 209 ∈ WALL := fun h => by cases h
theorem cw_210 : rl2 210 = true → 210 = 358 ∨ cwd 210 ∈ WALL := fun h => by cases h
theorem cw_211 : rl2 211 = true → 211 = 358 ∨ cwd 211 ∈ WALL := fun h => by cases h
theorem cw_212 : rl2 212 = true → 212 = 358 ∨ cwd 212 ∈ WALL := fun h => by cases h
theorem cw_213 : rl2 213 = true → 213 = 358 ∨ cwd 213 ∈ WALL := fun h => by cases h
theorem cw_214 : rl2 214 = true → 214 = 358 ∨ cwd 214 ∈ WALL := fun h => by cases h
theorem cw_215 : rl2 215 = true → 215 = 358 ∨ cwd 215 ∈ WALL := fun h => by cases h
theorem cw_216 : rl2 216 = true → 216 = 358 ∨ cwd 216 ∈ WALL := fun h => by cases h
theorem cw_217 : rl2 217 = true → 217 = 358 ∨ cwd 217 ∈ WALL := fun h => by cases h
theorem cw_218 : rl2 218 = true → 218 = 358 ∨ cwd 218 ∈ WALL := fun h => by cases h
theorem cw_219 : rl2 219 = true → 219 = 358 ∨ cwd 219 ∈ WALL := fun h => by cases h
theorem cw_220 : rl2 220 = true → 220 = 358 ∨ cwd 220 ∈ WALL := fun h => by cases h
theorem cw_221 : rl2 221 = true → 221 = 358 ∨ cwd 221 ∈ WALL := fun h => by cases h
theorem cw_222 : rl2 222 = true → 222 = 358 ∨ cwd 222 ∈ WALL := fun h => by cases h
theorem cw_223 : rl2 223 = true → 223 = 358 ∨ cwd 223 ∈ WALL := fun h => by cases h
theorem cw_224 : rl2 224 = true → 224 = 358 ∨ cwd 224 ∈ WALL := fun h => by cases h
theorem cw_225 : rl2 225 = true → 225 = 358 ∨ cwd 225 ∈ WALL := fun h => by cases h
theorem cw_226 : rl2 226 = true → 226 = 358 ∨ cwd 226 ∈ WALL := fun h => by cases h
theorem cw_227 : rl2 227 = true → 227 = 358 ∨ cwd 227 ∈ WALL := fun h => by cases h
theorem cw_228 : rl2 228 = true → 228 = 358 ∨ cwd 228 ∈ WALL := fun h => by cases h
theorem cw_229 : rl2 229 = true → 229 = 358 ∨ cwd 229 ∈ WALL := fun h => by cases h
theorem cw_230 : rl2 230 = true → 230 = 358 ∨ cwd 230 ∈ WALL := fun h => by cases h
theorem cw_231 : rl2 231 = true → 231 = 358 ∨ cwd 231 ∈ WALL := fun h => by cases h
theorem cw_232 : rl2 232 = true → 232 = 358 ∨ cwd 232 ∈ WALL := fun h => by cases h
theorem cw_233 : rl2 233 = true → 233 = 358 ∨ cwd 233 ∈ WALL := fun h => by cases h
theorem cw_234 : rl2 234 = true → 234 = 358 ∨ cwd 234 ∈ WALL := fun h => by cases h
theorem cw_235 : rl2 235 = true → 235 = 358 ∨ cwd 235 ∈ WALL := fun h => by cases h
theorem cw_236 : rl2 236 = true → 236 = 358 ∨ cwd 236 ∈ WALL := fun h => by cases h
theorem cw_237 : rl2 237 = true → 237 = 358 ∨ cwd 237 ∈ WALL := fun h => by cases h
theorem cw_238 : rl2 238 = true → 238 = 358 ∨ cwd 238 ∈ WALL := fun h => by cases h
theorem cw_239 : rl2 239 = true → 239 = 358 ∨ cwd 239 ∈ WALL := fun h => by cases h
theorem cw_240 : rl2 240 = true → 240 = 358 ∨ cwd 240 ∈ WALL := fun h => by cases h
theorem cw_241 : rl2 241 = true → 241 = 358 ∨ cwd 241 ∈ WALL := fun h => by cases h
theorem cw_242 : rl2 242 = true → 242 = 358 ∨ cwd 242 ∈ WALL := fun h => by cases h
theorem cw_243 : rl2 243 = true → 243 = 358 ∨ cwd 243 ∈ WALL := fun h => by cases h
theorem cw_244 : rl2 244 = true → 244 = 358 ∨ cwd 244 ∈ WALL := fun h => by cases h
theorem cw_245 : rl2 245 = true → 245 = 358 ∨ cwd 245 ∈ WALL := fun h => by cases h
theorem cw_246 : rl2 246 = true → 246 = 358 ∨ cwd 246 ∈ WALL := fun h => by cases h
theorem cw_247 : rl2 247 = true → 247 = 358 ∨ cwd 247 ∈ WALL := fun h => by cases h
theorem cw_248 : rl2 248 = true → 248 = 358 ∨ cwd 248 ∈ WALL := fun h => by cases h
theorem cw_249 : rl2 249 = true → 249 = 358 ∨ cwd 249 ∈ WALL := fun h => by cases h
theorem cw_250 : rl2 250 = true → 250 = 358 ∨ cwd 250 ∈ WALL := fun h => by cases h
theorem cw_251 : rl2 251 = true → 251 = 358 ∨ cwd 251 ∈ WALL := fun h => by cases h
theorem cw_252 : rl2 252 = true → 252 = 358 ∨ cwd 252 ∈ WALL := fun h => by cases h
theorem cw_253 : rl2 253 = true → 253 = 358 ∨ cwd 253 ∈ WALL := fun h => by cases h
theorem cw_254 : rl2 254 = true → 254 = 358 ∨ cwd 254 ∈ WALL := fun h => by cases h
theorem cw_255 : rl2 255 = true → 255 = 358 ∨ cwd 255 ∈ WALL := fun h => by cases h
theorem cw_256 : rl2 256 = true → 256 = 358 ∨ cwd 256 ∈ WALL := fun h => by cases h
theorem cw_257 : rl2 257 = true → 257 = 358 ∨ cwd 257 ∈ WALL := fun h => by cases h
theorem cw_258 : rl2 258 = true → 258 = 358 ∨ cwd 258 ∈ WALL := fun h => by cases h
theorem cw_259 : rl2 259 = true → 259 = 358 ∨ cwd 259 ∈ WALL := fun h => by cases h
theorem cw_260 : rl2 260 = true → 260 = 358 ∨ cwd 260 ∈ WALL := fun h => by cases h
theorem cw_261 : rl2 261 = true → 261 = 358 ∨ cwd 261 ∈ WALL := fun h => by cases h
theorem cw_262 : rl2 262 = true → 262 = 358 ∨ cwd 262 ∈ WALL := fun h => by cases h
theorem cw_263 : rl2 263 = true → 263 = 358 ∨ cwd 263 ∈ WALL := fun h => by cases h
theorem cw_264 : rl2 264 = true → 264 = 358 ∨ cwd 264 ∈ WALL := fun h => by cases h
theorem cw_265 : rl2 265 = true → 265 = 358 ∨ cwd 265 ∈ WALL := fun h => by cases h
theorem cw_266 : rl2 266 = true → 266 = 358 ∨ cwd 266 ∈ WALL := fun h => by cases h
theorem cw_267 : rl2 267 = true → 267 = 358 ∨ cwd 267 ∈ WALL := fun h => by cases h
theorem cw_268 : rl2 268 = true → 268 = 358 ∨ cwd 268 ∈ WALL := fun h => by cases h
theorem cw_269 : rl2 269 = true → 269 = 358 ∨ cwd 269 ∈ WALL := fun h => by cases h
theorem cw_270 : rl2 270 = true → 270 = 358 ∨ cwd 270 ∈ WALL := fun h => by cases h
theorem cw_271 : rl2 271 = true → 271 = 358 ∨ cwd 271 ∈ WALL := fun h => by cases h
theorem cw_272 : rl2 272 = true → 272 = 358 ∨ cwd 272 ∈ WALL := fun h => by cases h
theorem cw_273 : rl2 273 = true → 273 = 358 ∨ cwd 273 ∈ WALL := fun h => by cases h
theorem cw_274 : rl2 274 = true → 274 = 358 ∨ cwd 274 ∈ WALL := fun h => by cases h
theorem cw_275 : rl2 275 = true → 275 = 358 ∨ cwd 275 ∈ WALL := fun h => by cases h
theorem cw_276 : rl2 276 = true → 276 = 358 ∨ cwd 276 ∈ WALL := fun h => by cases h
theorem cw_277 : rl2 277 = true → 277 = 358 ∨ cwd 277 ∈ WALL := fun h => by cases h
theorem cw_278 : rl2 278 = true → 278 = 358 ∨ cwd 278 ∈ WALL := fun h => by cases h
theorem cw_279 : rl2 279 = true → 279 = 358 ∨ cwd 279 ∈ WALL := fun h => by cases h
theorem cw_280 : rl2 280 = true → 280 = 358 ∨ cwd 280 ∈ WALL := fun h => by cases h
theorem cw_281 : rl2 281 = true → 281 = 358 ∨ cwd 281 ∈ WALL := fun h => by cases h
theorem cw_282 : rl2 282 = true → 282 = 358 ∨ cwd 282 ∈ WALL := fun h => by cases h
theorem cw_283 : rl2 283 = true → 283 = 358 ∨ cwd 283 ∈ WALL := fun h => by cases h
theorem cw_284 : rl2 284 = true → 284 = 358 ∨ cwd 284 ∈ WALL := fun h => by cases h
theorem cw_285 : rl2 285 = true → 285 = 358 ∨ cwd 285 ∈ WALL := fun h => by cases h
theorem cw_286 : rl2 286 = true → 286 = 358 ∨ cwd 286 ∈ WALL := fun h => by cases h
theorem cw_287 : rl2 287 = true → 287 = 358 ∨ cwd 287 ∈ WALL := fun h => by cases h
theorem cw_288 : rl2 288 = true → 288 = 358 ∨ cwd 288 ∈ WALL := fun h => by cases h
theorem cw_289 : rl2 289 = true → 289 = 358 ∨ cwd 289 ∈ WALL := fun h => by cases h
theorem cw_290 : rl2 290 = true → 290 = 358 ∨ cwd 290 ∈ WALL := fun h => by cases h
theorem cw_291 : rl2 291 = true → 291 = 358 ∨ cwd 291 ∈ WALL := fun h => by cases h
theorem cw_292 : rl2 292 = true → 292 = 358 ∨ cwd 292 ∈ WALL := fun h => by cases h
theorem cw_293 : rl2 293 = true → 293 = 358 ∨ cwd 293 ∈ WALL := fun h => by cases h
theorem cw_294 : rl2 294 = true → 294 = 358 ∨ cwd 294 ∈ WALL := fun h => by cases h
theorem cw_295 : rl2 295 = true → 295 = 358 ∨ cwd 295 ∈ WALL := fun h => by cases h
theorem cw_296 : rl2 296 = true → 296 = 358 ∨ cwd 296 ∈ WALL := fun h => by cases h
theorem cw_297 : rl2 297 = true → 297 = 358 ∨ cwd 297 ∈ WALL := fun h => by cases h
theorem cw_298 : rl2 298 = true → 298 = 358 ∨ cwd 298 ∈ WALL := fun h => by cases h
theorem cw_299 : rl2 299 = true → 299 = 358 ∨ cwd 299 ∈ WALL := fun h => by cases h
theorem cw_300 : rl2 300 = true → 300 = 358 ∨ cwd 300 ∈ WALL := fun h => by cases h
theorem cw_301 : rl2 301 = true → 301 = 358 ∨ cwd 301 ∈ WALL := fun h => by cases h
theorem cw_302 : rl2 302 = true → 302 = 358 ∨ cwd 302 ∈ WALL := fun h => by cases h
theorem cw_303 : rl2 303 = true → 303 = 358 ∨ cwd 303 ∈ WALL := fun h => by cases h
theorem cw_304 : rl2 304 = true → 304 = 358 ∨ cwd 304 ∈ WALL := fun h => by cases h
theorem cw_305 : rl2 305 = true → 305 = 358 ∨ cwd 305 ∈ WALL := fun h => by cases h
theorem cw_306 : rl2 306 = true → 306 = 358 ∨ cwd 306 ∈ WALL := fun h => by cases h
theorem cw_307 : rl2 307 = true → 307 = 358 ∨ cwd 307 ∈ WALL := fun h => by cases h
theorem cw_308 : rl2 308 = true → 308 = 358 ∨ cwd 308 ∈ WALL := fun h => by cases h
theorem cw_309 : rl2 309 = true → 309 = 358 ∨ cwd 309 ∈ WALL := fun h => by cases h
theorem cw_310 : rl2 310 = true → 310 = 358 ∨ cwd 310 ∈ WALL := fun _ => Or.inr (List.mem_filter.mpr ⟨tm4 (List.mem_of_getElem? (i := 47) rfl), cwg _⟩)
theorem cw_311 : rl2 311 = true → 311 = 358 ∨ cwd 311 ∈ WALL := fun _ => Or.inr (List.mem_filter.mpr ⟨tm1 (List.mem_of_getElem? (i := 147) rfl), cwg _⟩)
theorem cw_312 : rl2 312 = true → 312 = 358 ∨ cwd 312 ∈ WALL := fun _ => Or.inr (List.mem_filter.mpr ⟨tm6 (List.mem_of_getElem? (i := 28) rfl), cwg _⟩)
theorem cw_313 : rl2 313 = true → 313 = 358 ∨ cwd 313 ∈ WALL := fun _ => Or.inr (List.mem_filter.mpr ⟨tm6 (List.mem_of_getElem? (i := 32) rfl), cwg _⟩)
theorem cw_314 : rl2 314 = true → 314 = 358 ∨ cwd 314 ∈ WALL := fun _ => Or.inr (List.mem_filter.mpr ⟨tm6 (List.mem_of_getElem? (i := 167) rfl), cwg _⟩)
theorem cw_315 : rl2 315 = true → 315 = 358 ∨ cwd 315 ∈ WALL := fun _ => Or.inr (List.mem_filter.mpr ⟨tm6 (List.mem_of_getElem? (i := 163) rfl), cwg _⟩)
theorem cw_316 : rl2 316 = true → 316 = 358 ∨ cwd 316 ∈ WALL := fun _ => Or.inr (List.mem_filter.mpr ⟨tm6 (List.mem_of_getElem? (i := 170) rfl), cwg _⟩)
theorem cw_317 : rl2 317 = true → 317 = 358 ∨ cwd 317 ∈ WALL := fun _ => Or.inr (List.mem_filter.mpr ⟨tm4 (List.mem_of_getElem? (i := 107) rfl), cwg _⟩)
theorem cw_318 : rl2 318 = true → 318 = 358 ∨ cwd 318 ∈ WALL := fun _ => Or.inr (List.mem_filter.mpr ⟨tm2 (List.mem_of_getElem? (i := 137) rfl), cwg _⟩)
theorem cw_319 : rl2 319 = true → 319 = 358 ∨ cwd 319 ∈ WALL := fun _ => Or.inr (List.mem_filter.mpr ⟨tm2 (List.mem_of_getElem? (i := 191) rfl), cwg _⟩)
theorem cw_320 : rl2 320 = true → 320 = 358 ∨ cwd 320 ∈ WALL := fun _ => Or.inr (List.mem_filter.mpr ⟨tm1 (List.mem_of_getElem? (i := 36) rfl), cwg _⟩)
theorem cw_321 : rl2 321 = true → 321 = 358 ∨ cwd 321 ∈ WALL := fun _ => Or.inr (List.mem_filter.mpr ⟨tm3 (List.mem_of_getElem? (i := 131) rfl), cwg _⟩)
theorem cw_322 : rl2 322 = true → 322 = 358 ∨ cwd 322 ∈ WALL := fun _ => Or.inr (List.mem_filter.mpr ⟨tm3 (List.mem_of_getElem? (i := 70) rfl), cwg _⟩)
theorem cw_323 : rl2 323 = true → 323 = 358 ∨ cwd 323 ∈ WALL := fun _ => Or.inr (List.mem_filter.mpr ⟨tm3 (List.mem_of_getElem? (i := 186) rfl), cwg _⟩)
theorem cw_324 : rl2 324 = true → 324 = 358 ∨ cwd 324 ∈ WALL := fun _ => Or.inr (List.mem_filter.mpr ⟨tm3 (List.mem_of_getElem? (i := 67) rfl), cwg _⟩)
theorem cw_325 : rl2 325 = true → 325 = 358 ∨ cwd 325 ∈ WALL := fun _ => Or.inr (List.mem_filter.mpr ⟨tm3 (List.mem_of_getElem? (i := 203) rfl), cwg _⟩)
theorem cw_326 : rl2 326 = true → 326 = 358 ∨ cwd 326 ∈ WALL := fun _ => Or.inr (List.mem_filter.mpr ⟨tm3 (List.mem_of_getElem? (i := 239) rfl), cwg _⟩)
theorem cw_327 : rl2 327 = true → 327 = 358 ∨ cwd 327 ∈ WALL := fun _ => Or.inr (List.mem_filter.mpr ⟨tm4 (List.mem_of_getElem? (i := 115) rfl), cwg _⟩)
theorem cw_328 : rl2 328 = true → 328 = 358 ∨ cwd 328 ∈ WALL := fun _ => Or.inr (List.mem_filter.mpr ⟨tm4 (List.mem_of_getElem? (i := 115) rfl), cwg _⟩)
theorem cw_329 : rl2 329 = true → 329 = 358 ∨ cwd 329 ∈ WALL := fun _ => Or.inr (List.mem_filter.mpr ⟨tm4 (List.mem_of_getElem? (i := 115) rfl), cwg _⟩)
theorem cw_330 : rl2 330 = true → 330 = 358 ∨ cwd 330 ∈ WALL := fun _ => Or.inr (List.mem_filter.mpr ⟨tm4 (List.mem_of_getElem? (i := 115) rfl), cwg _⟩)
theorem cw_331 : rl2 331 = true → 331 = 358 ∨ cwd 331 ∈ WALL := fun _ => Or.inr (List.mem_filter.mpr ⟨tm4 (List.mem_of_getElem? (i := 115) rfl), cwg _⟩)
theorem cw_332 : rl2 332 = true → 332 = 358 ∨ cwd 332 ∈ WALL := fun _ => Or.inr (List.mem_filter.mpr ⟨tm4 (List.mem_of_getElem? (i := 115) rfl), cwg _⟩)
theorem cw_333 : rl2 333 = true → 333 = 358 ∨ cwd 333 ∈ WALL := fun _ => Or.inr (List.mem_filter.mpr ⟨tm4 (List.mem_of_getElem? (i := 115) rfl), cwg _⟩)
theorem cw_334 : rl2 334 = true → 334 = 358 ∨ cwd 334 ∈ WALL := fun _ => Or.inr (List.mem_filter.mpr ⟨tm3 (List.mem_of_getElem? (i := 234) rfl), cwg _⟩)
theorem cw_335 : rl2 335 = true → 335 = 358 ∨ cwd 335 ∈ WALL := fun _ => Or.inr (List.mem_filter.mpr ⟨tm4 (List.mem_of_getElem? (i := 165) rfl), cwg _⟩)
theorem cw_336 : rl2 336 = true → 336 = 358 ∨ cwd 336 ∈ WALL := fun _ => Or.inr (List.mem_filter.mpr ⟨tm4 (List.mem_of_getElem? (i := 165) rfl), cwg _⟩)
theorem cw_337 : rl2 337 = true → 337 = 358 ∨ cwd 337 ∈ WALL := fun _ => Or.inr (List.mem_filter.mpr ⟨tm4 (List.mem_of_getElem? (i := 165) rfl), cwg _⟩)
theorem cw_338 : rl2 338 = true → 338 = 358 ∨ cwd 338 ∈ WALL := fun _ => Or.inr (List.mem_filter.mpr ⟨tm4 (List.mem_of_getElem? (i := 165) rfl), cwg _⟩)
theorem cw_339 : rl2 339 = true → 339 = 358 ∨ cwd 339 ∈ WALL := fun _ => Or.inr (List.mem_filter.mpr ⟨tm4 (List.mem_of_getElem? (i := 165) rfl), cwg _⟩)
theorem cw_340 : rl2 340 = true → 340 = 358 ∨ cwd 340 ∈ WALL := fun _ => Or.inr (List.mem_filter.mpr ⟨tm4 (List.mem_of_getElem? (i := 165) rfl), cwg _⟩)
theorem cw_341 : rl2 341 = true → 341 = 358 ∨ cwd 341 ∈ WALL := fun _ => Or.inr (List.mem_filter.mpr ⟨tm4 (List.mem_of_getElem? (i := 165) rfl), cwg _⟩)
theorem cw_342 : rl2 342 = true → 342 = 358 ∨ cwd 342 ∈ WALL := fun _ => Or.inr (List.mem_filter.mpr ⟨tm4 (List.mem_of_getElem? (i := 165) rfl), cwg _⟩)
theorem cw_343 : rl2 343 = true → 343 = 358 ∨ cwd 343 ∈ WALL := fun _ => Or.inr (List.mem_filter.mpr ⟨tm4 (List.mem_of_getElem? (i := 165) rfl), cwg _⟩)
theorem cw_344 : rl2 344 = true → 344 = 358 ∨ cwd 344 ∈ WALL := fun _ => Or.inr (List.mem_filter.mpr ⟨tm4 (List.mem_of_getElem? (i := 165) rfl), cwg _⟩)
theorem cw_345 : rl2 345 = true → 345 = 358 ∨ cwd 345 ∈ WALL := fun _ => Or.inr (List.mem_filter.mpr ⟨tm4 (List.mem_of_getElem? (i := 165) rfl), cwg _⟩)
theorem cw_346 : rl2 346 = true → 346 = 358 ∨ cwd 346 ∈ WALL := fun _ => Or.inr (List.mem_filter.mpr ⟨tm4 (List.mem_of_getElem? (i := 170) rfl), cwg _⟩)
theorem cw_347 : rl2 347 = true → 347 = 358 ∨ cwd 347 ∈ WALL := fun _ => Or.inr (List.mem_filter.mpr ⟨tm4 (List.mem_of_getElem? (i := 143) rfl), cwg _⟩)
theorem cw_348 : rl2 348 = true → 348 = 358 ∨ cwd 348 ∈ WALL := fun _ => Or.inr (List.mem_filter.mpr ⟨tm4 (List.mem_of_getElem? (i := 119) rfl), cwg _⟩)
theorem cw_349 : rl2 349 = true → 349 = 358 ∨ cwd 349 ∈ WALL := fun _ => Or.inr (List.mem_filter.mpr ⟨tm4 (List.mem_of_getElem? (i := 239) rfl), cwg _⟩)
theorem cw_350 : rl2 350 = true → 350 = 358 ∨ cwd 350 ∈ WALL := fun _ => Or.inr (List.mem_filter.mpr ⟨tm5 (List.mem_of_getElem? (i := 16) rfl), cwg _⟩)
theorem cw_351 : rl2 351 = true → 351 = 358 ∨ cwd 351 ∈ WALL := fun _ => Or.inr (List.mem_filter.mpr ⟨tm4 (List.mem_of_getElem? (i := 236) rfl), cwg _⟩)
theorem cw_352 : rl2 352 = true → 352 = 358 ∨ cwd 352 ∈ WALL := fun _ => Or.inr (List.mem_filter.mpr ⟨tm5 (List.mem_of_getElem? (i := 37) rfl), cwg _⟩)
theorem cw_353 : rl2 353 = true → 353 = 358 ∨ cwd 353 ∈ WALL := fun _ => Or.inr (List.mem_filter.mpr ⟨tm5 (List.mem_of_getElem? (i := 118) rfl), cwg _⟩)
theorem cw_354 : rl2 354 = true → 354 = 358 ∨ cwd 354 ∈ WALL := fun _ => Or.inr (List.mem_filter.mpr ⟨tm5 (List.mem_of_getElem? (i := 110) rfl), cwg _⟩)
theorem cw_355 : rl2 355 = true → 355 = 358 ∨ cwd 355 ∈ WALL := fun _ => Or.inr (List.mem_filter.mpr ⟨tm6 (List.mem_of_getElem? (i := 158) rfl), cwg _⟩)
theorem cw_356 : rl2 356 = true → 356 = 358 ∨ cwd 356 ∈ WALL := fun _ => Or.inr (List.mem_filter.mpr ⟨tm5 (List.mem_of_getElem? (i := 157) rfl), cwg _⟩)
theorem cw_357 : rl2 357 = true → 357 = 358 ∨ cwd 357 ∈ WALL := fun _ => Or.inr (List.mem_filter.mpr ⟨tm2 (List.mem_of_getElem? (i := 187) rfl), cwg _⟩)
theorem cw_358 : rl2 358 = true → 358 = 358 ∨ cwd 358 ∈ WALL := fun _ => Or.inl rfl
theorem cw_359 : rl2 359 = true → 359 = 358 ∨ cwd 359 ∈ WALL := fun _ => Or.inr (List.mem_filter.mpr ⟨tm5 (List.mem_of_getElem? (i := 166) rfl), cwg _⟩)
theorem cw_360 : rl2 360 = true → 360 = 358 ∨ cwd 360 ∈ WALL := fun _ => Or.inr (List.mem_filter.mpr ⟨tm5 (List.mem_of_getElem? (i := 197) rfl), cwg _⟩)
theorem cw_361 : rl2 361 = true → 361 = 358 ∨ cwd 361 ∈ WALL := fun _ => Or.inr (List.mem_filter.mpr ⟨tm6 (List.mem_of_getElem? (i := 71) rfl), cwg _⟩)
theorem cw_362 : rl2 362 = true → 362 = 358 ∨ cwd 362 ∈ WALL := fun _ => Or.inr (List.mem_filter.mpr ⟨tm6 (List.mem_of_getElem? (i := 98) rfl), cwg _⟩)
theorem cw_363 : rl2 363 = true → 363 = 358 ∨ cwd 363 ∈ WALL := fun _ => Or.inr (List.mem_filter.mpr ⟨tm6 (List.mem_of_getElem? (i := 118) rfl), cwg _⟩)
theorem cw_364 : rl2 364 = true → 364 = 358 ∨ cwd 364 ∈ WALL := fun _ => Or.inr (List.mem_filter.mpr ⟨tm5 (List.mem_of_getElem? (i := 169) rfl), cwg _⟩)
theorem cw_365 : rl2 365 = true → 365 = 358 ∨ cwd 365 ∈ WALL := fun _ => Or.inr (List.mem_filter.mpr ⟨tm5 (List.mem_of_getElem? (i := 200) rfl), cwg _⟩)
theorem cw_366 : rl2 366 = true → 366 = 358 ∨ cwd 366 ∈ WALL := fun _ => Or.inr (List.mem_filter.mpr ⟨tm6 (List.mem_of_getElem? (i := 74) rfl), cwg _⟩)
theorem cw_367 : rl2 367 = true → 367 = 358 ∨ cwd 367 ∈ WALL := fun _ => Or.inr (List.mem_filter.mpr ⟨tm5 (List.mem_of_getElem? (i := 208) rfl), cwg _⟩)
theorem cw_368 : rl2 368 = true → 368 = 358 ∨ cwd 368 ∈ WALL := fun _ => Or.inr (List.mem_filter.mpr ⟨tm6 (List.mem_of_getElem? (i := 112) rfl), cwg _⟩)
theorem cw_369 : rl2 369 = true → 369 = 358 ∨ cwd 369 ∈ WALL := fun _ => Or.inr (List.mem_filter.mpr ⟨tm6 (List.mem_of_getElem? (i := 41) rfl), cwg _⟩)
theorem cw_370 : rl2 370 = true → 370 = 358 ∨ cwd 370 ∈ WALL := fun _ => Or.inr (List.mem_filter.mpr ⟨tm5 (List.mem_of_getElem? (i := 238) rfl), cwg _⟩)
theorem cw_371 : rl2 371 = true → 371 = 358 ∨ cwd 371 ∈ WALL := fun _ => Or.inr (List.mem_filter.mpr ⟨tm6 (List.mem_of_getElem? (i := 120) rfl), cwg _⟩)
theorem cw_372 : rl2 372 = true → 372 = 358 ∨ cwd 372 ∈ WALL := fun _ => Or.inr (List.mem_filter.mpr ⟨tm6 (List.mem_of_getElem? (i := 37) rfl), cwg _⟩)
theorem cw_373 : rl2 373 = true → 373 = 358 ∨ cwd 373 ∈ WALL := fun _ => Or.inr (List.mem_filter.mpr ⟨tm6 (List.mem_of_getElem? (i := 106) rfl), cwg _⟩)
theorem cw_374 : rl2 374 = true → 374 = 358 ∨ cwd 374 ∈ WALL := fun _ => Or.inr (List.mem_filter.mpr ⟨tm6 (List.mem_of_getElem? (i := 103) rfl), cwg _⟩)
theorem cw_375 : rl2 375 = true → 375 = 358 ∨ cwd 375 ∈ WALL := fun _ => Or.inr (List.mem_filter.mpr ⟨tm6 (List.mem_of_getElem? (i := 65) rfl), cwg _⟩)
theorem cw_376 : rl2 376 = true → 376 = 358 ∨ cwd 376 ∈ WALL := fun _ => Or.inr (List.mem_filter.mpr ⟨tm6 (List.mem_of_getElem? (i := 77) rfl), cwg _⟩)
theorem cw_377 : rl2 377 = true → 377 = 358 ∨ cwd 377 ∈ WALL := fun _ => Or.inr (List.mem_filter.mpr ⟨tm6 (List.mem_of_getElem? (i := 80) rfl), cwg _⟩)
theorem cw_378 : rl2 378 = true → 378 = 358 ∨ cwd 378 ∈ WALL := fun _ => Or.inr (List.mem_filter.mpr ⟨tm6 (List.mem_of_getElem? (i := 124) rfl), cwg _⟩)
theorem cw_379 : rl2 379 = true → 379 = 358 ∨ cwd 379 ∈ WALL := fun _ => Or.inr (List.mem_filter.mpr ⟨tm6 (List.mem_of_getElem? (i := 127) rfl), cwg _⟩)
theorem cw_380 : rl2 380 = true → 380 = 358 ∨ cwd 380 ∈ WALL := fun _ => Or.inr (List.mem_filter.mpr ⟨tm6 (List.mem_of_getElem? (i := 130) rfl), cwg _⟩)
theorem cw_c0 : ∀ j, j < 40 → (fun j => (rl2 (0 + j) = true → (0 + j) = 358 ∨ cwd (0 + j) ∈ WALL)) j := lt_s (lt_s (lt_s (lt_s (lt_s (lt_s (lt_s (lt_s (lt_s (lt_s (lt_s (lt_s (lt_s (lt_s (lt_s (lt_s (lt_s (lt_s (lt_s (lt_s (lt_s (lt_s (lt_s (lt_s (lt_s (lt_s (lt_s (lt_s (lt_s (lt_s (lt_s (lt_s (lt_s (lt_s (lt_s (lt_s (lt_s (lt_s (lt_s (lt_s (lt_0) cw_0) cw_1) cw_2) cw_3) cw_4) cw_5) cw_6) cw_7) cw_8) cw_9) cw_10) cw_11) cw_12) cw_13) cw_14) cw_15) cw_16) cw_17) cw_18) cw_19) cw_20) cw_21) cw_22) cw_23) cw_24) cw_25) cw_26) cw_27) cw_28) cw_29) cw_30) cw_31) cw_32) cw_33) cw_34) cw_35) cw_36) cw_37) cw_38) cw_39
theorem cw_c40 : ∀ j, j < 40 → (fun j => (rl2 (40 + j) = true → (40 + j) = 358 ∨ cwd (40 + j) ∈ WALL)) j := lt_s (lt_s (lt_s (lt_s (lt_s (lt_s (lt_s (lt_s (lt_s (lt_s (lt_s (lt_s (lt_s (lt_s (lt_s (lt_s (lt_s (lt_s (lt_s (lt_s (lt_s (lt_s (lt_s (lt_s (lt_s (lt_s (lt_s (lt_s (lt_s (lt_s (lt_s (lt_s (lt_s (lt_s (lt_s (lt_s (lt_s (lt_s (lt_s (lt_s (lt_0) cw_40) cw_41) cw_42) cw_43) cw_44) cw_45) cw_46) cw_47) cw_48) cw_49) cw_50) cw_51) cw_52) cw_53) cw_54) cw_55) cw_56) cw_57) cw_58) cw_59) cw_60) cw_61) cw_62) cw_63) cw_64) cw_65) cw_66) cw_67) cw_68) cw_69) cw_70) cw_71) cw_72) cw_73) cw_74) cw_75) cw_76) cw_77) cw_78) cw_79
theorem cw_c80 : ∀ j, j < 40 → (fun j => (rl2 (80 + j) = true → (80 + j) = 358 ∨ cwd (80 + j) ∈ WALL)) j := lt_s (lt_s (lt_s (lt_s (lt_s (lt_s (lt_s (lt_s (lt_s (lt_s (lt_s (lt_s (lt_s (lt_s (lt_s (lt_s (lt_s (lt_s (lt_s (lt_s (lt_s (lt_s (lt_s (lt_s (lt_s (lt_s (lt_s (lt_s (lt_s (lt_s (lt_s (lt_s (lt_s (lt_s (lt_s (lt_s (lt_s (lt_s (lt_s (lt_s (lt_0) cw_80) cw_81) cw_82) cw_83) cw_84) cw_85) cw_86) cw_87) cw_88) cw_89) cw_90) cw_91) cw_92) cw_93) cw_94) cw_95) cw_96) cw_97) cw_98) cw_99) cw_100) cw_101) cw_102) cw_103) cw_104) cw_105) cw_106) cw_107) cw_108) cw_109) cw_110) cw_111) cw_112) cw_113) cw_114) cw_115) cw_116) cw_117) cw_118) cw_119
theorem cw_c120 : ∀ j, j < 40 → (fun j => (rl2 (120 + j) = true → (120 + j) = 358 ∨ cwd (120 + j) ∈ WALL)) j := lt_s (lt_s (lt_s (lt_s (lt_s (lt_s (lt_s (lt_s (lt_s (lt_s (lt_s (lt_s (lt_s (lt_s (lt_s (lt_s (lt_s (lt_s (lt_s (lt_s (lt_s (lt_s (lt_s (lt_s (lt_s (lt_s (lt_s (lt_s (lt_s (lt_s (lt_s (lt_s (lt_s (lt_s (lt_s (lt_s (lt_s (lt_s (lt_s (lt_s (lt_0) cw_120) cw_121) cw_122) cw_123) cw_124) cw_125) cw_126) cw_127) cw_128) cw_129) cw_130) cw_131) cw_132) cw_133) cw_134) cw_135) cw_136) cw_137) cw_138) cw_139) cw_140) cw_141) cw_142) cw_143) cw_144) cw_145) cw_146) cw_147) cw_148) cw_149) cw_150) cw_151) cw_152) cw_153) cw_154) cw_155) cw_156) cw_157) cw_158) cw_159
theorem cw_c160 : ∀ j, j < 40 → (fun j => (rl2 (160 + j) = true → (160 + j) = 358 ∨ cwd (160 + j) ∈ WALL)) j := lt_s (lt_s (lt_s (lt_s (lt_s (lt_s (lt_s (lt_s (lt_s (lt_s (lt_s (lt_s (lt_s (lt_s (lt_s (lt_s (lt_s (lt_s (lt_s (lt_s (lt_s (lt_s (lt_s (lt_s (lt_s (lt_s (lt_s (lt_s (lt_s (lt_s (lt_s (lt_s (lt_s (lt_s (lt_s (lt_s (lt_s (lt_s (lt_s (lt_s (lt_0) cw_160) cw_161) cw_162) cw_163) cw_164) cw_165) cw_166) cw_167) cw_168) cw_169) cw_170) cw_171) cw_172) cw_173) cw_174) cw_175) cw_176) cw_177) cw_178) cw_179) cw_180) cw_181) cw_182) cw_183) cw_184) cw_185) cw_186) cw_187) cw_188) cw_189) cw_190) cw_191) cw_192) cw_193) cw_194) cw_195) cw_196) cw_197) cw_198) cw_199
theorem cw_c200 : ∀ j, j < 40 → (fun j => (rl2 (200 + j) = true → (200 + j) = 358 ∨ cwd (200 + j) ∈ WALL)) j := lt_s (lt_s (lt_s (lt_s (lt_s (lt_s (lt_s (lt_s (lt_s (lt_s (lt_s (lt_s (lt_s (lt_s (lt_s (lt_s (lt_s (lt_s (lt_s (lt_s (lt_s (lt_s (lt_s (lt_s (lt_s (lt_s (lt_s (lt_s (lt_s (lt_s (lt_s (lt_s (lt_s (lt_s (lt_s (lt_s (lt_s (lt_s (lt_s (lt_s (lt_0) cw_200) cw_201) cw_202) cw_203) cw_204) cw_205) cw_206) cw_207) cw_208) cw_209) cw_210) cw_211) cw_212) cw_213) cw_214) cw_215) cw_216) cw_217) cw_218) cw_219) cw_220) cw_221) cw_222) cw_223) cw_224) cw_225) cw_226) cw_227) cw_228) cw_229) cw_230) cw_231) cw_232) cw_233) cw_234) cw_235) cw_236) cw_237) cw_238) cw_239
theorem cw_c240 : ∀ j, j < 40 → (fun j => (rl2 (240 + j) = true → (240 + j) = 358 ∨ cwd (240 + j) ∈ WALL)) j := lt_s (lt_s (lt_s (lt_s (lt_s (lt_s (lt_s (lt_s (lt_s (lt_s (lt_s (lt_s (lt_s (lt_s (lt_s (lt_s (lt_s (lt_s (lt_s (lt_s (lt_s (lt_s (lt_s (lt_s (lt_s (lt_s (lt_s (lt_s (lt_s (lt_s (lt_s (lt_s (lt_s (lt_s (lt_s (lt_s (lt_s (lt_s (lt_s (lt_s (lt_0) cw_240) cw_241) cw_242) cw_243) cw_244) cw_245) cw_246) cw_247) cw_248) cw_249) cw_250) cw_251) cw_252) cw_253) cw_254) cw_255) cw_256) cw_257) cw_258) cw_259) cw_260) cw_261) cw_262) cw_263) cw_264) cw_265) cw_266) cw_267) cw_268) cw_269) cw_270) cw_271) cw_272) cw_273) cw_274) cw_275) cw_276) cw_277) cw_278) cw_279
theorem cw_c280 : ∀ j, j < 40 → (fun j => (rl2 (280 + j) = true → (280 + j) = 358 ∨ cwd (280 + j) ∈ WALL)) j := lt_s (lt_s (lt_s (lt_s (lt_s (lt_s (lt_s (lt_s (lt_s (lt_s (lt_s (lt_s (lt_s (lt_s (lt_s (lt_s (lt_s (lt_s (lt_s (lt_s (lt_s (lt_s (lt_s (lt_s (lt_s (lt_s (lt_s (lt_s (lt_s (lt_s (lt_s (lt_s (lt_s (lt_s (lt_s (lt_s (lt_s (lt_s (lt_s (lt_s (lt_0) cw_280) cw_281) cw_282) cw_283) cw_284) cw_285) cw_286) cw_287) cw_288) cw_289) cw_290) cw_291) cw_292) cw_293) cw_294) cw_295) cw_296) cw_297) cw_298) cw_299) cw_300) cw_301) cw_302) cw_303) cw_304) cw_305) cw_306) cw_307) cw_308) cw_309) cw_310) cw_311) cw_312) cw_313) cw_314) cw_315) cw_316) cw_317) cw_318) cw_319
theorem cw_c320 : ∀ j, j < 40 → (fun j => (rl2 (320 + j) = true → (320 + j) = 358 ∨ cwd (320 + j) ∈ WALL)) j := lt_s (lt_s (lt_s (lt_s (lt_s (lt_s (lt_s (lt_s (lt_s (lt_s (lt_s (lt_s (lt_s (lt_s (lt_s (lt_s (lt_s (lt_s (lt_s (lt_s (lt_s (lt_s (lt_s (lt_s (lt_s (lt_s (lt_s (lt_s (lt_s (lt_s (lt_s (lt_s (lt_s (lt_s (lt_s (lt_s (lt_s (lt_s (lt_s (lt_s (lt_0) cw_320) cw_321) cw_322) cw_323) cw_324) cw_325) cw_326) cw_327) cw_328) cw_329) cw_330) cw_331) cw_332) cw_333) cw_334) cw_335) cw_336) cw_337) cw_338) cw_339) cw_340) cw_341) cw_342) cw_343) cw_344) cw_345) cw_346) cw_347) cw_348) cw_349) cw_350) cw_351) cw_352) cw_353) cw_354) cw_355) cw_356) cw_357) cw_358) cw_359
theorem cw_c360 : ∀ j, j < 21 → (fun j => (rl2 (360 + j) = true → (360 + j) = 358 ∨ cwd (360 + j) ∈ WALL)) j := lt_s (lt_s (lt_s (lt_s (lt_s (lt_s (lt_s (lt_s (lt_s (lt_s (lt_s (lt_s (lt_s (lt_s (lt_s (lt_s (lt_s (lt_s (lt_s (lt_s (lt_s (lt_0) cw_360) cw_361) cw_362) cw_363) cw_364) cw_365) cw_366) cw_367) cw_368) cw_369) cw_370) cw_371) cw_372) cw_373) cw_374) cw_375) cw_376) cw_377) cw_378) cw_379) cw_380
theorem cw_all : ∀ μ, rl2 μ = true → μ = 358 ∨ cwd μ ∈ WALL := by
  intro μ hμ
  have h := rl2_lt hμ
  rcases Nat.lt_or_ge μ 40 with q40 | q40
  · have q := cw_c0 (μ - 0) (by omega); simp only [show 0 + (μ - 0) = μ by omega] at q; exact q hμ
  rcases Nat.lt_or_ge μ 80 with q80 | q80
  · have q := cw_c40 (μ - 40) (by omega); simp only [show 40 + (μ - 40) = μ by omega] at q; exact q hμ
  rcases Nat.lt_or_ge μ 120 with q120 | q120
  · have q := cw_c80 (μ - 80) (by omega); simp only [show 80 + (μ - 80) = μ by omega] at q; exact q hμ
  rcases Nat.lt_or_ge μ 160 with q160 | q160
  · have q := cw_c120 (μ - 120) (by omega); simp only [show 120 + (μ - 120) = μ by omega] at q; exact q hμ
  rcases Nat.lt_or_ge μ 200 with q200 | q200
  · have q := cw_c160 (μ - 160) (by omega); simp only [show 160 + (μ - 160) = μ by omega] at q; exact q hμ
  rcases Nat.lt_or_ge μ 240 with q240 | q240
  · have q := cw_c200 (μ - 200) (by omega); simp only [show 200 + (μ - 200) = μ by omega] at q; exact q hμ
  rcases Nat.lt_or_ge μ 280 with q280 | q280
  · have q := cw_c240 (μ - 240) (by omega); simp only [show 240 + (μ - 240) = μ by omega] at q; exact q hμ
  rcases Nat.lt_or_ge μ 320 with q320 | q320
  · have q := cw_c280 (μ - 280) (by omega); simp only [show 280 + (μ - 280) = μ by omega] at q; exact q hμ
  rcases Nat.lt_or_ge μ 360 with q360 | q360
  · have q := cw_c320 (μ - 320) (by omega); simp only [show 320 + (μ - 320) = μ by omega] at q; exact q hμ
  have q := cw_c360 (μ - 360) (by omega); simp only [show 360 + (μ - 360) = μ by omega] at q; exact q hμ
