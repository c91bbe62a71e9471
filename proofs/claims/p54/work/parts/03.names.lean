/-! ===== BEGIN printed: names, fields, word lists, decode rows ===== -/
def RX0 : String := "GlacierBook$Bounds"
def TX0 : u_T := fun k => match k with
  | 0 => ("GlacierBook$Bounds", "p", "[I", true)
  | 1 => ("GlacierBook$Bounds", "q", "[I", true)
  | 2 => ("GlacierBook$Bounds", "w", "[I", true)
  | 3 => ("GlacierBook$Bounds", "there", "[Z", true)
  | 4 => ("GlacierBook$Bounds", "ages", "[I", true)
  | 5 => ("GlacierBook$Bounds", "count", "I", false)
  | _ => ("GlacierBook$Bounds", "left", "I", false)
def tyX0 : Nat → FieldType := fun k => match k with
  | 0 => .array .int
  | 1 => .array .int
  | 2 => .array .int
  | 3 => .array .boolean
  | 4 => .array .int
  | 5 => .int
  | _ => .int
abbrev wsX00 : List Cond := u_ws RX0 TX0 7
theorem nmX0 : ∀ a, a < 7 → ∀ b, b < 7 → a ≠ b → (TX0 a).2.1 ≠ (TX0 b).2.1 := by decide +kernel
theorem tyX0_ok : ∀ k, k < 7 → parseFieldDescriptor (TX0 k).2.2.1 = some (tyX0 k) := by decide +kernel
abbrev cX0_init : ByteArray := prog_2_method_1_code
def yX0_init : MethodName := ⟨RX0, "<init>", "()V"⟩
abbrev cX0_put : ByteArray := prog_2_method_2_code
def yX0_put : MethodName := ⟨RX0, "put", "(III)I"⟩
abbrev cX0_drop : ByteArray := prog_2_method_3_code
def yX0_drop : MethodName := ⟨RX0, "drop", "(I)V"⟩
abbrev cX0_unfit : ByteArray := prog_2_method_4_code
def yX0_unfit : MethodName := ⟨RX0, "unfit", "()I"⟩
abbrev cX0_lowerAges : ByteArray := prog_2_method_5_code
def yX0_lowerAges : MethodName := ⟨RX0, "lowerAges", "()Z"⟩
abbrev cX0_copy : ByteArray := prog_2_method_6_code
def yX0_copy : MethodName := ⟨RX0, "copy", "(LGlacierBook$Bounds;)V"⟩
def RX1 : String := "GlacierBook$Chains"
def TX1 : u_T := fun k => match k with
  | 0 => ("GlacierBook$Chains", "bounds", "LGlacierBook$Bounds;", true)
  | 1 => ("GlacierBook$Chains", "sum", "[[I", true)
  | 2 => ("GlacierBook$Chains", "ring", "[I", true)
  | _ => ("GlacierBook$Chains", "ringBounds", "I", false)
def tyX1 : Nat → FieldType := fun k => match k with
  | 0 => .object "GlacierBook$Bounds"
  | 1 => .array (.array .int)
  | 2 => .array .int
  | _ => .int
abbrev wsX10 : List Cond := u_ws RX1 TX1 4
theorem nmX1 : ∀ a, a < 4 → ∀ b, b < 4 → a ≠ b → (TX1 a).2.1 ≠ (TX1 b).2.1 := by decide +kernel
theorem tyX1_ok : ∀ k, k < 4 → parseFieldDescriptor (TX1 k).2.2.1 = some (tyX1 k) := by decide +kernel
abbrev cX1_init : ByteArray := prog_3_method_1_code
def yX1_init : MethodName := ⟨RX1, "<init>", "(LGlacierBook$Bounds;)V"⟩
abbrev cX1_leastSum : ByteArray := prog_3_method_2_code
def yX1_leastSum : MethodName := ⟨RX1, "leastSum", "(III)I"⟩
abbrev cX1_othersAgainst : ByteArray := prog_3_method_3_code
def yX1_othersAgainst : MethodName := ⟨RX1, "othersAgainst", "(III)I"⟩
abbrev cX1_tellRing : ByteArray := prog_3_method_4_code
def yX1_tellRing : MethodName := ⟨RX1, "tellRing", "(II)V"⟩
abbrev cX1_leastNumber : ByteArray := prog_3_method_5_code
def yX1_leastNumber : MethodName := ⟨RX1, "leastNumber", "(II)I"⟩
abbrev cX1_measure : ByteArray := prog_3_method_6_code
def yX1_measure : MethodName := ⟨RX1, "measure", "(II)V"⟩
def RX2 : String := "GlacierBook$Drawing"
def TX2 : u_T := fun k => match k with
  | 0 => ("GlacierBook$Drawing", "pile", "LGlacierBook$Pile;", true)
  | 1 => ("GlacierBook$Drawing", "below", "[I", true)
  | 2 => ("GlacierBook$Drawing", "above", "[I", true)
  | 3 => ("GlacierBook$Drawing", "drawn", "[I", true)
  | 4 => ("GlacierBook$Drawing", "reached", "[I", true)
  | 5 => ("GlacierBook$Drawing", "order", "[I", true)
  | 6 => ("GlacierBook$Drawing", "depth", "[I", true)
  | 7 => ("GlacierBook$Drawing", "waysOfSet", "[J", true)
  | _ => ("GlacierBook$Drawing", "layers", "I", false)
def tyX2 : Nat → FieldType := fun k => match k with
  | 0 => .object "GlacierBook$Pile"
  | 1 => .array .int
  | 2 => .array .int
  | 3 => .array .int
  | 4 => .array .int
  | 5 => .array .int
  | 6 => .array .int
  | 7 => .array .long
  | _ => .int
abbrev wsX20 : List Cond := u_ws RX2 TX2 9
theorem nmX2 : ∀ a, a < 9 → ∀ b, b < 9 → a ≠ b → (TX2 a).2.1 ≠ (TX2 b).2.1 := by decide +kernel
theorem tyX2_ok : ∀ k, k < 9 → parseFieldDescriptor (TX2 k).2.2.1 = some (tyX2 k) := by decide +kernel
abbrev cX2_init : ByteArray := prog_4_method_1_code
def yX2_init : MethodName := ⟨RX2, "<init>", "(LGlacierBook$Pile;)V"⟩
abbrev cX2_draw : ByteArray := prog_4_method_2_code
def yX2_draw : MethodName := ⟨RX2, "draw", "()V"⟩
abbrev cX2_close : ByteArray := prog_4_method_3_code
def yX2_close : MethodName := ⟨RX2, "close", "([I)V"⟩
abbrev cX2_hasAbove : ByteArray := prog_4_method_4_code
def yX2_hasAbove : MethodName := ⟨RX2, "hasAbove", "(II)Z"⟩
abbrev cX2_lines : ByteArray := prog_4_method_5_code
def yX2_lines : MethodName := ⟨RX2, "lines", "()I"⟩
abbrev cX2_pairsIn : ByteArray := prog_4_method_7_code
def yX2_pairsIn : MethodName := ⟨RX2, "pairsIn", "([I)I"⟩
abbrev cX2_lineWith : ByteArray := prog_4_method_8_code
def yX2_lineWith : MethodName := ⟨RX2, "lineWith", "(I)I"⟩
abbrev cX2_arrange : ByteArray := prog_4_method_9_code
def yX2_arrange : MethodName := ⟨RX2, "arrange", "()V"⟩
abbrev cX2_nextLayer : ByteArray := prog_4_method_10_code
def yX2_nextLayer : MethodName := ⟨RX2, "nextLayer", "(I)I"⟩
abbrev cX2_depthUnder : ByteArray := prog_4_method_11_code
def yX2_depthUnder : MethodName := ⟨RX2, "depthUnder", "(I)I"⟩
abbrev cX2_countOrders : ByteArray := prog_4_method_12_code
def yX2_countOrders : MethodName := ⟨RX2, "countOrders", "()J"⟩
abbrev cX2_goOn : ByteArray := prog_4_method_13_code
def yX2_goOn : MethodName := ⟨RX2, "goOn", "(I)V"⟩
abbrev cX2_freeLayers : ByteArray := prog_4_method_14_code
def yX2_freeLayers : MethodName := ⟨RX2, "freeLayers", "()I"⟩
abbrev cX2_unlikePairs : ByteArray := prog_4_method_15_code
def yX2_unlikePairs : MethodName := ⟨RX2, "unlikePairs", "()I"⟩
def RX3 : String := "GlacierBook$Ice"
def TX3 : u_T := fun k => match k with
  | 0 => ("GlacierBook$Ice", "bed", "[I", true)
  | 1 => ("GlacierBook$Ice", "amount", "[I", true)
  | 2 => ("GlacierBook$Ice", "change", "[I", true)
  | _ => ("GlacierBook$Ice", "gained", "I", false)
def tyX3 : Nat → FieldType := fun k => match k with
  | 0 => .array .int
  | 1 => .array .int
  | 2 => .array .int
  | _ => .int
abbrev wsX30 : List Cond := u_ws RX3 TX3 4
theorem nmX3 : ∀ a, a < 4 → ∀ b, b < 4 → a ≠ b → (TX3 a).2.1 ≠ (TX3 b).2.1 := by decide +kernel
theorem tyX3_ok : ∀ k, k < 4 → parseFieldDescriptor (TX3 k).2.2.1 = some (tyX3 k) := by decide +kernel
abbrev cX3_init : ByteArray := prog_5_method_1_code
def yX3_init : MethodName := ⟨RX3, "<init>", "()V"⟩
abbrev cX3_surface : ByteArray := prog_5_method_2_code
def yX3_surface : MethodName := ⟨RX3, "surface", "(I)I"⟩
abbrev cX3_move : ByteArray := prog_5_method_3_code
def yX3_move : MethodName := ⟨RX3, "move", "()V"⟩
abbrev cX3_outflow : ByteArray := prog_5_method_4_code
def yX3_outflow : MethodName := ⟨RX3, "outflow", "(II)I"⟩
abbrev cX3_snowAndMelt : ByteArray := prog_5_method_5_code
def yX3_snowAndMelt : MethodName := ⟨RX3, "snowAndMelt", "(III)V"⟩
abbrev cX3_total : ByteArray := prog_5_method_6_code
def yX3_total : MethodName := ⟨RX3, "total", "()I"⟩
abbrev cX3_copy : ByteArray := prog_5_method_7_code
def yX3_copy : MethodName := ⟨RX3, "copy", "(LGlacierBook$Ice;)V"⟩
def RX4 : String := "GlacierBook$Laying"
def TX4 : u_T := fun k => match k with
  | 0 => ("GlacierBook$Laying", "page", "LGlacierBook$Page;", true)
  | 1 => ("GlacierBook$Laying", "first", "LGlacierBook$Row;", true)
  | 2 => ("GlacierBook$Laying", "second", "LGlacierBook$Row;", true)
  | 3 => ("GlacierBook$Laying", "price", "[[I", true)
  | 4 => ("GlacierBook$Laying", "ways", "[[J", true)
  | 5 => ("GlacierBook$Laying", "beside0", "[I", true)
  | 6 => ("GlacierBook$Laying", "beside1", "[I", true)
  | 7 => ("GlacierBook$Laying", "barred0", "I", false)
  | _ => ("GlacierBook$Laying", "barred1", "I", false)
def tyX4 : Nat → FieldType := fun k => match k with
  | 0 => .object "GlacierBook$Page"
  | 1 => .object "GlacierBook$Row"
  | 2 => .object "GlacierBook$Row"
  | 3 => .array (.array .int)
  | 4 => .array (.array .long)
  | 5 => .array .int
  | 6 => .array .int
  | 7 => .int
  | _ => .int
abbrev wsX40 : List Cond := u_ws RX4 TX4 9
theorem nmX4 : ∀ a, a < 9 → ∀ b, b < 9 → a ≠ b → (TX4 a).2.1 ≠ (TX4 b).2.1 := by decide +kernel
theorem tyX4_ok : ∀ k, k < 9 → parseFieldDescriptor (TX4 k).2.2.1 = some (tyX4 k) := by decide +kernel
abbrev cX4_init : ByteArray := prog_6_method_1_code
def yX4_init : MethodName := ⟨RX4, "<init>", "(LGlacierBook$Page;)V"⟩
abbrev cX4_lay : ByteArray := prog_6_method_2_code
def yX4_lay : MethodName := ⟨RX4, "lay", "(II)V"⟩
abbrev cX4_layFrom : ByteArray := prog_6_method_3_code
def yX4_layFrom : MethodName := ⟨RX4, "layFrom", "(II)V"⟩
abbrev cX4_wholePrice : ByteArray := prog_6_method_4_code
def yX4_wholePrice : MethodName := ⟨RX4, "wholePrice", "(III)I"⟩
abbrev cX4_stepPrice : ByteArray := prog_6_method_5_code
def yX4_stepPrice : MethodName := ⟨RX4, "stepPrice", "(III)I"⟩
abbrev cX4_togetherPrice : ByteArray := prog_6_method_6_code
def yX4_togetherPrice : MethodName := ⟨RX4, "togetherPrice", "(II)I"⟩
abbrev cX4_doublePrice : ByteArray := prog_6_method_7_code
def yX4_doublePrice : MethodName := ⟨RX4, "doublePrice", "(LGlacierBook$Row;ILGlacierBook$Row;I)I"⟩
abbrev cX4_goFirstWay : ByteArray := prog_6_method_8_code
def yX4_goFirstWay : MethodName := ⟨RX4, "goFirstWay", "()V"⟩
abbrev cX4_firstKind : ByteArray := prog_6_method_9_code
def yX4_firstKind : MethodName := ⟨RX4, "firstKind", "(II)I"⟩
abbrev cX4_keepStep : ByteArray := prog_6_method_10_code
def yX4_keepStep : MethodName := ⟨RX4, "keepStep", "(III)V"⟩
def RX5 : String := "GlacierBook$Page"
def TX5 : u_T := fun k => match k with
  | 0 => ("GlacierBook$Page", "bounds", "LGlacierBook$Bounds;", true)
  | 1 => ("GlacierBook$Page", "pile", "LGlacierBook$Pile;", true)
  | 2 => ("GlacierBook$Page", "first", "LGlacierBook$Row;", true)
  | 3 => ("GlacierBook$Page", "second", "LGlacierBook$Row;", true)
  | 4 => ("GlacierBook$Page", "stakes", "LGlacierBook$Stakes;", true)
  | 5 => ("GlacierBook$Page", "ice", "LGlacierBook$Ice;", true)
  | 6 => ("GlacierBook$Page", "missed", "I", false)
  | 7 => ("GlacierBook$Page", "twice", "I", false)
  | _ => ("GlacierBook$Page", "unlike", "I", false)
def tyX5 : Nat → FieldType := fun k => match k with
  | 0 => .object "GlacierBook$Bounds"
  | 1 => .object "GlacierBook$Pile"
  | 2 => .object "GlacierBook$Row"
  | 3 => .object "GlacierBook$Row"
  | 4 => .object "GlacierBook$Stakes"
  | 5 => .object "GlacierBook$Ice"
  | 6 => .int
  | 7 => .int
  | _ => .int
abbrev wsX50 : List Cond := u_ws RX5 TX5 9
theorem nmX5 : ∀ a, a < 9 → ∀ b, b < 9 → a ≠ b → (TX5 a).2.1 ≠ (TX5 b).2.1 := by decide +kernel
theorem tyX5_ok : ∀ k, k < 9 → parseFieldDescriptor (TX5 k).2.2.1 = some (tyX5 k) := by decide +kernel
abbrev cX5_init : ByteArray := prog_7_method_1_code
def yX5_init : MethodName := ⟨RX5, "<init>", "()V"⟩
abbrev cX5_row : ByteArray := prog_7_method_2_code
def yX5_row : MethodName := ⟨RX5, "row", "(I)LGlacierBook$Row;"⟩
abbrev cX5_crosses : ByteArray := prog_7_method_3_code
def yX5_crosses : MethodName := ⟨RX5, "crosses", "(II)Z"⟩
abbrev cX5_copy : ByteArray := prog_7_method_4_code
def yX5_copy : MethodName := ⟨RX5, "copy", "(LGlacierBook$Page;)V"⟩
def RX6 : String := "GlacierBook$Pile"
def TX6 : u_T := fun k => match k with
  | 0 => ("GlacierBook$Pile", "told", "[I", true)
  | _ => ("GlacierBook$Pile", "layers", "I", false)
def tyX6 : Nat → FieldType := fun k => match k with
  | 0 => .array .int
  | _ => .int
abbrev wsX60 : List Cond := u_ws RX6 TX6 2
theorem nmX6 : ∀ a, a < 2 → ∀ b, b < 2 → a ≠ b → (TX6 a).2.1 ≠ (TX6 b).2.1 := by decide +kernel
theorem tyX6_ok : ∀ k, k < 2 → parseFieldDescriptor (TX6 k).2.2.1 = some (tyX6 k) := by decide +kernel
abbrev cX6_init : ByteArray := prog_8_method_1_code
def yX6_init : MethodName := ⟨RX6, "<init>", "()V"⟩
abbrev cX6_bit : ByteArray := prog_8_method_2_code
def yX6_bit : MethodName := ⟨RX6, "bit", "(I)I"⟩
abbrev cX6_tell : ByteArray := prog_8_method_3_code
def yX6_tell : MethodName := ⟨RX6, "tell", "(II)V"⟩
abbrev cX6_copy : ByteArray := prog_8_method_6_code
def yX6_copy : MethodName := ⟨RX6, "copy", "(LGlacierBook$Pile;)V"⟩
def RX7 : String := "GlacierBook$Row"
def TX7 : u_T := fun k => match k with
  | 0 => ("GlacierBook$Row", "thickness", "[I", true)
  | 1 => ("GlacierBook$Row", "mark", "[I", true)
  | 2 => ("GlacierBook$Row", "tied", "[I", true)
  | 3 => ("GlacierBook$Row", "date", "[I", true)
  | _ => ("GlacierBook$Row", "count", "I", false)
def tyX7 : Nat → FieldType := fun k => match k with
  | 0 => .array .int
  | 1 => .array .int
  | 2 => .array .int
  | 3 => .array .int
  | _ => .int
abbrev wsX70 : List Cond := u_ws RX7 TX7 5
theorem nmX7 : ∀ a, a < 5 → ∀ b, b < 5 → a ≠ b → (TX7 a).2.1 ≠ (TX7 b).2.1 := by decide +kernel
theorem tyX7_ok : ∀ k, k < 5 → parseFieldDescriptor (TX7 k).2.2.1 = some (tyX7 k) := by decide +kernel
abbrev cX7_init : ByteArray := prog_9_method_1_code
def yX7_init : MethodName := ⟨RX7, "<init>", "()V"⟩
abbrev cX7_add : ByteArray := prog_9_method_2_code
def yX7_add : MethodName := ⟨RX7, "add", "(II)I"⟩
abbrev cX7_ties : ByteArray := prog_9_method_3_code
def yX7_ties : MethodName := ⟨RX7, "ties", "()I"⟩
abbrev cX7_mayHaveDate : ByteArray := prog_9_method_4_code
def yX7_mayHaveDate : MethodName := ⟨RX7, "mayHaveDate", "(II)Z"⟩
abbrev cX7_changeDate : ByteArray := prog_9_method_5_code
def yX7_changeDate : MethodName := ⟨RX7, "changeDate", "(II)I"⟩
abbrev cX7_ageAt : ByteArray := prog_9_method_6_code
def yX7_ageAt : MethodName := ⟨RX7, "ageAt", "(I)I"⟩
abbrev cX7_datedAbove : ByteArray := prog_9_method_7_code
def yX7_datedAbove : MethodName := ⟨RX7, "datedAbove", "(I)I"⟩
abbrev cX7_datedBelow : ByteArray := prog_9_method_8_code
def yX7_datedBelow : MethodName := ⟨RX7, "datedBelow", "(I)I"⟩
abbrev cX7_copy : ByteArray := prog_9_method_9_code
def yX7_copy : MethodName := ⟨RX7, "copy", "(LGlacierBook$Row;)V"⟩
def RX8 : String := "GlacierBook$Stakes"
def TX8 : u_T := fun k => match k with
  | 0 => ("GlacierBook$Stakes", "area", "[I", true)
  | 1 => ("GlacierBook$Stakes", "part", "[I", true)
  | _ => ("GlacierBook$Stakes", "reading", "[I", true)
def tyX8 : Nat → FieldType := fun k => match k with
  | 0 => .array .int
  | 1 => .array .int
  | _ => .array .int
abbrev wsX80 : List Cond := u_ws RX8 TX8 3
theorem nmX8 : ∀ a, a < 3 → ∀ b, b < 3 → a ≠ b → (TX8 a).2.1 ≠ (TX8 b).2.1 := by decide +kernel
theorem tyX8_ok : ∀ k, k < 3 → parseFieldDescriptor (TX8 k).2.2.1 = some (tyX8 k) := by decide +kernel
abbrev cX8_init : ByteArray := prog_10_method_1_code
def yX8_init : MethodName := ⟨RX8, "<init>", "()V"⟩
abbrev cX8_readingAt : ByteArray := prog_10_method_2_code
def yX8_readingAt : MethodName := ⟨RX8, "readingAt", "(II)I"⟩
abbrev cX8_write : ByteArray := prog_10_method_3_code
def yX8_write : MethodName := ⟨RX8, "write", "(III)V"⟩
abbrev cX8_readings : ByteArray := prog_10_method_4_code
def yX8_readings : MethodName := ⟨RX8, "readings", "(I)I"⟩
abbrev cX8_readBelow : ByteArray := prog_10_method_5_code
def yX8_readBelow : MethodName := ⟨RX8, "readBelow", "(II)I"⟩
abbrev cX8_readAbove : ByteArray := prog_10_method_6_code
def yX8_readAbove : MethodName := ⟨RX8, "readAbove", "(II)I"⟩
abbrev cX8_valueAt : ByteArray := prog_10_method_8_code
def yX8_valueAt : MethodName := ⟨RX8, "valueAt", "(II)I"⟩
abbrev cX8_balanceOfAll : ByteArray := prog_10_method_9_code
def yX8_balanceOfAll : MethodName := ⟨RX8, "balanceOfAll", "(I)I"⟩
abbrev cX8_balanceOfPart : ByteArray := prog_10_method_10_code
def yX8_balanceOfPart : MethodName := ⟨RX8, "balanceOfPart", "(II)I"⟩
abbrev cX8_lineIn : ByteArray := prog_10_method_11_code
def yX8_lineIn : MethodName := ⟨RX8, "lineIn", "(I)I"⟩
abbrev cX8_unlikeYears : ByteArray := prog_10_method_13_code
def yX8_unlikeYears : MethodName := ⟨RX8, "unlikeYears", "()I"⟩
abbrev cX8_sumOfParts : ByteArray := prog_10_method_14_code
def yX8_sumOfParts : MethodName := ⟨RX8, "sumOfParts", "(I)I"⟩
abbrev cX8_copy : ByteArray := prog_10_method_15_code
def yX8_copy : MethodName := ⟨RX8, "copy", "(LGlacierBook$Stakes;)V"⟩
def RX9 : String := "GlacierBook$Text"
def TX9 : u_T := fun k => match k with
  | 0 => ("GlacierBook$Text", "signs", "[C", true)
  | 1 => ("GlacierBook$Text", "start", "[I", true)
  | 2 => ("GlacierBook$Text", "end", "[I", true)
  | 3 => ("GlacierBook$Text", "length", "I", false)
  | _ => ("GlacierBook$Text", "words", "I", false)
def tyX9 : Nat → FieldType := fun k => match k with
  | 0 => .array .char
  | 1 => .array .int
  | 2 => .array .int
  | 3 => .int
  | _ => .int
abbrev wsX90 : List Cond := u_ws RX9 TX9 5
theorem nmX9 : ∀ a, a < 5 → ∀ b, b < 5 → a ≠ b → (TX9 a).2.1 ≠ (TX9 b).2.1 := by decide +kernel
theorem tyX9_ok : ∀ k, k < 5 → parseFieldDescriptor (TX9 k).2.2.1 = some (tyX9 k) := by decide +kernel
abbrev cX9_init : ByteArray := prog_11_method_1_code
def yX9_init : MethodName := ⟨RX9, "<init>", "()V"⟩
abbrev cX9_byteOf : ByteArray := prog_11_method_2_code
def yX9_byteOf : MethodName := ⟨RX9, "byteOf", "(JI)I"⟩
abbrev cX9_signsIn : ByteArray := prog_11_method_3_code
def yX9_signsIn : MethodName := ⟨RX9, "signsIn", "(J)I"⟩
abbrev cX9_addSigns : ByteArray := prog_11_method_4_code
def yX9_addSigns : MethodName := ⟨RX9, "addSigns", "(J)V"⟩
abbrev cX9_part : ByteArray := prog_11_method_5_code
def yX9_part : MethodName := ⟨RX9, "part", "()V"⟩
abbrev cX9_firstFault : ByteArray := prog_11_method_6_code
def yX9_firstFault : MethodName := ⟨RX9, "firstFault", "()I"⟩
abbrev cX9_kind : ByteArray := prog_11_method_7_code
def yX9_kind : MethodName := ⟨RX9, "kind", "()I"⟩
abbrev cX9_nameOf : ByteArray := prog_11_method_8_code
def yX9_nameOf : MethodName := ⟨RX9, "nameOf", "(I)Ljava/lang/String;"⟩
abbrev cX9_isFirst : ByteArray := prog_11_method_9_code
def yX9_isFirst : MethodName := ⟨RX9, "isFirst", "(Ljava/lang/String;)Z"⟩
abbrev cX9_numberAt : ByteArray := prog_11_method_10_code
def yX9_numberAt : MethodName := ⟨RX9, "numberAt", "(I)J"⟩
abbrev cX9_numberOr0 : ByteArray := prog_11_method_11_code
def yX9_numberOr0 : MethodName := ⟨RX9, "numberOr0", "(I)I"⟩
def RX10 : String := "GlacierBook"
def TX10 : u_T := fun k => match k with
  | 0 => ("GlacierBook", "now", "LGlacierBook$Page;", true)
  | 1 => ("GlacierBook", "past", "[LGlacierBook$Page;", true)
  | 2 => ("GlacierBook", "nextPast", "I", false)
  | 3 => ("GlacierBook", "acts", "I", false)
  | 4 => ("GlacierBook", "chains", "LGlacierBook$Chains;", true)
  | 5 => ("GlacierBook", "drawing", "LGlacierBook$Drawing;", true)
  | 6 => ("GlacierBook", "laying", "LGlacierBook$Laying;", true)
  | _ => ("GlacierBook", "text", "LGlacierBook$Text;", true)
def tyX10 : Nat → FieldType := fun k => match k with
  | 0 => .object "GlacierBook$Page"
  | 1 => .array (.object "GlacierBook$Page")
  | 2 => .int
  | 3 => .int
  | 4 => .object "GlacierBook$Chains"
  | 5 => .object "GlacierBook$Drawing"
  | 6 => .object "GlacierBook$Laying"
  | _ => .object "GlacierBook$Text"
abbrev wsX100 : List Cond := u_ws RX10 TX10 8
theorem nmX10 : ∀ a, a < 8 → ∀ b, b < 8 → a ≠ b → (TX10 a).2.1 ≠ (TX10 b).2.1 := by decide +kernel
theorem tyX10_ok : ∀ k, k < 8 → parseFieldDescriptor (TX10 k).2.2.1 = some (tyX10 k) := by decide +kernel
abbrev cX10_init : ByteArray := prog_1_method_1_code
def yX10_init : MethodName := ⟨RX10, "<init>", "()V"⟩
abbrev cX10_addLayer : ByteArray := prog_1_method_2_code
def yX10_addLayer : MethodName := ⟨RX10, "addLayer", "()I"⟩
abbrev cX10_least : ByteArray := prog_1_method_3_code
def yX10_least : MethodName := ⟨RX10, "least", "(III)I"⟩
abbrev cX10_most : ByteArray := prog_1_method_4_code
def yX10_most : MethodName := ⟨RX10, "most", "(III)I"⟩
abbrev cX10_takeBack : ByteArray := prog_1_method_5_code
def yX10_takeBack : MethodName := ⟨RX10, "takeBack", "(I)I"⟩
abbrev cX10_follows : ByteArray := prog_1_method_6_code
def yX10_follows : MethodName := ⟨RX10, "follows", "(I)Z"⟩
abbrev cX10_low : ByteArray := prog_1_method_7_code
def yX10_low : MethodName := ⟨RX10, "low", "(II)I"⟩
abbrev cX10_high : ByteArray := prog_1_method_8_code
def yX10_high : MethodName := ⟨RX10, "high", "(II)I"⟩
abbrev cX10_ringLength : ByteArray := prog_1_method_9_code
def yX10_ringLength : MethodName := ⟨RX10, "ringLength", "()I"⟩
abbrev cX10_ringAt : ByteArray := prog_1_method_10_code
def yX10_ringAt : MethodName := ⟨RX10, "ringAt", "(I)I"⟩
abbrev cX10_boundCount : ByteArray := prog_1_method_12_code
def yX10_boundCount : MethodName := ⟨RX10, "boundCount", "()I"⟩
abbrev cX10_layOn : ByteArray := prog_1_method_13_code
def yX10_layOn : MethodName := ⟨RX10, "layOn", "(II)I"⟩
abbrev cX10_isAbove : ByteArray := prog_1_method_15_code
def yX10_isAbove : MethodName := ⟨RX10, "isAbove", "(II)Z"⟩
abbrev cX10_lineCount : ByteArray := prog_1_method_16_code
def yX10_lineCount : MethodName := ⟨RX10, "lineCount", "()I"⟩
abbrev cX10_lineAt : ByteArray := prog_1_method_17_code
def yX10_lineAt : MethodName := ⟨RX10, "lineAt", "(I)I"⟩
abbrev cX10_orders : ByteArray := prog_1_method_18_code
def yX10_orders : MethodName := ⟨RX10, "orders", "()J"⟩
abbrev cX10_orderAt : ByteArray := prog_1_method_19_code
def yX10_orderAt : MethodName := ⟨RX10, "orderAt", "(I)I"⟩
abbrev cX10_phase : ByteArray := prog_1_method_20_code
def yX10_phase : MethodName := ⟨RX10, "phase", "(I)I"⟩
abbrev cX10_addBand : ByteArray := prog_1_method_21_code
def yX10_addBand : MethodName := ⟨RX10, "addBand", "(III)I"⟩
abbrev cX10_tie : ByteArray := prog_1_method_23_code
def yX10_tie : MethodName := ⟨RX10, "tie", "(II)I"⟩
abbrev cX10_bandCount : ByteArray := prog_1_method_25_code
def yX10_bandCount : MethodName := ⟨RX10, "bandCount", "(I)I"⟩
abbrev cX10_leastPrice : ByteArray := prog_1_method_26_code
def yX10_leastPrice : MethodName := ⟨RX10, "leastPrice", "()I"⟩
abbrev cX10_bestWays : ByteArray := prog_1_method_27_code
def yX10_bestWays : MethodName := ⟨RX10, "bestWays", "()J"⟩
abbrev cX10_partner : ByteArray := prog_1_method_28_code
def yX10_partner : MethodName := ⟨RX10, "partner", "(II)I"⟩
abbrev cX10_isSure : ByteArray := prog_1_method_29_code
def yX10_isSure : MethodName := ⟨RX10, "isSure", "(II)Z"⟩
abbrev cX10_setDate : ByteArray := prog_1_method_30_code
def yX10_setDate : MethodName := ⟨RX10, "setDate", "(III)I"⟩
abbrev cX10_ageOf : ByteArray := prog_1_method_32_code
def yX10_ageOf : MethodName := ⟨RX10, "ageOf", "(II)I"⟩
abbrev cX10_setZone : ByteArray := prog_1_method_33_code
def yX10_setZone : MethodName := ⟨RX10, "setZone", "(III)I"⟩
abbrev cX10_read : ByteArray := prog_1_method_34_code
def yX10_read : MethodName := ⟨RX10, "read", "(III)I"⟩
abbrev cX10_valueOf : ByteArray := prog_1_method_36_code
def yX10_valueOf : MethodName := ⟨RX10, "valueOf", "(II)I"⟩
abbrev cX10_balance : ByteArray := prog_1_method_38_code
def yX10_balance : MethodName := ⟨RX10, "balance", "(I)I"⟩
abbrev cX10_partBalance : ByteArray := prog_1_method_39_code
def yX10_partBalance : MethodName := ⟨RX10, "partBalance", "(II)I"⟩
abbrev cX10_lineOf : ByteArray := prog_1_method_40_code
def yX10_lineOf : MethodName := ⟨RX10, "lineOf", "(I)I"⟩
abbrev cX10_setCell : ByteArray := prog_1_method_41_code
def yX10_setCell : MethodName := ⟨RX10, "setCell", "(III)I"⟩
abbrev cX10_flow : ByteArray := prog_1_method_42_code
def yX10_flow : MethodName := ⟨RX10, "flow", "(IIII)I"⟩
abbrev cX10_iceOf : ByteArray := prog_1_method_43_code
def yX10_iceOf : MethodName := ⟨RX10, "iceOf", "(I)I"⟩
abbrev cX10_won : ByteArray := prog_1_method_44_code
def yX10_won : MethodName := ⟨RX10, "won", "()I"⟩
abbrev cX10_type : ByteArray := prog_1_method_45_code
def yX10_type : MethodName := ⟨RX10, "type", "(J)I"⟩
abbrev cX10_fault : ByteArray := prog_1_method_46_code
def yX10_fault : MethodName := ⟨RX10, "fault", "()I"⟩
abbrev cX10_doLine : ByteArray := prog_1_method_47_code
def yX10_doLine : MethodName := ⟨RX10, "doLine", "()I"⟩
abbrev cX10_undo : ByteArray := prog_1_method_48_code
def yX10_undo : MethodName := ⟨RX10, "undo", "()I"⟩
abbrev cX10_errors : ByteArray := prog_1_method_52_code
def yX10_errors : MethodName := ⟨RX10, "errors", "()I"⟩
abbrev cX10_remember : ByteArray := prog_1_method_53_code
def yX10_remember : MethodName := ⟨RX10, "remember", "()V"⟩
abbrev cX10_putBound : ByteArray := prog_1_method_54_code
def yX10_putBound : MethodName := ⟨RX10, "putBound", "(III)I"⟩
abbrev cX10_greatestDifference : ByteArray := prog_1_method_55_code
def yX10_greatestDifference : MethodName := ⟨RX10, "greatestDifference", "(II)I"⟩
abbrev cX10_freshDrawing : ByteArray := prog_1_method_56_code
def yX10_freshDrawing : MethodName := ⟨RX10, "freshDrawing", "()LGlacierBook$Drawing;"⟩
abbrev cX10_doAct : ByteArray := prog_1_method_57_code
def yX10_doAct : MethodName := ⟨RX10, "doAct", "(IIII)I"⟩
abbrev cX10_needPoint : ByteArray := prog_1_method_58_code
def yX10_needPoint : MethodName := ⟨RX10, "needPoint", "(I)V"⟩
abbrev cX10_needLayer : ByteArray := prog_1_method_59_code
def yX10_needLayer : MethodName := ⟨RX10, "needLayer", "(I)V"⟩
abbrev cX10_needBound : ByteArray := prog_1_method_60_code
def yX10_needBound : MethodName := ⟨RX10, "needBound", "(I)V"⟩
abbrev cX10_needRow : ByteArray := prog_1_method_61_code
def yX10_needRow : MethodName := ⟨RX10, "needRow", "(I)V"⟩
abbrev cX10_needBand : ByteArray := prog_1_method_62_code
def yX10_needBand : MethodName := ⟨RX10, "needBand", "(II)V"⟩
abbrev cX10_needReadYear : ByteArray := prog_1_method_63_code
def yX10_needReadYear : MethodName := ⟨RX10, "needReadYear", "(I)V"⟩
abbrev cX10_needIndex : ByteArray := prog_1_method_64_code
def yX10_needIndex : MethodName := ⟨RX10, "needIndex", "(II)V"⟩
abbrev cX10_needRange : ByteArray := prog_1_method_65_code
def yX10_needRange : MethodName := ⟨RX10, "needRange", "(III)V"⟩
def RX11 : String := "GlacierBookLaw$Draws"
def TX11 : u_T := fun k => match k with
  | _ => ("GlacierBookLaw$Draws", "x", "I", false)
def tyX11 : Nat → FieldType := fun k => match k with
  | _ => .int
abbrev wsX110 : List Cond := u_ws RX11 TX11 1
theorem nmX11 : ∀ a, a < 1 → ∀ b, b < 1 → a ≠ b → (TX11 a).2.1 ≠ (TX11 b).2.1 := by decide +kernel
theorem tyX11_ok : ∀ k, k < 1 → parseFieldDescriptor (TX11 k).2.2.1 = some (tyX11 k) := by decide +kernel
abbrev cX11_init : ByteArray := prog_13_method_1_code
def yX11_init : MethodName := ⟨RX11, "<init>", "([I)V"⟩
abbrev cX11_next : ByteArray := prog_13_method_2_code
def yX11_next : MethodName := ⟨RX11, "next", "(I)I"⟩
def RX12 : String := "GlacierBookModel"
def TX12 : u_T := fun k => match k with
  | _ => ("", "", "", false)
def tyX12 : Nat → FieldType := fun k => match k with
  | _ => .int
abbrev wsX120 : List Cond := u_ws RX12 TX12 0
theorem nmX12 : ∀ a, a < 0 → ∀ b, b < 0 → a ≠ b → (TX12 a).2.1 ≠ (TX12 b).2.1 := by decide +kernel
theorem tyX12_ok : ∀ k, k < 0 → parseFieldDescriptor (TX12 k).2.2.1 = some (tyX12 k) := by decide +kernel
def RJx145de : String := "java/io/Serializable"
def TJx145de : u_T := fun k => match k with
  | _ => ("", "", "", false)
def tyJx145de : Nat → FieldType := fun k => match k with
  | _ => .int
abbrev wsJx145de0 : List Cond := u_ws RJx145de TJx145de 0
theorem nmJx145de : ∀ a, a < 0 → ∀ b, b < 0 → a ≠ b → (TJx145de a).2.1 ≠ (TJx145de b).2.1 := by decide +kernel
theorem tyJx145de_ok : ∀ k, k < 0 → parseFieldDescriptor (TJx145de k).2.2.1 = some (tyJx145de k) := by decide +kernel
def RJ5 : String := "java/lang/AbstractStringBuilder"
def TJ5 : u_T := fun k => match k with
  | _ => ("", "", "", false)
def tyJ5 : Nat → FieldType := fun k => match k with
  | _ => .int
abbrev wsJ50 : List Cond := u_ws RJ5 TJ5 0
theorem nmJ5 : ∀ a, a < 0 → ∀ b, b < 0 → a ≠ b → (TJ5 a).2.1 ≠ (TJ5 b).2.1 := by decide +kernel
theorem tyJ5_ok : ∀ k, k < 0 → parseFieldDescriptor (TJ5 k).2.2.1 = some (tyJ5 k) := by decide +kernel
abbrev cJ5_init_d00df : ByteArray := prog_16_method_2_code
def yJ5_init_d00df : MethodName := ⟨RJ5, "<init>", "(I)V"⟩
abbrev cJ5_length_8abf5 : ByteArray := prog_16_method_6_code
def yJ5_length_8abf5 : MethodName := ⟨RJ5, "length", "()I"⟩
abbrev cJ5_ensureCapacityInternal_d00df : ByteArray := prog_16_method_9_code
def yJ5_ensureCapacityInternal_d00df : MethodName := ⟨RJ5, "ensureCapacityInternal", "(I)V"⟩
abbrev cJ5_newCapacity_0f7a4 : ByteArray := prog_16_method_10_code
def yJ5_newCapacity_0f7a4 : MethodName := ⟨RJ5, "newCapacity", "(I)I"⟩
abbrev cJ5_inflate_da8c8 : ByteArray := prog_16_method_11_code
def yJ5_inflate_da8c8 : MethodName := ⟨RJ5, "inflate", "()V"⟩
abbrev cJ5_append_cf1ce : ByteArray := prog_16_method_22_code
def yJ5_append_cf1ce : MethodName := ⟨RJ5, "append", "(Ljava/lang/String;)Ljava/lang/AbstractStringBuilder;"⟩
abbrev cJ5_appendNull_278bc : ByteArray := prog_16_method_26_code
def yJ5_appendNull_278bc : MethodName := ⟨RJ5, "appendNull", "()Ljava/lang/AbstractStringBuilder;"⟩
abbrev cJ5_append_c97b9 : ByteArray := prog_16_method_32_code
def yJ5_append_c97b9 : MethodName := ⟨RJ5, "append", "(I)Ljava/lang/AbstractStringBuilder;"⟩
abbrev cJ5_getValue_6d5f1 : ByteArray := prog_16_method_64_code
def yJ5_getValue_6d5f1 : MethodName := ⟨RJ5, "getValue", "()[B"⟩
abbrev cJ5_isLatin1_aae02 : ByteArray := prog_16_method_68_code
def yJ5_isLatin1_aae02 : MethodName := ⟨RJ5, "isLatin1", "()Z"⟩
abbrev cJ5_inflateIfNeededFor_a7421 : ByteArray := prog_16_method_71_code
def yJ5_inflateIfNeededFor_a7421 : MethodName := ⟨RJ5, "inflateIfNeededFor", "(Ljava/lang/String;)V"⟩
abbrev cJ5_putStringAt_47b60 : ByteArray := prog_16_method_73_code
def yJ5_putStringAt_47b60 : MethodName := ⟨RJ5, "putStringAt", "(ILjava/lang/String;)V"⟩
def RJx2cfe8 : String := "java/lang/Appendable"
def TJx2cfe8 : u_T := fun k => match k with
  | _ => ("", "", "", false)
def tyJx2cfe8 : Nat → FieldType := fun k => match k with
  | _ => .int
abbrev wsJx2cfe80 : List Cond := u_ws RJx2cfe8 TJx2cfe8 0
theorem nmJx2cfe8 : ∀ a, a < 0 → ∀ b, b < 0 → a ≠ b → (TJx2cfe8 a).2.1 ≠ (TJx2cfe8 b).2.1 := by decide +kernel
theorem tyJx2cfe8_ok : ∀ k, k < 0 → parseFieldDescriptor (TJx2cfe8 k).2.2.1 = some (tyJx2cfe8 k) := by decide +kernel
def RJx9f9b0 : String := "java/lang/CharSequence"
def TJx9f9b0 : u_T := fun k => match k with
  | _ => ("", "", "", false)
def tyJx9f9b0 : Nat → FieldType := fun k => match k with
  | _ => .int
abbrev wsJx9f9b00 : List Cond := u_ws RJx9f9b0 TJx9f9b0 0
theorem nmJx9f9b0 : ∀ a, a < 0 → ∀ b, b < 0 → a ≠ b → (TJx9f9b0 a).2.1 ≠ (TJx9f9b0 b).2.1 := by decide +kernel
theorem tyJx9f9b0_ok : ∀ k, k < 0 → parseFieldDescriptor (TJx9f9b0 k).2.2.1 = some (tyJx9f9b0 k) := by decide +kernel
def RJx8e188 : String := "java/lang/Cloneable"
def TJx8e188 : u_T := fun k => match k with
  | _ => ("", "", "", false)
def tyJx8e188 : Nat → FieldType := fun k => match k with
  | _ => .int
abbrev wsJx8e1880 : List Cond := u_ws RJx8e188 TJx8e188 0
theorem nmJx8e188 : ∀ a, a < 0 → ∀ b, b < 0 → a ≠ b → (TJx8e188 a).2.1 ≠ (TJx8e188 b).2.1 := by decide +kernel
theorem tyJx8e188_ok : ∀ k, k < 0 → parseFieldDescriptor (TJx8e188 k).2.2.1 = some (tyJx8e188 k) := by decide +kernel
def RJxb160c : String := "java/lang/Comparable"
def TJxb160c : u_T := fun k => match k with
  | _ => ("", "", "", false)
def tyJxb160c : Nat → FieldType := fun k => match k with
  | _ => .int
abbrev wsJxb160c0 : List Cond := u_ws RJxb160c TJxb160c 0
theorem nmJxb160c : ∀ a, a < 0 → ∀ b, b < 0 → a ≠ b → (TJxb160c a).2.1 ≠ (TJxb160c b).2.1 := by decide +kernel
theorem tyJxb160c_ok : ∀ k, k < 0 → parseFieldDescriptor (TJxb160c k).2.2.1 = some (tyJxb160c k) := by decide +kernel
def RJ6 : String := "java/lang/Integer"
def TJ6 : u_T := fun k => match k with
  | _ => ("", "", "", false)
def tyJ6 : Nat → FieldType := fun k => match k with
  | _ => .int
abbrev wsJ60 : List Cond := u_ws RJ6 TJ6 0
theorem nmJ6 : ∀ a, a < 0 → ∀ b, b < 0 → a ≠ b → (TJ6 a).2.1 ≠ (TJ6 b).2.1 := by decide +kernel
theorem tyJ6_ok : ∀ k, k < 0 → parseFieldDescriptor (TJ6 k).2.2.1 = some (tyJ6 k) := by decide +kernel
abbrev cJ6_getChars_ba4f3 : ByteArray := prog_25_method_12_code
def yJ6_getChars_ba4f3 : MethodName := ⟨RJ6, "getChars", "(II[B)I"⟩
abbrev cJ6_stringSize_0f7a4 : ByteArray := prog_25_method_13_code
def yJ6_stringSize_0f7a4 : MethodName := ⟨RJ6, "stringSize", "(I)I"⟩
abbrev cJ6_bitCount_0f7a4 : ByteArray := prog_25_method_49_code
def yJ6_bitCount_0f7a4 : MethodName := ⟨RJ6, "bitCount", "(I)I"⟩
def RJ9 : String := "java/lang/Math"
def TJ9 : u_T := fun k => match k with
  | _ => ("", "", "", false)
def tyJ9 : Nat → FieldType := fun k => match k with
  | _ => .int
abbrev wsJ90 : List Cond := u_ws RJ9 TJ9 0
theorem nmJ9 : ∀ a, a < 0 → ∀ b, b < 0 → a ≠ b → (TJ9 a).2.1 ≠ (TJ9 b).2.1 := by decide +kernel
theorem tyJ9_ok : ∀ k, k < 0 → parseFieldDescriptor (TJ9 k).2.2.1 = some (tyJ9 k) := by decide +kernel
abbrev cJ9_floorDiv_7cf53 : ByteArray := prog_26_method_47_code
def yJ9_floorDiv_7cf53 : MethodName := ⟨RJ9, "floorDiv", "(II)I"⟩
abbrev cJ9_abs_0f7a4 : ByteArray := prog_26_method_59_code
def yJ9_abs_0f7a4 : MethodName := ⟨RJ9, "abs", "(I)I"⟩
abbrev cJ9_max_7cf53 : ByteArray := prog_26_method_65_code
def yJ9_max_7cf53 : MethodName := ⟨RJ9, "max", "(II)I"⟩
abbrev cJ9_min_7cf53 : ByteArray := prog_26_method_69_code
def yJ9_min_7cf53 : MethodName := ⟨RJ9, "min", "(II)I"⟩
def RJxd2413 : String := "java/lang/Number"
def TJxd2413 : u_T := fun k => match k with
  | _ => ("", "", "", false)
def tyJxd2413 : Nat → FieldType := fun k => match k with
  | _ => .int
abbrev wsJxd24130 : List Cond := u_ws RJxd2413 TJxd2413 0
theorem nmJxd2413 : ∀ a, a < 0 → ∀ b, b < 0 → a ≠ b → (TJxd2413 a).2.1 ≠ (TJxd2413 b).2.1 := by decide +kernel
theorem tyJxd2413_ok : ∀ k, k < 0 → parseFieldDescriptor (TJxd2413 k).2.2.1 = some (tyJxd2413 k) := by decide +kernel
def RJ0 : String := "java/lang/String"
def TJ0 : u_T := fun k => match k with
  | 0 => ("java/lang/String", "value", "[B", true)
  | 1 => ("java/lang/String", "coder", "B", true)
  | 2 => ("java/lang/String", "hash", "I", false)
  | _ => ("java/lang/String", "hashIsZero", "Z", false)
def tyJ0 : Nat → FieldType := fun k => match k with
  | 0 => .array .byte
  | 1 => .byte
  | 2 => .int
  | _ => .boolean
abbrev wsJ00 : List Cond := u_ws RJ0 TJ0 4
theorem nmJ0 : ∀ a, a < 4 → ∀ b, b < 4 → a ≠ b → (TJ0 a).2.1 ≠ (TJ0 b).2.1 := by decide +kernel
theorem tyJ0_ok : ∀ k, k < 4 → parseFieldDescriptor (TJ0 k).2.2.1 = some (tyJ0 k) := by decide +kernel
abbrev cJ0_init_81219 : ByteArray := prog_29_method_53_code
def yJ0_init_81219 : MethodName := ⟨RJ0, "<init>", "(Ljava/lang/StringBuilder;)V"⟩
abbrev cJ0_length_8abf5 : ByteArray := prog_29_method_54_code
def yJ0_length_8abf5 : MethodName := ⟨RJ0, "length", "()I"⟩
abbrev cJ0_charAt_5068e : ByteArray := prog_29_method_56_code
def yJ0_charAt_5068e : MethodName := ⟨RJ0, "charAt", "(I)C"⟩
abbrev cJ0_getBytes_840e7 : ByteArray := prog_29_method_147_code
def yJ0_getBytes_840e7 : MethodName := ⟨RJ0, "getBytes", "([BIB)V"⟩
abbrev cJ0_init_db425 : ByteArray := prog_29_method_150_code
def yJ0_init_db425 : MethodName := ⟨RJ0, "<init>", "(Ljava/lang/AbstractStringBuilder;Ljava/lang/Void;)V"⟩
abbrev cJ0_coder_7d493 : ByteArray := prog_29_method_152_code
def yJ0_coder_7d493 : MethodName := ⟨RJ0, "coder", "()B"⟩
abbrev cJ0_isLatin1_aae02 : ByteArray := prog_29_method_154_code
def yJ0_isLatin1_aae02 : MethodName := ⟨RJ0, "isLatin1", "()Z"⟩
abbrev cJ0_checkIndex_df160 : ByteArray := prog_29_method_155_code
def yJ0_checkIndex_df160 : MethodName := ⟨RJ0, "checkIndex", "(II)V"⟩
abbrev cJ0_checkBoundsOffCount_cabcc : ByteArray := prog_29_method_157_code
def yJ0_checkBoundsOffCount_cabcc : MethodName := ⟨RJ0, "checkBoundsOffCount", "(III)I"⟩
abbrev cJ0_checkBoundsBeginEnd_23922 : ByteArray := prog_29_method_158_code
def yJ0_checkBoundsBeginEnd_23922 : MethodName := ⟨RJ0, "checkBoundsBeginEnd", "(III)V"⟩
def RJ4 : String := "java/lang/StringBuilder"
def TJ4 : u_T := fun k => match k with
  | 0 => ("java/lang/AbstractStringBuilder", "value", "[B", false)
  | 1 => ("java/lang/AbstractStringBuilder", "coder", "B", false)
  | 2 => ("java/lang/AbstractStringBuilder", "maybeLatin1", "Z", false)
  | _ => ("java/lang/AbstractStringBuilder", "count", "I", false)
def tyJ4 : Nat → FieldType := fun k => match k with
  | 0 => .array .byte
  | 1 => .byte
  | 2 => .boolean
  | _ => .int
abbrev wsJ40 : List Cond := u_ws RJ4 TJ4 4
theorem nmJ4 : ∀ a, a < 4 → ∀ b, b < 4 → a ≠ b → (TJ4 a).2.1 ≠ (TJ4 b).2.1 := by decide +kernel
theorem tyJ4_ok : ∀ k, k < 4 → parseFieldDescriptor (TJ4 k).2.2.1 = some (tyJ4 k) := by decide +kernel
abbrev cJ4_init_da8c8 : ByteArray := prog_30_method_1_code
def yJ4_init_da8c8 : MethodName := ⟨RJ4, "<init>", "()V"⟩
abbrev cJ4_append_15ec4 : ByteArray := prog_30_method_7_code
def yJ4_append_15ec4 : MethodName := ⟨RJ4, "append", "(Ljava/lang/String;)Ljava/lang/StringBuilder;"⟩
abbrev cJ4_append_bf812 : ByteArray := prog_30_method_15_code
def yJ4_append_bf812 : MethodName := ⟨RJ4, "append", "(I)Ljava/lang/StringBuilder;"⟩
abbrev cJ4_toString_0e30d : ByteArray := prog_30_method_42_code
def yJ4_toString_0e30d : MethodName := ⟨RJ4, "toString", "()Ljava/lang/String;"⟩
abbrev cJ4_length_8abf5 : ByteArray := prog_30_method_93_code
def yJ4_length_8abf5 : MethodName := ⟨RJ4, "length", "()I"⟩
def RJ1 : String := "java/lang/StringLatin1"
def TJ1 : u_T := fun k => match k with
  | _ => ("", "", "", false)
def tyJ1 : Nat → FieldType := fun k => match k with
  | _ => .int
abbrev wsJ10 : List Cond := u_ws RJ1 TJ1 0
theorem nmJ1 : ∀ a, a < 0 → ∀ b, b < 0 → a ≠ b → (TJ1 a).2.1 ≠ (TJ1 b).2.1 := by decide +kernel
theorem tyJ1_ok : ∀ k, k < 0 → parseFieldDescriptor (TJ1 k).2.2.1 = some (tyJ1 k) := by decide +kernel
abbrev cJ1_charAt_3b067 : ByteArray := prog_31_method_2_code
def yJ1_charAt_3b067 : MethodName := ⟨RJ1, "charAt", "([BI)C"⟩
abbrev cJ1_inflate_0e8fd : ByteArray := prog_31_method_50_code
def yJ1_inflate_0e8fd : MethodName := ⟨RJ1, "inflate", "([BI[BII)V"⟩
def RJ2 : String := "java/lang/StringUTF16"
def TJ2 : u_T := fun k => match k with
  | _ => ("", "", "", false)
def tyJ2 : Nat → FieldType := fun k => match k with
  | _ => .int
abbrev wsJ20 : List Cond := u_ws RJ2 TJ2 0
theorem nmJ2 : ∀ a, a < 0 → ∀ b, b < 0 → a ≠ b → (TJ2 a).2.1 ≠ (TJ2 b).2.1 := by decide +kernel
theorem tyJ2_ok : ∀ k, k < 0 → parseFieldDescriptor (TJ2 k).2.2.1 = some (tyJ2 k) := by decide +kernel
abbrev cJ2_newBytesFor_77867 : ByteArray := prog_32_method_2_code
def yJ2_newBytesFor_77867 : MethodName := ⟨RJ2, "newBytesFor", "(I)[B"⟩
abbrev cJ2_newBytesLength_0f7a4 : ByteArray := prog_32_method_3_code
def yJ2_newBytesLength_0f7a4 : MethodName := ⟨RJ2, "newBytesLength", "(I)I"⟩
abbrev cJ2_putChar_b72d1 : ByteArray := prog_32_method_4_code
def yJ2_putChar_b72d1 : MethodName := ⟨RJ2, "putChar", "([BII)V"⟩
abbrev cJ2_getChar_3b067 : ByteArray := prog_32_method_5_code
def yJ2_getChar_3b067 : MethodName := ⟨RJ2, "getChar", "([BI)C"⟩
abbrev cJ2_length_9d52b : ByteArray := prog_32_method_6_code
def yJ2_length_9d52b : MethodName := ⟨RJ2, "length", "([B)I"⟩
abbrev cJ2_coderFromArrayLen_85cad : ByteArray := prog_32_method_15_code
def yJ2_coderFromArrayLen_85cad : MethodName := ⟨RJ2, "coderFromArrayLen", "([BI)B"⟩
abbrev cJ2_compress_39247 : ByteArray := prog_32_method_17_code
def yJ2_compress_39247 : MethodName := ⟨RJ2, "compress", "([BII)[B"⟩
abbrev cJ2_compress_5af95 : ByteArray := prog_32_method_22_code
def yJ2_compress_5af95 : MethodName := ⟨RJ2, "compress", "([BI[BII)I"⟩
abbrev cJ2_getChars_46870 : ByteArray := prog_32_method_77_code
def yJ2_getChars_46870 : MethodName := ⟨RJ2, "getChars", "(III[B)I"⟩
abbrev cJ2_putCharsAt_cd4e5 : ByteArray := prog_32_method_81_code
def yJ2_putCharsAt_cd4e5 : MethodName := ⟨RJ2, "putCharsAt", "([BICCCC)I"⟩
abbrev cJ2_charAt_3b067 : ByteArray := prog_32_method_83_code
def yJ2_charAt_3b067 : MethodName := ⟨RJ2, "charAt", "([BI)C"⟩
abbrev cJ2_inflate_0e8fd : ByteArray := prog_32_method_86_code
def yJ2_inflate_0e8fd : MethodName := ⟨RJ2, "inflate", "([BI[BII)V"⟩
abbrev cJ2_getChars_ba4f3 : ByteArray := prog_32_method_89_code
def yJ2_getChars_ba4f3 : MethodName := ⟨RJ2, "getChars", "(II[B)I"⟩
abbrev cJ2_checkIndex_2214a : ByteArray := prog_32_method_91_code
def yJ2_checkIndex_2214a : MethodName := ⟨RJ2, "checkIndex", "(I[B)V"⟩
abbrev cJ2_checkBoundsBeginEnd_d044e : ByteArray := prog_32_method_93_code
def yJ2_checkBoundsBeginEnd_d044e : MethodName := ⟨RJ2, "checkBoundsBeginEnd", "(II[B)V"⟩
abbrev cJ2_checkBoundsOffCount_d044e : ByteArray := prog_32_method_94_code
def yJ2_checkBoundsOffCount_d044e : MethodName := ⟨RJ2, "checkBoundsOffCount", "(II[B)V"⟩
def RJ10 : String := "java/lang/System"
def TJ10 : u_T := fun k => match k with
  | _ => ("", "", "", false)
def tyJ10 : Nat → FieldType := fun k => match k with
  | _ => .int
abbrev wsJ100 : List Cond := u_ws RJ10 TJ10 0
theorem nmJ10 : ∀ a, a < 0 → ∀ b, b < 0 → a ≠ b → (TJ10 a).2.1 ≠ (TJ10 b).2.1 := by decide +kernel
theorem tyJ10_ok : ∀ k, k < 0 → parseFieldDescriptor (TJ10 k).2.2.1 = some (tyJ10 k) := by decide +kernel
def RJxfd54e : String := "java/lang/constant/Constable"
def TJxfd54e : u_T := fun k => match k with
  | _ => ("", "", "", false)
def tyJxfd54e : Nat → FieldType := fun k => match k with
  | _ => .int
abbrev wsJxfd54e0 : List Cond := u_ws RJxfd54e TJxfd54e 0
theorem nmJxfd54e : ∀ a, a < 0 → ∀ b, b < 0 → a ≠ b → (TJxfd54e a).2.1 ≠ (TJxfd54e b).2.1 := by decide +kernel
theorem tyJxfd54e_ok : ∀ k, k < 0 → parseFieldDescriptor (TJxfd54e k).2.2.1 = some (tyJxfd54e k) := by decide +kernel
def RJx3cf43 : String := "java/lang/constant/ConstantDesc"
def TJx3cf43 : u_T := fun k => match k with
  | _ => ("", "", "", false)
def tyJx3cf43 : Nat → FieldType := fun k => match k with
  | _ => .int
abbrev wsJx3cf430 : List Cond := u_ws RJx3cf43 TJx3cf43 0
theorem nmJx3cf43 : ∀ a, a < 0 → ∀ b, b < 0 → a ≠ b → (TJx3cf43 a).2.1 ≠ (TJx3cf43 b).2.1 := by decide +kernel
theorem tyJx3cf43_ok : ∀ k, k < 0 → parseFieldDescriptor (TJx3cf43 k).2.2.1 = some (tyJx3cf43 k) := by decide +kernel
def RJ7 : String := "java/util/Arrays"
def TJ7 : u_T := fun k => match k with
  | _ => ("", "", "", false)
def tyJ7 : Nat → FieldType := fun k => match k with
  | _ => .int
abbrev wsJ70 : List Cond := u_ws RJ7 TJ7 0
theorem nmJ7 : ∀ a, a < 0 → ∀ b, b < 0 → a ≠ b → (TJ7 a).2.1 ≠ (TJ7 b).2.1 := by decide +kernel
theorem tyJ7_ok : ∀ k, k < 0 → parseFieldDescriptor (TJ7 k).2.2.1 = some (tyJ7 k) := by decide +kernel
abbrev cJ7_fill_d0a16 : ByteArray := prog_37_method_101_code
def yJ7_fill_d0a16 : MethodName := ⟨RJ7, "fill", "([JJ)V"⟩
abbrev cJ7_fill_53178 : ByteArray := prog_37_method_103_code
def yJ7_fill_53178 : MethodName := ⟨RJ7, "fill", "([II)V"⟩
abbrev cJ7_copyOf_9075b : ByteArray := prog_37_method_121_code
def yJ7_copyOf_9075b : MethodName := ⟨RJ7, "copyOf", "([BI)[B"⟩
abbrev cJ7_checkLength_df160 : ByteArray := prog_37_method_131_code
def yJ7_checkLength_df160 : MethodName := ⟨RJ7, "checkLength", "(II)V"⟩
abbrev cJ7_copyOfRange_39247 : ByteArray := prog_37_method_132_code
def yJ7_copyOfRange_39247 : MethodName := ⟨RJ7, "copyOfRange", "([BII)[B"⟩
abbrev cJ7_copyOfRangeByte_39247 : ByteArray := prog_37_method_133_code
def yJ7_copyOfRangeByte_39247 : MethodName := ⟨RJ7, "copyOfRangeByte", "([BII)[B"⟩
def RJ8 : String := "jdk/internal/util/ArraysSupport"
def TJ8 : u_T := fun k => match k with
  | _ => ("", "", "", false)
def tyJ8 : Nat → FieldType := fun k => match k with
  | _ => .int
abbrev wsJ80 : List Cond := u_ws RJ8 TJ8 0
theorem nmJ8 : ∀ a, a < 0 → ∀ b, b < 0 → a ≠ b → (TJ8 a).2.1 ≠ (TJ8 b).2.1 := by decide +kernel
theorem tyJ8_ok : ∀ k, k < 0 → parseFieldDescriptor (TJ8 k).2.2.1 = some (tyJ8 k) := by decide +kernel
abbrev cJ8_newLength_cabcc : ByteArray := prog_39_method_27_code
def yJ8_newLength_cabcc : MethodName := ⟨RJ8, "newLength", "(III)I"⟩
abbrev cJ8_hugeLength_7cf53 : ByteArray := prog_39_method_28_code
def yJ8_hugeLength_7cf53 : MethodName := ⟨RJ8, "hugeLength", "(II)I"⟩
def RJ3 : String := "jdk/internal/util/Preconditions"
def TJ3 : u_T := fun k => match k with
  | _ => ("", "", "", false)
def tyJ3 : Nat → FieldType := fun k => match k with
  | _ => .int
abbrev wsJ30 : List Cond := u_ws RJ3 TJ3 0
theorem nmJ3 : ∀ a, a < 0 → ∀ b, b < 0 → a ≠ b → (TJ3 a).2.1 ≠ (TJ3 b).2.1 := by decide +kernel
theorem tyJ3_ok : ∀ k, k < 0 → parseFieldDescriptor (TJ3 k).2.2.1 = some (tyJ3 k) := by decide +kernel
abbrev cJ3_checkIndex_8e157 : ByteArray := prog_40_method_11_code
def yJ3_checkIndex_8e157 : MethodName := ⟨RJ3, "checkIndex", "(IILjava/util/function/BiFunction;)I"⟩
abbrev cJ3_checkFromToIndex_8c36e : ByteArray := prog_40_method_12_code
def yJ3_checkFromToIndex_8c36e : MethodName := ⟨RJ3, "checkFromToIndex", "(IIILjava/util/function/BiFunction;)I"⟩
abbrev cJ3_checkFromIndexSize_8c36e : ByteArray := prog_40_method_13_code
def yJ3_checkFromIndexSize_8c36e : MethodName := ⟨RJ3, "checkFromIndexSize", "(IIILjava/util/function/BiFunction;)I"⟩
def RL : String := "GlacierBookLaw"
def TL : u_T := fun k => match k with
  | 0 => ("GlacierBookLaw", "o", "LGlacierBook;", true)
  | 1 => ("GlacierBookLaw", "d", "LGlacierBookLaw$Draws;", true)
  | 2 => ("GlacierBookLaw", "p", "[I", true)
  | 3 => ("GlacierBookLaw", "q", "[I", true)
  | 4 => ("GlacierBookLaw", "w", "[I", true)
  | 5 => ("GlacierBookLaw", "bounds", "I", false)
  | 6 => ("GlacierBookLaw", "layers", "I", false)
  | 7 => ("GlacierBookLaw", "thick", "[[I", true)
  | 8 => ("GlacierBookLaw", "mark", "[[I", true)
  | 9 => ("GlacierBookLaw", "bands", "[I", true)
  | 10 => ("GlacierBookLaw", "ties", "[I", false)
  | 11 => ("GlacierBookLaw", "best", "I", false)
  | _ => ("GlacierBookLaw", "ways", "J", false)
def tyL : Nat → FieldType := fun k => match k with
  | 0 => .object "GlacierBook"
  | 1 => .object "GlacierBookLaw$Draws"
  | 2 => .array .int
  | 3 => .array .int
  | 4 => .array .int
  | 5 => .int
  | 6 => .int
  | 7 => .array (.array .int)
  | 8 => .array (.array .int)
  | 9 => .array .int
  | 10 => .array .int
  | 11 => .int
  | _ => .long
abbrev wsL0 : List Cond := u_ws RL TL 13
theorem nmL : ∀ a, a < 13 → ∀ b, b < 13 → a ≠ b → (TL a).2.1 ≠ (TL b).2.1 := by decide +kernel
theorem tyL_ok : ∀ k, k < 13 → parseFieldDescriptor (TL k).2.2.1 = some (tyL k) := by decide +kernel
abbrev cL_init : ByteArray := method_1_code
def yL_init : MethodName := ⟨RL, "<init>", "([I)V"⟩
abbrev cL_bound : ByteArray := method_2_code
def yL_bound : MethodName := ⟨RL, "bound", "(LGlacierBook;IIIZ)I"⟩
abbrev cL_high : ByteArray := method_3_code
def yL_high : MethodName := ⟨RL, "high", "(LGlacierBook;II)I"⟩
abbrev cL_isRing : ByteArray := method_4_code
def yL_isRing : MethodName := ⟨RL, "isRing", "(III)Z"⟩
abbrev cL_areBound : ByteArray := method_5_code
def yL_areBound : MethodName := ⟨RL, "areBound", "()Z"⟩
abbrev cL_isNarrow : ByteArray := method_6_code
def yL_isNarrow : MethodName := ⟨RL, "isNarrow", "()Z"⟩
abbrev cL_on : ByteArray := method_7_code
def yL_on : MethodName := ⟨RL, "on", "(LGlacierBook;II)I"⟩
abbrev cL_orders : ByteArray := method_8_code
def yL_orders : MethodName := ⟨RL, "orders", "([[ZI)J"⟩
abbrev cL_isDrawn : ByteArray := method_9_code
def yL_isDrawn : MethodName := ⟨RL, "isDrawn", "()Z"⟩
abbrev cL_goes : ByteArray := method_10_code
def yL_goes : MethodName := ⟨RL, "goes", "(III)V"⟩
abbrev cL_isLoose : ByteArray := method_11_code
def yL_isLoose : MethodName := ⟨RL, "isLoose", "(I)Z"⟩
abbrev cL_tie : ByteArray := method_12_code
def yL_tie : MethodName := ⟨RL, "tie", "(LGlacierBook;II)I"⟩
abbrev cL_isLaid : ByteArray := method_13_code
def yL_isLaid : MethodName := ⟨RL, "isLaid", "()Z"⟩
abbrev cL_date : ByteArray := method_14_code
def yL_date : MethodName := ⟨RL, "date", "(LGlacierBook;III)I"⟩
abbrev cL_age : ByteArray := method_15_code
def yL_age : MethodName := ⟨RL, "age", "(LGlacierBook;II)I"⟩
abbrev cL_areDated : ByteArray := method_16_code
def yL_areDated : MethodName := ⟨RL, "areDated", "()Z"⟩
abbrev cL_isBalanced : ByteArray := method_17_code
def yL_isBalanced : MethodName := ⟨RL, "isBalanced", "()Z"⟩
abbrev cL_ice : ByteArray := method_18_code
def yL_ice : MethodName := ⟨RL, "ice", "()I"⟩
abbrev cL_isKept : ByteArray := method_19_code
def yL_isKept : MethodName := ⟨RL, "isKept", "()Z"⟩
abbrev cL_type : ByteArray := method_20_code
def yL_type : MethodName := ⟨RL, "type", "(Ljava/lang/String;)V"⟩
abbrev cL_isDone : ByteArray := method_21_code
def yL_isDone : MethodName := ⟨RL, "isDone", "()Z"⟩
abbrev cL_holds : ByteArray := method_22_code
def yL_holds : MethodName := ⟨RL, "holds", "()Z"⟩
abbrev cL_law : ByteArray := code
def yL_law : MethodName := ⟨RL, "law", "([I)Z"⟩
