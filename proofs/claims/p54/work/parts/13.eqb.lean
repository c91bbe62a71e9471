/-! equations of runs, a block each, by program -/
/-! GlacierBook.addLayer()I -/
set_option maxRecDepth 100000 in
theorem e_90_0 (I : Nat → Nat → Int32) (J : Nat → Nat → Int64) (D : Nat → Nat → UInt64)  : ex (90, 0, [.ref 0], [], mm I J D) = bif decide ((I 8 1) < 16) then ex (90, 25, [.ref 0], [], mm I J D) else ex (90, 15, [dv], [], mm I J D) := (ex_itr 6 _).trans rfl
set_option maxRecDepth 100000 in
theorem e_90_15 (I : Nat → Nat → Int32) (J : Nat → Nat → Int64) (D : Nat → Nat → UInt64)  : ex (90, 15, [dv], [], mm I J D) = some (.inr (.inl 0), mm I J D) := (ex_itr 1 _).trans rfl
set_option maxRecDepth 100000 in
theorem e_90_25 (I : Nat → Nat → Int32) (J : Nat → Nat → Int64) (D : Nat → Nat → UInt64)  : ex (90, 25, [.ref 0], [], mm I J D) = cal 90 29 [.ref 0] [] (ex (141, 0, [.ref 0, dv], [], mm I J D)) := (ex_itr 2 _).trans rfl
set_option maxRecDepth 100000 in
theorem e_90_29 (I : Nat → Nat → Int32) (J : Nat → Nat → Int64) (D : Nat → Nat → UInt64)  : ex (90, 29, [.ref 0], [], mm I J D) = some (.inl (some (.int ((ups I 8 1 ((I 8 1) + 1)) 8 1))), mm (ups I 8 1 ((I 8 1) + 1)) J D) := (ex_itr 13 _).trans rfl
/-! GlacierBook.least(III)I -/
set_option maxRecDepth 100000 in
theorem e_91_0 (I : Nat → Nat → Int32) (J : Nat → Nat → Int64) (D : Nat → Nat → UInt64) (v1 : Int32) (v2 : Int32) (v3 : Int32) : ex (91, 0, [.ref 0, .int v1, .int v2, .int v3], [], mm I J D) = cal 91 8 [dv, dv, dv, dv] [] (ex (142, 0, [.ref 0, .int v2, .int v1, .int (-v3), dv], [], mm I J D)) := (ex_itr 6 _).trans rfl
set_option maxRecDepth 100000 in
theorem e_91_8 (I : Nat → Nat → Int32) (J : Nat → Nat → Int64) (D : Nat → Nat → UInt64) (s0 : Int32) : ex (91, 8, [dv, dv, dv, dv], [.int s0], mm I J D) = some (.inl (some (.int s0)), mm I J D) := (ex_itr 1 _).trans rfl
/-! GlacierBook.most(III)I -/
set_option maxRecDepth 100000 in
theorem e_92_0 (I : Nat → Nat → Int32) (J : Nat → Nat → Int64) (D : Nat → Nat → UInt64) (v1 : Int32) (v2 : Int32) (v3 : Int32) : ex (92, 0, [.ref 0, .int v1, .int v2, .int v3], [], mm I J D) = cal 92 7 [dv, dv, dv, dv] [] (ex (142, 0, [.ref 0, .int v1, .int v2, .int v3, dv], [], mm I J D)) := (ex_itr 5 _).trans rfl
set_option maxRecDepth 100000 in
theorem e_92_7 (I : Nat → Nat → Int32) (J : Nat → Nat → Int64) (D : Nat → Nat → UInt64) (s0 : Int32) : ex (92, 7, [dv, dv, dv, dv], [.int s0], mm I J D) = some (.inl (some (.int s0)), mm I J D) := (ex_itr 1 _).trans rfl
/-! GlacierBook.takeBack(I)I -/
set_option maxRecDepth 100000 in
theorem e_93_0 (I : Nat → Nat → Int32) (J : Nat → Nat → Int64) (D : Nat → Nat → UInt64) (v1 : Int32) : ex (93, 0, [.ref 0, .int v1], [], mm I J D) = cal 93 5 [.ref 0, .int v1] [] (ex (148, 0, [.ref 0, .int v1], [], mm I J D)) := (ex_itr 3 _).trans rfl
set_option maxRecDepth 100000 in
theorem e_93_5 (I : Nat → Nat → Int32) (J : Nat → Nat → Int64) (D : Nat → Nat → UInt64) (v1 : Int32) : ex (93, 5, [.ref 0, .int v1], [], mm I J D) = cal 93 9 [.ref 0, .int v1] [] (ex (141, 0, [.ref 0, dv], [], mm I J D)) := (ex_itr 2 _).trans rfl
set_option maxRecDepth 100000 in
theorem e_93_9 (I : Nat → Nat → Int32) (J : Nat → Nat → Int64) (D : Nat → Nat → UInt64) (v1 : Int32) : ex (93, 9, [.ref 0, .int v1], [], mm I J D) = cal 93 20 [.ref 0, dv] [] (ex (2, 0, [.ref 2, .int v1], [], mm I J D)) := (ex_itr 5 _).trans rfl
set_option maxRecDepth 100000 in
theorem e_93_20 (I : Nat → Nat → Int32) (J : Nat → Nat → Int64) (D : Nat → Nat → UInt64)  : ex (93, 20, [.ref 0, dv], [], mm I J D) = some (.inl (some (.int (I 2 6))), mm I J D) := (ex_itr 5 _).trans rfl
/-! GlacierBook.follows(I)Z -/
set_option maxRecDepth 100000 in
theorem e_94_0 (I : Nat → Nat → Int32) (J : Nat → Nat → Int64) (D : Nat → Nat → UInt64) (v1 : Int32) : ex (94, 0, [.ref 0, .int v1, dv], [], mm I J D) = cal 94 5 [.ref 0, .int v1, dv] [] (ex (148, 0, [.ref 0, .int v1], [], mm I J D)) := (ex_itr 3 _).trans rfl
set_option maxRecDepth 100000 in
theorem e_94_5 (I : Nat → Nat → Int32) (J : Nat → Nat → Int64) (D : Nat → Nat → UInt64) (v1 : Int32) : ex (94, 5, [.ref 0, .int v1, dv], [], mm I J D) = bif inb v1 50 then (bif inb v1 50 then (cal 94 33 [dv, .int v1, .ref 2] [] (ex (7, 0, [.ref 245, .int (I 3 v1.toNatClampNeg), .int (I 4 v1.toNatClampNeg), .int v1, dv, dv], [], mm I J D))) else none) else none := (ex_itr 16 _).trans rfl
set_option maxRecDepth 100000 in
theorem e_94_33 (I : Nat → Nat → Int32) (J : Nat → Nat → Int64) (D : Nat → Nat → UInt64) (v1 : Int32) (s0 : Int32) : ex (94, 33, [dv, .int v1, .ref 2], [.int s0], mm I J D) = bif inb v1 50 then (bif decide ((I 5 v1.toNatClampNeg) < s0) then ex (94, 46, [dv, dv, dv], [], mm I J D) else ex (94, 42, [dv, dv, dv], [], mm I J D)) else none := (ex_itr 5 _).trans rfl
set_option maxRecDepth 100000 in
theorem e_94_42 (I : Nat → Nat → Int32) (J : Nat → Nat → Int64) (D : Nat → Nat → UInt64)  : ex (94, 42, [dv, dv, dv], [], mm I J D) = ex (94, 47, [dv, dv, dv], [.int 1], mm I J D) := (ex_itr 2 _).trans rfl
set_option maxRecDepth 100000 in
theorem e_94_46 (I : Nat → Nat → Int32) (J : Nat → Nat → Int64) (D : Nat → Nat → UInt64)  : ex (94, 46, [dv, dv, dv], [], mm I J D) = ex (94, 47, [dv, dv, dv], [.int 0], mm I J D) := (ex_itr 1 _).trans rfl
set_option maxRecDepth 100000 in
theorem e_94_47 (I : Nat → Nat → Int32) (J : Nat → Nat → Int64) (D : Nat → Nat → UInt64) (s0 : Int32) : ex (94, 47, [dv, dv, dv], [.int s0], mm I J D) = bif decide (s0 = 0 ∨ s0 = 1) then (some (.inl (some (.int s0)), mm I J D)) else none := (ex_itr 1 _).trans rfl
/-! GlacierBook.low(II)I -/
set_option maxRecDepth 100000 in
theorem e_95_0 (I : Nat → Nat → Int32) (J : Nat → Nat → Int64) (D : Nat → Nat → UInt64) (v1 : Int32) (v2 : Int32) : ex (95, 0, [.ref 0, .int v1, .int v2], [], mm I J D) = cal 95 6 [dv, dv, dv] [] (ex (143, 0, [.ref 0, .int v2, .int v1, dv], [], mm I J D)) := (ex_itr 4 _).trans rfl
set_option maxRecDepth 100000 in
theorem e_95_6 (I : Nat → Nat → Int32) (J : Nat → Nat → Int64) (D : Nat → Nat → UInt64) (s0 : Int32) : ex (95, 6, [dv, dv, dv], [.int s0], mm I J D) = some (.inl (some (.int (-s0))), mm I J D) := (ex_itr 2 _).trans rfl
/-! GlacierBook.high(II)I -/
set_option maxRecDepth 100000 in
theorem e_96_0 (I : Nat → Nat → Int32) (J : Nat → Nat → Int64) (D : Nat → Nat → UInt64) (v1 : Int32) (v2 : Int32) : ex (96, 0, [.ref 0, .int v1, .int v2], [], mm I J D) = cal 96 6 [dv, dv, dv] [] (ex (143, 0, [.ref 0, .int v1, .int v2, dv], [], mm I J D)) := (ex_itr 4 _).trans rfl
set_option maxRecDepth 100000 in
theorem e_96_6 (I : Nat → Nat → Int32) (J : Nat → Nat → Int64) (D : Nat → Nat → UInt64) (s0 : Int32) : ex (96, 6, [dv, dv, dv], [.int s0], mm I J D) = some (.inl (some (.int s0)), mm I J D) := (ex_itr 1 _).trans rfl
/-! GlacierBook.ringLength()I -/
set_option maxRecDepth 100000 in
theorem e_97_0 (I : Nat → Nat → Int32) (J : Nat → Nat → Int64) (D : Nat → Nat → UInt64)  : ex (97, 0, [.ref 0], [], mm I J D) = some (.inl (some (.int (I 245 3))), mm I J D) := (ex_itr 4 _).trans rfl
/-! GlacierBook.ringAt(I)I -/
set_option maxRecDepth 100000 in
theorem e_98_0 (I : Nat → Nat → Int32) (J : Nat → Nat → Int64) (D : Nat → Nat → UInt64) (v1 : Int32) : ex (98, 0, [.ref 0, .int v1], [], mm I J D) = bif decide (v1 < 0) then ex (98, 15, [dv, dv], [], mm I J D) else ex (98, 4, [.ref 0, .int v1], [], mm I J D) := (ex_itr 2 _).trans rfl
set_option maxRecDepth 100000 in
theorem e_98_4 (I : Nat → Nat → Int32) (J : Nat → Nat → Int64) (D : Nat → Nat → UInt64) (v1 : Int32) : ex (98, 4, [.ref 0, .int v1], [], mm I J D) = bif decide (v1 < (I 245 3)) then ex (98, 25, [.ref 0, .int v1], [], mm I J D) else ex (98, 15, [dv, dv], [], mm I J D) := (ex_itr 5 _).trans rfl
set_option maxRecDepth 100000 in
theorem e_98_15 (I : Nat → Nat → Int32) (J : Nat → Nat → Int64) (D : Nat → Nat → UInt64)  : ex (98, 15, [dv, dv], [], mm I J D) = some (.inr (.inl 2), mm I J D) := (ex_itr 1 _).trans rfl
set_option maxRecDepth 100000 in
theorem e_98_25 (I : Nat → Nat → Int32) (J : Nat → Nat → Int64) (D : Nat → Nat → UInt64) (v1 : Int32) : ex (98, 25, [.ref 0, .int v1], [], mm I J D) = bif inb v1 17 then (some (.inl (some (.int (I 264 v1.toNatClampNeg))), mm I J D)) else none := (ex_itr 6 _).trans rfl
/-! GlacierBook.layerCount()I -/
set_option maxRecDepth 100000 in
theorem e_99_0 (I : Nat → Nat → Int32) (J : Nat → Nat → Int64) (D : Nat → Nat → UInt64)  : ex (99, 0, [.ref 0], [], mm I J D) = some (.inl (some (.int (I 8 1))), mm I J D) := (ex_itr 5 _).trans rfl
/-! GlacierBook.boundCount()I -/
set_option maxRecDepth 100000 in
theorem e_100_0 (I : Nat → Nat → Int32) (J : Nat → Nat → Int64) (D : Nat → Nat → UInt64)  : ex (100, 0, [.ref 0], [], mm I J D) = some (.inl (some (.int (I 2 6))), mm I J D) := (ex_itr 5 _).trans rfl
/-! GlacierBook.layOn(II)I -/
set_option maxRecDepth 100000 in
theorem e_101_0 (I : Nat → Nat → Int32) (J : Nat → Nat → Int64) (D : Nat → Nat → UInt64) (v1 : Int32) (v2 : Int32) : ex (101, 0, [.ref 0, .int v1, .int v2], [], mm I J D) = cal 101 5 [.ref 0, .int v1, .int v2] [] (ex (147, 0, [.ref 0, .int v1], [], mm I J D)) := (ex_itr 3 _).trans rfl
set_option maxRecDepth 100000 in
theorem e_101_5 (I : Nat → Nat → Int32) (J : Nat → Nat → Int64) (D : Nat → Nat → UInt64) (v1 : Int32) (v2 : Int32) : ex (101, 5, [.ref 0, .int v1, .int v2], [], mm I J D) = cal 101 10 [.ref 0, .int v1, .int v2] [] (ex (147, 0, [.ref 0, .int v2], [], mm I J D)) := (ex_itr 3 _).trans rfl
set_option maxRecDepth 100000 in
theorem e_101_10 (I : Nat → Nat → Int32) (J : Nat → Nat → Int64) (D : Nat → Nat → UInt64) (v1 : Int32) (v2 : Int32) : ex (101, 10, [.ref 0, .int v1, .int v2], [], mm I J D) = bif decide (v1 ≠ v2) then ex (101, 25, [.ref 0, .int v1, .int v2], [], mm I J D) else ex (101, 15, [dv, dv, dv], [], mm I J D) := (ex_itr 3 _).trans rfl
set_option maxRecDepth 100000 in
theorem e_101_15 (I : Nat → Nat → Int32) (J : Nat → Nat → Int64) (D : Nat → Nat → UInt64)  : ex (101, 15, [dv, dv, dv], [], mm I J D) = some (.inr (.inl 1), mm I J D) := (ex_itr 1 _).trans rfl
set_option maxRecDepth 100000 in
theorem e_101_25 (I : Nat → Nat → Int32) (J : Nat → Nat → Int64) (D : Nat → Nat → UInt64) (v1 : Int32) (v2 : Int32) : ex (101, 25, [.ref 0, .int v1, .int v2], [], mm I J D) = cal 101 29 [.ref 0, .int v1, .int v2] [] (ex (144, 0, [.ref 0], [], mm I J D)) := (ex_itr 2 _).trans rfl
set_option maxRecDepth 100000 in
theorem e_101_29 (I : Nat → Nat → Int32) (J : Nat → Nat → Int64) (D : Nat → Nat → UInt64) (v1 : Int32) (v2 : Int32) : ex (101, 29, [.ref 0, .int v1, .int v2], [.ref 265], mm I J D) = cal 101 34 [.ref 0, .int v1, .int v2] [] (ex (15, 0, [.ref 265, .int v2, .int v1], [], mm I J D)) := (ex_itr 3 _).trans rfl
set_option maxRecDepth 100000 in
theorem e_101_34 (I : Nat → Nat → Int32) (J : Nat → Nat → Int64) (D : Nat → Nat → UInt64) (v1 : Int32) (v2 : Int32) (s0 : Int32) : ex (101, 34, [.ref 0, .int v1, .int v2], [.int s0], mm I J D) = bif decide (s0 = 0) then ex (101, 47, [.ref 0, .int v1, .int v2], [], mm I J D) else ex (101, 37, [dv, dv, dv], [], mm I J D) := (ex_itr 1 _).trans rfl
set_option maxRecDepth 100000 in
theorem e_101_37 (I : Nat → Nat → Int32) (J : Nat → Nat → Int64) (D : Nat → Nat → UInt64)  : ex (101, 37, [dv, dv, dv], [], mm I J D) = some (.inr (.inl 0), mm I J D) := (ex_itr 1 _).trans rfl
set_option maxRecDepth 100000 in
theorem e_101_47 (I : Nat → Nat → Int32) (J : Nat → Nat → Int64) (D : Nat → Nat → UInt64) (v1 : Int32) (v2 : Int32) : ex (101, 47, [.ref 0, .int v1, .int v2], [], mm I J D) = cal 101 51 [.ref 0, .int v1, .int v2] [] (ex (141, 0, [.ref 0, dv], [], mm I J D)) := (ex_itr 2 _).trans rfl
set_option maxRecDepth 100000 in
theorem e_101_51 (I : Nat → Nat → Int32) (J : Nat → Nat → Int64) (D : Nat → Nat → UInt64) (v1 : Int32) (v2 : Int32) : ex (101, 51, [.ref 0, .int v1, .int v2], [], mm I J D) = cal 101 63 [.ref 0, dv, dv] [] (ex (50, 0, [.ref 8, .int v1, .int v2], [], mm I J D)) := (ex_itr 6 _).trans rfl
set_option maxRecDepth 100000 in
theorem e_101_63 (I : Nat → Nat → Int32) (J : Nat → Nat → Int64) (D : Nat → Nat → UInt64)  : ex (101, 63, [.ref 0, dv, dv], [], mm I J D) = cal 101 67 [dv, dv, dv] [] (ex (144, 0, [.ref 0], [], mm I J D)) := (ex_itr 2 _).trans rfl
set_option maxRecDepth 100000 in
theorem e_101_67 (I : Nat → Nat → Int32) (J : Nat → Nat → Int64) (D : Nat → Nat → UInt64)  : ex (101, 67, [dv, dv, dv], [.ref 265], mm I J D) = cal 101 70 [dv, dv, dv] [] (ex (16, 0, [.ref 265], [], mm I J D)) := (ex_itr 1 _).trans rfl
set_option maxRecDepth 100000 in
theorem e_101_70 (I : Nat → Nat → Int32) (J : Nat → Nat → Int64) (D : Nat → Nat → UInt64) (s0 : Int32) : ex (101, 70, [dv, dv, dv], [.int s0], mm I J D) = some (.inl (some (.int s0)), mm I J D) := (ex_itr 1 _).trans rfl
/-! GlacierBook.takeOff(II)I -/
set_option maxRecDepth 100000 in
theorem e_102_0 (I : Nat → Nat → Int32) (J : Nat → Nat → Int64) (D : Nat → Nat → UInt64) (v1 : Int32) (v2 : Int32) : ex (102, 0, [.ref 0, .int v1, .int v2], [], mm I J D) = cal 102 5 [.ref 0, .int v1, .int v2] [] (ex (147, 0, [.ref 0, .int v1], [], mm I J D)) := (ex_itr 3 _).trans rfl
set_option maxRecDepth 100000 in
theorem e_102_5 (I : Nat → Nat → Int32) (J : Nat → Nat → Int64) (D : Nat → Nat → UInt64) (v1 : Int32) (v2 : Int32) : ex (102, 5, [.ref 0, .int v1, .int v2], [], mm I J D) = cal 102 10 [.ref 0, .int v1, .int v2] [] (ex (147, 0, [.ref 0, .int v2], [], mm I J D)) := (ex_itr 3 _).trans rfl
set_option maxRecDepth 100000 in
theorem e_102_10 (I : Nat → Nat → Int32) (J : Nat → Nat → Int64) (D : Nat → Nat → UInt64) (v1 : Int32) (v2 : Int32) : ex (102, 10, [.ref 0, .int v1, .int v2], [], mm I J D) = cal 102 22 [.ref 0, .int v1, .int v2] [] (ex (52, 0, [.ref 8, .int v1, .int v2], [], mm I J D)) := (ex_itr 6 _).trans rfl
set_option maxRecDepth 100000 in
theorem e_102_22 (I : Nat → Nat → Int32) (J : Nat → Nat → Int64) (D : Nat → Nat → UInt64) (v1 : Int32) (v2 : Int32) (s0 : Int32) : ex (102, 22, [.ref 0, .int v1, .int v2], [.int s0], mm I J D) = bif decide (s0 ≠ 0) then ex (102, 35, [.ref 0, .int v1, .int v2], [], mm I J D) else ex (102, 25, [dv, dv, dv], [], mm I J D) := (ex_itr 1 _).trans rfl
set_option maxRecDepth 100000 in
theorem e_102_25 (I : Nat → Nat → Int32) (J : Nat → Nat → Int64) (D : Nat → Nat → UInt64)  : ex (102, 25, [dv, dv, dv], [], mm I J D) = some (.inr (.inl 3), mm I J D) := (ex_itr 1 _).trans rfl
set_option maxRecDepth 100000 in
theorem e_102_35 (I : Nat → Nat → Int32) (J : Nat → Nat → Int64) (D : Nat → Nat → UInt64) (v1 : Int32) (v2 : Int32) : ex (102, 35, [.ref 0, .int v1, .int v2], [], mm I J D) = cal 102 39 [.ref 0, .int v1, .int v2] [] (ex (141, 0, [.ref 0, dv], [], mm I J D)) := (ex_itr 2 _).trans rfl
set_option maxRecDepth 100000 in
theorem e_102_39 (I : Nat → Nat → Int32) (J : Nat → Nat → Int64) (D : Nat → Nat → UInt64) (v1 : Int32) (v2 : Int32) : ex (102, 39, [.ref 0, .int v1, .int v2], [], mm I J D) = cal 102 51 [.ref 0, dv, dv] [] (ex (51, 0, [.ref 8, .int v1, .int v2], [], mm I J D)) := (ex_itr 6 _).trans rfl
set_option maxRecDepth 100000 in
theorem e_102_51 (I : Nat → Nat → Int32) (J : Nat → Nat → Int64) (D : Nat → Nat → UInt64)  : ex (102, 51, [.ref 0, dv, dv], [], mm I J D) = cal 102 55 [dv, dv, dv] [] (ex (144, 0, [.ref 0], [], mm I J D)) := (ex_itr 2 _).trans rfl
set_option maxRecDepth 100000 in
theorem e_102_55 (I : Nat → Nat → Int32) (J : Nat → Nat → Int64) (D : Nat → Nat → UInt64)  : ex (102, 55, [dv, dv, dv], [.ref 265], mm I J D) = cal 102 58 [dv, dv, dv] [] (ex (16, 0, [.ref 265], [], mm I J D)) := (ex_itr 1 _).trans rfl
set_option maxRecDepth 100000 in
theorem e_102_58 (I : Nat → Nat → Int32) (J : Nat → Nat → Int64) (D : Nat → Nat → UInt64) (s0 : Int32) : ex (102, 58, [dv, dv, dv], [.int s0], mm I J D) = some (.inl (some (.int s0)), mm I J D) := (ex_itr 1 _).trans rfl
/-! GlacierBook.isAbove(II)Z -/
set_option maxRecDepth 100000 in
theorem e_103_0 (I : Nat → Nat → Int32) (J : Nat → Nat → Int64) (D : Nat → Nat → UInt64) (v1 : Int32) (v2 : Int32) : ex (103, 0, [.ref 0, .int v1, .int v2], [], mm I J D) = cal 103 5 [.ref 0, .int v1, .int v2] [] (ex (147, 0, [.ref 0, .int v1], [], mm I J D)) := (ex_itr 3 _).trans rfl
set_option maxRecDepth 100000 in
theorem e_103_5 (I : Nat → Nat → Int32) (J : Nat → Nat → Int64) (D : Nat → Nat → UInt64) (v1 : Int32) (v2 : Int32) : ex (103, 5, [.ref 0, .int v1, .int v2], [], mm I J D) = cal 103 10 [.ref 0, .int v1, .int v2] [] (ex (147, 0, [.ref 0, .int v2], [], mm I J D)) := (ex_itr 3 _).trans rfl
set_option maxRecDepth 100000 in
theorem e_103_10 (I : Nat → Nat → Int32) (J : Nat → Nat → Int64) (D : Nat → Nat → UInt64) (v1 : Int32) (v2 : Int32) : ex (103, 10, [.ref 0, .int v1, .int v2], [], mm I J D) = cal 103 14 [dv, .int v1, .int v2] [] (ex (144, 0, [.ref 0], [], mm I J D)) := (ex_itr 2 _).trans rfl
set_option maxRecDepth 100000 in
theorem e_103_14 (I : Nat → Nat → Int32) (J : Nat → Nat → Int64) (D : Nat → Nat → UInt64) (v1 : Int32) (v2 : Int32) : ex (103, 14, [dv, .int v1, .int v2], [.ref 265], mm I J D) = cal 103 19 [dv, dv, dv] [] (ex (15, 0, [.ref 265, .int v1, .int v2], [], mm I J D)) := (ex_itr 3 _).trans rfl
set_option maxRecDepth 100000 in
theorem e_103_19 (I : Nat → Nat → Int32) (J : Nat → Nat → Int64) (D : Nat → Nat → UInt64) (s0 : Int32) : ex (103, 19, [dv, dv, dv], [.int s0], mm I J D) = bif decide (s0 = 0 ∨ s0 = 1) then (some (.inl (some (.int s0)), mm I J D)) else none := (ex_itr 1 _).trans rfl
/-! GlacierBook.lineCount()I -/
set_option maxRecDepth 100000 in
theorem e_104_0 (I : Nat → Nat → Int32) (J : Nat → Nat → Int64) (D : Nat → Nat → UInt64)  : ex (104, 0, [.ref 0], [], mm I J D) = cal 104 4 [dv] [] (ex (144, 0, [.ref 0], [], mm I J D)) := (ex_itr 2 _).trans rfl
set_option maxRecDepth 100000 in
theorem e_104_4 (I : Nat → Nat → Int32) (J : Nat → Nat → Int64) (D : Nat → Nat → UInt64)  : ex (104, 4, [dv], [.ref 265], mm I J D) = cal 104 7 [dv] [] (ex (16, 0, [.ref 265], [], mm I J D)) := (ex_itr 1 _).trans rfl
set_option maxRecDepth 100000 in
theorem e_104_7 (I : Nat → Nat → Int32) (J : Nat → Nat → Int64) (D : Nat → Nat → UInt64) (s0 : Int32) : ex (104, 7, [dv], [.int s0], mm I J D) = some (.inl (some (.int s0)), mm I J D) := (ex_itr 1 _).trans rfl
/-! GlacierBook.lineAt(I)I -/
set_option maxRecDepth 100000 in
theorem e_105_0 (I : Nat → Nat → Int32) (J : Nat → Nat → Int64) (D : Nat → Nat → UInt64) (v1 : Int32) : ex (105, 0, [.ref 0, .int v1, dv], [], mm I J D) = cal 105 4 [dv, .int v1, dv] [] (ex (144, 0, [.ref 0], [], mm I J D)) := (ex_itr 2 _).trans rfl
set_option maxRecDepth 100000 in
theorem e_105_4 (I : Nat → Nat → Int32) (J : Nat → Nat → Int64) (D : Nat → Nat → UInt64) (v1 : Int32) : ex (105, 4, [dv, .int v1, dv], [.ref 265], mm I J D) = bif decide (v1 < 0) then ex (105, 17, [dv, dv, dv], [], mm I J D) else ex (105, 9, [dv, .int v1, .ref 265], [], mm I J D) := (ex_itr 3 _).trans rfl
set_option maxRecDepth 100000 in
theorem e_105_9 (I : Nat → Nat → Int32) (J : Nat → Nat → Int64) (D : Nat → Nat → UInt64) (v1 : Int32) : ex (105, 9, [dv, .int v1, .ref 265], [], mm I J D) = cal 105 14 [dv, .int v1, .ref 265] [.int v1] (ex (16, 0, [.ref 265], [], mm I J D)) := (ex_itr 3 _).trans rfl
set_option maxRecDepth 100000 in
theorem e_105_14 (I : Nat → Nat → Int32) (J : Nat → Nat → Int64) (D : Nat → Nat → UInt64) (v1 : Int32) (s0 : Int32) (s1 : Int32) : ex (105, 14, [dv, .int v1, .ref 265], [.int s0, .int s1], mm I J D) = bif decide (s1 < s0) then ex (105, 27, [dv, .int v1, .ref 265], [], mm I J D) else ex (105, 17, [dv, dv, dv], [], mm I J D) := (ex_itr 1 _).trans rfl
set_option maxRecDepth 100000 in
theorem e_105_17 (I : Nat → Nat → Int32) (J : Nat → Nat → Int64) (D : Nat → Nat → UInt64)  : ex (105, 17, [dv, dv, dv], [], mm I J D) = some (.inr (.inl 2), mm I J D) := (ex_itr 1 _).trans rfl
set_option maxRecDepth 100000 in
theorem e_105_27 (I : Nat → Nat → Int32) (J : Nat → Nat → Int64) (D : Nat → Nat → UInt64) (v1 : Int32) : ex (105, 27, [dv, .int v1, .ref 265], [], mm I J D) = cal 105 32 [dv, dv, dv] [] (ex (19, 0, [.ref 265, .int v1, dv, dv, dv], [], mm I J D)) := (ex_itr 3 _).trans rfl
set_option maxRecDepth 100000 in
theorem e_105_32 (I : Nat → Nat → Int32) (J : Nat → Nat → Int64) (D : Nat → Nat → UInt64) (s0 : Int32) : ex (105, 32, [dv, dv, dv], [.int s0], mm I J D) = some (.inl (some (.int s0)), mm I J D) := (ex_itr 1 _).trans rfl
/-! GlacierBook.orders()J -/
set_option maxRecDepth 100000 in
theorem e_106_0 (I : Nat → Nat → Int32) (J : Nat → Nat → Int64) (D : Nat → Nat → UInt64)  : ex (106, 0, [.ref 0], [], mm I J D) = bif decide ((I 8 1) ≤ 14) then ex (106, 25, [.ref 0], [], mm I J D) else ex (106, 15, [dv], [], mm I J D) := (ex_itr 6 _).trans rfl
set_option maxRecDepth 100000 in
theorem e_106_15 (I : Nat → Nat → Int32) (J : Nat → Nat → Int64) (D : Nat → Nat → UInt64)  : ex (106, 15, [dv], [], mm I J D) = some (.inr (.inl 0), mm I J D) := (ex_itr 1 _).trans rfl
set_option maxRecDepth 100000 in
theorem e_106_25 (I : Nat → Nat → Int32) (J : Nat → Nat → Int64) (D : Nat → Nat → UInt64)  : ex (106, 25, [.ref 0], [], mm I J D) = cal 106 29 [dv] [] (ex (144, 0, [.ref 0], [], mm I J D)) := (ex_itr 2 _).trans rfl
set_option maxRecDepth 100000 in
theorem e_106_29 (I : Nat → Nat → Int32) (J : Nat → Nat → Int64) (D : Nat → Nat → UInt64)  : ex (106, 29, [dv], [.ref 265], mm I J D) = cal 106 32 [dv] [] (ex (23, 0, [.ref 265, dv, dv, dv, dv, dv], [], mm I J D)) := (ex_itr 1 _).trans rfl
set_option maxRecDepth 100000 in
theorem e_106_32 (I : Nat → Nat → Int32) (J : Nat → Nat → Int64) (D : Nat → Nat → UInt64) (s0 : Int64) : ex (106, 32, [dv], [.long s0], mm I J D) = some (.inl (some (.long s0)), mm I J D) := (ex_itr 1 _).trans rfl
/-! GlacierBook.orderAt(I)I -/
set_option maxRecDepth 100000 in
theorem e_107_0 (I : Nat → Nat → Int32) (J : Nat → Nat → Int64) (D : Nat → Nat → UInt64) (v1 : Int32) : ex (107, 0, [.ref 0, .int v1, dv], [], mm I J D) = bif decide (v1 < 0) then ex (107, 18, [dv, dv, dv], [], mm I J D) else ex (107, 4, [.ref 0, .int v1, dv], [], mm I J D) := (ex_itr 2 _).trans rfl
set_option maxRecDepth 100000 in
theorem e_107_4 (I : Nat → Nat → Int32) (J : Nat → Nat → Int64) (D : Nat → Nat → UInt64) (v1 : Int32) : ex (107, 4, [.ref 0, .int v1, dv], [], mm I J D) = bif decide (v1 < (I 8 1)) then ex (107, 28, [.ref 0, .int v1, dv], [], mm I J D) else ex (107, 18, [dv, dv, dv], [], mm I J D) := (ex_itr 6 _).trans rfl
set_option maxRecDepth 100000 in
theorem e_107_18 (I : Nat → Nat → Int32) (J : Nat → Nat → Int64) (D : Nat → Nat → UInt64)  : ex (107, 18, [dv, dv, dv], [], mm I J D) = some (.inr (.inl 2), mm I J D) := (ex_itr 1 _).trans rfl
set_option maxRecDepth 100000 in
theorem e_107_28 (I : Nat → Nat → Int32) (J : Nat → Nat → Int64) (D : Nat → Nat → UInt64) (v1 : Int32) : ex (107, 28, [.ref 0, .int v1, dv], [], mm I J D) = cal 107 32 [dv, .int v1, dv] [] (ex (144, 0, [.ref 0], [], mm I J D)) := (ex_itr 2 _).trans rfl
set_option maxRecDepth 100000 in
theorem e_107_32 (I : Nat → Nat → Int32) (J : Nat → Nat → Int64) (D : Nat → Nat → UInt64) (v1 : Int32) : ex (107, 32, [dv, .int v1, dv], [.ref 265], mm I J D) = cal 107 37 [dv, .int v1, .ref 265] [] (ex (20, 0, [.ref 265, dv, dv, dv], [], mm I J D)) := (ex_itr 3 _).trans rfl
set_option maxRecDepth 100000 in
theorem e_107_37 (I : Nat → Nat → Int32) (J : Nat → Nat → Int64) (D : Nat → Nat → UInt64) (v1 : Int32) : ex (107, 37, [dv, .int v1, .ref 265], [], mm I J D) = bif inb v1 16 then (some (.inl (some (.int (I 270 v1.toNatClampNeg))), mm I J D)) else none := (ex_itr 5 _).trans rfl
/-! GlacierBook.phase(I)I -/
set_option maxRecDepth 100000 in
theorem e_108_0 (I : Nat → Nat → Int32) (J : Nat → Nat → Int64) (D : Nat → Nat → UInt64) (v1 : Int32) : ex (108, 0, [.ref 0, .int v1, dv], [], mm I J D) = cal 108 5 [.ref 0, .int v1, dv] [] (ex (147, 0, [.ref 0, .int v1], [], mm I J D)) := (ex_itr 3 _).trans rfl
set_option maxRecDepth 100000 in
theorem e_108_5 (I : Nat → Nat → Int32) (J : Nat → Nat → Int64) (D : Nat → Nat → UInt64) (v1 : Int32) : ex (108, 5, [.ref 0, .int v1, dv], [], mm I J D) = cal 108 9 [dv, .int v1, dv] [] (ex (144, 0, [.ref 0], [], mm I J D)) := (ex_itr 2 _).trans rfl
set_option maxRecDepth 100000 in
theorem e_108_9 (I : Nat → Nat → Int32) (J : Nat → Nat → Int64) (D : Nat → Nat → UInt64) (v1 : Int32) : ex (108, 9, [dv, .int v1, dv], [.ref 265], mm I J D) = cal 108 14 [dv, .int v1, .ref 265] [] (ex (20, 0, [.ref 265, dv, dv, dv], [], mm I J D)) := (ex_itr 3 _).trans rfl
set_option maxRecDepth 100000 in
theorem e_108_14 (I : Nat → Nat → Int32) (J : Nat → Nat → Int64) (D : Nat → Nat → UInt64) (v1 : Int32) : ex (108, 14, [dv, .int v1, .ref 265], [], mm I J D) = bif inb v1 17 then (some (.inl (some (.int (I 271 v1.toNatClampNeg))), mm I J D)) else none := (ex_itr 5 _).trans rfl
/-! GlacierBook.addBand(III)I -/
set_option maxRecDepth 100000 in
theorem e_109_0 (I : Nat → Nat → Int32) (J : Nat → Nat → Int64) (D : Nat → Nat → UInt64) (v1 : Int32) (v2 : Int32) (v3 : Int32) : ex (109, 0, [.ref 0, .int v1, .int v2, .int v3], [], mm I J D) = cal 109 5 [.ref 0, .int v1, .int v2, .int v3] [] (ex (149, 0, [.ref 0, .int v1], [], mm I J D)) := (ex_itr 3 _).trans rfl
set_option maxRecDepth 100000 in
theorem e_109_5 (I : Nat → Nat → Int32) (J : Nat → Nat → Int64) (D : Nat → Nat → UInt64) (v1 : Int32) (v2 : Int32) (v3 : Int32) : ex (109, 5, [.ref 0, .int v1, .int v2, .int v3], [], mm I J D) = cal 109 12 [.ref 0, .int v1, .int v2, .int v3] [] (ex (153, 0, [.int v2, .int 1, .int 9], [], mm I J D)) := (ex_itr 4 _).trans rfl
set_option maxRecDepth 100000 in
theorem e_109_12 (I : Nat → Nat → Int32) (J : Nat → Nat → Int64) (D : Nat → Nat → UInt64) (v1 : Int32) (v2 : Int32) (v3 : Int32) : ex (109, 12, [.ref 0, .int v1, .int v2, .int v3], [], mm I J D) = cal 109 18 [.ref 0, .int v1, .int v2, .int v3] [] (ex (153, 0, [.int v3, .int 0, .int 3], [], mm I J D)) := (ex_itr 4 _).trans rfl
set_option maxRecDepth 100000 in
theorem e_109_18 (I : Nat → Nat → Int32) (J : Nat → Nat → Int64) (D : Nat → Nat → UInt64) (v1 : Int32) (v2 : Int32) (v3 : Int32) : ex (109, 18, [.ref 0, .int v1, .int v2, .int v3], [], mm I J D) = cal 109 26 [.ref 0, .int v1, .int v2, .int v3] [] (ex (45, 0, [.ref 1, .int v1], [], mm I J D)) := (ex_itr 4 _).trans rfl
set_option maxRecDepth 100000 in
theorem e_109_26_10 (I : Nat → Nat → Int32) (J : Nat → Nat → Int64) (D : Nat → Nat → UInt64) (v1 : Int32) (v2 : Int32) (v3 : Int32) : ex (109, 26, [.ref 0, .int v1, .int v2, .int v3], [.ref 10], mm I J D) = bif decide ((I 10 4) < 16) then ex (109, 44, [.ref 0, .int v1, .int v2, .int v3], [], mm I J D) else ex (109, 34, [dv, dv, dv, dv], [], mm I J D) := (ex_itr 3 _).trans rfl
set_option maxRecDepth 100000 in
theorem e_109_26_15 (I : Nat → Nat → Int32) (J : Nat → Nat → Int64) (D : Nat → Nat → UInt64) (v1 : Int32) (v2 : Int32) (v3 : Int32) : ex (109, 26, [.ref 0, .int v1, .int v2, .int v3], [.ref 15], mm I J D) = bif decide ((I 15 4) < 16) then ex (109, 44, [.ref 0, .int v1, .int v2, .int v3], [], mm I J D) else ex (109, 34, [dv, dv, dv, dv], [], mm I J D) := (ex_itr 3 _).trans rfl
set_option maxRecDepth 100000 in
theorem e_109_34 (I : Nat → Nat → Int32) (J : Nat → Nat → Int64) (D : Nat → Nat → UInt64)  : ex (109, 34, [dv, dv, dv, dv], [], mm I J D) = some (.inr (.inl 0), mm I J D) := (ex_itr 1 _).trans rfl
set_option maxRecDepth 100000 in
theorem e_109_44 (I : Nat → Nat → Int32) (J : Nat → Nat → Int64) (D : Nat → Nat → UInt64) (v1 : Int32) (v2 : Int32) (v3 : Int32) : ex (109, 44, [.ref 0, .int v1, .int v2, .int v3], [], mm I J D) = cal 109 48 [.ref 0, .int v1, .int v2, .int v3] [] (ex (141, 0, [.ref 0, dv], [], mm I J D)) := (ex_itr 2 _).trans rfl
set_option maxRecDepth 100000 in
theorem e_109_48 (I : Nat → Nat → Int32) (J : Nat → Nat → Int64) (D : Nat → Nat → UInt64) (v1 : Int32) (v2 : Int32) (v3 : Int32) : ex (109, 48, [.ref 0, .int v1, .int v2, .int v3], [], mm I J D) = cal 109 56 [dv, dv, .int v2, .int v3] [] (ex (45, 0, [.ref 1, .int v1], [], mm I J D)) := (ex_itr 4 _).trans rfl
set_option maxRecDepth 100000 in
theorem e_109_56_10 (I : Nat → Nat → Int32) (J : Nat → Nat → Int64) (D : Nat → Nat → UInt64) (v2 : Int32) (v3 : Int32) : ex (109, 56, [dv, dv, .int v2, .int v3], [.ref 10], mm I J D) = cal 109 61 [dv, dv, dv, dv] [] (ex (55, 0, [.ref 10, .int v2, .int v3, dv], [], mm I J D)) := (ex_itr 3 _).trans rfl
set_option maxRecDepth 100000 in
theorem e_109_56_15 (I : Nat → Nat → Int32) (J : Nat → Nat → Int64) (D : Nat → Nat → UInt64) (v2 : Int32) (v3 : Int32) : ex (109, 56, [dv, dv, .int v2, .int v3], [.ref 15], mm I J D) = cal 109 61 [dv, dv, dv, dv] [] (ex (55, 0, [.ref 15, .int v2, .int v3, dv], [], mm I J D)) := (ex_itr 3 _).trans rfl
set_option maxRecDepth 100000 in
theorem e_109_61 (I : Nat → Nat → Int32) (J : Nat → Nat → Int64) (D : Nat → Nat → UInt64) (s0 : Int32) : ex (109, 61, [dv, dv, dv, dv], [.int s0], mm I J D) = some (.inl (some (.int s0)), mm I J D) := (ex_itr 1 _).trans rfl
/-! GlacierBook.setPrices(III)I -/
set_option maxRecDepth 100000 in
theorem e_110_0 (I : Nat → Nat → Int32) (J : Nat → Nat → Int64) (D : Nat → Nat → UInt64) (v1 : Int32) (v2 : Int32) (v3 : Int32) : ex (110, 0, [.ref 0, .int v1, .int v2, .int v3, dv], [], mm I J D) = cal 110 7 [.ref 0, .int v1, .int v2, .int v3, dv] [] (ex (153, 0, [.int v1, .int 0, .int 20], [], mm I J D)) := (ex_itr 4 _).trans rfl
set_option maxRecDepth 100000 in
theorem e_110_7 (I : Nat → Nat → Int32) (J : Nat → Nat → Int64) (D : Nat → Nat → UInt64) (v1 : Int32) (v2 : Int32) (v3 : Int32) : ex (110, 7, [.ref 0, .int v1, .int v2, .int v3, dv], [], mm I J D) = cal 110 14 [.ref 0, .int v1, .int v2, .int v3, dv] [] (ex (153, 0, [.int v2, .int 0, .int 20], [], mm I J D)) := (ex_itr 4 _).trans rfl
set_option maxRecDepth 100000 in
theorem e_110_14 (I : Nat → Nat → Int32) (J : Nat → Nat → Int64) (D : Nat → Nat → UInt64) (v1 : Int32) (v2 : Int32) (v3 : Int32) : ex (110, 14, [.ref 0, .int v1, .int v2, .int v3, dv], [], mm I J D) = cal 110 21 [.ref 0, .int v1, .int v2, .int v3, dv] [] (ex (153, 0, [.int v3, .int 0, .int 20], [], mm I J D)) := (ex_itr 4 _).trans rfl
set_option maxRecDepth 100000 in
theorem e_110_21 (I : Nat → Nat → Int32) (J : Nat → Nat → Int64) (D : Nat → Nat → UInt64) (v1 : Int32) (v2 : Int32) (v3 : Int32) : ex (110, 21, [.ref 0, .int v1, .int v2, .int v3, dv], [], mm I J D) = cal 110 25 [.ref 0, .int v1, .int v2, .int v3, dv] [] (ex (141, 0, [.ref 0, dv], [], mm I J D)) := (ex_itr 2 _).trans rfl
set_option maxRecDepth 100000 in
theorem e_110_25 (I : Nat → Nat → Int32) (J : Nat → Nat → Int64) (D : Nat → Nat → UInt64) (v1 : Int32) (v2 : Int32) (v3 : Int32) : ex (110, 25, [.ref 0, .int v1, .int v2, .int v3, dv], [], mm I J D) = some (.inl (some (.int (((I 1 6) + (I 1 7)) + (I 1 8)))), mm (ups (ups (ups I 1 6 v1) 1 7 v2) 1 8 v3) J D) := (ex_itr 26 _).trans rfl
/-! GlacierBook.tie(II)I -/
set_option maxRecDepth 100000 in
theorem e_111_0 (I : Nat → Nat → Int32) (J : Nat → Nat → Int64) (D : Nat → Nat → UInt64) (v1 : Int32) (v2 : Int32) : ex (111, 0, [.ref 0, .int v1, .int v2], [], mm I J D) = cal 111 6 [.ref 0, .int v1, .int v2] [] (ex (150, 0, [.ref 0, .int 0, .int v1], [], mm I J D)) := (ex_itr 4 _).trans rfl
set_option maxRecDepth 100000 in
theorem e_111_6 (I : Nat → Nat → Int32) (J : Nat → Nat → Int64) (D : Nat → Nat → UInt64) (v1 : Int32) (v2 : Int32) : ex (111, 6, [.ref 0, .int v1, .int v2], [], mm I J D) = cal 111 12 [.ref 0, .int v1, .int v2] [] (ex (150, 0, [.ref 0, .int 1, .int v2], [], mm I J D)) := (ex_itr 4 _).trans rfl
set_option maxRecDepth 100000 in
theorem e_111_12 (I : Nat → Nat → Int32) (J : Nat → Nat → Int64) (D : Nat → Nat → UInt64) (v1 : Int32) (v2 : Int32) : ex (111, 12, [.ref 0, .int v1, .int v2], [], mm I J D) = bif inb v1 16 then (bif decide ((I 13 v1.toNatClampNeg) ≠ (-1)) then ex (111, 44, [dv, dv, dv], [], mm I J D) else ex (111, 28, [.ref 0, .int v1, .int v2], [], mm I J D)) else none := (ex_itr 8 _).trans rfl
set_option maxRecDepth 100000 in
theorem e_111_28 (I : Nat → Nat → Int32) (J : Nat → Nat → Int64) (D : Nat → Nat → UInt64) (v1 : Int32) (v2 : Int32) : ex (111, 28, [.ref 0, .int v1, .int v2], [], mm I J D) = bif inb v2 16 then (bif decide ((I 18 v2.toNatClampNeg) = (-1)) then ex (111, 54, [.ref 0, .int v1, .int v2], [], mm I J D) else ex (111, 44, [dv, dv, dv], [], mm I J D)) else none := (ex_itr 8 _).trans rfl
set_option maxRecDepth 100000 in
theorem e_111_44 (I : Nat → Nat → Int32) (J : Nat → Nat → Int64) (D : Nat → Nat → UInt64)  : ex (111, 44, [dv, dv, dv], [], mm I J D) = some (.inr (.inl 0), mm I J D) := (ex_itr 1 _).trans rfl
set_option maxRecDepth 100000 in
theorem e_111_54 (I : Nat → Nat → Int32) (J : Nat → Nat → Int64) (D : Nat → Nat → UInt64) (v1 : Int32) (v2 : Int32) : ex (111, 54, [.ref 0, .int v1, .int v2], [], mm I J D) = cal 111 63 [.ref 0, .int v1, .int v2] [] (ex (46, 0, [.ref 1, .int v1, .int v2, dv, dv], [], mm I J D)) := (ex_itr 5 _).trans rfl
set_option maxRecDepth 100000 in
theorem e_111_63 (I : Nat → Nat → Int32) (J : Nat → Nat → Int64) (D : Nat → Nat → UInt64) (v1 : Int32) (v2 : Int32) (s0 : Int32) : ex (111, 63, [.ref 0, .int v1, .int v2], [.int s0], mm I J D) = bif decide (s0 = 0) then ex (111, 76, [.ref 0, .int v1, .int v2], [], mm I J D) else ex (111, 66, [dv, dv, dv], [], mm I J D) := (ex_itr 1 _).trans rfl
set_option maxRecDepth 100000 in
theorem e_111_66 (I : Nat → Nat → Int32) (J : Nat → Nat → Int64) (D : Nat → Nat → UInt64)  : ex (111, 66, [dv, dv, dv], [], mm I J D) = some (.inr (.inl 0), mm I J D) := (ex_itr 1 _).trans rfl
set_option maxRecDepth 100000 in
theorem e_111_76 (I : Nat → Nat → Int32) (J : Nat → Nat → Int64) (D : Nat → Nat → UInt64) (v1 : Int32) (v2 : Int32) : ex (111, 76, [.ref 0, .int v1, .int v2], [], mm I J D) = cal 111 80 [.ref 0, .int v1, .int v2] [] (ex (141, 0, [.ref 0, dv], [], mm I J D)) := (ex_itr 2 _).trans rfl
set_option maxRecDepth 100000 in
theorem e_111_80 (I : Nat → Nat → Int32) (J : Nat → Nat → Int64) (D : Nat → Nat → UInt64) (v1 : Int32) (v2 : Int32) : ex (111, 80, [.ref 0, .int v1, .int v2], [], mm I J D) = bif inb v1 16 then (bif inb v2 16 then (cal 111 116 [dv, dv, dv] [] (ex (56, 0, [.ref 10, dv, dv], [], mm (ups (ups I 13 v1.toNatClampNeg v2) 18 v2.toNatClampNeg v1) J D))) else none) else none := (ex_itr 18 _).trans rfl
set_option maxRecDepth 100000 in
theorem e_111_116 (I : Nat → Nat → Int32) (J : Nat → Nat → Int64) (D : Nat → Nat → UInt64) (s0 : Int32) : ex (111, 116, [dv, dv, dv], [.int s0], mm I J D) = some (.inl (some (.int s0)), mm I J D) := (ex_itr 1 _).trans rfl
/-! GlacierBook.untie(II)I -/
set_option maxRecDepth 100000 in
theorem e_112_0 (I : Nat → Nat → Int32) (J : Nat → Nat → Int64) (D : Nat → Nat → UInt64) (v1 : Int32) (v2 : Int32) : ex (112, 0, [.ref 0, .int v1, .int v2, dv], [], mm I J D) = cal 112 5 [.ref 0, .int v1, .int v2, dv] [] (ex (149, 0, [.ref 0, .int v1], [], mm I J D)) := (ex_itr 3 _).trans rfl
set_option maxRecDepth 100000 in
theorem e_112_5 (I : Nat → Nat → Int32) (J : Nat → Nat → Int64) (D : Nat → Nat → UInt64) (v1 : Int32) (v2 : Int32) : ex (112, 5, [.ref 0, .int v1, .int v2, dv], [], mm I J D) = cal 112 11 [.ref 0, .int v1, .int v2, dv] [] (ex (150, 0, [.ref 0, .int v1, .int v2], [], mm I J D)) := (ex_itr 4 _).trans rfl
set_option maxRecDepth 100000 in
theorem e_112_11 (I : Nat → Nat → Int32) (J : Nat → Nat → Int64) (D : Nat → Nat → UInt64) (v1 : Int32) (v2 : Int32) : ex (112, 11, [.ref 0, .int v1, .int v2, dv], [], mm I J D) = cal 112 19 [.ref 0, .int v1, .int v2, dv] [] (ex (45, 0, [.ref 1, .int v1], [], mm I J D)) := (ex_itr 4 _).trans rfl
set_option maxRecDepth 100000 in
theorem e_112_19_10 (I : Nat → Nat → Int32) (J : Nat → Nat → Int64) (D : Nat → Nat → UInt64) (v1 : Int32) (v2 : Int32) : ex (112, 19, [.ref 0, .int v1, .int v2, dv], [.ref 10], mm I J D) = bif inb v2 16 then (bif decide ((I 13 v2.toNatClampNeg) < 0) then ex (112, 35, [dv, dv, dv, dv], [], mm I J D) else ex (112, 29, [.ref 0, .int v1, .int v2, .int (I 13 v2.toNatClampNeg)], [], mm I J D)) else none := (ex_itr 6 _).trans rfl
set_option maxRecDepth 100000 in
theorem e_112_19_15 (I : Nat → Nat → Int32) (J : Nat → Nat → Int64) (D : Nat → Nat → UInt64) (v1 : Int32) (v2 : Int32) : ex (112, 19, [.ref 0, .int v1, .int v2, dv], [.ref 15], mm I J D) = bif inb v2 16 then (bif decide ((I 18 v2.toNatClampNeg) < 0) then ex (112, 35, [dv, dv, dv, dv], [], mm I J D) else ex (112, 29, [.ref 0, .int v1, .int v2, .int (I 18 v2.toNatClampNeg)], [], mm I J D)) else none := (ex_itr 6 _).trans rfl
set_option maxRecDepth 100000 in
theorem e_112_29 (I : Nat → Nat → Int32) (J : Nat → Nat → Int64) (D : Nat → Nat → UInt64) (v1 : Int32) (v2 : Int32) (v3 : Int32) : ex (112, 29, [.ref 0, .int v1, .int v2, .int v3], [], mm I J D) = bif decide (v3 < 16) then ex (112, 45, [.ref 0, .int v1, .int v2, .int v3], [], mm I J D) else ex (112, 35, [dv, dv, dv, dv], [], mm I J D) := (ex_itr 3 _).trans rfl
set_option maxRecDepth 100000 in
theorem e_112_35 (I : Nat → Nat → Int32) (J : Nat → Nat → Int64) (D : Nat → Nat → UInt64)  : ex (112, 35, [dv, dv, dv, dv], [], mm I J D) = some (.inr (.inl 3), mm I J D) := (ex_itr 1 _).trans rfl
set_option maxRecDepth 100000 in
theorem e_112_45 (I : Nat → Nat → Int32) (J : Nat → Nat → Int64) (D : Nat → Nat → UInt64) (v1 : Int32) (v2 : Int32) (v3 : Int32) : ex (112, 45, [.ref 0, .int v1, .int v2, .int v3], [], mm I J D) = cal 112 49 [.ref 0, .int v1, .int v2, .int v3] [] (ex (141, 0, [.ref 0, dv], [], mm I J D)) := (ex_itr 2 _).trans rfl
set_option maxRecDepth 100000 in
theorem e_112_49 (I : Nat → Nat → Int32) (J : Nat → Nat → Int64) (D : Nat → Nat → UInt64) (v1 : Int32) (v2 : Int32) (v3 : Int32) : ex (112, 49, [.ref 0, .int v1, .int v2, .int v3], [], mm I J D) = cal 112 57 [.ref 0, .int v1, .int v2, .int v3] [] (ex (45, 0, [.ref 1, .int v1], [], mm I J D)) := (ex_itr 4 _).trans rfl
set_option maxRecDepth 100000 in
theorem e_112_57_10 (I : Nat → Nat → Int32) (J : Nat → Nat → Int64) (D : Nat → Nat → UInt64) (v1 : Int32) (v2 : Int32) (v3 : Int32) : ex (112, 57, [.ref 0, .int v1, .int v2, .int v3], [.ref 10], mm I J D) = bif inb v2 16 then (cal 112 73 [dv, dv, dv, .int v3] [] (ex (45, 0, [.ref 1, .int ((1 : Int32) - v1)], [], mm (ups I 13 v2.toNatClampNeg (-1)) J D))) else none := (ex_itr 10 _).trans rfl
set_option maxRecDepth 100000 in
theorem e_112_57_15 (I : Nat → Nat → Int32) (J : Nat → Nat → Int64) (D : Nat → Nat → UInt64) (v1 : Int32) (v2 : Int32) (v3 : Int32) : ex (112, 57, [.ref 0, .int v1, .int v2, .int v3], [.ref 15], mm I J D) = bif inb v2 16 then (cal 112 73 [dv, dv, dv, .int v3] [] (ex (45, 0, [.ref 1, .int ((1 : Int32) - v1)], [], mm (ups I 18 v2.toNatClampNeg (-1)) J D))) else none := (ex_itr 10 _).trans rfl
set_option maxRecDepth 100000 in
theorem e_112_73_10 (I : Nat → Nat → Int32) (J : Nat → Nat → Int64) (D : Nat → Nat → UInt64) (v3 : Int32) : ex (112, 73, [dv, dv, dv, .int v3], [.ref 10], mm I J D) = bif inb v3 16 then (some (.inl (some (.int v3)), mm (ups I 13 v3.toNatClampNeg (-1)) J D)) else none := (ex_itr 6 _).trans rfl
set_option maxRecDepth 100000 in
theorem e_112_73_15 (I : Nat → Nat → Int32) (J : Nat → Nat → Int64) (D : Nat → Nat → UInt64) (v3 : Int32) : ex (112, 73, [dv, dv, dv, .int v3], [.ref 15], mm I J D) = bif inb v3 16 then (some (.inl (some (.int v3)), mm (ups I 18 v3.toNatClampNeg (-1)) J D)) else none := (ex_itr 6 _).trans rfl
/-! GlacierBook.bandCount(I)I -/
set_option maxRecDepth 100000 in
theorem e_113_0 (I : Nat → Nat → Int32) (J : Nat → Nat → Int64) (D : Nat → Nat → UInt64) (v1 : Int32) : ex (113, 0, [.ref 0, .int v1], [], mm I J D) = cal 113 5 [.ref 0, .int v1] [] (ex (149, 0, [.ref 0, .int v1], [], mm I J D)) := (ex_itr 3 _).trans rfl
set_option maxRecDepth 100000 in
theorem e_113_5 (I : Nat → Nat → Int32) (J : Nat → Nat → Int64) (D : Nat → Nat → UInt64) (v1 : Int32) : ex (113, 5, [.ref 0, .int v1], [], mm I J D) = cal 113 13 [dv, dv] [] (ex (45, 0, [.ref 1, .int v1], [], mm I J D)) := (ex_itr 4 _).trans rfl
set_option maxRecDepth 100000 in
theorem e_113_13_10 (I : Nat → Nat → Int32) (J : Nat → Nat → Int64) (D : Nat → Nat → UInt64)  : ex (113, 13, [dv, dv], [.ref 10], mm I J D) = some (.inl (some (.int (I 10 4))), mm I J D) := (ex_itr 2 _).trans rfl
set_option maxRecDepth 100000 in
theorem e_113_13_15 (I : Nat → Nat → Int32) (J : Nat → Nat → Int64) (D : Nat → Nat → UInt64)  : ex (113, 13, [dv, dv], [.ref 15], mm I J D) = some (.inl (some (.int (I 15 4))), mm I J D) := (ex_itr 2 _).trans rfl
/-! GlacierBook.leastPrice()I -/
set_option maxRecDepth 100000 in
theorem e_114_0 (I : Nat → Nat → Int32) (J : Nat → Nat → Int64) (D : Nat → Nat → UInt64)  : ex (114, 0, [.ref 0], [], mm I J D) = cal 114 9 [.ref 0] [] (ex (35, 0, [.ref 273, .int (-1), .int (-1), dv, dv], [], mm I J D)) := (ex_itr 5 _).trans rfl
set_option maxRecDepth 100000 in
theorem e_114_9 (I : Nat → Nat → Int32) (J : Nat → Nat → Int64) (D : Nat → Nat → UInt64)  : ex (114, 9, [.ref 0], [], mm I J D) = some (.inl (some (.int (I 275 0))), mm I J D) := (ex_itr 8 _).trans rfl
/-! GlacierBook.bestWays()J -/
set_option maxRecDepth 100000 in
theorem e_115_0 (I : Nat → Nat → Int32) (J : Nat → Nat → Int64) (D : Nat → Nat → UInt64)  : ex (115, 0, [.ref 0], [], mm I J D) = cal 115 9 [.ref 0] [] (ex (35, 0, [.ref 273, .int (-1), .int (-1), dv, dv], [], mm I J D)) := (ex_itr 5 _).trans rfl
set_option maxRecDepth 100000 in
theorem e_115_9 (I : Nat → Nat → Int32) (J : Nat → Nat → Int64) (D : Nat → Nat → UInt64)  : ex (115, 9, [.ref 0], [], mm I J D) = some (.inl (some (.long (J 293 0))), mm I J D) := (ex_itr 8 _).trans rfl
/-! GlacierBook.partner(II)I -/
set_option maxRecDepth 100000 in
theorem e_116_0 (I : Nat → Nat → Int32) (J : Nat → Nat → Int64) (D : Nat → Nat → UInt64) (v1 : Int32) (v2 : Int32) : ex (116, 0, [.ref 0, .int v1, .int v2], [], mm I J D) = cal 116 5 [.ref 0, .int v1, .int v2] [] (ex (149, 0, [.ref 0, .int v1], [], mm I J D)) := (ex_itr 3 _).trans rfl
set_option maxRecDepth 100000 in
theorem e_116_5 (I : Nat → Nat → Int32) (J : Nat → Nat → Int64) (D : Nat → Nat → UInt64) (v1 : Int32) (v2 : Int32) : ex (116, 5, [.ref 0, .int v1, .int v2], [], mm I J D) = cal 116 11 [.ref 0, .int v1, .int v2] [] (ex (150, 0, [.ref 0, .int v1, .int v2], [], mm I J D)) := (ex_itr 4 _).trans rfl
set_option maxRecDepth 100000 in
theorem e_116_11 (I : Nat → Nat → Int32) (J : Nat → Nat → Int64) (D : Nat → Nat → UInt64) (v1 : Int32) (v2 : Int32) : ex (116, 11, [.ref 0, .int v1, .int v2], [], mm I J D) = cal 116 20 [.ref 0, .int v1, .int v2] [] (ex (35, 0, [.ref 273, .int (-1), .int (-1), dv, dv], [], mm I J D)) := (ex_itr 5 _).trans rfl
set_option maxRecDepth 100000 in
theorem e_116_20 (I : Nat → Nat → Int32) (J : Nat → Nat → Int64) (D : Nat → Nat → UInt64) (v1 : Int32) (v2 : Int32) : ex (116, 20, [.ref 0, .int v1, .int v2], [], mm I J D) = cal 116 27 [.ref 0, .int v1, .int v2] [] (ex (41, 0, [.ref 273, dv, dv, dv, dv], [], mm I J D)) := (ex_itr 3 _).trans rfl
set_option maxRecDepth 100000 in
theorem e_116_27 (I : Nat → Nat → Int32) (J : Nat → Nat → Int64) (D : Nat → Nat → UInt64) (v1 : Int32) (v2 : Int32) : ex (116, 27, [.ref 0, .int v1, .int v2], [], mm I J D) = bif decide (v1 ≠ 0) then ex (116, 43, [.ref 0, dv, .int v2], [], mm I J D) else ex (116, 31, [.ref 0, dv, .int v2], [], mm I J D) := (ex_itr 2 _).trans rfl
set_option maxRecDepth 100000 in
theorem e_116_31 (I : Nat → Nat → Int32) (J : Nat → Nat → Int64) (D : Nat → Nat → UInt64) (v2 : Int32) : ex (116, 31, [.ref 0, dv, .int v2], [], mm I J D) = bif inb v2 16 then (ex (116, 52, [dv, dv, dv], [.int (I 310 v2.toNatClampNeg)], mm I J D)) else none := (ex_itr 6 _).trans rfl
set_option maxRecDepth 100000 in
theorem e_116_43 (I : Nat → Nat → Int32) (J : Nat → Nat → Int64) (D : Nat → Nat → UInt64) (v2 : Int32) : ex (116, 43, [.ref 0, dv, .int v2], [], mm I J D) = bif inb v2 16 then (ex (116, 52, [dv, dv, dv], [.int (I 311 v2.toNatClampNeg)], mm I J D)) else none := (ex_itr 5 _).trans rfl
set_option maxRecDepth 100000 in
theorem e_116_52 (I : Nat → Nat → Int32) (J : Nat → Nat → Int64) (D : Nat → Nat → UInt64) (s0 : Int32) : ex (116, 52, [dv, dv, dv], [.int s0], mm I J D) = some (.inl (some (.int s0)), mm I J D) := (ex_itr 1 _).trans rfl
/-! GlacierBook.isSure(II)Z -/
set_option maxRecDepth 100000 in
theorem e_117_0 (I : Nat → Nat → Int32) (J : Nat → Nat → Int64) (D : Nat → Nat → UInt64) (v1 : Int32) (v2 : Int32) : ex (117, 0, [.ref 0, .int v1, .int v2, dv], [], mm I J D) = cal 117 6 [.ref 0, .int v1, .int v2, dv] [] (ex (150, 0, [.ref 0, .int 0, .int v1], [], mm I J D)) := (ex_itr 4 _).trans rfl
set_option maxRecDepth 100000 in
theorem e_117_6 (I : Nat → Nat → Int32) (J : Nat → Nat → Int64) (D : Nat → Nat → UInt64) (v1 : Int32) (v2 : Int32) : ex (117, 6, [.ref 0, .int v1, .int v2, dv], [], mm I J D) = cal 117 12 [.ref 0, .int v1, .int v2, dv] [] (ex (150, 0, [.ref 0, .int 1, .int v2], [], mm I J D)) := (ex_itr 4 _).trans rfl
set_option maxRecDepth 100000 in
theorem e_117_12 (I : Nat → Nat → Int32) (J : Nat → Nat → Int64) (D : Nat → Nat → UInt64) (v1 : Int32) (v2 : Int32) : ex (117, 12, [.ref 0, .int v1, .int v2, dv], [], mm I J D) = cal 117 21 [.ref 0, .int v1, .int v2, dv] [] (ex (35, 0, [.ref 273, .int (-1), .int (-1), dv, dv], [], mm I J D)) := (ex_itr 5 _).trans rfl
set_option maxRecDepth 100000 in
theorem e_117_21 (I : Nat → Nat → Int32) (J : Nat → Nat → Int64) (D : Nat → Nat → UInt64) (v1 : Int32) (v2 : Int32) : ex (117, 21, [.ref 0, .int v1, .int v2, dv], [], mm I J D) = cal 117 42 [.ref 0, dv, dv, .int (I 275 0)] [] (ex (35, 0, [.ref 273, .int v1, .int v2, dv, dv], [], mm I J D)) := (ex_itr 13 _).trans rfl
set_option maxRecDepth 100000 in
theorem e_117_42 (I : Nat → Nat → Int32) (J : Nat → Nat → Int64) (D : Nat → Nat → UInt64) (v3 : Int32) : ex (117, 42, [.ref 0, dv, dv, .int v3], [], mm I J D) = bif decide ((I 275 0) ≤ v3) then ex (117, 61, [dv, dv, dv, dv], [], mm I J D) else ex (117, 57, [dv, dv, dv, dv], [], mm I J D) := (ex_itr 9 _).trans rfl
set_option maxRecDepth 100000 in
theorem e_117_57 (I : Nat → Nat → Int32) (J : Nat → Nat → Int64) (D : Nat → Nat → UInt64)  : ex (117, 57, [dv, dv, dv, dv], [], mm I J D) = ex (117, 62, [dv, dv, dv, dv], [.int 1], mm I J D) := (ex_itr 2 _).trans rfl
set_option maxRecDepth 100000 in
theorem e_117_61 (I : Nat → Nat → Int32) (J : Nat → Nat → Int64) (D : Nat → Nat → UInt64)  : ex (117, 61, [dv, dv, dv, dv], [], mm I J D) = ex (117, 62, [dv, dv, dv, dv], [.int 0], mm I J D) := (ex_itr 1 _).trans rfl
set_option maxRecDepth 100000 in
theorem e_117_62 (I : Nat → Nat → Int32) (J : Nat → Nat → Int64) (D : Nat → Nat → UInt64) (s0 : Int32) : ex (117, 62, [dv, dv, dv, dv], [.int s0], mm I J D) = bif decide (s0 = 0 ∨ s0 = 1) then (some (.inl (some (.int s0)), mm I J D)) else none := (ex_itr 1 _).trans rfl
/-! GlacierBook.setDate(III)I -/
set_option maxRecDepth 100000 in
theorem e_118_0 (I : Nat → Nat → Int32) (J : Nat → Nat → Int64) (D : Nat → Nat → UInt64) (v1 : Int32) (v2 : Int32) (v3 : Int32) : ex (118, 0, [.ref 0, .int v1, .int v2, .int v3], [], mm I J D) = cal 118 5 [.ref 0, .int v1, .int v2, .int v3] [] (ex (149, 0, [.ref 0, .int v1], [], mm I J D)) := (ex_itr 3 _).trans rfl
set_option maxRecDepth 100000 in
theorem e_118_5 (I : Nat → Nat → Int32) (J : Nat → Nat → Int64) (D : Nat → Nat → UInt64) (v1 : Int32) (v2 : Int32) (v3 : Int32) : ex (118, 5, [.ref 0, .int v1, .int v2, .int v3], [], mm I J D) = cal 118 11 [.ref 0, .int v1, .int v2, .int v3] [] (ex (150, 0, [.ref 0, .int v1, .int v2], [], mm I J D)) := (ex_itr 4 _).trans rfl
set_option maxRecDepth 100000 in
theorem e_118_11 (I : Nat → Nat → Int32) (J : Nat → Nat → Int64) (D : Nat → Nat → UInt64) (v1 : Int32) (v2 : Int32) (v3 : Int32) : ex (118, 11, [.ref 0, .int v1, .int v2, .int v3], [], mm I J D) = cal 118 19 [.ref 0, .int v1, .int v2, .int v3] [] (ex (153, 0, [.int v3, .int 0, .int 99999], [], mm I J D)) := (ex_itr 4 _).trans rfl
set_option maxRecDepth 100000 in
theorem e_118_19 (I : Nat → Nat → Int32) (J : Nat → Nat → Int64) (D : Nat → Nat → UInt64) (v1 : Int32) (v2 : Int32) (v3 : Int32) : ex (118, 19, [.ref 0, .int v1, .int v2, .int v3], [], mm I J D) = cal 118 27 [.ref 0, .int v1, .int v2, .int v3] [] (ex (45, 0, [.ref 1, .int v1], [], mm I J D)) := (ex_itr 4 _).trans rfl
set_option maxRecDepth 100000 in
theorem e_118_27_10 (I : Nat → Nat → Int32) (J : Nat → Nat → Int64) (D : Nat → Nat → UInt64) (v1 : Int32) (v2 : Int32) (v3 : Int32) : ex (118, 27, [.ref 0, .int v1, .int v2, .int v3], [.ref 10], mm I J D) = cal 118 32 [.ref 0, .int v1, .int v2, .int v3] [] (ex (57, 0, [.ref 10, .int v2, .int v3, dv, dv, dv], [], mm I J D)) := (ex_itr 3 _).trans rfl
set_option maxRecDepth 100000 in
theorem e_118_27_15 (I : Nat → Nat → Int32) (J : Nat → Nat → Int64) (D : Nat → Nat → UInt64) (v1 : Int32) (v2 : Int32) (v3 : Int32) : ex (118, 27, [.ref 0, .int v1, .int v2, .int v3], [.ref 15], mm I J D) = cal 118 32 [.ref 0, .int v1, .int v2, .int v3] [] (ex (57, 0, [.ref 15, .int v2, .int v3, dv, dv, dv], [], mm I J D)) := (ex_itr 3 _).trans rfl
set_option maxRecDepth 100000 in
theorem e_118_32 (I : Nat → Nat → Int32) (J : Nat → Nat → Int64) (D : Nat → Nat → UInt64) (v1 : Int32) (v2 : Int32) (v3 : Int32) (s0 : Int32) : ex (118, 32, [.ref 0, .int v1, .int v2, .int v3], [.int s0], mm I J D) = bif decide (s0 ≠ 0) then ex (118, 46, [.ref 0, .int v1, .int v2, .int v3], [], mm I J D) else ex (118, 35, [dv, dv, dv, dv], [], mm I J D) := (ex_itr 1 _).trans rfl
set_option maxRecDepth 100000 in
theorem e_118_35 (I : Nat → Nat → Int32) (J : Nat → Nat → Int64) (D : Nat → Nat → UInt64)  : ex (118, 35, [dv, dv, dv, dv], [], mm I J D) = some (.inr (.inl 0), mm I J D) := (ex_itr 1 _).trans rfl
set_option maxRecDepth 100000 in
theorem e_118_46 (I : Nat → Nat → Int32) (J : Nat → Nat → Int64) (D : Nat → Nat → UInt64) (v1 : Int32) (v2 : Int32) (v3 : Int32) : ex (118, 46, [.ref 0, .int v1, .int v2, .int v3], [], mm I J D) = cal 118 50 [.ref 0, .int v1, .int v2, .int v3] [] (ex (141, 0, [.ref 0, dv], [], mm I J D)) := (ex_itr 2 _).trans rfl
set_option maxRecDepth 100000 in
theorem e_118_50 (I : Nat → Nat → Int32) (J : Nat → Nat → Int64) (D : Nat → Nat → UInt64) (v1 : Int32) (v2 : Int32) (v3 : Int32) : ex (118, 50, [.ref 0, .int v1, .int v2, .int v3], [], mm I J D) = cal 118 58 [dv, dv, .int v2, .int v3] [] (ex (45, 0, [.ref 1, .int v1], [], mm I J D)) := (ex_itr 4 _).trans rfl
set_option maxRecDepth 100000 in
theorem e_118_58_10 (I : Nat → Nat → Int32) (J : Nat → Nat → Int64) (D : Nat → Nat → UInt64) (v2 : Int32) (v3 : Int32) : ex (118, 58, [dv, dv, .int v2, .int v3], [.ref 10], mm I J D) = cal 118 63 [dv, dv, dv, dv] [] (ex (58, 0, [.ref 10, .int v2, .int v3, dv], [], mm I J D)) := (ex_itr 3 _).trans rfl
set_option maxRecDepth 100000 in
theorem e_118_58_15 (I : Nat → Nat → Int32) (J : Nat → Nat → Int64) (D : Nat → Nat → UInt64) (v2 : Int32) (v3 : Int32) : ex (118, 58, [dv, dv, .int v2, .int v3], [.ref 15], mm I J D) = cal 118 63 [dv, dv, dv, dv] [] (ex (58, 0, [.ref 15, .int v2, .int v3, dv], [], mm I J D)) := (ex_itr 3 _).trans rfl
set_option maxRecDepth 100000 in
theorem e_118_63 (I : Nat → Nat → Int32) (J : Nat → Nat → Int64) (D : Nat → Nat → UInt64) (s0 : Int32) : ex (118, 63, [dv, dv, dv, dv], [.int s0], mm I J D) = some (.inl (some (.int s0)), mm I J D) := (ex_itr 1 _).trans rfl
/-! GlacierBook.noDate(II)I -/
set_option maxRecDepth 100000 in
theorem e_119_0 (I : Nat → Nat → Int32) (J : Nat → Nat → Int64) (D : Nat → Nat → UInt64) (v1 : Int32) (v2 : Int32) : ex (119, 0, [.ref 0, .int v1, .int v2], [], mm I J D) = cal 119 5 [.ref 0, .int v1, .int v2] [] (ex (149, 0, [.ref 0, .int v1], [], mm I J D)) := (ex_itr 3 _).trans rfl
set_option maxRecDepth 100000 in
theorem e_119_5 (I : Nat → Nat → Int32) (J : Nat → Nat → Int64) (D : Nat → Nat → UInt64) (v1 : Int32) (v2 : Int32) : ex (119, 5, [.ref 0, .int v1, .int v2], [], mm I J D) = cal 119 11 [.ref 0, .int v1, .int v2] [] (ex (150, 0, [.ref 0, .int v1, .int v2], [], mm I J D)) := (ex_itr 4 _).trans rfl
set_option maxRecDepth 100000 in
theorem e_119_11 (I : Nat → Nat → Int32) (J : Nat → Nat → Int64) (D : Nat → Nat → UInt64) (v1 : Int32) (v2 : Int32) : ex (119, 11, [.ref 0, .int v1, .int v2], [], mm I J D) = cal 119 19 [.ref 0, .int v1, .int v2] [] (ex (45, 0, [.ref 1, .int v1], [], mm I J D)) := (ex_itr 4 _).trans rfl
set_option maxRecDepth 100000 in
theorem e_119_19_10 (I : Nat → Nat → Int32) (J : Nat → Nat → Int64) (D : Nat → Nat → UInt64) (v1 : Int32) (v2 : Int32) : ex (119, 19, [.ref 0, .int v1, .int v2], [.ref 10], mm I J D) = bif inb v2 16 then (bif decide ((I 14 v2.toNatClampNeg) ≠ (-1)) then ex (119, 39, [.ref 0, .int v1, .int v2], [], mm I J D) else ex (119, 28, [dv, dv, dv], [], mm I J D)) else none := (ex_itr 5 _).trans rfl
set_option maxRecDepth 100000 in
theorem e_119_19_15 (I : Nat → Nat → Int32) (J : Nat → Nat → Int64) (D : Nat → Nat → UInt64) (v1 : Int32) (v2 : Int32) : ex (119, 19, [.ref 0, .int v1, .int v2], [.ref 15], mm I J D) = bif inb v2 16 then (bif decide ((I 19 v2.toNatClampNeg) ≠ (-1)) then ex (119, 39, [.ref 0, .int v1, .int v2], [], mm I J D) else ex (119, 28, [dv, dv, dv], [], mm I J D)) else none := (ex_itr 5 _).trans rfl
set_option maxRecDepth 100000 in
theorem e_119_28 (I : Nat → Nat → Int32) (J : Nat → Nat → Int64) (D : Nat → Nat → UInt64)  : ex (119, 28, [dv, dv, dv], [], mm I J D) = some (.inr (.inl 3), mm I J D) := (ex_itr 1 _).trans rfl
set_option maxRecDepth 100000 in
theorem e_119_39 (I : Nat → Nat → Int32) (J : Nat → Nat → Int64) (D : Nat → Nat → UInt64) (v1 : Int32) (v2 : Int32) : ex (119, 39, [.ref 0, .int v1, .int v2], [], mm I J D) = cal 119 43 [.ref 0, .int v1, .int v2] [] (ex (141, 0, [.ref 0, dv], [], mm I J D)) := (ex_itr 2 _).trans rfl
set_option maxRecDepth 100000 in
theorem e_119_43 (I : Nat → Nat → Int32) (J : Nat → Nat → Int64) (D : Nat → Nat → UInt64) (v1 : Int32) (v2 : Int32) : ex (119, 43, [.ref 0, .int v1, .int v2], [], mm I J D) = cal 119 51 [dv, dv, .int v2] [] (ex (45, 0, [.ref 1, .int v1], [], mm I J D)) := (ex_itr 4 _).trans rfl
set_option maxRecDepth 100000 in
theorem e_119_51_10 (I : Nat → Nat → Int32) (J : Nat → Nat → Int64) (D : Nat → Nat → UInt64) (v2 : Int32) : ex (119, 51, [dv, dv, .int v2], [.ref 10], mm I J D) = cal 119 56 [dv, dv, dv] [] (ex (58, 0, [.ref 10, .int v2, .int (-1), dv], [], mm I J D)) := (ex_itr 3 _).trans rfl
set_option maxRecDepth 100000 in
theorem e_119_51_15 (I : Nat → Nat → Int32) (J : Nat → Nat → Int64) (D : Nat → Nat → UInt64) (v2 : Int32) : ex (119, 51, [dv, dv, .int v2], [.ref 15], mm I J D) = cal 119 56 [dv, dv, dv] [] (ex (58, 0, [.ref 15, .int v2, .int (-1), dv], [], mm I J D)) := (ex_itr 3 _).trans rfl
set_option maxRecDepth 100000 in
theorem e_119_56 (I : Nat → Nat → Int32) (J : Nat → Nat → Int64) (D : Nat → Nat → UInt64) (s0 : Int32) : ex (119, 56, [dv, dv, dv], [.int s0], mm I J D) = some (.inl (some (.int s0)), mm I J D) := (ex_itr 1 _).trans rfl
/-! GlacierBook.ageOf(II)I -/
set_option maxRecDepth 100000 in
theorem e_120_0 (I : Nat → Nat → Int32) (J : Nat → Nat → Int64) (D : Nat → Nat → UInt64) (v1 : Int32) (v2 : Int32) : ex (120, 0, [.ref 0, .int v1, .int v2, dv], [], mm I J D) = cal 120 5 [.ref 0, .int v1, .int v2, dv] [] (ex (149, 0, [.ref 0, .int v1], [], mm I J D)) := (ex_itr 3 _).trans rfl
set_option maxRecDepth 100000 in
theorem e_120_5 (I : Nat → Nat → Int32) (J : Nat → Nat → Int64) (D : Nat → Nat → UInt64) (v1 : Int32) (v2 : Int32) : ex (120, 5, [.ref 0, .int v1, .int v2, dv], [], mm I J D) = cal 120 11 [.ref 0, .int v1, .int v2, dv] [] (ex (150, 0, [.ref 0, .int v1, .int v2], [], mm I J D)) := (ex_itr 4 _).trans rfl
set_option maxRecDepth 100000 in
theorem e_120_11 (I : Nat → Nat → Int32) (J : Nat → Nat → Int64) (D : Nat → Nat → UInt64) (v1 : Int32) (v2 : Int32) : ex (120, 11, [.ref 0, .int v1, .int v2, dv], [], mm I J D) = cal 120 19 [dv, dv, .int v2, dv] [] (ex (45, 0, [.ref 1, .int v1], [], mm I J D)) := (ex_itr 4 _).trans rfl
set_option maxRecDepth 100000 in
theorem e_120_19_10 (I : Nat → Nat → Int32) (J : Nat → Nat → Int64) (D : Nat → Nat → UInt64) (v2 : Int32) : ex (120, 19, [dv, dv, .int v2, dv], [.ref 10], mm I J D) = cal 120 23 [dv, dv, dv, dv] [] (ex (59, 0, [.ref 10, .int v2, dv, dv], [], mm I J D)) := (ex_itr 2 _).trans rfl
set_option maxRecDepth 100000 in
theorem e_120_19_15 (I : Nat → Nat → Int32) (J : Nat → Nat → Int64) (D : Nat → Nat → UInt64) (v2 : Int32) : ex (120, 19, [dv, dv, .int v2, dv], [.ref 15], mm I J D) = cal 120 23 [dv, dv, dv, dv] [] (ex (59, 0, [.ref 15, .int v2, dv, dv], [], mm I J D)) := (ex_itr 2 _).trans rfl
set_option maxRecDepth 100000 in
theorem e_120_23 (I : Nat → Nat → Int32) (J : Nat → Nat → Int64) (D : Nat → Nat → UInt64) (s0 : Int32) : ex (120, 23, [dv, dv, dv, dv], [.int s0], mm I J D) = bif decide (s0 ≠ (-1)) then ex (120, 40, [dv, dv, dv, .int s0], [], mm I J D) else ex (120, 29, [dv, dv, dv, dv], [], mm I J D) := (ex_itr 4 _).trans rfl
set_option maxRecDepth 100000 in
theorem e_120_29 (I : Nat → Nat → Int32) (J : Nat → Nat → Int64) (D : Nat → Nat → UInt64)  : ex (120, 29, [dv, dv, dv, dv], [], mm I J D) = some (.inr (.inl 3), mm I J D) := (ex_itr 1 _).trans rfl
set_option maxRecDepth 100000 in
theorem e_120_40 (I : Nat → Nat → Int32) (J : Nat → Nat → Int64) (D : Nat → Nat → UInt64) (v3 : Int32) : ex (120, 40, [dv, dv, dv, .int v3], [], mm I J D) = some (.inl (some (.int v3)), mm I J D) := (ex_itr 2 _).trans rfl
/-! GlacierBook.setZone(III)I -/
set_option maxRecDepth 100000 in
theorem e_121_0 (I : Nat → Nat → Int32) (J : Nat → Nat → Int64) (D : Nat → Nat → UInt64) (v1 : Int32) (v2 : Int32) (v3 : Int32) : ex (121, 0, [.ref 0, .int v1, .int v2, .int v3, dv], [], mm I J D) = cal 121 6 [.ref 0, .int v1, .int v2, .int v3, dv] [] (ex (152, 0, [.int v1, .int 8], [], mm I J D)) := (ex_itr 3 _).trans rfl
set_option maxRecDepth 100000 in
theorem e_121_6 (I : Nat → Nat → Int32) (J : Nat → Nat → Int64) (D : Nat → Nat → UInt64) (v1 : Int32) (v2 : Int32) (v3 : Int32) : ex (121, 6, [.ref 0, .int v1, .int v2, .int v3, dv], [], mm I J D) = cal 121 13 [.ref 0, .int v1, .int v2, .int v3, dv] [] (ex (153, 0, [.int v2, .int 1, .int 99], [], mm I J D)) := (ex_itr 4 _).trans rfl
set_option maxRecDepth 100000 in
theorem e_121_13 (I : Nat → Nat → Int32) (J : Nat → Nat → Int64) (D : Nat → Nat → UInt64) (v1 : Int32) (v2 : Int32) (v3 : Int32) : ex (121, 13, [.ref 0, .int v1, .int v2, .int v3, dv], [], mm I J D) = cal 121 19 [.ref 0, .int v1, .int v2, .int v3, dv] [] (ex (153, 0, [.int v3, .int 0, .int 3], [], mm I J D)) := (ex_itr 4 _).trans rfl
set_option maxRecDepth 100000 in
theorem e_121_19 (I : Nat → Nat → Int32) (J : Nat → Nat → Int64) (D : Nat → Nat → UInt64) (v1 : Int32) (v2 : Int32) (v3 : Int32) : ex (121, 19, [.ref 0, .int v1, .int v2, .int v3, dv], [], mm I J D) = cal 121 23 [.ref 0, .int v1, .int v2, .int v3, dv] [] (ex (141, 0, [.ref 0, dv], [], mm I J D)) := (ex_itr 2 _).trans rfl
set_option maxRecDepth 100000 in
theorem e_121_23 (I : Nat → Nat → Int32) (J : Nat → Nat → Int64) (D : Nat → Nat → UInt64) (v1 : Int32) (v2 : Int32) (v3 : Int32) : ex (121, 23, [.ref 0, .int v1, .int v2, .int v3, dv], [], mm I J D) = bif inb v1 8 then (bif inb v1 8 then (bif inb v1 8 then (some (.inl (some (.int (I 21 v1.toNatClampNeg))), mm (ups (ups I 21 v1.toNatClampNeg v2) 22 v1.toNatClampNeg v3) J D)) else none) else none) else none := (ex_itr 23 _).trans rfl
/-! GlacierBook.read(III)I -/
set_option maxRecDepth 100000 in
theorem e_122_0 (I : Nat → Nat → Int32) (J : Nat → Nat → Int64) (D : Nat → Nat → UInt64) (v1 : Int32) (v2 : Int32) (v3 : Int32) : ex (122, 0, [.ref 0, .int v1, .int v2, .int v3], [], mm I J D) = cal 122 6 [.ref 0, .int v1, .int v2, .int v3] [] (ex (152, 0, [.int v1, .int 8], [], mm I J D)) := (ex_itr 3 _).trans rfl
set_option maxRecDepth 100000 in
theorem e_122_6 (I : Nat → Nat → Int32) (J : Nat → Nat → Int64) (D : Nat → Nat → UInt64) (v1 : Int32) (v2 : Int32) (v3 : Int32) : ex (122, 6, [.ref 0, .int v1, .int v2, .int v3], [], mm I J D) = cal 122 12 [.ref 0, .int v1, .int v2, .int v3] [] (ex (152, 0, [.int v2, .int 10], [], mm I J D)) := (ex_itr 3 _).trans rfl
set_option maxRecDepth 100000 in
theorem e_122_12 (I : Nat → Nat → Int32) (J : Nat → Nat → Int64) (D : Nat → Nat → UInt64) (v1 : Int32) (v2 : Int32) (v3 : Int32) : ex (122, 12, [.ref 0, .int v1, .int v2, .int v3], [], mm I J D) = cal 122 22 [.ref 0, .int v1, .int v2, .int v3] [] (ex (153, 0, [.int v3, .int (-999), .int 999], [], mm I J D)) := (ex_itr 4 _).trans rfl
set_option maxRecDepth 100000 in
theorem e_122_22 (I : Nat → Nat → Int32) (J : Nat → Nat → Int64) (D : Nat → Nat → UInt64) (v1 : Int32) (v2 : Int32) (v3 : Int32) : ex (122, 22, [.ref 0, .int v1, .int v2, .int v3], [], mm I J D) = cal 122 26 [.ref 0, .int v1, .int v2, .int v3] [] (ex (141, 0, [.ref 0, dv], [], mm I J D)) := (ex_itr 2 _).trans rfl
set_option maxRecDepth 100000 in
theorem e_122_26 (I : Nat → Nat → Int32) (J : Nat → Nat → Int64) (D : Nat → Nat → UInt64) (v1 : Int32) (v2 : Int32) (v3 : Int32) : ex (122, 26, [.ref 0, .int v1, .int v2, .int v3], [], mm I J D) = cal 122 39 [.ref 0, dv, .int v2, dv] [] (ex (65, 0, [.ref 20, .int v1, .int v2, .int v3], [], mm I J D)) := (ex_itr 7 _).trans rfl
set_option maxRecDepth 100000 in
theorem e_122_39 (I : Nat → Nat → Int32) (J : Nat → Nat → Int64) (D : Nat → Nat → UInt64) (v2 : Int32) : ex (122, 39, [.ref 0, dv, .int v2, dv], [], mm I J D) = cal 122 50 [dv, dv, dv, dv] [] (ex (66, 0, [.ref 20, .int v2, dv, dv], [], mm I J D)) := (ex_itr 5 _).trans rfl
set_option maxRecDepth 100000 in
theorem e_122_50 (I : Nat → Nat → Int32) (J : Nat → Nat → Int64) (D : Nat → Nat → UInt64) (s0 : Int32) : ex (122, 50, [dv, dv, dv, dv], [.int s0], mm I J D) = some (.inl (some (.int s0)), mm I J D) := (ex_itr 1 _).trans rfl
/-! GlacierBook.noReading(II)I -/
set_option maxRecDepth 100000 in
theorem e_123_0 (I : Nat → Nat → Int32) (J : Nat → Nat → Int64) (D : Nat → Nat → UInt64) (v1 : Int32) (v2 : Int32) : ex (123, 0, [.ref 0, .int v1, .int v2, dv], [], mm I J D) = cal 123 6 [.ref 0, .int v1, .int v2, dv] [] (ex (152, 0, [.int v1, .int 8], [], mm I J D)) := (ex_itr 3 _).trans rfl
set_option maxRecDepth 100000 in
theorem e_123_6 (I : Nat → Nat → Int32) (J : Nat → Nat → Int64) (D : Nat → Nat → UInt64) (v1 : Int32) (v2 : Int32) : ex (123, 6, [.ref 0, .int v1, .int v2, dv], [], mm I J D) = cal 123 12 [.ref 0, .int v1, .int v2, dv] [] (ex (152, 0, [.int v2, .int 10], [], mm I J D)) := (ex_itr 3 _).trans rfl
set_option maxRecDepth 100000 in
theorem e_123_12 (I : Nat → Nat → Int32) (J : Nat → Nat → Int64) (D : Nat → Nat → UInt64) (v1 : Int32) (v2 : Int32) : ex (123, 12, [.ref 0, .int v1, .int v2, dv], [], mm I J D) = cal 123 24 [.ref 0, .int v1, .int v2, dv] [] (ex (64, 0, [.ref 20, .int v1, .int v2], [], mm I J D)) := (ex_itr 6 _).trans rfl
set_option maxRecDepth 100000 in
theorem e_123_24 (I : Nat → Nat → Int32) (J : Nat → Nat → Int64) (D : Nat → Nat → UInt64) (v1 : Int32) (v2 : Int32) (s0 : Int32) : ex (123, 24, [.ref 0, .int v1, .int v2, dv], [.int s0], mm I J D) = bif decide (s0 ≠ 1000) then ex (123, 43, [.ref 0, .int v1, .int v2, .int s0], [], mm I J D) else ex (123, 32, [dv, dv, dv, dv], [], mm I J D) := (ex_itr 4 _).trans rfl
set_option maxRecDepth 100000 in
theorem e_123_32 (I : Nat → Nat → Int32) (J : Nat → Nat → Int64) (D : Nat → Nat → UInt64)  : ex (123, 32, [dv, dv, dv, dv], [], mm I J D) = some (.inr (.inl 3), mm I J D) := (ex_itr 1 _).trans rfl
set_option maxRecDepth 100000 in
theorem e_123_43 (I : Nat → Nat → Int32) (J : Nat → Nat → Int64) (D : Nat → Nat → UInt64) (v1 : Int32) (v2 : Int32) (v3 : Int32) : ex (123, 43, [.ref 0, .int v1, .int v2, .int v3], [], mm I J D) = cal 123 47 [.ref 0, .int v1, .int v2, .int v3] [] (ex (141, 0, [.ref 0, dv], [], mm I J D)) := (ex_itr 2 _).trans rfl
set_option maxRecDepth 100000 in
theorem e_123_47 (I : Nat → Nat → Int32) (J : Nat → Nat → Int64) (D : Nat → Nat → UInt64) (v1 : Int32) (v2 : Int32) (v3 : Int32) : ex (123, 47, [.ref 0, .int v1, .int v2, .int v3], [], mm I J D) = cal 123 62 [dv, dv, dv, .int v3] [] (ex (65, 0, [.ref 20, .int v1, .int v2, .int 1000], [], mm I J D)) := (ex_itr 7 _).trans rfl
set_option maxRecDepth 100000 in
theorem e_123_62 (I : Nat → Nat → Int32) (J : Nat → Nat → Int64) (D : Nat → Nat → UInt64) (v3 : Int32) : ex (123, 62, [dv, dv, dv, .int v3], [], mm I J D) = some (.inl (some (.int v3)), mm I J D) := (ex_itr 2 _).trans rfl
/-! GlacierBook.valueOf(II)I -/
set_option maxRecDepth 100000 in
theorem e_124_0 (I : Nat → Nat → Int32) (J : Nat → Nat → Int64) (D : Nat → Nat → UInt64) (v1 : Int32) (v2 : Int32) : ex (124, 0, [.ref 0, .int v1, .int v2], [], mm I J D) = cal 124 6 [.ref 0, .int v1, .int v2] [] (ex (152, 0, [.int v1, .int 8], [], mm I J D)) := (ex_itr 3 _).trans rfl
set_option maxRecDepth 100000 in
theorem e_124_6 (I : Nat → Nat → Int32) (J : Nat → Nat → Int64) (D : Nat → Nat → UInt64) (v1 : Int32) (v2 : Int32) : ex (124, 6, [.ref 0, .int v1, .int v2], [], mm I J D) = cal 124 11 [.ref 0, .int v1, .int v2] [] (ex (151, 0, [.ref 0, .int v2], [], mm I J D)) := (ex_itr 3 _).trans rfl
set_option maxRecDepth 100000 in
theorem e_124_11 (I : Nat → Nat → Int32) (J : Nat → Nat → Int64) (D : Nat → Nat → UInt64) (v1 : Int32) (v2 : Int32) : ex (124, 11, [.ref 0, .int v1, .int v2], [], mm I J D) = cal 124 23 [dv, dv, dv] [] (ex (70, 0, [.ref 20, .int v1, .int v2, dv, dv, dv, dv, dv], [], mm I J D)) := (ex_itr 6 _).trans rfl
set_option maxRecDepth 100000 in
theorem e_124_23 (I : Nat → Nat → Int32) (J : Nat → Nat → Int64) (D : Nat → Nat → UInt64) (s0 : Int32) : ex (124, 23, [dv, dv, dv], [.int s0], mm I J D) = some (.inl (some (.int s0)), mm I J D) := (ex_itr 1 _).trans rfl
/-! GlacierBook.reason(II)I -/
set_option maxRecDepth 100000 in
theorem e_125_0 (I : Nat → Nat → Int32) (J : Nat → Nat → Int64) (D : Nat → Nat → UInt64) (v1 : Int32) (v2 : Int32) : ex (125, 0, [.ref 0, .int v1, .int v2], [], mm I J D) = cal 125 6 [.ref 0, .int v1, .int v2] [] (ex (152, 0, [.int v1, .int 8], [], mm I J D)) := (ex_itr 3 _).trans rfl
set_option maxRecDepth 100000 in
theorem e_125_6 (I : Nat → Nat → Int32) (J : Nat → Nat → Int64) (D : Nat → Nat → UInt64) (v1 : Int32) (v2 : Int32) : ex (125, 6, [.ref 0, .int v1, .int v2], [], mm I J D) = cal 125 11 [.ref 0, .int v1, .int v2] [] (ex (151, 0, [.ref 0, .int v2], [], mm I J D)) := (ex_itr 3 _).trans rfl
set_option maxRecDepth 100000 in
theorem e_125_11 (I : Nat → Nat → Int32) (J : Nat → Nat → Int64) (D : Nat → Nat → UInt64) (v1 : Int32) (v2 : Int32) : ex (125, 11, [.ref 0, .int v1, .int v2], [], mm I J D) = cal 125 23 [dv, dv, dv] [] (ex (69, 0, [.ref 20, .int v1, .int v2], [], mm I J D)) := (ex_itr 6 _).trans rfl
set_option maxRecDepth 100000 in
theorem e_125_23 (I : Nat → Nat → Int32) (J : Nat → Nat → Int64) (D : Nat → Nat → UInt64) (s0 : Int32) : ex (125, 23, [dv, dv, dv], [.int s0], mm I J D) = some (.inl (some (.int s0)), mm I J D) := (ex_itr 1 _).trans rfl
/-! GlacierBook.balance(I)I -/
set_option maxRecDepth 100000 in
theorem e_126_0 (I : Nat → Nat → Int32) (J : Nat → Nat → Int64) (D : Nat → Nat → UInt64) (v1 : Int32) : ex (126, 0, [.ref 0, .int v1], [], mm I J D) = cal 126 5 [.ref 0, .int v1] [] (ex (151, 0, [.ref 0, .int v1], [], mm I J D)) := (ex_itr 3 _).trans rfl
set_option maxRecDepth 100000 in
theorem e_126_5 (I : Nat → Nat → Int32) (J : Nat → Nat → Int64) (D : Nat → Nat → UInt64) (v1 : Int32) : ex (126, 5, [.ref 0, .int v1], [], mm I J D) = cal 126 16 [dv, dv] [] (ex (71, 0, [.ref 20, .int v1, dv, dv], [], mm I J D)) := (ex_itr 5 _).trans rfl
set_option maxRecDepth 100000 in
theorem e_126_16 (I : Nat → Nat → Int32) (J : Nat → Nat → Int64) (D : Nat → Nat → UInt64) (s0 : Int32) : ex (126, 16, [dv, dv], [.int s0], mm I J D) = some (.inl (some (.int s0)), mm I J D) := (ex_itr 1 _).trans rfl
/-! GlacierBook.partBalance(II)I -/
set_option maxRecDepth 100000 in
theorem e_127_0 (I : Nat → Nat → Int32) (J : Nat → Nat → Int64) (D : Nat → Nat → UInt64) (v1 : Int32) (v2 : Int32) : ex (127, 0, [.ref 0, .int v1, .int v2], [], mm I J D) = cal 127 5 [.ref 0, .int v1, .int v2] [] (ex (152, 0, [.int v1, .int 4], [], mm I J D)) := (ex_itr 3 _).trans rfl
set_option maxRecDepth 100000 in
theorem e_127_5 (I : Nat → Nat → Int32) (J : Nat → Nat → Int64) (D : Nat → Nat → UInt64) (v1 : Int32) (v2 : Int32) : ex (127, 5, [.ref 0, .int v1, .int v2], [], mm I J D) = cal 127 10 [.ref 0, .int v1, .int v2] [] (ex (151, 0, [.ref 0, .int v2], [], mm I J D)) := (ex_itr 3 _).trans rfl
set_option maxRecDepth 100000 in
theorem e_127_10 (I : Nat → Nat → Int32) (J : Nat → Nat → Int64) (D : Nat → Nat → UInt64) (v1 : Int32) (v2 : Int32) : ex (127, 10, [.ref 0, .int v1, .int v2], [], mm I J D) = cal 127 22 [dv, dv, dv] [] (ex (72, 0, [.ref 20, .int v1, .int v2, dv, dv], [], mm I J D)) := (ex_itr 6 _).trans rfl
set_option maxRecDepth 100000 in
theorem e_127_22 (I : Nat → Nat → Int32) (J : Nat → Nat → Int64) (D : Nat → Nat → UInt64) (s0 : Int32) : ex (127, 22, [dv, dv, dv], [.int s0], mm I J D) = some (.inl (some (.int s0)), mm I J D) := (ex_itr 1 _).trans rfl
/-! GlacierBook.lineOf(I)I -/
set_option maxRecDepth 100000 in
theorem e_128_0 (I : Nat → Nat → Int32) (J : Nat → Nat → Int64) (D : Nat → Nat → UInt64) (v1 : Int32) : ex (128, 0, [.ref 0, .int v1], [], mm I J D) = cal 128 5 [.ref 0, .int v1] [] (ex (151, 0, [.ref 0, .int v1], [], mm I J D)) := (ex_itr 3 _).trans rfl
set_option maxRecDepth 100000 in
theorem e_128_5 (I : Nat → Nat → Int32) (J : Nat → Nat → Int64) (D : Nat → Nat → UInt64) (v1 : Int32) : ex (128, 5, [.ref 0, .int v1], [], mm I J D) = cal 128 16 [dv, dv] [] (ex (73, 0, [.ref 20, .int v1, dv], [], mm I J D)) := (ex_itr 5 _).trans rfl
set_option maxRecDepth 100000 in
theorem e_128_16 (I : Nat → Nat → Int32) (J : Nat → Nat → Int64) (D : Nat → Nat → UInt64) (s0 : Int32) : ex (128, 16, [dv, dv], [.int s0], mm I J D) = some (.inl (some (.int s0)), mm I J D) := (ex_itr 1 _).trans rfl
/-! GlacierBook.setCell(III)I -/
set_option maxRecDepth 100000 in
theorem e_129_0 (I : Nat → Nat → Int32) (J : Nat → Nat → Int64) (D : Nat → Nat → UInt64) (v1 : Int32) (v2 : Int32) (v3 : Int32) : ex (129, 0, [.ref 0, .int v1, .int v2, .int v3, dv], [], mm I J D) = cal 129 6 [.ref 0, .int v1, .int v2, .int v3, dv] [] (ex (152, 0, [.int v1, .int 12], [], mm I J D)) := (ex_itr 3 _).trans rfl
set_option maxRecDepth 100000 in
theorem e_129_6 (I : Nat → Nat → Int32) (J : Nat → Nat → Int64) (D : Nat → Nat → UInt64) (v1 : Int32) (v2 : Int32) (v3 : Int32) : ex (129, 6, [.ref 0, .int v1, .int v2, .int v3, dv], [], mm I J D) = cal 129 14 [.ref 0, .int v1, .int v2, .int v3, dv] [] (ex (153, 0, [.int v2, .int 0, .int 999], [], mm I J D)) := (ex_itr 4 _).trans rfl
set_option maxRecDepth 100000 in
theorem e_129_14 (I : Nat → Nat → Int32) (J : Nat → Nat → Int64) (D : Nat → Nat → UInt64) (v1 : Int32) (v2 : Int32) (v3 : Int32) : ex (129, 14, [.ref 0, .int v1, .int v2, .int v3, dv], [], mm I J D) = cal 129 22 [.ref 0, .int v1, .int v2, .int v3, dv] [] (ex (153, 0, [.int v3, .int 0, .int 999], [], mm I J D)) := (ex_itr 4 _).trans rfl
set_option maxRecDepth 100000 in
theorem e_129_22 (I : Nat → Nat → Int32) (J : Nat → Nat → Int64) (D : Nat → Nat → UInt64) (v1 : Int32) (v2 : Int32) (v3 : Int32) : ex (129, 22, [.ref 0, .int v1, .int v2, .int v3, dv], [], mm I J D) = cal 129 26 [.ref 0, .int v1, .int v2, .int v3, dv] [] (ex (141, 0, [.ref 0, dv], [], mm I J D)) := (ex_itr 2 _).trans rfl
set_option maxRecDepth 100000 in
theorem e_129_26 (I : Nat → Nat → Int32) (J : Nat → Nat → Int64) (D : Nat → Nat → UInt64) (v1 : Int32) (v2 : Int32) (v3 : Int32) : ex (129, 26, [.ref 0, .int v1, .int v2, .int v3, dv], [], mm I J D) = bif inb v1 12 then (bif inb v1 12 then (bif inb v1 12 then (some (.inl (some (.int (I 26 v1.toNatClampNeg))), mm (ups (ups I 25 v1.toNatClampNeg v2) 26 v1.toNatClampNeg v3) J D)) else none) else none) else none := (ex_itr 23 _).trans rfl
/-! GlacierBook.flow(IIII)I -/
set_option maxRecDepth 100000 in
theorem e_130_0 (I : Nat → Nat → Int32) (J : Nat → Nat → Int64) (D : Nat → Nat → UInt64) (v1 : Int32) (v2 : Int32) (v3 : Int32) (v4 : Int32) : ex (130, 0, [.ref 0, .int v1, .int v2, .int v3, .int v4, dv], [], mm I J D) = cal 130 7 [.ref 0, .int v1, .int v2, .int v3, .int v4, dv] [] (ex (153, 0, [.int v1, .int 1, .int 50], [], mm I J D)) := (ex_itr 4 _).trans rfl
set_option maxRecDepth 100000 in
theorem e_130_7 (I : Nat → Nat → Int32) (J : Nat → Nat → Int64) (D : Nat → Nat → UInt64) (v1 : Int32) (v2 : Int32) (v3 : Int32) (v4 : Int32) : ex (130, 7, [.ref 0, .int v1, .int v2, .int v3, .int v4, dv], [], mm I J D) = cal 130 15 [.ref 0, .int v1, .int v2, .int v3, .int v4, dv] [] (ex (153, 0, [.int v2, .int 0, .int 2000], [], mm I J D)) := (ex_itr 4 _).trans rfl
set_option maxRecDepth 100000 in
theorem e_130_15 (I : Nat → Nat → Int32) (J : Nat → Nat → Int64) (D : Nat → Nat → UInt64) (v1 : Int32) (v2 : Int32) (v3 : Int32) (v4 : Int32) : ex (130, 15, [.ref 0, .int v1, .int v2, .int v3, .int v4, dv], [], mm I J D) = cal 130 22 [.ref 0, .int v1, .int v2, .int v3, .int v4, dv] [] (ex (153, 0, [.int v3, .int 0, .int 20], [], mm I J D)) := (ex_itr 4 _).trans rfl
set_option maxRecDepth 100000 in
theorem e_130_22 (I : Nat → Nat → Int32) (J : Nat → Nat → Int64) (D : Nat → Nat → UInt64) (v1 : Int32) (v2 : Int32) (v3 : Int32) (v4 : Int32) : ex (130, 22, [.ref 0, .int v1, .int v2, .int v3, .int v4, dv], [], mm I J D) = cal 130 30 [.ref 0, .int v1, .int v2, .int v3, .int v4, dv] [] (ex (153, 0, [.int v4, .int 0, .int 20], [], mm I J D)) := (ex_itr 4 _).trans rfl
set_option maxRecDepth 100000 in
theorem e_130_30 (I : Nat → Nat → Int32) (J : Nat → Nat → Int64) (D : Nat → Nat → UInt64) (v1 : Int32) (v2 : Int32) (v3 : Int32) (v4 : Int32) : ex (130, 30, [.ref 0, .int v1, .int v2, .int v3, .int v4, dv], [], mm I J D) = cal 130 34 [.ref 0, .int v1, .int v2, .int v3, .int v4, dv] [] (ex (141, 0, [.ref 0, dv], [], mm I J D)) := (ex_itr 2 _).trans rfl
set_option maxRecDepth 100000 in
theorem e_130_34 (I : Nat → Nat → Int32) (J : Nat → Nat → Int64) (D : Nat → Nat → UInt64) (v1 : Int32) (v2 : Int32) (v3 : Int32) (v4 : Int32) : ex (130, 34, [.ref 0, .int v1, .int v2, .int v3, .int v4, dv], [], mm I J D) = ex (130, 37, [.ref 0, .int v1, .int v2, .int v3, .int v4, .int 0], [], mm I J D) := (ex_itr 2 _).trans rfl
set_option maxRecDepth 100000 in
theorem e_130_37 (I : Nat → Nat → Int32) (J : Nat → Nat → Int64) (D : Nat → Nat → UInt64) (v1 : Int32) (v2 : Int32) (v3 : Int32) (v4 : Int32) (v5 : Int32) : ex (130, 37, [.ref 0, .int v1, .int v2, .int v3, .int v4, .int v5], [], mm I J D) = bif decide (v1 ≤ v5) then ex (130, 73, [.ref 0, dv, dv, dv, dv, dv], [], mm I J D) else ex (130, 43, [.ref 0, .int v1, .int v2, .int v3, .int v4, .int v5], [], mm I J D) := (ex_itr 3 _).trans rfl
set_option maxRecDepth 100000 in
theorem e_130_43 (I : Nat → Nat → Int32) (J : Nat → Nat → Int64) (D : Nat → Nat → UInt64) (v1 : Int32) (v2 : Int32) (v3 : Int32) (v4 : Int32) (v5 : Int32) : ex (130, 43, [.ref 0, .int v1, .int v2, .int v3, .int v4, .int v5], [], mm I J D) = cal 130 53 [.ref 0, .int v1, .int v2, .int v3, .int v4, .int v5] [] (ex (29, 0, [.ref 24, dv, dv], [], mm I J D)) := (ex_itr 4 _).trans rfl
set_option maxRecDepth 100000 in
theorem e_130_53 (I : Nat → Nat → Int32) (J : Nat → Nat → Int64) (D : Nat → Nat → UInt64) (v1 : Int32) (v2 : Int32) (v3 : Int32) (v4 : Int32) (v5 : Int32) : ex (130, 53, [.ref 0, .int v1, .int v2, .int v3, .int v4, .int v5], [], mm I J D) = cal 130 67 [.ref 0, .int v1, .int v2, .int v3, .int v4, .int v5] [] (ex (31, 0, [.ref 24, .int v2, .int v3, .int v4, dv, dv], [], mm I J D)) := (ex_itr 7 _).trans rfl
set_option maxRecDepth 100000 in
theorem e_130_67 (I : Nat → Nat → Int32) (J : Nat → Nat → Int64) (D : Nat → Nat → UInt64) (v1 : Int32) (v2 : Int32) (v3 : Int32) (v4 : Int32) (v5 : Int32) : ex (130, 67, [.ref 0, .int v1, .int v2, .int v3, .int v4, .int v5], [], mm I J D) = ex (130, 37, [.ref 0, .int v1, .int v2, .int v3, .int v4, .int (v5 + 1)], [], mm I J D) := (ex_itr 2 _).trans rfl
set_option maxRecDepth 100000 in
theorem e_130_73 (I : Nat → Nat → Int32) (J : Nat → Nat → Int64) (D : Nat → Nat → UInt64)  : ex (130, 73, [.ref 0, dv, dv, dv, dv, dv], [], mm I J D) = cal 130 83 [dv, dv, dv, dv, dv, dv] [] (ex (32, 0, [.ref 24, dv, dv], [], mm I J D)) := (ex_itr 4 _).trans rfl
set_option maxRecDepth 100000 in
theorem e_130_83 (I : Nat → Nat → Int32) (J : Nat → Nat → Int64) (D : Nat → Nat → UInt64) (s0 : Int32) : ex (130, 83, [dv, dv, dv, dv, dv, dv], [.int s0], mm I J D) = some (.inl (some (.int s0)), mm I J D) := (ex_itr 1 _).trans rfl
/-! GlacierBook.iceOf(I)I -/
set_option maxRecDepth 100000 in
theorem e_131_0 (I : Nat → Nat → Int32) (J : Nat → Nat → Int64) (D : Nat → Nat → UInt64) (v1 : Int32) : ex (131, 0, [.ref 0, .int v1], [], mm I J D) = cal 131 6 [.ref 0, .int v1] [] (ex (152, 0, [.int v1, .int 12], [], mm I J D)) := (ex_itr 3 _).trans rfl
set_option maxRecDepth 100000 in
theorem e_131_6 (I : Nat → Nat → Int32) (J : Nat → Nat → Int64) (D : Nat → Nat → UInt64) (v1 : Int32) : ex (131, 6, [.ref 0, .int v1], [], mm I J D) = bif inb v1 12 then (some (.inl (some (.int (I 26 v1.toNatClampNeg))), mm I J D)) else none := (ex_itr 7 _).trans rfl
/-! GlacierBook.won()I -/
set_option maxRecDepth 100000 in
theorem e_132_0 (I : Nat → Nat → Int32) (J : Nat → Nat → Int64) (D : Nat → Nat → UInt64)  : ex (132, 0, [.ref 0], [], mm I J D) = some (.inl (some (.int (I 24 3))), mm I J D) := (ex_itr 5 _).trans rfl
/-! GlacierBook.type(J)I -/
set_option maxRecDepth 100000 in
theorem e_133_0 (I : Nat → Nat → Int32) (J : Nat → Nat → Int64) (D : Nat → Nat → UInt64) (v1 : Int64) : ex (133, 0, [.ref 0, .long v1, dv, dv], [], mm I J D) = cal 133 4 [.ref 0, .long v1, dv, dv] [] (ex (80, 0, [.long v1, dv, dv, dv, dv], [], mm I J D)) := (ex_itr 2 _).trans rfl
set_option maxRecDepth 100000 in
theorem e_133_4 (I : Nat → Nat → Int32) (J : Nat → Nat → Int64) (D : Nat → Nat → UInt64) (v1 : Int64) (s0 : Int32) : ex (133, 4, [.ref 0, .long v1, dv, dv], [.int s0], mm I J D) = bif decide (s0 ≠ (-1)) then ex (133, 21, [.ref 0, .long v1, dv, .int s0], [], mm I J D) else ex (133, 10, [dv, dv, dv, dv], [], mm I J D) := (ex_itr 4 _).trans rfl
set_option maxRecDepth 100000 in
theorem e_133_10 (I : Nat → Nat → Int32) (J : Nat → Nat → Int64) (D : Nat → Nat → UInt64)  : ex (133, 10, [dv, dv, dv, dv], [], mm I J D) = some (.inr (.inl 1), mm I J D) := (ex_itr 1 _).trans rfl
set_option maxRecDepth 100000 in
theorem e_133_21 (I : Nat → Nat → Int32) (J : Nat → Nat → Int64) (D : Nat → Nat → UInt64) (v1 : Int64) (v3 : Int32) : ex (133, 21, [.ref 0, .long v1, dv, .int v3], [], mm I J D) = bif decide (((I 312 3) + v3) ≤ 80) then ex (133, 46, [.ref 0, .long v1, dv, dv], [], mm I J D) else ex (133, 35, [dv, dv, dv, dv], [], mm I J D) := (ex_itr 7 _).trans rfl
set_option maxRecDepth 100000 in
theorem e_133_35 (I : Nat → Nat → Int32) (J : Nat → Nat → Int64) (D : Nat → Nat → UInt64)  : ex (133, 35, [dv, dv, dv, dv], [], mm I J D) = some (.inr (.inl 0), mm I J D) := (ex_itr 1 _).trans rfl
set_option maxRecDepth 100000 in
theorem e_133_46 (I : Nat → Nat → Int32) (J : Nat → Nat → Int64) (D : Nat → Nat → UInt64) (v1 : Int64) : ex (133, 46, [.ref 0, .long v1, dv, dv], [], mm I J D) = cal 133 54 [.ref 0, dv, dv, dv] [] (ex (81, 0, [.ref 312, .long v1, dv, dv, dv], [], mm I J D)) := (ex_itr 4 _).trans rfl
set_option maxRecDepth 100000 in
theorem e_133_54 (I : Nat → Nat → Int32) (J : Nat → Nat → Int64) (D : Nat → Nat → UInt64)  : ex (133, 54, [.ref 0, dv, dv, dv], [], mm I J D) = some (.inl (some (.int (I 312 3))), mm I J D) := (ex_itr 4 _).trans rfl
/-! GlacierBook.fault()I -/
set_option maxRecDepth 100000 in
theorem e_134_0 (I : Nat → Nat → Int32) (J : Nat → Nat → Int64) (D : Nat → Nat → UInt64)  : ex (134, 0, [.ref 0], [], mm I J D) = cal 134 7 [.ref 0] [] (ex (82, 0, [.ref 312, dv, dv, dv], [], mm I J D)) := (ex_itr 3 _).trans rfl
set_option maxRecDepth 100000 in
theorem e_134_7 (I : Nat → Nat → Int32) (J : Nat → Nat → Int64) (D : Nat → Nat → UInt64)  : ex (134, 7, [.ref 0], [], mm I J D) = cal 134 14 [dv] [] (ex (83, 0, [.ref 312, dv, dv, dv], [], mm I J D)) := (ex_itr 3 _).trans rfl
set_option maxRecDepth 100000 in
theorem e_134_14 (I : Nat → Nat → Int32) (J : Nat → Nat → Int64) (D : Nat → Nat → UInt64) (s0 : Int32) : ex (134, 14, [dv], [.int s0], mm I J D) = some (.inl (some (.int s0)), mm I J D) := (ex_itr 1 _).trans rfl
/-! GlacierBook.doLine()I -/
set_option maxRecDepth 100000 in
theorem e_135_0 (I : Nat → Nat → Int32) (J : Nat → Nat → Int64) (D : Nat → Nat → UInt64)  : ex (135, 0, [.ref 0, dv, dv, dv, dv, dv], [], mm I J D) = cal 135 7 [.ref 0, dv, dv, dv, dv, dv] [] (ex (82, 0, [.ref 312, dv, dv, dv], [], mm I J D)) := (ex_itr 3 _).trans rfl
set_option maxRecDepth 100000 in
theorem e_135_7 (I : Nat → Nat → Int32) (J : Nat → Nat → Int64) (D : Nat → Nat → UInt64)  : ex (135, 7, [.ref 0, dv, dv, dv, dv, dv], [], mm I J D) = cal 135 14 [.ref 0, dv, dv, dv, dv, dv] [] (ex (83, 0, [.ref 312, dv, dv, dv], [], mm I J D)) := (ex_itr 3 _).trans rfl
set_option maxRecDepth 100000 in
theorem e_135_14 (I : Nat → Nat → Int32) (J : Nat → Nat → Int64) (D : Nat → Nat → UInt64) (s0 : Int32) : ex (135, 14, [.ref 0, dv, dv, dv, dv, dv], [.int s0], mm I J D) = bif decide (s0 = (-1)) then ex (135, 22, [.ref 0, dv, dv, dv, dv, dv], [], mm I J D) else ex (135, 18, [.ref 0, dv, dv, dv, dv, dv], [], mm I J D) := (ex_itr 2 _).trans rfl
set_option maxRecDepth 100000 in
theorem e_135_18 (I : Nat → Nat → Int32) (J : Nat → Nat → Int64) (D : Nat → Nat → UInt64)  : ex (135, 18, [.ref 0, dv, dv, dv, dv, dv], [], mm I J D) = ex (135, 23, [.ref 0, dv, dv, dv, dv, dv], [.int 1], mm I J D) := (ex_itr 2 _).trans rfl
set_option maxRecDepth 100000 in
theorem e_135_22 (I : Nat → Nat → Int32) (J : Nat → Nat → Int64) (D : Nat → Nat → UInt64)  : ex (135, 22, [.ref 0, dv, dv, dv, dv, dv], [], mm I J D) = ex (135, 23, [.ref 0, dv, dv, dv, dv, dv], [.int 0], mm I J D) := (ex_itr 1 _).trans rfl
set_option maxRecDepth 100000 in
theorem e_135_23 (I : Nat → Nat → Int32) (J : Nat → Nat → Int64) (D : Nat → Nat → UInt64) (s0 : Int32) : ex (135, 23, [.ref 0, dv, dv, dv, dv, dv], [.int s0], mm I J D) = cal 135 31 [.ref 0, .int s0, dv, dv, dv, dv] [] (ex (84, 0, [.ref 312, dv], [], mm I J D)) := (ex_itr 4 _).trans rfl
set_option maxRecDepth 100000 in
theorem e_135_31 (I : Nat → Nat → Int32) (J : Nat → Nat → Int64) (D : Nat → Nat → UInt64) (v1 : Int32) (s0 : Int32) : ex (135, 31, [.ref 0, .int v1, dv, dv, dv, dv], [.int s0], mm I J D) = cal 135 40 [.ref 0, .int v1, .int s0, dv, dv, dv] [] (ex (88, 0, [.ref 312, .int 1, dv, dv], [], mm I J D)) := (ex_itr 5 _).trans rfl
set_option maxRecDepth 100000 in
theorem e_135_40 (I : Nat → Nat → Int32) (J : Nat → Nat → Int64) (D : Nat → Nat → UInt64) (v1 : Int32) (v2 : Int32) (s0 : Int32) : ex (135, 40, [.ref 0, .int v1, .int v2, dv, dv, dv], [.int s0], mm I J D) = cal 135 49 [.ref 0, .int v1, .int v2, .int s0, dv, dv] [] (ex (88, 0, [.ref 312, .int 2, dv, dv], [], mm I J D)) := (ex_itr 5 _).trans rfl
set_option maxRecDepth 100000 in
theorem e_135_49 (I : Nat → Nat → Int32) (J : Nat → Nat → Int64) (D : Nat → Nat → UInt64) (v1 : Int32) (v2 : Int32) (v3 : Int32) (s0 : Int32) : ex (135, 49, [.ref 0, .int v1, .int v2, .int v3, dv, dv], [.int s0], mm I J D) = cal 135 59 [.ref 0, .int v1, .int v2, .int v3, .int s0, dv] [] (ex (88, 0, [.ref 312, .int 3, dv, dv], [], mm I J D)) := (ex_itr 5 _).trans rfl
set_option maxRecDepth 100000 in
theorem e_135_59 (I : Nat → Nat → Int32) (J : Nat → Nat → Int64) (D : Nat → Nat → UInt64) (v1 : Int32) (v2 : Int32) (v3 : Int32) (v4 : Int32) (s0 : Int32) : ex (135, 59, [.ref 0, .int v1, .int v2, .int v3, .int v4, dv], [.int s0], mm I J D) = bif decide (v1 = 0) then ex (135, 84, [.ref 0, dv, .int v2, .int v3, .int v4, .int s0], [], mm (ups I 312 3 0) J D) else ex (135, 73, [dv, dv, dv, dv, dv, dv], [], mm (ups I 312 3 0) J D) := (ex_itr 7 _).trans rfl
set_option maxRecDepth 100000 in
theorem e_135_73 (I : Nat → Nat → Int32) (J : Nat → Nat → Int64) (D : Nat → Nat → UInt64)  : ex (135, 73, [dv, dv, dv, dv, dv, dv], [], mm I J D) = some (.inr (.inl 1), mm I J D) := (ex_itr 1 _).trans rfl
set_option maxRecDepth 100000 in
theorem e_135_84 (I : Nat → Nat → Int32) (J : Nat → Nat → Int64) (D : Nat → Nat → UInt64) (v2 : Int32) (v3 : Int32) (v4 : Int32) (v5 : Int32) : ex (135, 84, [.ref 0, dv, .int v2, .int v3, .int v4, .int v5], [], mm I J D) = cal 135 94 [dv, dv, dv, dv, dv, dv] [] (ex (145, 0, [.ref 0, .int v2, .int v3, .int v4, .int v5], [], mm I J D)) := (ex_itr 6 _).trans rfl
set_option maxRecDepth 100000 in
theorem e_135_94 (I : Nat → Nat → Int32) (J : Nat → Nat → Int64) (D : Nat → Nat → UInt64) (s0 : Int32) : ex (135, 94, [dv, dv, dv, dv, dv, dv], [.int s0], mm I J D) = some (.inl (some (.int s0)), mm I J D) := (ex_itr 1 _).trans rfl
/-! GlacierBook.undo()I -/
set_option maxRecDepth 100000 in
theorem e_136_0 (I : Nat → Nat → Int32) (J : Nat → Nat → Int64) (D : Nat → Nat → UInt64)  : ex (136, 0, [.ref 0, dv], [], mm I J D) = bif decide (0 < (I 0 3)) then ex (136, 18, [.ref 0, dv], [], mm I J D) else ex (136, 7, [dv, dv], [], mm I J D) := (ex_itr 3 _).trans rfl
set_option maxRecDepth 100000 in
theorem e_136_7 (I : Nat → Nat → Int32) (J : Nat → Nat → Int64) (D : Nat → Nat → UInt64)  : ex (136, 7, [dv, dv], [], mm I J D) = some (.inr (.inl 0), mm I J D) := (ex_itr 1 _).trans rfl
set_option maxRecDepth 100000 in
theorem e_136_18 (I : Nat → Nat → Int32) (J : Nat → Nat → Int64) (D : Nat → Nat → UInt64)  : ex (136, 18, [.ref 0, dv], [], mm I J D) = bif inb ((ups (ups I 0 3 ((I 0 3) - 1)) 0 2 (((((ups I 0 3 ((I 0 3) - 1)) 0 2) + 8) - 1) - ((((ups I 0 3 ((I 0 3) - 1)) 0 2) + 8) - 1) / 8 * 8)) 0 2) 8 then (ex (136, 53, [.ref 0, dv], [orf (R0 28 ((ups (ups I 0 3 ((I 0 3) - 1)) 0 2 (((((ups I 0 3 ((I 0 3) - 1)) 0 2) + 8) - 1) - ((((ups I 0 3 ((I 0 3) - 1)) 0 2) + 8) - 1) / 8 * 8)) 0 2).toNatClampNeg)], mm (ups (ups I 0 3 ((I 0 3) - 1)) 0 2 (((((ups I 0 3 ((I 0 3) - 1)) 0 2) + 8) - 1) - ((((ups I 0 3 ((I 0 3) - 1)) 0 2) + 8) - 1) / 8 * 8)) J D)) else none := (ex_itr 21 _).trans rfl
set_option maxRecDepth 100000 in
theorem e_136_53_29 (I : Nat → Nat → Int32) (J : Nat → Nat → Int64) (D : Nat → Nat → UInt64)  : ex (136, 53, [.ref 0, dv], [.ref 29], mm I J D) = cal 136 66 [.ref 0, dv] [] (ex (47, 0, [.ref 1, .ref 29], [], mm I J D)) := (ex_itr 7 _).trans rfl
set_option maxRecDepth 100000 in
theorem e_136_53_56 (I : Nat → Nat → Int32) (J : Nat → Nat → Int64) (D : Nat → Nat → UInt64)  : ex (136, 53, [.ref 0, dv], [.ref 56], mm I J D) = cal 136 66 [.ref 0, dv] [] (ex (47, 0, [.ref 1, .ref 56], [], mm I J D)) := (ex_itr 7 _).trans rfl
set_option maxRecDepth 100000 in
theorem e_136_53_83 (I : Nat → Nat → Int32) (J : Nat → Nat → Int64) (D : Nat → Nat → UInt64)  : ex (136, 53, [.ref 0, dv], [.ref 83], mm I J D) = cal 136 66 [.ref 0, dv] [] (ex (47, 0, [.ref 1, .ref 83], [], mm I J D)) := (ex_itr 7 _).trans rfl
set_option maxRecDepth 100000 in
theorem e_136_53_110 (I : Nat → Nat → Int32) (J : Nat → Nat → Int64) (D : Nat → Nat → UInt64)  : ex (136, 53, [.ref 0, dv], [.ref 110], mm I J D) = cal 136 66 [.ref 0, dv] [] (ex (47, 0, [.ref 1, .ref 110], [], mm I J D)) := (ex_itr 7 _).trans rfl
set_option maxRecDepth 100000 in
theorem e_136_53_137 (I : Nat → Nat → Int32) (J : Nat → Nat → Int64) (D : Nat → Nat → UInt64)  : ex (136, 53, [.ref 0, dv], [.ref 137], mm I J D) = cal 136 66 [.ref 0, dv] [] (ex (47, 0, [.ref 1, .ref 137], [], mm I J D)) := (ex_itr 7 _).trans rfl
set_option maxRecDepth 100000 in
theorem e_136_53_164 (I : Nat → Nat → Int32) (J : Nat → Nat → Int64) (D : Nat → Nat → UInt64)  : ex (136, 53, [.ref 0, dv], [.ref 164], mm I J D) = cal 136 66 [.ref 0, dv] [] (ex (47, 0, [.ref 1, .ref 164], [], mm I J D)) := (ex_itr 7 _).trans rfl
set_option maxRecDepth 100000 in
theorem e_136_53_191 (I : Nat → Nat → Int32) (J : Nat → Nat → Int64) (D : Nat → Nat → UInt64)  : ex (136, 53, [.ref 0, dv], [.ref 191], mm I J D) = cal 136 66 [.ref 0, dv] [] (ex (47, 0, [.ref 1, .ref 191], [], mm I J D)) := (ex_itr 7 _).trans rfl
set_option maxRecDepth 100000 in
theorem e_136_53_218 (I : Nat → Nat → Int32) (J : Nat → Nat → Int64) (D : Nat → Nat → UInt64)  : ex (136, 53, [.ref 0, dv], [.ref 218], mm I J D) = cal 136 66 [.ref 0, dv] [] (ex (47, 0, [.ref 1, .ref 218], [], mm I J D)) := (ex_itr 7 _).trans rfl
set_option maxRecDepth 100000 in
theorem e_136_66 (I : Nat → Nat → Int32) (J : Nat → Nat → Int64) (D : Nat → Nat → UInt64)  : ex (136, 66, [.ref 0, dv], [], mm I J D) = some (.inl (some (.int (I 0 3))), mm I J D) := (ex_itr 3 _).trans rfl
/-! GlacierBook.actCount()I -/
set_option maxRecDepth 100000 in
theorem e_137_0 (I : Nat → Nat → Int32) (J : Nat → Nat → Int64) (D : Nat → Nat → UInt64)  : ex (137, 0, [.ref 0], [], mm I J D) = some (.inl (some (.int (I 0 3))), mm I J D) := (ex_itr 3 _).trans rfl
/-! GlacierBook.meanValue(I)D -/
set_option maxRecDepth 100000 in
theorem e_138_0 (I : Nat → Nat → Int32) (J : Nat → Nat → Int64) (D : Nat → Nat → UInt64) (v1 : Int32) : ex (138, 0, [.ref 0, .int v1], [], mm I J D) = cal 138 5 [.ref 0, .int v1] [] (ex (151, 0, [.ref 0, .int v1], [], mm I J D)) := (ex_itr 3 _).trans rfl
set_option maxRecDepth 100000 in
theorem e_138_5 (I : Nat → Nat → Int32) (J : Nat → Nat → Int64) (D : Nat → Nat → UInt64) (v1 : Int32) : ex (138, 5, [.ref 0, .int v1], [], mm I J D) = cal 138 16 [.ref 0, dv] [] (ex (71, 0, [.ref 20, .int v1, dv, dv], [], mm I J D)) := (ex_itr 5 _).trans rfl
set_option maxRecDepth 100000 in
theorem e_138_16 (I : Nat → Nat → Int32) (J : Nat → Nat → Int64) (D : Nat → Nat → UInt64) (s0 : Int32) : ex (138, 16, [.ref 0, dv], [.int s0], mm I J D) = cal 138 27 [dv, dv] [.double (FP.i2d s0)] (ex (74, 0, [.ref 20, dv, dv], [], mm I J D)) := (ex_itr 5 _).trans rfl
set_option maxRecDepth 100000 in
theorem e_138_27 (I : Nat → Nat → Int32) (J : Nat → Nat → Int64) (D : Nat → Nat → UInt64) (s0 : Int32) (s1 : UInt64) : ex (138, 27, [dv, dv], [.int s0, .double s1], mm I J D) = bif ok64 (FP.ddiv s1 (FP.i2d s0)) then (some (.inl (some (.double (FP.ddiv s1 (FP.i2d s0)))), mm I J D)) else none := (ex_itr 3 _).trans rfl
/-! GlacierBook.aboveShare()F -/
set_option maxRecDepth 100000 in
theorem e_139_0 (I : Nat → Nat → Int32) (J : Nat → Nat → Int64) (D : Nat → Nat → UInt64)  : ex (139, 0, [.ref 0, dv, dv], [], mm I J D) = bif decide (2 ≤ (I 8 1)) then ex (139, 18, [.ref 0, .int (I 8 1), dv], [], mm I J D) else ex (139, 16, [dv, dv, dv], [], mm I J D) := (ex_itr 8 _).trans rfl
set_option maxRecDepth 100000 in
theorem e_139_16 (I : Nat → Nat → Int32) (J : Nat → Nat → Int64) (D : Nat → Nat → UInt64)  : ex (139, 16, [dv, dv, dv], [], mm I J D) = some (.inl (some (.float FP.fconst0)), mm I J D) := (ex_itr 2 _).trans rfl
set_option maxRecDepth 100000 in
theorem e_139_18 (I : Nat → Nat → Int32) (J : Nat → Nat → Int64) (D : Nat → Nat → UInt64) (v1 : Int32) : ex (139, 18, [.ref 0, .int v1, dv], [], mm I J D) = cal 139 30 [dv, dv, .int ((v1 * (v1 - 1)) / 2)] [] (ex (144, 0, [.ref 0], [], mm I J D)) := (ex_itr 10 _).trans rfl
set_option maxRecDepth 100000 in
theorem e_139_30 (I : Nat → Nat → Int32) (J : Nat → Nat → Int64) (D : Nat → Nat → UInt64) (v2 : Int32) : ex (139, 30, [dv, dv, .int v2], [.ref 265], mm I J D) = cal 139 33 [dv, dv, .int v2] [] (ex (17, 0, [.ref 265], [], mm I J D)) := (ex_itr 1 _).trans rfl
set_option maxRecDepth 100000 in
theorem e_139_33 (I : Nat → Nat → Int32) (J : Nat → Nat → Int64) (D : Nat → Nat → UInt64) (v2 : Int32) (s0 : Int32) : ex (139, 33, [dv, dv, .int v2], [.int s0], mm I J D) = bif ok32 (FP.fdiv (FP.i2f s0) (FP.i2f v2)) then (some (.inl (some (.float (FP.fdiv (FP.i2f s0) (FP.i2f v2)))), mm I J D)) else none := (ex_itr 5 _).trans rfl
/-! GlacierBook.errors()I -/
set_option maxRecDepth 100000 in
theorem e_140_0 (I : Nat → Nat → Int32) (J : Nat → Nat → Int64) (D : Nat → Nat → UInt64)  : ex (140, 0, [.ref 0], [], mm I J D) = cal 140 10 [.ref 0] [] (ex (3, 0, [.ref 2, dv, dv, dv], [], mm I J D)) := (ex_itr 4 _).trans rfl
set_option maxRecDepth 100000 in
theorem e_140_10 (I : Nat → Nat → Int32) (J : Nat → Nat → Int64) (D : Nat → Nat → UInt64) (s0 : Int32) : ex (140, 10, [.ref 0], [.int s0], mm I J D) = cal 140 14 [.ref 0] [.int s0] (ex (144, 0, [.ref 0], [], mm I J D)) := (ex_itr 2 _).trans rfl
set_option maxRecDepth 100000 in
theorem e_140_14 (I : Nat → Nat → Int32) (J : Nat → Nat → Int64) (D : Nat → Nat → UInt64) (s1 : Int32) : ex (140, 14, [.ref 0], [.ref 265, .int s1], mm I J D) = cal 140 17 [.ref 0] [.int s1] (ex (26, 0, [.ref 265, dv, dv], [], mm I J D)) := (ex_itr 1 _).trans rfl
set_option maxRecDepth 100000 in
theorem e_140_17 (I : Nat → Nat → Int32) (J : Nat → Nat → Int64) (D : Nat → Nat → UInt64) (s0 : Int32) (s1 : Int32) : ex (140, 17, [.ref 0], [.int s0, .int s1], mm I J D) = cal 140 28 [dv] [.int (s1 + s0)] (ex (75, 0, [.ref 20, dv, dv], [], mm I J D)) := (ex_itr 5 _).trans rfl
set_option maxRecDepth 100000 in
theorem e_140_28 (I : Nat → Nat → Int32) (J : Nat → Nat → Int64) (D : Nat → Nat → UInt64) (s0 : Int32) (s1 : Int32) : ex (140, 28, [dv], [.int s0, .int s1], mm I J D) = some (.inl (some (.int (s1 + s0))), mm I J D) := (ex_itr 2 _).trans rfl
/-! GlacierBook.remember()V -/
set_option maxRecDepth 100000 in
theorem e_141_0 (I : Nat → Nat → Int32) (J : Nat → Nat → Int64) (D : Nat → Nat → UInt64)  : ex (141, 0, [.ref 0, dv], [], mm I J D) = bif inb (I 0 2) 8 then (ex (141, 9, [.ref 0, dv], [orf (R0 28 (I 0 2).toNatClampNeg)], mm I J D)) else none := (ex_itr 5 _).trans rfl
set_option maxRecDepth 100000 in
theorem e_141_9_29 (I : Nat → Nat → Int32) (J : Nat → Nat → Int64) (D : Nat → Nat → UInt64)  : ex (141, 9, [.ref 0, dv], [.ref 29], mm I J D) = cal 141 22 [.ref 0, dv] [] (ex (47, 0, [.ref 29, .ref 1], [], mm I J D)) := (ex_itr 7 _).trans rfl
set_option maxRecDepth 100000 in
theorem e_141_9_56 (I : Nat → Nat → Int32) (J : Nat → Nat → Int64) (D : Nat → Nat → UInt64)  : ex (141, 9, [.ref 0, dv], [.ref 56], mm I J D) = cal 141 22 [.ref 0, dv] [] (ex (47, 0, [.ref 56, .ref 1], [], mm I J D)) := (ex_itr 7 _).trans rfl
set_option maxRecDepth 100000 in
theorem e_141_9_83 (I : Nat → Nat → Int32) (J : Nat → Nat → Int64) (D : Nat → Nat → UInt64)  : ex (141, 9, [.ref 0, dv], [.ref 83], mm I J D) = cal 141 22 [.ref 0, dv] [] (ex (47, 0, [.ref 83, .ref 1], [], mm I J D)) := (ex_itr 7 _).trans rfl
set_option maxRecDepth 100000 in
theorem e_141_9_110 (I : Nat → Nat → Int32) (J : Nat → Nat → Int64) (D : Nat → Nat → UInt64)  : ex (141, 9, [.ref 0, dv], [.ref 110], mm I J D) = cal 141 22 [.ref 0, dv] [] (ex (47, 0, [.ref 110, .ref 1], [], mm I J D)) := (ex_itr 7 _).trans rfl
set_option maxRecDepth 100000 in
theorem e_141_9_137 (I : Nat → Nat → Int32) (J : Nat → Nat → Int64) (D : Nat → Nat → UInt64)  : ex (141, 9, [.ref 0, dv], [.ref 137], mm I J D) = cal 141 22 [.ref 0, dv] [] (ex (47, 0, [.ref 137, .ref 1], [], mm I J D)) := (ex_itr 7 _).trans rfl
set_option maxRecDepth 100000 in
theorem e_141_9_164 (I : Nat → Nat → Int32) (J : Nat → Nat → Int64) (D : Nat → Nat → UInt64)  : ex (141, 9, [.ref 0, dv], [.ref 164], mm I J D) = cal 141 22 [.ref 0, dv] [] (ex (47, 0, [.ref 164, .ref 1], [], mm I J D)) := (ex_itr 7 _).trans rfl
set_option maxRecDepth 100000 in
theorem e_141_9_191 (I : Nat → Nat → Int32) (J : Nat → Nat → Int64) (D : Nat → Nat → UInt64)  : ex (141, 9, [.ref 0, dv], [.ref 191], mm I J D) = cal 141 22 [.ref 0, dv] [] (ex (47, 0, [.ref 191, .ref 1], [], mm I J D)) := (ex_itr 7 _).trans rfl
set_option maxRecDepth 100000 in
theorem e_141_9_218 (I : Nat → Nat → Int32) (J : Nat → Nat → Int64) (D : Nat → Nat → UInt64)  : ex (141, 9, [.ref 0, dv], [.ref 218], mm I J D) = cal 141 22 [.ref 0, dv] [] (ex (47, 0, [.ref 218, .ref 1], [], mm I J D)) := (ex_itr 7 _).trans rfl
set_option maxRecDepth 100000 in
theorem e_141_22 (I : Nat → Nat → Int32) (J : Nat → Nat → Int64) (D : Nat → Nat → UInt64)  : ex (141, 22, [.ref 0, dv], [], mm I J D) = some (.inl none, mm (ups (ups I 0 2 (((I 0 2) + 1) - ((I 0 2) + 1) / 8 * 8)) 0 3 (if 8 < (((ups I 0 2 (((I 0 2) + 1) - ((I 0 2) + 1) / 8 * 8)) 0 3) + 1) then 8 else (((ups I 0 2 (((I 0 2) + 1) - ((I 0 2) + 1) / 8 * 8)) 0 3) + 1))) J D) := (ex_itr 17 _).trans rfl
/-! GlacierBook.putBound(III)I -/
set_option maxRecDepth 100000 in
theorem e_142_0 (I : Nat → Nat → Int32) (J : Nat → Nat → Int64) (D : Nat → Nat → UInt64) (v1 : Int32) (v2 : Int32) (v3 : Int32) : ex (142, 0, [.ref 0, .int v1, .int v2, .int v3, dv], [], mm I J D) = cal 142 5 [.ref 0, .int v1, .int v2, .int v3, dv] [] (ex (146, 0, [.ref 0, .int v1], [], mm I J D)) := (ex_itr 3 _).trans rfl
set_option maxRecDepth 100000 in
theorem e_142_5 (I : Nat → Nat → Int32) (J : Nat → Nat → Int64) (D : Nat → Nat → UInt64) (v1 : Int32) (v2 : Int32) (v3 : Int32) : ex (142, 5, [.ref 0, .int v1, .int v2, .int v3, dv], [], mm I J D) = cal 142 10 [.ref 0, .int v1, .int v2, .int v3, dv] [] (ex (146, 0, [.ref 0, .int v2], [], mm I J D)) := (ex_itr 3 _).trans rfl
set_option maxRecDepth 100000 in
theorem e_142_10 (I : Nat → Nat → Int32) (J : Nat → Nat → Int64) (D : Nat → Nat → UInt64) (v1 : Int32) (v2 : Int32) (v3 : Int32) : ex (142, 10, [.ref 0, .int v1, .int v2, .int v3, dv], [], mm I J D) = bif decide (v1 ≠ v2) then ex (142, 26, [.ref 0, .int v1, .int v2, .int v3, dv], [], mm I J D) else ex (142, 15, [dv, dv, dv, dv, dv], [], mm I J D) := (ex_itr 3 _).trans rfl
set_option maxRecDepth 100000 in
theorem e_142_15 (I : Nat → Nat → Int32) (J : Nat → Nat → Int64) (D : Nat → Nat → UInt64)  : ex (142, 15, [dv, dv, dv, dv, dv], [], mm I J D) = some (.inr (.inl 1), mm I J D) := (ex_itr 1 _).trans rfl
set_option maxRecDepth 100000 in
theorem e_142_26 (I : Nat → Nat → Int32) (J : Nat → Nat → Int64) (D : Nat → Nat → UInt64) (v1 : Int32) (v2 : Int32) (v3 : Int32) : ex (142, 26, [.ref 0, .int v1, .int v2, .int v3, dv], [], mm I J D) = cal 142 36 [.ref 0, .int v1, .int v2, .int v3, dv] [] (ex (153, 0, [.int v3, .int (-9999), .int 9999], [], mm I J D)) := (ex_itr 4 _).trans rfl
set_option maxRecDepth 100000 in
theorem e_142_36 (I : Nat → Nat → Int32) (J : Nat → Nat → Int64) (D : Nat → Nat → UInt64) (v1 : Int32) (v2 : Int32) (v3 : Int32) : ex (142, 36, [.ref 0, .int v1, .int v2, .int v3, dv], [], mm I J D) = bif decide ((I 2 5) < 50) then ex (142, 62, [.ref 0, .int v1, .int v2, .int v3, dv], [], mm I J D) else ex (142, 51, [dv, dv, dv, dv, dv], [], mm I J D) := (ex_itr 6 _).trans rfl
set_option maxRecDepth 100000 in
theorem e_142_51 (I : Nat → Nat → Int32) (J : Nat → Nat → Int64) (D : Nat → Nat → UInt64)  : ex (142, 51, [dv, dv, dv, dv, dv], [], mm I J D) = some (.inr (.inl 0), mm I J D) := (ex_itr 1 _).trans rfl
set_option maxRecDepth 100000 in
theorem e_142_62 (I : Nat → Nat → Int32) (J : Nat → Nat → Int64) (D : Nat → Nat → UInt64) (v1 : Int32) (v2 : Int32) (v3 : Int32) : ex (142, 62, [.ref 0, .int v1, .int v2, .int v3, dv], [], mm I J D) = cal 142 72 [.ref 0, .int v1, .int v2, .int v3, dv] [] (ex (8, 0, [.ref 245, .int v1, .int v2, .int v3, dv], [], mm I J D)) := (ex_itr 6 _).trans rfl
set_option maxRecDepth 100000 in
theorem e_142_72 (I : Nat → Nat → Int32) (J : Nat → Nat → Int64) (D : Nat → Nat → UInt64) (v1 : Int32) (v2 : Int32) (v3 : Int32) (s0 : Int32) : ex (142, 72, [.ref 0, .int v1, .int v2, .int v3, dv], [.int s0], mm I J D) = bif decide (s0 ≤ 0) then ex (142, 100, [.ref 0, .int v1, .int v2, .int v3, dv], [], mm I J D) else ex (142, 79, [.ref 0, dv, .int v2, dv, .int s0], [], mm I J D) := (ex_itr 3 _).trans rfl
set_option maxRecDepth 100000 in
theorem e_142_79 (I : Nat → Nat → Int32) (J : Nat → Nat → Int64) (D : Nat → Nat → UInt64) (v2 : Int32) (v4 : Int32) : ex (142, 79, [.ref 0, dv, .int v2, dv, .int v4], [], mm I J D) = cal 142 89 [dv, dv, dv, dv, dv] [] (ex (9, 0, [.ref 245, .int v2, .int v4, dv, dv, dv], [], mm I J D)) := (ex_itr 5 _).trans rfl
set_option maxRecDepth 100000 in
theorem e_142_89 (I : Nat → Nat → Int32) (J : Nat → Nat → Int64) (D : Nat → Nat → UInt64)  : ex (142, 89, [dv, dv, dv, dv, dv], [], mm I J D) = some (.inr (.inl 0), mm I J D) := (ex_itr 1 _).trans rfl
set_option maxRecDepth 100000 in
theorem e_142_100 (I : Nat → Nat → Int32) (J : Nat → Nat → Int64) (D : Nat → Nat → UInt64) (v1 : Int32) (v2 : Int32) (v3 : Int32) : ex (142, 100, [.ref 0, .int v1, .int v2, .int v3, dv], [], mm I J D) = cal 142 104 [.ref 0, .int v1, .int v2, .int v3, dv] [] (ex (141, 0, [.ref 0, dv], [], mm I J D)) := (ex_itr 2 _).trans rfl
set_option maxRecDepth 100000 in
theorem e_142_104 (I : Nat → Nat → Int32) (J : Nat → Nat → Int64) (D : Nat → Nat → UInt64) (v1 : Int32) (v2 : Int32) (v3 : Int32) : ex (142, 104, [.ref 0, .int v1, .int v2, .int v3, dv], [], mm I J D) = cal 142 117 [dv, dv, dv, dv, dv] [] (ex (1, 0, [.ref 2, .int v1, .int v2, .int v3, dv], [], mm I J D)) := (ex_itr 7 _).trans rfl
set_option maxRecDepth 100000 in
theorem e_142_117 (I : Nat → Nat → Int32) (J : Nat → Nat → Int64) (D : Nat → Nat → UInt64) (s0 : Int32) : ex (142, 117, [dv, dv, dv, dv, dv], [.int s0], mm I J D) = some (.inl (some (.int s0)), mm I J D) := (ex_itr 1 _).trans rfl
/-! GlacierBook.greatestDifference(II)I -/
set_option maxRecDepth 100000 in
theorem e_143_0 (I : Nat → Nat → Int32) (J : Nat → Nat → Int64) (D : Nat → Nat → UInt64) (v1 : Int32) (v2 : Int32) : ex (143, 0, [.ref 0, .int v1, .int v2, dv], [], mm I J D) = cal 143 5 [.ref 0, .int v1, .int v2, dv] [] (ex (146, 0, [.ref 0, .int v1], [], mm I J D)) := (ex_itr 3 _).trans rfl
set_option maxRecDepth 100000 in
theorem e_143_5 (I : Nat → Nat → Int32) (J : Nat → Nat → Int64) (D : Nat → Nat → UInt64) (v1 : Int32) (v2 : Int32) : ex (143, 5, [.ref 0, .int v1, .int v2, dv], [], mm I J D) = cal 143 10 [.ref 0, .int v1, .int v2, dv] [] (ex (146, 0, [.ref 0, .int v2], [], mm I J D)) := (ex_itr 3 _).trans rfl
set_option maxRecDepth 100000 in
theorem e_143_10 (I : Nat → Nat → Int32) (J : Nat → Nat → Int64) (D : Nat → Nat → UInt64) (v1 : Int32) (v2 : Int32) : ex (143, 10, [.ref 0, .int v1, .int v2, dv], [], mm I J D) = cal 143 20 [dv, dv, dv, dv] [] (ex (7, 0, [.ref 245, .int v1, .int v2, .int (-1), dv, dv], [], mm I J D)) := (ex_itr 6 _).trans rfl
set_option maxRecDepth 100000 in
theorem e_143_20 (I : Nat → Nat → Int32) (J : Nat → Nat → Int64) (D : Nat → Nat → UInt64) (s0 : Int32) : ex (143, 20, [dv, dv, dv, dv], [.int s0], mm I J D) = bif decide (s0 ≠ 1000000000) then ex (143, 39, [dv, dv, dv, .int s0], [], mm I J D) else ex (143, 28, [dv, dv, dv, dv], [], mm I J D) := (ex_itr 4 _).trans rfl
set_option maxRecDepth 100000 in
theorem e_143_28 (I : Nat → Nat → Int32) (J : Nat → Nat → Int64) (D : Nat → Nat → UInt64)  : ex (143, 28, [dv, dv, dv, dv], [], mm I J D) = some (.inr (.inl 3), mm I J D) := (ex_itr 1 _).trans rfl
set_option maxRecDepth 100000 in
theorem e_143_39 (I : Nat → Nat → Int32) (J : Nat → Nat → Int64) (D : Nat → Nat → UInt64) (v3 : Int32) : ex (143, 39, [dv, dv, dv, .int v3], [], mm I J D) = some (.inl (some (.int v3)), mm I J D) := (ex_itr 2 _).trans rfl
/-! GlacierBook.freshDrawing()LGlacierBook$Drawing; -/
set_option maxRecDepth 100000 in
theorem e_144_0 (I : Nat → Nat → Int32) (J : Nat → Nat → Int64) (D : Nat → Nat → UInt64)  : ex (144, 0, [.ref 0], [], mm I J D) = cal 144 7 [.ref 0] [] (ex (13, 0, [.ref 265, dv, dv], [], mm I J D)) := (ex_itr 3 _).trans rfl
set_option maxRecDepth 100000 in
theorem e_144_7 (I : Nat → Nat → Int32) (J : Nat → Nat → Int64) (D : Nat → Nat → UInt64)  : ex (144, 7, [.ref 0], [], mm I J D) = some (.inl (some (.ref 265)), mm I J D) := (ex_itr 3 _).trans rfl
/-! GlacierBook.doAct(IIII)I -/
set_option maxRecDepth 100000 in
theorem e_145_0 (I : Nat → Nat → Int32) (J : Nat → Nat → Int64) (D : Nat → Nat → UInt64) (v1 : Int32) (v2 : Int32) (v3 : Int32) (v4 : Int32) : ex (145, 0, [.ref 0, .int v1, .int v2, .int v3, .int v4], [], mm I J D) = ex (145, 1, [.ref 0, .int v1, .int v2, .int v3, .int v4], [.int v1], mm I J D) := (ex_itr 1 _).trans rfl
set_option maxRecDepth 100000 in
theorem e_145_36 (I : Nat → Nat → Int32) (J : Nat → Nat → Int64) (D : Nat → Nat → UInt64) (v2 : Int32) (v3 : Int32) (v4 : Int32) : ex (145, 36, [.ref 0, dv, .int v2, .int v3, .int v4], [], mm I J D) = cal 145 44 [dv, dv, dv, dv, dv] [] (ex (91, 0, [.ref 0, .int v2, .int v3, .int v4], [], mm I J D)) := (ex_itr 5 _).trans rfl
set_option maxRecDepth 100000 in
theorem e_145_44 (I : Nat → Nat → Int32) (J : Nat → Nat → Int64) (D : Nat → Nat → UInt64) (s0 : Int32) : ex (145, 44, [dv, dv, dv, dv, dv], [.int s0], mm I J D) = some (.inl (some (.int s0)), mm I J D) := (ex_itr 1 _).trans rfl
set_option maxRecDepth 100000 in
theorem e_145_45 (I : Nat → Nat → Int32) (J : Nat → Nat → Int64) (D : Nat → Nat → UInt64) (v2 : Int32) (v3 : Int32) (v4 : Int32) : ex (145, 45, [.ref 0, dv, .int v2, .int v3, .int v4], [], mm I J D) = cal 145 53 [dv, dv, dv, dv, dv] [] (ex (92, 0, [.ref 0, .int v2, .int v3, .int v4], [], mm I J D)) := (ex_itr 5 _).trans rfl
set_option maxRecDepth 100000 in
theorem e_145_53 (I : Nat → Nat → Int32) (J : Nat → Nat → Int64) (D : Nat → Nat → UInt64) (s0 : Int32) : ex (145, 53, [dv, dv, dv, dv, dv], [.int s0], mm I J D) = some (.inl (some (.int s0)), mm I J D) := (ex_itr 1 _).trans rfl
set_option maxRecDepth 100000 in
theorem e_145_54 (I : Nat → Nat → Int32) (J : Nat → Nat → Int64) (D : Nat → Nat → UInt64) (v2 : Int32) (v3 : Int32) (v4 : Int32) : ex (145, 54, [.ref 0, dv, .int v2, .int v3, .int v4], [], mm I J D) = cal 145 60 [dv, dv, dv, dv, dv] [] (ex (101, 0, [.ref 0, .int v2, .int v3], [], mm I J D)) := (ex_itr 4 _).trans rfl
set_option maxRecDepth 100000 in
theorem e_145_60 (I : Nat → Nat → Int32) (J : Nat → Nat → Int64) (D : Nat → Nat → UInt64) (s0 : Int32) : ex (145, 60, [dv, dv, dv, dv, dv], [.int s0], mm I J D) = some (.inl (some (.int s0)), mm I J D) := (ex_itr 1 _).trans rfl
set_option maxRecDepth 100000 in
theorem e_145_61 (I : Nat → Nat → Int32) (J : Nat → Nat → Int64) (D : Nat → Nat → UInt64) (v2 : Int32) (v3 : Int32) (v4 : Int32) : ex (145, 61, [.ref 0, dv, .int v2, .int v3, .int v4], [], mm I J D) = cal 145 69 [dv, dv, dv, dv, dv] [] (ex (109, 0, [.ref 0, .int v2, .int v3, .int v4], [], mm I J D)) := (ex_itr 5 _).trans rfl
set_option maxRecDepth 100000 in
theorem e_145_69 (I : Nat → Nat → Int32) (J : Nat → Nat → Int64) (D : Nat → Nat → UInt64) (s0 : Int32) : ex (145, 69, [dv, dv, dv, dv, dv], [.int s0], mm I J D) = some (.inl (some (.int s0)), mm I J D) := (ex_itr 1 _).trans rfl
set_option maxRecDepth 100000 in
theorem e_145_70 (I : Nat → Nat → Int32) (J : Nat → Nat → Int64) (D : Nat → Nat → UInt64) (v2 : Int32) (v3 : Int32) (v4 : Int32) : ex (145, 70, [.ref 0, dv, .int v2, .int v3, .int v4], [], mm I J D) = cal 145 78 [dv, dv, dv, dv, dv] [] (ex (118, 0, [.ref 0, .int v2, .int v3, .int v4], [], mm I J D)) := (ex_itr 5 _).trans rfl
set_option maxRecDepth 100000 in
theorem e_145_78 (I : Nat → Nat → Int32) (J : Nat → Nat → Int64) (D : Nat → Nat → UInt64) (s0 : Int32) : ex (145, 78, [dv, dv, dv, dv, dv], [.int s0], mm I J D) = some (.inl (some (.int s0)), mm I J D) := (ex_itr 1 _).trans rfl
set_option maxRecDepth 100000 in
theorem e_145_79 (I : Nat → Nat → Int32) (J : Nat → Nat → Int64) (D : Nat → Nat → UInt64) (v2 : Int32) (v3 : Int32) (v4 : Int32) : ex (145, 79, [.ref 0, dv, .int v2, .int v3, .int v4], [], mm I J D) = cal 145 83 [dv, dv, dv, dv, dv] [] (ex (90, 0, [.ref 0], [], mm I J D)) := (ex_itr 2 _).trans rfl
set_option maxRecDepth 100000 in
theorem e_145_83 (I : Nat → Nat → Int32) (J : Nat → Nat → Int64) (D : Nat → Nat → UInt64) (s0 : Int32) : ex (145, 83, [dv, dv, dv, dv, dv], [.int s0], mm I J D) = some (.inl (some (.int s0)), mm I J D) := (ex_itr 1 _).trans rfl
/-! GlacierBook.needPoint(I)V -/
set_option maxRecDepth 100000 in
theorem e_146_0 (I : Nat → Nat → Int32) (J : Nat → Nat → Int64) (D : Nat → Nat → UInt64) (v1 : Int32) : ex (146, 0, [.ref 0, .int v1], [], mm I J D) = bif decide (v1 < 0) then ex (146, 18, [dv, dv], [], mm I J D) else ex (146, 4, [.ref 0, .int v1], [], mm I J D) := (ex_itr 2 _).trans rfl
set_option maxRecDepth 100000 in
theorem e_146_4 (I : Nat → Nat → Int32) (J : Nat → Nat → Int64) (D : Nat → Nat → UInt64) (v1 : Int32) : ex (146, 4, [.ref 0, .int v1], [], mm I J D) = bif decide (v1 ≤ (I 8 1)) then ex (146, 29, [dv, dv], [], mm I J D) else ex (146, 18, [dv, dv], [], mm I J D) := (ex_itr 6 _).trans rfl
set_option maxRecDepth 100000 in
theorem e_146_18 (I : Nat → Nat → Int32) (J : Nat → Nat → Int64) (D : Nat → Nat → UInt64)  : ex (146, 18, [dv, dv], [], mm I J D) = some (.inr (.inl 2), mm I J D) := (ex_itr 1 _).trans rfl
set_option maxRecDepth 100000 in
theorem e_146_29 (I : Nat → Nat → Int32) (J : Nat → Nat → Int64) (D : Nat → Nat → UInt64)  : ex (146, 29, [dv, dv], [], mm I J D) = some (.inl none, mm I J D) := (ex_itr 1 _).trans rfl
/-! GlacierBook.needLayer(I)V -/
set_option maxRecDepth 100000 in
theorem e_147_0 (I : Nat → Nat → Int32) (J : Nat → Nat → Int64) (D : Nat → Nat → UInt64) (v1 : Int32) : ex (147, 0, [.ref 0, .int v1], [], mm I J D) = bif decide (v1 < 1) then ex (147, 19, [dv, dv], [], mm I J D) else ex (147, 5, [.ref 0, .int v1], [], mm I J D) := (ex_itr 3 _).trans rfl
set_option maxRecDepth 100000 in
theorem e_147_5 (I : Nat → Nat → Int32) (J : Nat → Nat → Int64) (D : Nat → Nat → UInt64) (v1 : Int32) : ex (147, 5, [.ref 0, .int v1], [], mm I J D) = bif decide (v1 ≤ (I 8 1)) then ex (147, 30, [dv, dv], [], mm I J D) else ex (147, 19, [dv, dv], [], mm I J D) := (ex_itr 6 _).trans rfl
set_option maxRecDepth 100000 in
theorem e_147_19 (I : Nat → Nat → Int32) (J : Nat → Nat → Int64) (D : Nat → Nat → UInt64)  : ex (147, 19, [dv, dv], [], mm I J D) = some (.inr (.inl 2), mm I J D) := (ex_itr 1 _).trans rfl
set_option maxRecDepth 100000 in
theorem e_147_30 (I : Nat → Nat → Int32) (J : Nat → Nat → Int64) (D : Nat → Nat → UInt64)  : ex (147, 30, [dv, dv], [], mm I J D) = some (.inl none, mm I J D) := (ex_itr 1 _).trans rfl
/-! GlacierBook.needBound(I)V -/
set_option maxRecDepth 100000 in
theorem e_148_0 (I : Nat → Nat → Int32) (J : Nat → Nat → Int64) (D : Nat → Nat → UInt64) (v1 : Int32) : ex (148, 0, [.ref 0, .int v1], [], mm I J D) = bif decide (v1 < 0) then ex (148, 18, [dv, dv], [], mm I J D) else ex (148, 4, [.ref 0, .int v1], [], mm I J D) := (ex_itr 2 _).trans rfl
set_option maxRecDepth 100000 in
theorem e_148_4 (I : Nat → Nat → Int32) (J : Nat → Nat → Int64) (D : Nat → Nat → UInt64) (v1 : Int32) : ex (148, 4, [.ref 0, .int v1], [], mm I J D) = bif decide (v1 < (I 2 5)) then ex (148, 29, [.ref 0, .int v1], [], mm I J D) else ex (148, 18, [dv, dv], [], mm I J D) := (ex_itr 6 _).trans rfl
set_option maxRecDepth 100000 in
theorem e_148_18 (I : Nat → Nat → Int32) (J : Nat → Nat → Int64) (D : Nat → Nat → UInt64)  : ex (148, 18, [dv, dv], [], mm I J D) = some (.inr (.inl 2), mm I J D) := (ex_itr 1 _).trans rfl
set_option maxRecDepth 100000 in
theorem e_148_29 (I : Nat → Nat → Int32) (J : Nat → Nat → Int64) (D : Nat → Nat → UInt64) (v1 : Int32) : ex (148, 29, [.ref 0, .int v1], [], mm I J D) = bif inb v1 50 then (bif decide ((I 6 v1.toNatClampNeg) ≠ 0) then ex (148, 55, [dv, dv], [], mm I J D) else ex (148, 44, [dv, dv], [], mm I J D)) else none := (ex_itr 7 _).trans rfl
set_option maxRecDepth 100000 in
theorem e_148_44 (I : Nat → Nat → Int32) (J : Nat → Nat → Int64) (D : Nat → Nat → UInt64)  : ex (148, 44, [dv, dv], [], mm I J D) = some (.inr (.inl 0), mm I J D) := (ex_itr 1 _).trans rfl
set_option maxRecDepth 100000 in
theorem e_148_55 (I : Nat → Nat → Int32) (J : Nat → Nat → Int64) (D : Nat → Nat → UInt64)  : ex (148, 55, [dv, dv], [], mm I J D) = some (.inl none, mm I J D) := (ex_itr 1 _).trans rfl
/-! GlacierBook.needRow(I)V -/
set_option maxRecDepth 100000 in
theorem e_149_0 (I : Nat → Nat → Int32) (J : Nat → Nat → Int64) (D : Nat → Nat → UInt64) (v1 : Int32) : ex (149, 0, [.ref 0, .int v1], [], mm I J D) = cal 149 5 [dv, dv] [] (ex (152, 0, [.int v1, .int 2], [], mm I J D)) := (ex_itr 3 _).trans rfl
set_option maxRecDepth 100000 in
theorem e_149_5 (I : Nat → Nat → Int32) (J : Nat → Nat → Int64) (D : Nat → Nat → UInt64)  : ex (149, 5, [dv, dv], [], mm I J D) = some (.inl none, mm I J D) := (ex_itr 1 _).trans rfl
/-! GlacierBook.needBand(II)V -/
set_option maxRecDepth 100000 in
theorem e_150_0 (I : Nat → Nat → Int32) (J : Nat → Nat → Int64) (D : Nat → Nat → UInt64) (v1 : Int32) (v2 : Int32) : ex (150, 0, [.ref 0, .int v1, .int v2], [], mm I J D) = cal 150 9 [dv, dv, dv] [.int v2] (ex (45, 0, [.ref 1, .int v1], [], mm I J D)) := (ex_itr 5 _).trans rfl
set_option maxRecDepth 100000 in
theorem e_150_9_10 (I : Nat → Nat → Int32) (J : Nat → Nat → Int64) (D : Nat → Nat → UInt64) (s1 : Int32) : ex (150, 9, [dv, dv, dv], [.ref 10, .int s1], mm I J D) = cal 150 15 [dv, dv, dv] [] (ex (152, 0, [.int s1, .int (I 10 4)], [], mm I J D)) := (ex_itr 2 _).trans rfl
set_option maxRecDepth 100000 in
theorem e_150_9_15 (I : Nat → Nat → Int32) (J : Nat → Nat → Int64) (D : Nat → Nat → UInt64) (s1 : Int32) : ex (150, 9, [dv, dv, dv], [.ref 15, .int s1], mm I J D) = cal 150 15 [dv, dv, dv] [] (ex (152, 0, [.int s1, .int (I 15 4)], [], mm I J D)) := (ex_itr 2 _).trans rfl
set_option maxRecDepth 100000 in
theorem e_150_15 (I : Nat → Nat → Int32) (J : Nat → Nat → Int64) (D : Nat → Nat → UInt64)  : ex (150, 15, [dv, dv, dv], [], mm I J D) = some (.inl none, mm I J D) := (ex_itr 1 _).trans rfl
/-! GlacierBook.needReadYear(I)V -/
set_option maxRecDepth 100000 in
theorem e_151_0 (I : Nat → Nat → Int32) (J : Nat → Nat → Int64) (D : Nat → Nat → UInt64) (v1 : Int32) : ex (151, 0, [.ref 0, .int v1], [], mm I J D) = cal 151 6 [.ref 0, .int v1] [] (ex (152, 0, [.int v1, .int 10], [], mm I J D)) := (ex_itr 3 _).trans rfl
set_option maxRecDepth 100000 in
theorem e_151_6 (I : Nat → Nat → Int32) (J : Nat → Nat → Int64) (D : Nat → Nat → UInt64) (v1 : Int32) : ex (151, 6, [.ref 0, .int v1], [], mm I J D) = cal 151 17 [dv, dv] [] (ex (66, 0, [.ref 20, .int v1, dv, dv], [], mm I J D)) := (ex_itr 5 _).trans rfl
set_option maxRecDepth 100000 in
theorem e_151_17 (I : Nat → Nat → Int32) (J : Nat → Nat → Int64) (D : Nat → Nat → UInt64) (s0 : Int32) : ex (151, 17, [dv, dv], [.int s0], mm I J D) = bif decide (s0 ≠ 0) then ex (151, 31, [dv, dv], [], mm I J D) else ex (151, 20, [dv, dv], [], mm I J D) := (ex_itr 1 _).trans rfl
set_option maxRecDepth 100000 in
theorem e_151_20 (I : Nat → Nat → Int32) (J : Nat → Nat → Int64) (D : Nat → Nat → UInt64)  : ex (151, 20, [dv, dv], [], mm I J D) = some (.inr (.inl 3), mm I J D) := (ex_itr 1 _).trans rfl
set_option maxRecDepth 100000 in
theorem e_151_31 (I : Nat → Nat → Int32) (J : Nat → Nat → Int64) (D : Nat → Nat → UInt64)  : ex (151, 31, [dv, dv], [], mm I J D) = some (.inl none, mm I J D) := (ex_itr 1 _).trans rfl
/-! GlacierBook.needIndex(II)V -/
set_option maxRecDepth 100000 in
theorem e_152_0 (I : Nat → Nat → Int32) (J : Nat → Nat → Int64) (D : Nat → Nat → UInt64) (v0 : Int32) (v1 : Int32) : ex (152, 0, [.int v0, .int v1], [], mm I J D) = bif decide (v0 < 0) then ex (152, 9, [dv, dv], [], mm I J D) else ex (152, 4, [.int v0, .int v1], [], mm I J D) := (ex_itr 2 _).trans rfl
set_option maxRecDepth 100000 in
theorem e_152_4 (I : Nat → Nat → Int32) (J : Nat → Nat → Int64) (D : Nat → Nat → UInt64) (v0 : Int32) (v1 : Int32) : ex (152, 4, [.int v0, .int v1], [], mm I J D) = bif decide (v0 < v1) then ex (152, 20, [dv, dv], [], mm I J D) else ex (152, 9, [dv, dv], [], mm I J D) := (ex_itr 3 _).trans rfl
set_option maxRecDepth 100000 in
theorem e_152_9 (I : Nat → Nat → Int32) (J : Nat → Nat → Int64) (D : Nat → Nat → UInt64)  : ex (152, 9, [dv, dv], [], mm I J D) = some (.inr (.inl 2), mm I J D) := (ex_itr 1 _).trans rfl
set_option maxRecDepth 100000 in
theorem e_152_20 (I : Nat → Nat → Int32) (J : Nat → Nat → Int64) (D : Nat → Nat → UInt64)  : ex (152, 20, [dv, dv], [], mm I J D) = some (.inl none, mm I J D) := (ex_itr 1 _).trans rfl
/-! GlacierBook.needRange(III)V -/
set_option maxRecDepth 100000 in
theorem e_153_0 (I : Nat → Nat → Int32) (J : Nat → Nat → Int64) (D : Nat → Nat → UInt64) (v0 : Int32) (v1 : Int32) (v2 : Int32) : ex (153, 0, [.int v0, .int v1, .int v2], [], mm I J D) = bif decide (v0 < v1) then ex (153, 10, [dv, dv, dv], [], mm I J D) else ex (153, 5, [.int v0, dv, .int v2], [], mm I J D) := (ex_itr 3 _).trans rfl
set_option maxRecDepth 100000 in
theorem e_153_5 (I : Nat → Nat → Int32) (J : Nat → Nat → Int64) (D : Nat → Nat → UInt64) (v0 : Int32) (v2 : Int32) : ex (153, 5, [.int v0, dv, .int v2], [], mm I J D) = bif decide (v0 ≤ v2) then ex (153, 21, [dv, dv, dv], [], mm I J D) else ex (153, 10, [dv, dv, dv], [], mm I J D) := (ex_itr 3 _).trans rfl
set_option maxRecDepth 100000 in
theorem e_153_10 (I : Nat → Nat → Int32) (J : Nat → Nat → Int64) (D : Nat → Nat → UInt64)  : ex (153, 10, [dv, dv, dv], [], mm I J D) = some (.inr (.inl 1), mm I J D) := (ex_itr 1 _).trans rfl
set_option maxRecDepth 100000 in
theorem e_153_21 (I : Nat → Nat → Int32) (J : Nat → Nat → Int64) (D : Nat → Nat → UInt64)  : ex (153, 21, [dv, dv, dv], [], mm I J D) = some (.inl none, mm I J D) := (ex_itr 1 _).trans rfl
