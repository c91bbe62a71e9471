/-! equations of runs, a block each, by program -/
/-! GlacierBookModel.thrown()I -/
set_option maxRecDepth 100000 in
theorem e_155_0 (I : Nat → Nat → Int32) (J : Nat → Nat → Int64) (D : Nat → Nat → UInt64)  : ex (155, 0, [.ref 316], [], mm I J D) = some (.inl (some (.int (I 316 0))), mm I J D) := (ex_itr 3 _).trans rfl
/-! GlacierBookModel.can(ZI)Z -/
set_option maxRecDepth 100000 in
theorem e_156_0 (I : Nat → Nat → Int32) (J : Nat → Nat → Int64) (D : Nat → Nat → UInt64) (v1 : Int32) (v2 : Int32) : ex (156, 0, [.ref 316, .int v1, .int v2], [], mm I J D) = bif decide (v1 = 0) then ex (156, 9, [dv, .int v1, .int v2], [.ref 316], mm I J D) else ex (156, 5, [dv, .int v1, dv], [.ref 316], mm I J D) := (ex_itr 3 _).trans rfl
set_option maxRecDepth 100000 in
theorem e_156_5 (I : Nat → Nat → Int32) (J : Nat → Nat → Int64) (D : Nat → Nat → UInt64) (v1 : Int32) : ex (156, 5, [dv, .int v1, dv], [.ref 316], mm I J D) = ex (156, 10, [dv, .int v1, dv], [.int 0, .ref 316], mm I J D) := (ex_itr 2 _).trans rfl
set_option maxRecDepth 100000 in
theorem e_156_9 (I : Nat → Nat → Int32) (J : Nat → Nat → Int64) (D : Nat → Nat → UInt64) (v1 : Int32) (v2 : Int32) : ex (156, 9, [dv, .int v1, .int v2], [.ref 316], mm I J D) = ex (156, 10, [dv, .int v1, dv], [.int v2, .ref 316], mm I J D) := (ex_itr 1 _).trans rfl
set_option maxRecDepth 100000 in
theorem e_156_10 (I : Nat → Nat → Int32) (J : Nat → Nat → Int64) (D : Nat → Nat → UInt64) (v1 : Int32) (s0 : Int32) : ex (156, 10, [dv, .int v1, dv], [.int s0, .ref 316], mm I J D) = bif decide (v1 = 0 ∨ v1 = 1) then (some (.inl (some (.int v1)), mm (ups I 316 0 s0) J D)) else none := (ex_itr 3 _).trans rfl
/-! GlacierBookModel.in(III)Z -/
set_option maxRecDepth 100000 in
theorem e_157_0 (I : Nat → Nat → Int32) (J : Nat → Nat → Int64) (D : Nat → Nat → UInt64) (v0 : Int32) (v1 : Int32) (v2 : Int32) : ex (157, 0, [.int v0, .int v1, .int v2], [], mm I J D) = bif decide (v0 < v1) then ex (157, 14, [dv, dv, dv], [], mm I J D) else ex (157, 5, [.int v0, dv, .int v2], [], mm I J D) := (ex_itr 3 _).trans rfl
set_option maxRecDepth 100000 in
theorem e_157_5 (I : Nat → Nat → Int32) (J : Nat → Nat → Int64) (D : Nat → Nat → UInt64) (v0 : Int32) (v2 : Int32) : ex (157, 5, [.int v0, dv, .int v2], [], mm I J D) = bif decide (v2 < v0) then ex (157, 14, [dv, dv, dv], [], mm I J D) else ex (157, 10, [dv, dv, dv], [], mm I J D) := (ex_itr 3 _).trans rfl
set_option maxRecDepth 100000 in
theorem e_157_10 (I : Nat → Nat → Int32) (J : Nat → Nat → Int64) (D : Nat → Nat → UInt64)  : ex (157, 10, [dv, dv, dv], [], mm I J D) = ex (157, 15, [dv, dv, dv], [.int 1], mm I J D) := (ex_itr 2 _).trans rfl
set_option maxRecDepth 100000 in
theorem e_157_14 (I : Nat → Nat → Int32) (J : Nat → Nat → Int64) (D : Nat → Nat → UInt64)  : ex (157, 14, [dv, dv, dv], [], mm I J D) = ex (157, 15, [dv, dv, dv], [.int 0], mm I J D) := (ex_itr 1 _).trans rfl
set_option maxRecDepth 100000 in
theorem e_157_15 (I : Nat → Nat → Int32) (J : Nat → Nat → Int64) (D : Nat → Nat → UInt64) (s0 : Int32) : ex (157, 15, [dv, dv, dv], [.int s0], mm I J D) = bif decide (s0 = 0 ∨ s0 = 1) then (some (.inl (some (.int s0)), mm I J D)) else none := (ex_itr 1 _).trans rfl
/-! GlacierBookModel.distance(II)I -/
set_option maxRecDepth 100000 in
theorem e_158_0 (I : Nat → Nat → Int32) (J : Nat → Nat → Int64) (D : Nat → Nat → UInt64) (v0 : Int32) (v1 : Int32) : ex (158, 0, [.int v0, .int v1], [], mm I J D) = bif decide (v1 ≤ v0) then ex (158, 11, [.int v0, .int v1], [], mm I J D) else ex (158, 5, [.int v0, .int v1], [], mm I J D) := (ex_itr 3 _).trans rfl
set_option maxRecDepth 100000 in
theorem e_158_5 (I : Nat → Nat → Int32) (J : Nat → Nat → Int64) (D : Nat → Nat → UInt64) (v0 : Int32) (v1 : Int32) : ex (158, 5, [.int v0, .int v1], [], mm I J D) = ex (158, 14, [dv, dv], [.int (v1 - v0)], mm I J D) := (ex_itr 4 _).trans rfl
set_option maxRecDepth 100000 in
theorem e_158_11 (I : Nat → Nat → Int32) (J : Nat → Nat → Int64) (D : Nat → Nat → UInt64) (v0 : Int32) (v1 : Int32) : ex (158, 11, [.int v0, .int v1], [], mm I J D) = ex (158, 14, [dv, dv], [.int (v0 - v1)], mm I J D) := (ex_itr 3 _).trans rfl
set_option maxRecDepth 100000 in
theorem e_158_14 (I : Nat → Nat → Int32) (J : Nat → Nat → Int64) (D : Nat → Nat → UInt64) (s0 : Int32) : ex (158, 14, [dv, dv], [.int s0], mm I J D) = some (.inl (some (.int s0)), mm I J D) := (ex_itr 1 _).trans rfl
/-! GlacierBookModel.lesser(II)I -/
set_option maxRecDepth 100000 in
theorem e_159_0 (I : Nat → Nat → Int32) (J : Nat → Nat → Int64) (D : Nat → Nat → UInt64) (v0 : Int32) (v1 : Int32) : ex (159, 0, [.int v0, .int v1], [], mm I J D) = bif decide (v0 < 0) then ex (159, 10, [.int v0, .int v1], [], mm I J D) else ex (159, 4, [.int v0, .int v1], [], mm I J D) := (ex_itr 2 _).trans rfl
set_option maxRecDepth 100000 in
theorem e_159_4 (I : Nat → Nat → Int32) (J : Nat → Nat → Int64) (D : Nat → Nat → UInt64) (v0 : Int32) (v1 : Int32) : ex (159, 4, [.int v0, .int v1], [], mm I J D) = bif decide (¬ v1 = 0) then (ex (159, 19, [dv, dv], [.int (v0 / v1)], mm I J D)) else none := (ex_itr 4 _).trans rfl
set_option maxRecDepth 100000 in
theorem e_159_10 (I : Nat → Nat → Int32) (J : Nat → Nat → Int64) (D : Nat → Nat → UInt64) (v0 : Int32) (v1 : Int32) : ex (159, 10, [.int v0, .int v1], [], mm I J D) = bif decide (¬ v1 = 0) then (ex (159, 19, [dv, dv], [.int (-((((-v0) + v1) - 1) / v1))], mm I J D)) else none := (ex_itr 9 _).trans rfl
set_option maxRecDepth 100000 in
theorem e_159_19 (I : Nat → Nat → Int32) (J : Nat → Nat → Int64) (D : Nat → Nat → UInt64) (s0 : Int32) : ex (159, 19, [dv, dv], [.int s0], mm I J D) = some (.inl (some (.int s0)), mm I J D) := (ex_itr 1 _).trans rfl
/-! GlacierBookModel.keptAt()I -/
set_option maxRecDepth 100000 in
theorem e_160_0 (I : Nat → Nat → Int32) (J : Nat → Nat → Int64) (D : Nat → Nat → UInt64)  : ex (160, 0, [.ref 316], [], mm I J D) = some (.inl (some (.int ((825 : Int32) * (((I 316 4) + (I 316 3)) - ((I 316 4) + (I 316 3)) / 8 * 8)))), mm I J D) := (ex_itr 10 _).trans rfl
/-! GlacierBookModel.keep()V -/
set_option maxRecDepth 100000 in
theorem e_161_0 (I : Nat → Nat → Int32) (J : Nat → Nat → Int64) (D : Nat → Nat → UInt64)  : ex (161, 0, [.ref 316, dv, dv], [], mm I J D) = bif decide ((I 316 3) ≠ 8) then ex (161, 32, [.ref 316, dv, dv], [], mm I J D) else ex (161, 9, [.ref 316, dv, dv], [], mm I J D) := (ex_itr 4 _).trans rfl
set_option maxRecDepth 100000 in
theorem e_161_9 (I : Nat → Nat → Int32) (J : Nat → Nat → Int64) (D : Nat → Nat → UInt64)  : ex (161, 9, [.ref 316, dv, dv], [], mm I J D) = ex (161, 32, [.ref 316, dv, dv], [], mm (ups (ups I 316 4 (((I 316 4) + 1) - ((I 316 4) + 1) / 8 * 8)) 316 3 (((ups I 316 4 (((I 316 4) + 1) - ((I 316 4) + 1) / 8 * 8)) 316 3) - 1)) J D) := (ex_itr 14 _).trans rfl
set_option maxRecDepth 100000 in
theorem e_161_32 (I : Nat → Nat → Int32) (J : Nat → Nat → Int64) (D : Nat → Nat → UInt64)  : ex (161, 32, [.ref 316, dv, dv], [], mm I J D) = cal 161 36 [.ref 316, dv, dv] [] (ex (160, 0, [.ref 316], [], mm I J D)) := (ex_itr 2 _).trans rfl
set_option maxRecDepth 100000 in
theorem e_161_36 (I : Nat → Nat → Int32) (J : Nat → Nat → Int64) (D : Nat → Nat → UInt64) (s0 : Int32) : ex (161, 36, [.ref 316, dv, dv], [.int s0], mm I J D) = ex (161, 39, [.ref 316, .int s0, .int 0], [], mm I J D) := (ex_itr 3 _).trans rfl
set_option maxRecDepth 100000 in
theorem e_161_39 (I : Nat → Nat → Int32) (J : Nat → Nat → Int64) (D : Nat → Nat → UInt64) (v1 : Int32) (v2 : Int32) : ex (161, 39, [.ref 316, .int v1, .int v2], [], mm I J D) = bif decide (825 ≤ v2) then ex (161, 66, [.ref 316, dv, dv], [], mm I J D) else ex (161, 46, [.ref 316, .int v1, .int v2], [], mm I J D) := (ex_itr 3 _).trans rfl
set_option maxRecDepth 100000 in
theorem e_161_46 (I : Nat → Nat → Int32) (J : Nat → Nat → Int64) (D : Nat → Nat → UInt64) (v1 : Int32) (v2 : Int32) : ex (161, 46, [.ref 316, .int v1, .int v2], [], mm I J D) = bif inb v2 850 then (bif inb (v1 + v2) 6800 then (ex (161, 39, [.ref 316, .int v1, .int (v2 + 1)], [], mm (ups I 318 ((v1 + v2).toNatClampNeg) (I 317 v2.toNatClampNeg)) J D)) else none) else none := (ex_itr 12 _).trans rfl
set_option maxRecDepth 100000 in
theorem e_161_66 (I : Nat → Nat → Int32) (J : Nat → Nat → Int64) (D : Nat → Nat → UInt64)  : ex (161, 66, [.ref 316, dv, dv], [], mm I J D) = some (.inl none, mm (ups I 316 3 ((I 316 3) + 1)) J D) := (ex_itr 7 _).trans rfl
/-! GlacierBookModel.undo()I -/
set_option maxRecDepth 100000 in
theorem e_162_0 (I : Nat → Nat → Int32) (J : Nat → Nat → Int64) (D : Nat → Nat → UInt64)  : ex (162, 0, [.ref 316, dv, dv], [], mm I J D) = bif decide ((I 316 3) ≤ 0) then ex (162, 12, [.ref 316, dv, dv], [.ref 316], mm I J D) else ex (162, 8, [.ref 316, dv, dv], [.ref 316], mm I J D) := (ex_itr 4 _).trans rfl
set_option maxRecDepth 100000 in
theorem e_162_8 (I : Nat → Nat → Int32) (J : Nat → Nat → Int64) (D : Nat → Nat → UInt64)  : ex (162, 8, [.ref 316, dv, dv], [.ref 316], mm I J D) = ex (162, 13, [.ref 316, dv, dv], [.int 1, .ref 316], mm I J D) := (ex_itr 2 _).trans rfl
set_option maxRecDepth 100000 in
theorem e_162_12 (I : Nat → Nat → Int32) (J : Nat → Nat → Int64) (D : Nat → Nat → UInt64)  : ex (162, 12, [.ref 316, dv, dv], [.ref 316], mm I J D) = ex (162, 13, [.ref 316, dv, dv], [.int 0, .ref 316], mm I J D) := (ex_itr 1 _).trans rfl
set_option maxRecDepth 100000 in
theorem e_162_13 (I : Nat → Nat → Int32) (J : Nat → Nat → Int64) (D : Nat → Nat → UInt64) (s0 : Int32) : ex (162, 13, [.ref 316, dv, dv], [.int s0, .ref 316], mm I J D) = cal 162 17 [.ref 316, dv, dv] [] (ex (156, 0, [.ref 316, .int s0, .int 1], [], mm I J D)) := (ex_itr 2 _).trans rfl
set_option maxRecDepth 100000 in
theorem e_162_17 (I : Nat → Nat → Int32) (J : Nat → Nat → Int64) (D : Nat → Nat → UInt64) (s0 : Int32) : ex (162, 17, [.ref 316, dv, dv], [.int s0], mm I J D) = bif decide (s0 ≠ 0) then ex (162, 22, [.ref 316, dv, dv], [], mm I J D) else ex (162, 20, [dv, dv, dv], [], mm I J D) := (ex_itr 1 _).trans rfl
set_option maxRecDepth 100000 in
theorem e_162_20 (I : Nat → Nat → Int32) (J : Nat → Nat → Int64) (D : Nat → Nat → UInt64)  : ex (162, 20, [dv, dv, dv], [], mm I J D) = some (.inl (some (.int 0)), mm I J D) := (ex_itr 2 _).trans rfl
set_option maxRecDepth 100000 in
theorem e_162_22 (I : Nat → Nat → Int32) (J : Nat → Nat → Int64) (D : Nat → Nat → UInt64)  : ex (162, 22, [.ref 316, dv, dv], [], mm I J D) = cal 162 36 [.ref 316, dv, dv] [] (ex (160, 0, [.ref 316], [], mm (ups I 316 3 ((I 316 3) - 1)) J D)) := (ex_itr 8 _).trans rfl
set_option maxRecDepth 100000 in
theorem e_162_36 (I : Nat → Nat → Int32) (J : Nat → Nat → Int64) (D : Nat → Nat → UInt64) (s0 : Int32) : ex (162, 36, [.ref 316, dv, dv], [.int s0], mm I J D) = ex (162, 39, [.ref 316, .int s0, .int 0], [], mm I J D) := (ex_itr 3 _).trans rfl
set_option maxRecDepth 100000 in
theorem e_162_39 (I : Nat → Nat → Int32) (J : Nat → Nat → Int64) (D : Nat → Nat → UInt64) (v1 : Int32) (v2 : Int32) : ex (162, 39, [.ref 316, .int v1, .int v2], [], mm I J D) = bif decide (825 ≤ v2) then ex (162, 66, [.ref 316, dv, dv], [], mm I J D) else ex (162, 46, [.ref 316, .int v1, .int v2], [], mm I J D) := (ex_itr 3 _).trans rfl
set_option maxRecDepth 100000 in
theorem e_162_46 (I : Nat → Nat → Int32) (J : Nat → Nat → Int64) (D : Nat → Nat → UInt64) (v1 : Int32) (v2 : Int32) : ex (162, 46, [.ref 316, .int v1, .int v2], [], mm I J D) = bif inb (v1 + v2) 6800 then (bif inb v2 850 then (ex (162, 39, [.ref 316, .int v1, .int (v2 + 1)], [], mm (ups I 317 v2.toNatClampNeg (I 318 (v1 + v2).toNatClampNeg)) J D)) else none) else none := (ex_itr 12 _).trans rfl
set_option maxRecDepth 100000 in
theorem e_162_66 (I : Nat → Nat → Int32) (J : Nat → Nat → Int64) (D : Nat → Nat → UInt64)  : ex (162, 66, [.ref 316, dv, dv], [], mm I J D) = some (.inl (some (.int (I 316 3))), mm I J D) := (ex_itr 3 _).trans rfl
/-! GlacierBookModel.actCount()I -/
set_option maxRecDepth 100000 in
theorem e_163_0 (I : Nat → Nat → Int32) (J : Nat → Nat → Int64) (D : Nat → Nat → UInt64)  : ex (163, 0, [.ref 316], [], mm I J D) = some (.inl (some (.int ((ups I 316 0 0) 316 3))), mm (ups I 316 0 0) J D) := (ex_itr 6 _).trans rfl
/-! GlacierBookModel.addLayer()I -/
set_option maxRecDepth 100000 in
theorem e_164_0 (I : Nat → Nat → Int32) (J : Nat → Nat → Int64) (D : Nat → Nat → UInt64)  : ex (164, 0, [.ref 316], [], mm I J D) = bif decide (16 ≤ (I 317 0)) then ex (164, 16, [.ref 316], [.ref 316], mm I J D) else ex (164, 12, [.ref 316], [.ref 316], mm I J D) := (ex_itr 7 _).trans rfl
set_option maxRecDepth 100000 in
theorem e_164_12 (I : Nat → Nat → Int32) (J : Nat → Nat → Int64) (D : Nat → Nat → UInt64)  : ex (164, 12, [.ref 316], [.ref 316], mm I J D) = ex (164, 17, [.ref 316], [.int 1, .ref 316], mm I J D) := (ex_itr 2 _).trans rfl
set_option maxRecDepth 100000 in
theorem e_164_16 (I : Nat → Nat → Int32) (J : Nat → Nat → Int64) (D : Nat → Nat → UInt64)  : ex (164, 16, [.ref 316], [.ref 316], mm I J D) = ex (164, 17, [.ref 316], [.int 0, .ref 316], mm I J D) := (ex_itr 1 _).trans rfl
set_option maxRecDepth 100000 in
theorem e_164_17 (I : Nat → Nat → Int32) (J : Nat → Nat → Int64) (D : Nat → Nat → UInt64) (s0 : Int32) : ex (164, 17, [.ref 316], [.int s0, .ref 316], mm I J D) = cal 164 21 [.ref 316] [] (ex (156, 0, [.ref 316, .int s0, .int 1], [], mm I J D)) := (ex_itr 2 _).trans rfl
set_option maxRecDepth 100000 in
theorem e_164_21 (I : Nat → Nat → Int32) (J : Nat → Nat → Int64) (D : Nat → Nat → UInt64) (s0 : Int32) : ex (164, 21, [.ref 316], [.int s0], mm I J D) = bif decide (s0 ≠ 0) then ex (164, 26, [.ref 316], [], mm I J D) else ex (164, 24, [dv], [], mm I J D) := (ex_itr 1 _).trans rfl
set_option maxRecDepth 100000 in
theorem e_164_24 (I : Nat → Nat → Int32) (J : Nat → Nat → Int64) (D : Nat → Nat → UInt64)  : ex (164, 24, [dv], [], mm I J D) = some (.inl (some (.int 0)), mm I J D) := (ex_itr 2 _).trans rfl
set_option maxRecDepth 100000 in
theorem e_164_26 (I : Nat → Nat → Int32) (J : Nat → Nat → Int64) (D : Nat → Nat → UInt64)  : ex (164, 26, [.ref 316], [], mm I J D) = cal 164 30 [.ref 316] [] (ex (161, 0, [.ref 316, dv, dv], [], mm I J D)) := (ex_itr 2 _).trans rfl
set_option maxRecDepth 100000 in
theorem e_164_30 (I : Nat → Nat → Int32) (J : Nat → Nat → Int64) (D : Nat → Nat → UInt64)  : ex (164, 30, [.ref 316], [], mm I J D) = some (.inl (some (.int ((ups I 317 0 ((I 317 0) + 1)) 317 0))), mm (ups I 317 0 ((I 317 0) + 1)) J D) := (ex_itr 13 _).trans rfl
/-! GlacierBookModel.isNode(I)Z -/
set_option maxRecDepth 100000 in
theorem e_165_0 (I : Nat → Nat → Int32) (J : Nat → Nat → Int64) (D : Nat → Nat → UInt64) (v1 : Int32) : ex (165, 0, [.ref 316, .int v1], [], mm I J D) = cal 165 11 [dv, dv] [] (ex (157, 0, [.int v1, .int 0, .int (I 317 0)], [], mm I J D)) := (ex_itr 7 _).trans rfl
set_option maxRecDepth 100000 in
theorem e_165_11 (I : Nat → Nat → Int32) (J : Nat → Nat → Int64) (D : Nat → Nat → UInt64) (s0 : Int32) : ex (165, 11, [dv, dv], [.int s0], mm I J D) = bif decide (s0 = 0 ∨ s0 = 1) then (some (.inl (some (.int s0)), mm I J D)) else none := (ex_itr 1 _).trans rfl
/-! GlacierBookModel.isLayer(I)Z -/
set_option maxRecDepth 100000 in
theorem e_166_0 (I : Nat → Nat → Int32) (J : Nat → Nat → Int64) (D : Nat → Nat → UInt64) (v1 : Int32) : ex (166, 0, [.ref 316, .int v1], [], mm I J D) = cal 166 11 [dv, dv] [] (ex (157, 0, [.int v1, .int 1, .int (I 317 0)], [], mm I J D)) := (ex_itr 7 _).trans rfl
set_option maxRecDepth 100000 in
theorem e_166_11 (I : Nat → Nat → Int32) (J : Nat → Nat → Int64) (D : Nat → Nat → UInt64) (s0 : Int32) : ex (166, 11, [dv, dv], [.int s0], mm I J D) = bif decide (s0 = 0 ∨ s0 = 1) then (some (.inl (some (.int s0)), mm I J D)) else none := (ex_itr 1 _).trans rfl
/-! GlacierBookModel.laysFar(I)V -/
set_option maxRecDepth 100000 in
theorem e_167_0 (I : Nat → Nat → Int32) (J : Nat → Nat → Int64) (D : Nat → Nat → UInt64) (v1 : Int32) : ex (167, 0, [.ref 316, .int v1, dv, dv, dv, dv, dv], [], mm I J D) = ex (167, 2, [.ref 316, .int v1, .int 0, dv, dv, dv, dv], [], mm I J D) := (ex_itr 2 _).trans rfl
set_option maxRecDepth 100000 in
theorem e_167_2 (I : Nat → Nat → Int32) (J : Nat → Nat → Int64) (D : Nat → Nat → UInt64) (v1 : Int32) (v2 : Int32) : ex (167, 2, [.ref 316, .int v1, .int v2, dv, dv, dv, dv], [], mm I J D) = bif decide (289 ≤ v2) then ex (167, 38, [.ref 316, .int v1, dv, dv, dv, dv, dv], [], mm I J D) else ex (167, 9, [.ref 316, .int v1, .int v2, dv, dv, dv, dv], [], mm I J D) := (ex_itr 3 _).trans rfl
set_option maxRecDepth 100000 in
theorem e_167_9 (I : Nat → Nat → Int32) (J : Nat → Nat → Int64) (D : Nat → Nat → UInt64) (v1 : Int32) (v2 : Int32) : ex (167, 9, [.ref 316, .int v1, .int v2, dv, dv, dv, dv], [], mm I J D) = bif decide ((v2 / 17) ≠ (v2 - v2 / 17 * 17)) then ex (167, 29, [.ref 316, .int v1, .int v2, dv, dv, dv, dv], [.int v2, .ref 321], mm I J D) else ex (167, 25, [.ref 316, .int v1, .int v2, dv, dv, dv, dv], [.int v2, .ref 321], mm I J D) := (ex_itr 10 _).trans rfl
set_option maxRecDepth 100000 in
theorem e_167_25 (I : Nat → Nat → Int32) (J : Nat → Nat → Int64) (D : Nat → Nat → UInt64) (v1 : Int32) (v2 : Int32) (s0 : Int32) : ex (167, 25, [.ref 316, .int v1, .int v2, dv, dv, dv, dv], [.int s0, .ref 321], mm I J D) = ex (167, 31, [.ref 316, .int v1, .int v2, dv, dv, dv, dv], [.int 0, .int s0, .ref 321], mm I J D) := (ex_itr 2 _).trans rfl
set_option maxRecDepth 100000 in
theorem e_167_29 (I : Nat → Nat → Int32) (J : Nat → Nat → Int64) (D : Nat → Nat → UInt64) (v1 : Int32) (v2 : Int32) (s0 : Int32) : ex (167, 29, [.ref 316, .int v1, .int v2, dv, dv, dv, dv], [.int s0, .ref 321], mm I J D) = ex (167, 31, [.ref 316, .int v1, .int v2, dv, dv, dv, dv], [.int 100000000, .int s0, .ref 321], mm I J D) := (ex_itr 1 _).trans rfl
set_option maxRecDepth 100000 in
theorem e_167_31 (I : Nat → Nat → Int32) (J : Nat → Nat → Int64) (D : Nat → Nat → UInt64) (v1 : Int32) (v2 : Int32) (s0 : Int32) (s1 : Int32) : ex (167, 31, [.ref 316, .int v1, .int v2, dv, dv, dv, dv], [.int s0, .int s1, .ref 321], mm I J D) = bif inb s1 289 then (ex (167, 2, [.ref 316, .int v1, .int (v2 + 1), dv, dv, dv, dv], [], mm (ups I 321 s1.toNatClampNeg s0) J D)) else none := (ex_itr 3 _).trans rfl
set_option maxRecDepth 100000 in
theorem e_167_38 (I : Nat → Nat → Int32) (J : Nat → Nat → Int64) (D : Nat → Nat → UInt64) (v1 : Int32) : ex (167, 38, [.ref 316, .int v1, dv, dv, dv, dv, dv], [], mm I J D) = ex (167, 40, [.ref 316, .int v1, .int 0, dv, dv, dv, dv], [], mm I J D) := (ex_itr 2 _).trans rfl
set_option maxRecDepth 100000 in
theorem e_167_40 (I : Nat → Nat → Int32) (J : Nat → Nat → Int64) (D : Nat → Nat → UInt64) (v1 : Int32) (v2 : Int32) : ex (167, 40, [.ref 316, .int v1, .int v2, dv, dv, dv, dv], [], mm I J D) = bif decide ((I 317 1) ≤ v2) then ex (167, 139, [.ref 316, dv, dv, dv, dv, dv, dv], [], mm I J D) else ex (167, 50, [.ref 316, .int v1, .int v2, dv, dv, dv, dv], [], mm I J D) := (ex_itr 6 _).trans rfl
set_option maxRecDepth 100000 in
theorem e_167_50 (I : Nat → Nat → Int32) (J : Nat → Nat → Int64) (D : Nat → Nat → UInt64) (v1 : Int32) (v2 : Int32) : ex (167, 50, [.ref 316, .int v1, .int v2, dv, dv, dv, dv], [], mm I J D) = bif inb ((2 : Int32) + v2) 850 then (bif inb ((52 : Int32) + v2) 850 then (bif inb ((152 : Int32) + v2) 850 then (bif decide ((I 317 ((152 : Int32) + v2).toNatClampNeg) ≠ 1) then ex (167, 126, [.ref 316, .int v1, .int v2, .int (((17 : Int32) * (I 317 ((2 : Int32) + v2).toNatClampNeg)) + (I 317 ((52 : Int32) + v2).toNatClampNeg)), dv, dv, dv], [.int (((17 : Int32) * (I 317 ((2 : Int32) + v2).toNatClampNeg)) + (I 317 ((52 : Int32) + v2).toNatClampNeg)), .ref 321], mm I J D) else ex (167, 91, [.ref 316, .int v1, .int v2, .int (((17 : Int32) * (I 317 ((2 : Int32) + v2).toNatClampNeg)) + (I 317 ((52 : Int32) + v2).toNatClampNeg)), dv, dv, dv], [.int (((17 : Int32) * (I 317 ((2 : Int32) + v2).toNatClampNeg)) + (I 317 ((52 : Int32) + v2).toNatClampNeg)), .ref 321], mm I J D)) else none) else none) else none := (ex_itr 27 _).trans rfl
set_option maxRecDepth 100000 in
theorem e_167_91 (I : Nat → Nat → Int32) (J : Nat → Nat → Int64) (D : Nat → Nat → UInt64) (v1 : Int32) (v2 : Int32) (v3 : Int32) (s0 : Int32) : ex (167, 91, [.ref 316, .int v1, .int v2, .int v3, dv, dv, dv], [.int s0, .ref 321], mm I J D) = bif decide (v2 = v1) then ex (167, 126, [.ref 316, .int v1, .int v2, .int v3, dv, dv, dv], [.int s0, .ref 321], mm I J D) else ex (167, 96, [.ref 316, .int v1, .int v2, .int v3, dv, dv, dv], [.int s0, .ref 321], mm I J D) := (ex_itr 3 _).trans rfl
set_option maxRecDepth 100000 in
theorem e_167_96 (I : Nat → Nat → Int32) (J : Nat → Nat → Int64) (D : Nat → Nat → UInt64) (v1 : Int32) (v2 : Int32) (v3 : Int32) (s0 : Int32) : ex (167, 96, [.ref 316, .int v1, .int v2, .int v3, dv, dv, dv], [.int s0, .ref 321], mm I J D) = bif inb ((102 : Int32) + v2) 850 then (bif inb v3 289 then (bif decide ((I 321 v3.toNatClampNeg) ≤ (I 317 ((102 : Int32) + v2).toNatClampNeg)) then ex (167, 126, [.ref 316, .int v1, .int v2, .int v3, dv, dv, dv], [.int s0, .ref 321], mm I J D) else ex (167, 114, [.ref 316, .int v1, .int v2, dv, dv, dv, dv], [.int s0, .ref 321], mm I J D)) else none) else none := (ex_itr 11 _).trans rfl
set_option maxRecDepth 100000 in
theorem e_167_114 (I : Nat → Nat → Int32) (J : Nat → Nat → Int64) (D : Nat → Nat → UInt64) (v1 : Int32) (v2 : Int32) (s0 : Int32) : ex (167, 114, [.ref 316, .int v1, .int v2, dv, dv, dv, dv], [.int s0, .ref 321], mm I J D) = bif inb ((102 : Int32) + v2) 850 then (ex (167, 132, [.ref 316, .int v1, .int v2, dv, dv, dv, dv], [.int (I 317 ((102 : Int32) + v2).toNatClampNeg), .int s0, .ref 321], mm I J D)) else none := (ex_itr 7 _).trans rfl
set_option maxRecDepth 100000 in
theorem e_167_126 (I : Nat → Nat → Int32) (J : Nat → Nat → Int64) (D : Nat → Nat → UInt64) (v1 : Int32) (v2 : Int32) (v3 : Int32) (s0 : Int32) : ex (167, 126, [.ref 316, .int v1, .int v2, .int v3, dv, dv, dv], [.int s0, .ref 321], mm I J D) = bif inb v3 289 then (ex (167, 132, [.ref 316, .int v1, .int v2, dv, dv, dv, dv], [.int (I 321 v3.toNatClampNeg), .int s0, .ref 321], mm I J D)) else none := (ex_itr 4 _).trans rfl
set_option maxRecDepth 100000 in
theorem e_167_132 (I : Nat → Nat → Int32) (J : Nat → Nat → Int64) (D : Nat → Nat → UInt64) (v1 : Int32) (v2 : Int32) (s0 : Int32) (s1 : Int32) : ex (167, 132, [.ref 316, .int v1, .int v2, dv, dv, dv, dv], [.int s0, .int s1, .ref 321], mm I J D) = bif inb s1 289 then (ex (167, 40, [.ref 316, .int v1, .int (v2 + 1), dv, dv, dv, dv], [], mm (ups I 321 s1.toNatClampNeg s0) J D)) else none := (ex_itr 3 _).trans rfl
set_option maxRecDepth 100000 in
theorem e_167_139 (I : Nat → Nat → Int32) (J : Nat → Nat → Int64) (D : Nat → Nat → UInt64)  : ex (167, 139, [.ref 316, dv, dv, dv, dv, dv, dv], [], mm I J D) = ex (167, 141, [.ref 316, dv, .int 0, dv, dv, dv, dv], [], mm I J D) := (ex_itr 2 _).trans rfl
set_option maxRecDepth 100000 in
theorem e_167_141 (I : Nat → Nat → Int32) (J : Nat → Nat → Int64) (D : Nat → Nat → UInt64) (v2 : Int32) : ex (167, 141, [.ref 316, dv, .int v2, dv, dv, dv, dv], [], mm I J D) = bif decide (17 ≤ v2) then ex (167, 261, [dv, dv, dv, dv, dv, dv, dv], [], mm I J D) else ex (167, 147, [.ref 316, dv, .int v2, dv, dv, dv, dv], [], mm I J D) := (ex_itr 3 _).trans rfl
set_option maxRecDepth 100000 in
theorem e_167_147 (I : Nat → Nat → Int32) (J : Nat → Nat → Int64) (D : Nat → Nat → UInt64) (v2 : Int32) : ex (167, 147, [.ref 316, dv, .int v2, dv, dv, dv, dv], [], mm I J D) = ex (167, 149, [.ref 316, dv, .int v2, .int 0, dv, dv, dv], [], mm I J D) := (ex_itr 2 _).trans rfl
set_option maxRecDepth 100000 in
theorem e_167_149 (I : Nat → Nat → Int32) (J : Nat → Nat → Int64) (D : Nat → Nat → UInt64) (v2 : Int32) (v3 : Int32) : ex (167, 149, [.ref 316, dv, .int v2, .int v3, dv, dv, dv], [], mm I J D) = bif decide (17 ≤ v3) then ex (167, 255, [.ref 316, dv, .int v2, dv, dv, dv, dv], [], mm I J D) else ex (167, 155, [.ref 316, dv, .int v2, .int v3, dv, dv, dv], [], mm I J D) := (ex_itr 3 _).trans rfl
set_option maxRecDepth 100000 in
theorem e_167_155 (I : Nat → Nat → Int32) (J : Nat → Nat → Int64) (D : Nat → Nat → UInt64) (v2 : Int32) (v3 : Int32) : ex (167, 155, [.ref 316, dv, .int v2, .int v3, dv, dv, dv], [], mm I J D) = ex (167, 158, [.ref 316, dv, .int v2, .int v3, .int 0, dv, dv], [], mm I J D) := (ex_itr 2 _).trans rfl
set_option maxRecDepth 100000 in
theorem e_167_158 (I : Nat → Nat → Int32) (J : Nat → Nat → Int64) (D : Nat → Nat → UInt64) (v2 : Int32) (v3 : Int32) (v4 : Int32) : ex (167, 158, [.ref 316, dv, .int v2, .int v3, .int v4, dv, dv], [], mm I J D) = bif decide (17 ≤ v4) then ex (167, 249, [.ref 316, dv, .int v2, .int v3, dv, dv, dv], [], mm I J D) else ex (167, 165, [.ref 316, dv, .int v2, .int v3, .int v4, dv, dv], [], mm I J D) := (ex_itr 3 _).trans rfl
set_option maxRecDepth 100000 in
theorem e_167_165 (I : Nat → Nat → Int32) (J : Nat → Nat → Int64) (D : Nat → Nat → UInt64) (v2 : Int32) (v3 : Int32) (v4 : Int32) : ex (167, 165, [.ref 316, dv, .int v2, .int v3, .int v4, dv, dv], [], mm I J D) = bif inb (((17 : Int32) * v3) + v2) 289 then (bif inb (((17 : Int32) * v2) + v4) 289 then (bif decide ((I 321 (((17 : Int32) * v3) + v2).toNatClampNeg) = 100000000) then ex (167, 243, [.ref 316, dv, .int v2, .int v3, .int v4, dv, dv], [], mm I J D) else ex (167, 199, [.ref 316, dv, .int v2, .int v3, .int v4, .int (I 321 (((17 : Int32) * v3) + v2).toNatClampNeg), .int (I 321 (((17 : Int32) * v2) + v4).toNatClampNeg)], [], mm I J D)) else none) else none := (ex_itr 21 _).trans rfl
set_option maxRecDepth 100000 in
theorem e_167_199 (I : Nat → Nat → Int32) (J : Nat → Nat → Int64) (D : Nat → Nat → UInt64) (v2 : Int32) (v3 : Int32) (v4 : Int32) (v5 : Int32) (v6 : Int32) : ex (167, 199, [.ref 316, dv, .int v2, .int v3, .int v4, .int v5, .int v6], [], mm I J D) = bif decide (v6 = 100000000) then ex (167, 243, [.ref 316, dv, .int v2, .int v3, .int v4, dv, dv], [], mm I J D) else ex (167, 206, [.ref 316, dv, .int v2, .int v3, .int v4, .int v5, .int v6], [], mm I J D) := (ex_itr 3 _).trans rfl
set_option maxRecDepth 100000 in
theorem e_167_206 (I : Nat → Nat → Int32) (J : Nat → Nat → Int64) (D : Nat → Nat → UInt64) (v2 : Int32) (v3 : Int32) (v4 : Int32) (v5 : Int32) (v6 : Int32) : ex (167, 206, [.ref 316, dv, .int v2, .int v3, .int v4, .int v5, .int v6], [], mm I J D) = bif inb (((17 : Int32) * v3) + v4) 289 then (bif decide ((I 321 (((17 : Int32) * v3) + v4).toNatClampNeg) ≤ (v5 + v6)) then ex (167, 243, [.ref 316, dv, .int v2, .int v3, .int v4, dv, dv], [], mm I J D) else ex (167, 226, [.ref 316, dv, .int v2, .int v3, .int v4, .int v5, .int v6], [], mm I J D)) else none := (ex_itr 12 _).trans rfl
set_option maxRecDepth 100000 in
theorem e_167_226 (I : Nat → Nat → Int32) (J : Nat → Nat → Int64) (D : Nat → Nat → UInt64) (v2 : Int32) (v3 : Int32) (v4 : Int32) (v5 : Int32) (v6 : Int32) : ex (167, 226, [.ref 316, dv, .int v2, .int v3, .int v4, .int v5, .int v6], [], mm I J D) = bif inb (((17 : Int32) * v3) + v4) 289 then (ex (167, 243, [.ref 316, dv, .int v2, .int v3, .int v4, dv, dv], [], mm (ups I 321 ((((17 : Int32) * v3) + v4).toNatClampNeg) (v5 + v6)) J D)) else none := (ex_itr 11 _).trans rfl
set_option maxRecDepth 100000 in
theorem e_167_243 (I : Nat → Nat → Int32) (J : Nat → Nat → Int64) (D : Nat → Nat → UInt64) (v2 : Int32) (v3 : Int32) (v4 : Int32) : ex (167, 243, [.ref 316, dv, .int v2, .int v3, .int v4, dv, dv], [], mm I J D) = ex (167, 158, [.ref 316, dv, .int v2, .int v3, .int (v4 + 1), dv, dv], [], mm I J D) := (ex_itr 2 _).trans rfl
set_option maxRecDepth 100000 in
theorem e_167_249 (I : Nat → Nat → Int32) (J : Nat → Nat → Int64) (D : Nat → Nat → UInt64) (v2 : Int32) (v3 : Int32) : ex (167, 249, [.ref 316, dv, .int v2, .int v3, dv, dv, dv], [], mm I J D) = ex (167, 149, [.ref 316, dv, .int v2, .int (v3 + 1), dv, dv, dv], [], mm I J D) := (ex_itr 2 _).trans rfl
set_option maxRecDepth 100000 in
theorem e_167_255 (I : Nat → Nat → Int32) (J : Nat → Nat → Int64) (D : Nat → Nat → UInt64) (v2 : Int32) : ex (167, 255, [.ref 316, dv, .int v2, dv, dv, dv, dv], [], mm I J D) = ex (167, 141, [.ref 316, dv, .int (v2 + 1), dv, dv, dv, dv], [], mm I J D) := (ex_itr 2 _).trans rfl
set_option maxRecDepth 100000 in
theorem e_167_261 (I : Nat → Nat → Int32) (J : Nat → Nat → Int64) (D : Nat → Nat → UInt64)  : ex (167, 261, [dv, dv, dv, dv, dv, dv, dv], [], mm I J D) = some (.inl none, mm I J D) := (ex_itr 1 _).trans rfl
/-! GlacierBookModel.laysSums(I)V -/
set_option maxRecDepth 100000 in
theorem e_168_0 (I : Nat → Nat → Int32) (J : Nat → Nat → Int64) (D : Nat → Nat → UInt64) (v1 : Int32) : ex (168, 0, [.ref 316, .int v1, dv, dv, dv, dv], [], mm I J D) = ex (168, 2, [.ref 316, .int v1, .int 0, dv, dv, dv], [], mm I J D) := (ex_itr 2 _).trans rfl
set_option maxRecDepth 100000 in
theorem e_168_2 (I : Nat → Nat → Int32) (J : Nat → Nat → Int64) (D : Nat → Nat → UInt64) (v1 : Int32) (v2 : Int32) : ex (168, 2, [.ref 316, .int v1, .int v2, dv, dv, dv], [], mm I J D) = bif decide (340 ≤ v2) then ex (168, 23, [.ref 316, .int v1, dv, dv, dv, dv], [], mm I J D) else ex (168, 9, [.ref 316, .int v1, .int v2, dv, dv, dv], [], mm I J D) := (ex_itr 3 _).trans rfl
set_option maxRecDepth 100000 in
theorem e_168_9 (I : Nat → Nat → Int32) (J : Nat → Nat → Int64) (D : Nat → Nat → UInt64) (v1 : Int32) (v2 : Int32) : ex (168, 9, [.ref 316, .int v1, .int v2, dv, dv, dv], [], mm I J D) = bif inb v2 340 then (ex (168, 2, [.ref 316, .int v1, .int (v2 + 1), dv, dv, dv], [], mm (ups I 323 v2.toNatClampNeg 100000000) J D)) else none := (ex_itr 7 _).trans rfl
set_option maxRecDepth 100000 in
theorem e_168_23 (I : Nat → Nat → Int32) (J : Nat → Nat → Int64) (D : Nat → Nat → UInt64) (v1 : Int32) : ex (168, 23, [.ref 316, .int v1, dv, dv, dv, dv], [], mm I J D) = bif inb v1 340 then (ex (168, 32, [.ref 316, dv, .int 1, dv, dv, dv], [], mm (ups I 323 v1.toNatClampNeg 0) J D)) else none := (ex_itr 7 _).trans rfl
set_option maxRecDepth 100000 in
theorem e_168_32 (I : Nat → Nat → Int32) (J : Nat → Nat → Int64) (D : Nat → Nat → UInt64) (v2 : Int32) : ex (168, 32, [.ref 316, dv, .int v2, dv, dv, dv], [], mm I J D) = bif decide (17 < v2) then ex (168, 162, [dv, dv, dv, dv, dv, dv], [], mm I J D) else ex (168, 38, [.ref 316, dv, .int v2, dv, dv, dv], [], mm I J D) := (ex_itr 3 _).trans rfl
set_option maxRecDepth 100000 in
theorem e_168_38 (I : Nat → Nat → Int32) (J : Nat → Nat → Int64) (D : Nat → Nat → UInt64) (v2 : Int32) : ex (168, 38, [.ref 316, dv, .int v2, dv, dv, dv], [], mm I J D) = ex (168, 40, [.ref 316, dv, .int v2, .int 0, dv, dv], [], mm I J D) := (ex_itr 2 _).trans rfl
set_option maxRecDepth 100000 in
theorem e_168_40 (I : Nat → Nat → Int32) (J : Nat → Nat → Int64) (D : Nat → Nat → UInt64) (v2 : Int32) (v3 : Int32) : ex (168, 40, [.ref 316, dv, .int v2, .int v3, dv, dv], [], mm I J D) = bif decide ((I 317 1) ≤ v3) then ex (168, 156, [.ref 316, dv, .int v2, dv, dv, dv], [], mm I J D) else ex (168, 50, [.ref 316, dv, .int v2, .int v3, dv, dv], [], mm I J D) := (ex_itr 6 _).trans rfl
set_option maxRecDepth 100000 in
theorem e_168_50 (I : Nat → Nat → Int32) (J : Nat → Nat → Int64) (D : Nat → Nat → UInt64) (v2 : Int32) (v3 : Int32) : ex (168, 50, [.ref 316, dv, .int v2, .int v3, dv, dv], [], mm I J D) = bif inb ((52 : Int32) + v3) 850 then (bif inb (((17 : Int32) * (v2 - 1)) + (I 317 ((52 : Int32) + v3).toNatClampNeg)) 340 then (bif inb ((2 : Int32) + v3) 850 then (bif inb ((152 : Int32) + v3) 850 then (bif decide ((I 317 ((152 : Int32) + v3).toNatClampNeg) ≠ 1) then ex (168, 150, [.ref 316, dv, .int v2, .int v3, dv, dv], [], mm I J D) else ex (168, 102, [.ref 316, dv, .int v2, .int v3, .int (I 323 (((17 : Int32) * (v2 - 1)) + (I 317 ((52 : Int32) + v3).toNatClampNeg)).toNatClampNeg), .int (((17 : Int32) * v2) + (I 317 ((2 : Int32) + v3).toNatClampNeg))], [], mm I J D)) else none) else none) else none) else none := (ex_itr 35 _).trans rfl
set_option maxRecDepth 100000 in
theorem e_168_102 (I : Nat → Nat → Int32) (J : Nat → Nat → Int64) (D : Nat → Nat → UInt64) (v2 : Int32) (v3 : Int32) (v4 : Int32) (v5 : Int32) : ex (168, 102, [.ref 316, dv, .int v2, .int v3, .int v4, .int v5], [], mm I J D) = bif decide (v4 = 100000000) then ex (168, 150, [.ref 316, dv, .int v2, .int v3, dv, dv], [], mm I J D) else ex (168, 109, [.ref 316, dv, .int v2, .int v3, .int v4, .int v5], [], mm I J D) := (ex_itr 3 _).trans rfl
set_option maxRecDepth 100000 in
theorem e_168_109 (I : Nat → Nat → Int32) (J : Nat → Nat → Int64) (D : Nat → Nat → UInt64) (v2 : Int32) (v3 : Int32) (v4 : Int32) (v5 : Int32) : ex (168, 109, [.ref 316, dv, .int v2, .int v3, .int v4, .int v5], [], mm I J D) = bif inb ((102 : Int32) + v3) 850 then (bif inb v5 340 then (bif decide ((I 323 v5.toNatClampNeg) ≤ ((I 317 ((102 : Int32) + v3).toNatClampNeg) + v4)) then ex (168, 150, [.ref 316, dv, .int v2, .int v3, dv, dv], [], mm I J D) else ex (168, 131, [.ref 316, dv, .int v2, .int v3, .int v4, .int v5], [], mm I J D)) else none) else none := (ex_itr 13 _).trans rfl
set_option maxRecDepth 100000 in
theorem e_168_131 (I : Nat → Nat → Int32) (J : Nat → Nat → Int64) (D : Nat → Nat → UInt64) (v2 : Int32) (v3 : Int32) (v4 : Int32) (v5 : Int32) : ex (168, 131, [.ref 316, dv, .int v2, .int v3, .int v4, .int v5], [], mm I J D) = bif inb ((102 : Int32) + v3) 850 then (bif inb v5 340 then (ex (168, 150, [.ref 316, dv, .int v2, .int v3, dv, dv], [], mm (ups I 323 v5.toNatClampNeg ((I 317 ((102 : Int32) + v3).toNatClampNeg) + v4)) J D)) else none) else none := (ex_itr 12 _).trans rfl
set_option maxRecDepth 100000 in
theorem e_168_150 (I : Nat → Nat → Int32) (J : Nat → Nat → Int64) (D : Nat → Nat → UInt64) (v2 : Int32) (v3 : Int32) : ex (168, 150, [.ref 316, dv, .int v2, .int v3, dv, dv], [], mm I J D) = ex (168, 40, [.ref 316, dv, .int v2, .int (v3 + 1), dv, dv], [], mm I J D) := (ex_itr 2 _).trans rfl
set_option maxRecDepth 100000 in
theorem e_168_156 (I : Nat → Nat → Int32) (J : Nat → Nat → Int64) (D : Nat → Nat → UInt64) (v2 : Int32) : ex (168, 156, [.ref 316, dv, .int v2, dv, dv, dv], [], mm I J D) = ex (168, 32, [.ref 316, dv, .int (v2 + 1), dv, dv, dv], [], mm I J D) := (ex_itr 2 _).trans rfl
set_option maxRecDepth 100000 in
theorem e_168_162 (I : Nat → Nat → Int32) (J : Nat → Nat → Int64) (D : Nat → Nat → UInt64)  : ex (168, 162, [dv, dv, dv, dv, dv, dv], [], mm I J D) = some (.inl none, mm I J D) := (ex_itr 1 _).trans rfl
/-! GlacierBookModel.laysRing(III)V -/
set_option maxRecDepth 100000 in
theorem e_169_0 (I : Nat → Nat → Int32) (J : Nat → Nat → Int64) (D : Nat → Nat → UInt64) (v1 : Int32) (v2 : Int32) (v3 : Int32) : ex (169, 0, [.ref 316, .int v1, .int v2, .int v3, dv, dv, dv, dv], [], mm I J D) = cal 169 5 [.ref 316, dv, .int v2, .int v3, dv, dv, dv, dv] [] (ex (168, 0, [.ref 316, .int v1, dv, dv, dv, dv], [], mm I J D)) := (ex_itr 3 _).trans rfl
set_option maxRecDepth 100000 in
theorem e_169_5 (I : Nat → Nat → Int32) (J : Nat → Nat → Int64) (D : Nat → Nat → UInt64) (v2 : Int32) (v3 : Int32) : ex (169, 5, [.ref 316, dv, .int v2, .int v3, dv, dv, dv, dv], [], mm I J D) = ex (169, 8, [.ref 316, dv, .int v2, .int v3, .int 1, dv, dv, dv], [], mm I J D) := (ex_itr 2 _).trans rfl
set_option maxRecDepth 100000 in
theorem e_169_8 (I : Nat → Nat → Int32) (J : Nat → Nat → Int64) (D : Nat → Nat → UInt64) (v2 : Int32) (v3 : Int32) (v4 : Int32) : ex (169, 8, [.ref 316, dv, .int v2, .int v3, .int v4, dv, dv, dv], [], mm I J D) = bif inb (((17 : Int32) * v4) + v2) 340 then (bif decide ((I 323 (((17 : Int32) * v4) + v2).toNatClampNeg) = 100000000) then ex (169, 42, [.ref 316, dv, .int v2, .int v3, .int v4, dv, dv, dv], [], mm I J D) else ex (169, 25, [.ref 316, dv, .int v2, .int v3, .int v4, dv, dv, dv], [], mm I J D)) else none := (ex_itr 10 _).trans rfl
set_option maxRecDepth 100000 in
theorem e_169_25 (I : Nat → Nat → Int32) (J : Nat → Nat → Int64) (D : Nat → Nat → UInt64) (v2 : Int32) (v3 : Int32) (v4 : Int32) : ex (169, 25, [.ref 316, dv, .int v2, .int v3, .int v4, dv, dv, dv], [], mm I J D) = bif inb (((17 : Int32) * v4) + v2) 340 then (bif decide (((I 323 (((17 : Int32) * v4) + v2).toNatClampNeg) + v3) < 0) then ex (169, 48, [.ref 316, dv, .int v2, dv, .int v4, dv, dv, dv], [], mm I J D) else ex (169, 42, [.ref 316, dv, .int v2, .int v3, .int v4, dv, dv, dv], [], mm I J D)) else none := (ex_itr 11 _).trans rfl
set_option maxRecDepth 100000 in
theorem e_169_42 (I : Nat → Nat → Int32) (J : Nat → Nat → Int64) (D : Nat → Nat → UInt64) (v2 : Int32) (v3 : Int32) (v4 : Int32) : ex (169, 42, [.ref 316, dv, .int v2, .int v3, .int v4, dv, dv, dv], [], mm I J D) = ex (169, 8, [.ref 316, dv, .int v2, .int v3, .int (v4 + 1), dv, dv, dv], [], mm I J D) := (ex_itr 2 _).trans rfl
set_option maxRecDepth 100000 in
theorem e_169_48 (I : Nat → Nat → Int32) (J : Nat → Nat → Int64) (D : Nat → Nat → UInt64) (v2 : Int32) (v4 : Int32) : ex (169, 48, [.ref 316, dv, .int v2, dv, .int v4, dv, dv, dv], [], mm I J D) = ex (169, 70, [.ref 316, dv, dv, dv, .int v4, .int v2, .int v4, dv], [], mm (ups (ups I 319 0 (-1)) 316 6 (v4 + 1)) J D) := (ex_itr 14 _).trans rfl
set_option maxRecDepth 100000 in
theorem e_169_70 (I : Nat → Nat → Int32) (J : Nat → Nat → Int64) (D : Nat → Nat → UInt64) (v4 : Int32) (v5 : Int32) (v6 : Int32) : ex (169, 70, [.ref 316, dv, dv, dv, .int v4, .int v5, .int v6, dv], [], mm I J D) = bif decide (v6 ≤ 0) then ex (169, 129, [dv, dv, dv, dv, dv, dv, dv, dv], [], mm I J D) else ex (169, 75, [.ref 316, dv, dv, dv, .int v4, .int v5, .int v6, dv], [], mm I J D) := (ex_itr 2 _).trans rfl
set_option maxRecDepth 100000 in
theorem e_169_75 (I : Nat → Nat → Int32) (J : Nat → Nat → Int64) (D : Nat → Nat → UInt64) (v4 : Int32) (v5 : Int32) (v6 : Int32) : ex (169, 75, [.ref 316, dv, dv, dv, .int v4, .int v5, .int v6, dv], [], mm I J D) = ex (169, 78, [.ref 316, dv, dv, dv, .int v4, .int v5, .int v6, .int 0], [], mm I J D) := (ex_itr 2 _).trans rfl
set_option maxRecDepth 100000 in
theorem e_169_78 (I : Nat → Nat → Int32) (J : Nat → Nat → Int64) (D : Nat → Nat → UInt64) (v4 : Int32) (v5 : Int32) (v6 : Int32) (v7 : Int32) : ex (169, 78, [.ref 316, dv, dv, dv, .int v4, .int v5, .int v6, .int v7], [], mm I J D) = cal 169 88 [.ref 316, dv, dv, dv, .int v4, .int v5, .int v6, .int v7] [] (ex (170, 0, [.ref 316, .int v7, .int v5, .int v6, dv], [], mm I J D)) := (ex_itr 5 _).trans rfl
set_option maxRecDepth 100000 in
theorem e_169_88 (I : Nat → Nat → Int32) (J : Nat → Nat → Int64) (D : Nat → Nat → UInt64) (v4 : Int32) (v5 : Int32) (v6 : Int32) (v7 : Int32) (s0 : Int32) : ex (169, 88, [.ref 316, dv, dv, dv, .int v4, .int v5, .int v6, .int v7], [.int s0], mm I J D) = bif decide (s0 ≠ 0) then ex (169, 97, [.ref 316, dv, dv, dv, .int v4, dv, .int v6, .int v7], [], mm I J D) else ex (169, 91, [.ref 316, dv, dv, dv, .int v4, .int v5, .int v6, .int v7], [], mm I J D) := (ex_itr 1 _).trans rfl
set_option maxRecDepth 100000 in
theorem e_169_91 (I : Nat → Nat → Int32) (J : Nat → Nat → Int64) (D : Nat → Nat → UInt64) (v4 : Int32) (v5 : Int32) (v6 : Int32) (v7 : Int32) : ex (169, 91, [.ref 316, dv, dv, dv, .int v4, .int v5, .int v6, .int v7], [], mm I J D) = ex (169, 78, [.ref 316, dv, dv, dv, .int v4, .int v5, .int v6, .int (v7 + 1)], [], mm I J D) := (ex_itr 2 _).trans rfl
set_option maxRecDepth 100000 in
theorem e_169_97 (I : Nat → Nat → Int32) (J : Nat → Nat → Int64) (D : Nat → Nat → UInt64) (v4 : Int32) (v6 : Int32) (v7 : Int32) : ex (169, 97, [.ref 316, dv, dv, dv, .int v4, dv, .int v6, .int v7], [], mm I J D) = bif inb ((v4 - v6) + 1) 20 then (bif inb ((52 : Int32) + v7) 850 then (ex (169, 70, [.ref 316, dv, dv, dv, .int v4, .int ((ups I 319 (((v4 - v6) + 1).toNatClampNeg) v7) 317 ((52 : Int32) + v7).toNatClampNeg), .int (v6 + (-1)), dv], [], mm (ups I 319 (((v4 - v6) + 1).toNatClampNeg) v7) J D)) else none) else none := (ex_itr 18 _).trans rfl
set_option maxRecDepth 100000 in
theorem e_169_129 (I : Nat → Nat → Int32) (J : Nat → Nat → Int64) (D : Nat → Nat → UInt64)  : ex (169, 129, [dv, dv, dv, dv, dv, dv, dv, dv], [], mm I J D) = some (.inl none, mm I J D) := (ex_itr 1 _).trans rfl
/-! GlacierBookModel.leads(III)Z -/
set_option maxRecDepth 100000 in
theorem e_170_0 (I : Nat → Nat → Int32) (J : Nat → Nat → Int64) (D : Nat → Nat → UInt64) (v1 : Int32) (v2 : Int32) (v3 : Int32) : ex (170, 0, [.ref 316, .int v1, .int v2, .int v3, dv], [], mm I J D) = bif inb ((52 : Int32) + v1) 850 then (bif inb (((17 : Int32) * (v3 - 1)) + (I 317 ((52 : Int32) + v1).toNatClampNeg)) 340 then (bif inb ((152 : Int32) + v1) 850 then (bif decide ((I 317 ((152 : Int32) + v1).toNatClampNeg) ≠ 1) then ex (170, 86, [dv, dv, dv, dv, dv], [], mm I J D) else ex (170, 37, [.ref 316, .int v1, .int v2, .int v3, .int (I 323 (((17 : Int32) * (v3 - 1)) + (I 317 ((52 : Int32) + v1).toNatClampNeg)).toNatClampNeg)], [], mm I J D)) else none) else none) else none := (ex_itr 24 _).trans rfl
set_option maxRecDepth 100000 in
theorem e_170_37 (I : Nat → Nat → Int32) (J : Nat → Nat → Int64) (D : Nat → Nat → UInt64) (v1 : Int32) (v2 : Int32) (v3 : Int32) (v4 : Int32) : ex (170, 37, [.ref 316, .int v1, .int v2, .int v3, .int v4], [], mm I J D) = bif inb ((2 : Int32) + v1) 850 then (bif decide ((I 317 ((2 : Int32) + v1).toNatClampNeg) ≠ v2) then ex (170, 86, [dv, dv, dv, dv, dv], [], mm I J D) else ex (170, 49, [.ref 316, .int v1, .int v2, .int v3, .int v4], [], mm I J D)) else none := (ex_itr 8 _).trans rfl
set_option maxRecDepth 100000 in
theorem e_170_49 (I : Nat → Nat → Int32) (J : Nat → Nat → Int64) (D : Nat → Nat → UInt64) (v1 : Int32) (v2 : Int32) (v3 : Int32) (v4 : Int32) : ex (170, 49, [.ref 316, .int v1, .int v2, .int v3, .int v4], [], mm I J D) = bif decide (v4 = 100000000) then ex (170, 86, [dv, dv, dv, dv, dv], [], mm I J D) else ex (170, 56, [.ref 316, .int v1, .int v2, .int v3, .int v4], [], mm I J D) := (ex_itr 3 _).trans rfl
set_option maxRecDepth 100000 in
theorem e_170_56 (I : Nat → Nat → Int32) (J : Nat → Nat → Int64) (D : Nat → Nat → UInt64) (v1 : Int32) (v2 : Int32) (v3 : Int32) (v4 : Int32) : ex (170, 56, [.ref 316, .int v1, .int v2, .int v3, .int v4], [], mm I J D) = bif inb ((102 : Int32) + v1) 850 then (bif inb (((17 : Int32) * v3) + v2) 340 then (bif decide (((I 317 ((102 : Int32) + v1).toNatClampNeg) + v4) ≠ (I 323 (((17 : Int32) * v3) + v2).toNatClampNeg)) then ex (170, 86, [dv, dv, dv, dv, dv], [], mm I J D) else ex (170, 82, [dv, dv, dv, dv, dv], [], mm I J D)) else none) else none := (ex_itr 17 _).trans rfl
set_option maxRecDepth 100000 in
theorem e_170_82 (I : Nat → Nat → Int32) (J : Nat → Nat → Int64) (D : Nat → Nat → UInt64)  : ex (170, 82, [dv, dv, dv, dv, dv], [], mm I J D) = ex (170, 87, [dv, dv, dv, dv, dv], [.int 1], mm I J D) := (ex_itr 2 _).trans rfl
set_option maxRecDepth 100000 in
theorem e_170_86 (I : Nat → Nat → Int32) (J : Nat → Nat → Int64) (D : Nat → Nat → UInt64)  : ex (170, 86, [dv, dv, dv, dv, dv], [], mm I J D) = ex (170, 87, [dv, dv, dv, dv, dv], [.int 0], mm I J D) := (ex_itr 1 _).trans rfl
set_option maxRecDepth 100000 in
theorem e_170_87 (I : Nat → Nat → Int32) (J : Nat → Nat → Int64) (D : Nat → Nat → UInt64) (s0 : Int32) : ex (170, 87, [dv, dv, dv, dv, dv], [.int s0], mm I J D) = bif decide (s0 = 0 ∨ s0 = 1) then (some (.inl (some (.int s0)), mm I J D)) else none := (ex_itr 1 _).trans rfl
/-! GlacierBookModel.bounds(IIIZ)I -/
set_option maxRecDepth 100000 in
theorem e_171_0 (I : Nat → Nat → Int32) (J : Nat → Nat → Int64) (D : Nat → Nat → UInt64) (v1 : Int32) (v2 : Int32) (v3 : Int32) (v4 : Int32) : ex (171, 0, [.ref 316, .int v1, .int v2, .int v3, .int v4, dv, dv, dv, dv, dv], [], mm I J D) = cal 171 6 [.ref 316, .int v1, .int v2, .int v3, .int v4, dv, dv, dv, dv, dv] [.ref 316] (ex (165, 0, [.ref 316, .int v1], [], mm I J D)) := (ex_itr 4 _).trans rfl
set_option maxRecDepth 100000 in
theorem e_171_6 (I : Nat → Nat → Int32) (J : Nat → Nat → Int64) (D : Nat → Nat → UInt64) (v1 : Int32) (v2 : Int32) (v3 : Int32) (v4 : Int32) (s0 : Int32) : ex (171, 6, [.ref 316, .int v1, .int v2, .int v3, .int v4, dv, dv, dv, dv, dv], [.int s0, .ref 316], mm I J D) = bif decide (s0 = 0) then ex (171, 21, [.ref 316, .int v1, .int v2, .int v3, .int v4, dv, dv, dv, dv, dv], [.ref 316], mm I J D) else ex (171, 9, [.ref 316, .int v1, .int v2, .int v3, .int v4, dv, dv, dv, dv, dv], [.ref 316], mm I J D) := (ex_itr 1 _).trans rfl
set_option maxRecDepth 100000 in
theorem e_171_9 (I : Nat → Nat → Int32) (J : Nat → Nat → Int64) (D : Nat → Nat → UInt64) (v1 : Int32) (v2 : Int32) (v3 : Int32) (v4 : Int32) : ex (171, 9, [.ref 316, .int v1, .int v2, .int v3, .int v4, dv, dv, dv, dv, dv], [.ref 316], mm I J D) = cal 171 14 [.ref 316, .int v1, .int v2, .int v3, .int v4, dv, dv, dv, dv, dv] [.ref 316] (ex (165, 0, [.ref 316, .int v2], [], mm I J D)) := (ex_itr 3 _).trans rfl
set_option maxRecDepth 100000 in
theorem e_171_14 (I : Nat → Nat → Int32) (J : Nat → Nat → Int64) (D : Nat → Nat → UInt64) (v1 : Int32) (v2 : Int32) (v3 : Int32) (v4 : Int32) (s0 : Int32) : ex (171, 14, [.ref 316, .int v1, .int v2, .int v3, .int v4, dv, dv, dv, dv, dv], [.int s0, .ref 316], mm I J D) = bif decide (s0 = 0) then ex (171, 21, [.ref 316, .int v1, .int v2, .int v3, .int v4, dv, dv, dv, dv, dv], [.ref 316], mm I J D) else ex (171, 17, [.ref 316, .int v1, .int v2, .int v3, .int v4, dv, dv, dv, dv, dv], [.ref 316], mm I J D) := (ex_itr 1 _).trans rfl
set_option maxRecDepth 100000 in
theorem e_171_17 (I : Nat → Nat → Int32) (J : Nat → Nat → Int64) (D : Nat → Nat → UInt64) (v1 : Int32) (v2 : Int32) (v3 : Int32) (v4 : Int32) : ex (171, 17, [.ref 316, .int v1, .int v2, .int v3, .int v4, dv, dv, dv, dv, dv], [.ref 316], mm I J D) = ex (171, 22, [.ref 316, .int v1, .int v2, .int v3, .int v4, dv, dv, dv, dv, dv], [.int 1, .ref 316], mm I J D) := (ex_itr 2 _).trans rfl
set_option maxRecDepth 100000 in
theorem e_171_21 (I : Nat → Nat → Int32) (J : Nat → Nat → Int64) (D : Nat → Nat → UInt64) (v1 : Int32) (v2 : Int32) (v3 : Int32) (v4 : Int32) : ex (171, 21, [.ref 316, .int v1, .int v2, .int v3, .int v4, dv, dv, dv, dv, dv], [.ref 316], mm I J D) = ex (171, 22, [.ref 316, .int v1, .int v2, .int v3, .int v4, dv, dv, dv, dv, dv], [.int 0, .ref 316], mm I J D) := (ex_itr 1 _).trans rfl
set_option maxRecDepth 100000 in
theorem e_171_22 (I : Nat → Nat → Int32) (J : Nat → Nat → Int64) (D : Nat → Nat → UInt64) (v1 : Int32) (v2 : Int32) (v3 : Int32) (v4 : Int32) (s0 : Int32) : ex (171, 22, [.ref 316, .int v1, .int v2, .int v3, .int v4, dv, dv, dv, dv, dv], [.int s0, .ref 316], mm I J D) = cal 171 26 [.ref 316, .int v1, .int v2, .int v3, .int v4, dv, dv, dv, dv, dv] [] (ex (156, 0, [.ref 316, .int s0, .int 1], [], mm I J D)) := (ex_itr 2 _).trans rfl
set_option maxRecDepth 100000 in
theorem e_171_26 (I : Nat → Nat → Int32) (J : Nat → Nat → Int64) (D : Nat → Nat → UInt64) (v1 : Int32) (v2 : Int32) (v3 : Int32) (v4 : Int32) (s0 : Int32) : ex (171, 26, [.ref 316, .int v1, .int v2, .int v3, .int v4, dv, dv, dv, dv, dv], [.int s0], mm I J D) = bif decide (s0 = 0) then ex (171, 84, [dv, dv, dv, dv, dv, dv, dv, dv, dv, dv], [], mm I J D) else ex (171, 29, [.ref 316, .int v1, .int v2, .int v3, .int v4, dv, dv, dv, dv, dv], [], mm I J D) := (ex_itr 1 _).trans rfl
set_option maxRecDepth 100000 in
theorem e_171_29 (I : Nat → Nat → Int32) (J : Nat → Nat → Int64) (D : Nat → Nat → UInt64) (v1 : Int32) (v2 : Int32) (v3 : Int32) (v4 : Int32) : ex (171, 29, [.ref 316, .int v1, .int v2, .int v3, .int v4, dv, dv, dv, dv, dv], [], mm I J D) = bif decide (v1 = v2) then ex (171, 52, [.ref 316, .int v1, .int v2, .int v3, .int v4, dv, dv, dv, dv, dv], [.ref 316], mm I J D) else ex (171, 35, [.ref 316, .int v1, .int v2, .int v3, .int v4, dv, dv, dv, dv, dv], [.ref 316], mm I J D) := (ex_itr 4 _).trans rfl
set_option maxRecDepth 100000 in
theorem e_171_35 (I : Nat → Nat → Int32) (J : Nat → Nat → Int64) (D : Nat → Nat → UInt64) (v1 : Int32) (v2 : Int32) (v3 : Int32) (v4 : Int32) : ex (171, 35, [.ref 316, .int v1, .int v2, .int v3, .int v4, dv, dv, dv, dv, dv], [.ref 316], mm I J D) = cal 171 45 [.ref 316, .int v1, .int v2, .int v3, .int v4, dv, dv, dv, dv, dv] [.ref 316] (ex (157, 0, [.int v3, .int (-9999), .int 9999], [], mm I J D)) := (ex_itr 4 _).trans rfl
set_option maxRecDepth 100000 in
theorem e_171_45 (I : Nat → Nat → Int32) (J : Nat → Nat → Int64) (D : Nat → Nat → UInt64) (v1 : Int32) (v2 : Int32) (v3 : Int32) (v4 : Int32) (s0 : Int32) : ex (171, 45, [.ref 316, .int v1, .int v2, .int v3, .int v4, dv, dv, dv, dv, dv], [.int s0, .ref 316], mm I J D) = bif decide (s0 = 0) then ex (171, 52, [.ref 316, .int v1, .int v2, .int v3, .int v4, dv, dv, dv, dv, dv], [.ref 316], mm I J D) else ex (171, 48, [.ref 316, .int v1, .int v2, .int v3, .int v4, dv, dv, dv, dv, dv], [.ref 316], mm I J D) := (ex_itr 1 _).trans rfl
set_option maxRecDepth 100000 in
theorem e_171_48 (I : Nat → Nat → Int32) (J : Nat → Nat → Int64) (D : Nat → Nat → UInt64) (v1 : Int32) (v2 : Int32) (v3 : Int32) (v4 : Int32) : ex (171, 48, [.ref 316, .int v1, .int v2, .int v3, .int v4, dv, dv, dv, dv, dv], [.ref 316], mm I J D) = ex (171, 53, [.ref 316, .int v1, .int v2, .int v3, .int v4, dv, dv, dv, dv, dv], [.int 1, .ref 316], mm I J D) := (ex_itr 2 _).trans rfl
set_option maxRecDepth 100000 in
theorem e_171_52 (I : Nat → Nat → Int32) (J : Nat → Nat → Int64) (D : Nat → Nat → UInt64) (v1 : Int32) (v2 : Int32) (v3 : Int32) (v4 : Int32) : ex (171, 52, [.ref 316, .int v1, .int v2, .int v3, .int v4, dv, dv, dv, dv, dv], [.ref 316], mm I J D) = ex (171, 53, [.ref 316, .int v1, .int v2, .int v3, .int v4, dv, dv, dv, dv, dv], [.int 0, .ref 316], mm I J D) := (ex_itr 1 _).trans rfl
set_option maxRecDepth 100000 in
theorem e_171_53 (I : Nat → Nat → Int32) (J : Nat → Nat → Int64) (D : Nat → Nat → UInt64) (v1 : Int32) (v2 : Int32) (v3 : Int32) (v4 : Int32) (s0 : Int32) : ex (171, 53, [.ref 316, .int v1, .int v2, .int v3, .int v4, dv, dv, dv, dv, dv], [.int s0, .ref 316], mm I J D) = cal 171 57 [.ref 316, .int v1, .int v2, .int v3, .int v4, dv, dv, dv, dv, dv] [] (ex (156, 0, [.ref 316, .int s0, .int 2], [], mm I J D)) := (ex_itr 2 _).trans rfl
set_option maxRecDepth 100000 in
theorem e_171_57 (I : Nat → Nat → Int32) (J : Nat → Nat → Int64) (D : Nat → Nat → UInt64) (v1 : Int32) (v2 : Int32) (v3 : Int32) (v4 : Int32) (s0 : Int32) : ex (171, 57, [.ref 316, .int v1, .int v2, .int v3, .int v4, dv, dv, dv, dv, dv], [.int s0], mm I J D) = bif decide (s0 = 0) then ex (171, 84, [dv, dv, dv, dv, dv, dv, dv, dv, dv, dv], [], mm I J D) else ex (171, 60, [.ref 316, .int v1, .int v2, .int v3, .int v4, dv, dv, dv, dv, dv], [], mm I J D) := (ex_itr 1 _).trans rfl
set_option maxRecDepth 100000 in
theorem e_171_60 (I : Nat → Nat → Int32) (J : Nat → Nat → Int64) (D : Nat → Nat → UInt64) (v1 : Int32) (v2 : Int32) (v3 : Int32) (v4 : Int32) : ex (171, 60, [.ref 316, .int v1, .int v2, .int v3, .int v4, dv, dv, dv, dv, dv], [], mm I J D) = bif decide (50 ≤ (I 317 1)) then ex (171, 76, [.ref 316, .int v1, .int v2, .int v3, .int v4, dv, dv, dv, dv, dv], [.ref 316], mm I J D) else ex (171, 72, [.ref 316, .int v1, .int v2, .int v3, .int v4, dv, dv, dv, dv, dv], [.ref 316], mm I J D) := (ex_itr 7 _).trans rfl
set_option maxRecDepth 100000 in
theorem e_171_72 (I : Nat → Nat → Int32) (J : Nat → Nat → Int64) (D : Nat → Nat → UInt64) (v1 : Int32) (v2 : Int32) (v3 : Int32) (v4 : Int32) : ex (171, 72, [.ref 316, .int v1, .int v2, .int v3, .int v4, dv, dv, dv, dv, dv], [.ref 316], mm I J D) = ex (171, 77, [.ref 316, .int v1, .int v2, .int v3, .int v4, dv, dv, dv, dv, dv], [.int 1, .ref 316], mm I J D) := (ex_itr 2 _).trans rfl
set_option maxRecDepth 100000 in
theorem e_171_76 (I : Nat → Nat → Int32) (J : Nat → Nat → Int64) (D : Nat → Nat → UInt64) (v1 : Int32) (v2 : Int32) (v3 : Int32) (v4 : Int32) : ex (171, 76, [.ref 316, .int v1, .int v2, .int v3, .int v4, dv, dv, dv, dv, dv], [.ref 316], mm I J D) = ex (171, 77, [.ref 316, .int v1, .int v2, .int v3, .int v4, dv, dv, dv, dv, dv], [.int 0, .ref 316], mm I J D) := (ex_itr 1 _).trans rfl
set_option maxRecDepth 100000 in
theorem e_171_77 (I : Nat → Nat → Int32) (J : Nat → Nat → Int64) (D : Nat → Nat → UInt64) (v1 : Int32) (v2 : Int32) (v3 : Int32) (v4 : Int32) (s0 : Int32) : ex (171, 77, [.ref 316, .int v1, .int v2, .int v3, .int v4, dv, dv, dv, dv, dv], [.int s0, .ref 316], mm I J D) = cal 171 81 [.ref 316, .int v1, .int v2, .int v3, .int v4, dv, dv, dv, dv, dv] [] (ex (156, 0, [.ref 316, .int s0, .int 3], [], mm I J D)) := (ex_itr 2 _).trans rfl
set_option maxRecDepth 100000 in
theorem e_171_81 (I : Nat → Nat → Int32) (J : Nat → Nat → Int64) (D : Nat → Nat → UInt64) (v1 : Int32) (v2 : Int32) (v3 : Int32) (v4 : Int32) (s0 : Int32) : ex (171, 81, [.ref 316, .int v1, .int v2, .int v3, .int v4, dv, dv, dv, dv, dv], [.int s0], mm I J D) = bif decide (s0 ≠ 0) then ex (171, 86, [.ref 316, .int v1, .int v2, .int v3, .int v4, dv, dv, dv, dv, dv], [], mm I J D) else ex (171, 84, [dv, dv, dv, dv, dv, dv, dv, dv, dv, dv], [], mm I J D) := (ex_itr 1 _).trans rfl
set_option maxRecDepth 100000 in
theorem e_171_84 (I : Nat → Nat → Int32) (J : Nat → Nat → Int64) (D : Nat → Nat → UInt64)  : ex (171, 84, [dv, dv, dv, dv, dv, dv, dv, dv, dv, dv], [], mm I J D) = some (.inl (some (.int 0)), mm I J D) := (ex_itr 2 _).trans rfl
set_option maxRecDepth 100000 in
theorem e_171_86 (I : Nat → Nat → Int32) (J : Nat → Nat → Int64) (D : Nat → Nat → UInt64) (v1 : Int32) (v2 : Int32) (v3 : Int32) (v4 : Int32) : ex (171, 86, [.ref 316, .int v1, .int v2, .int v3, .int v4, dv, dv, dv, dv, dv], [], mm I J D) = bif decide (v4 = 0) then ex (171, 95, [.ref 316, .int v1, .int v2, .int v3, .int v4, dv, dv, dv, dv, dv], [], mm I J D) else ex (171, 91, [.ref 316, .int v1, .int v2, .int v3, .int v4, dv, dv, dv, dv, dv], [], mm I J D) := (ex_itr 2 _).trans rfl
set_option maxRecDepth 100000 in
theorem e_171_91 (I : Nat → Nat → Int32) (J : Nat → Nat → Int64) (D : Nat → Nat → UInt64) (v1 : Int32) (v2 : Int32) (v3 : Int32) (v4 : Int32) : ex (171, 91, [.ref 316, .int v1, .int v2, .int v3, .int v4, dv, dv, dv, dv, dv], [], mm I J D) = ex (171, 96, [.ref 316, .int v1, .int v2, .int v3, .int v4, dv, dv, dv, dv, dv], [.int v2], mm I J D) := (ex_itr 2 _).trans rfl
set_option maxRecDepth 100000 in
theorem e_171_95 (I : Nat → Nat → Int32) (J : Nat → Nat → Int64) (D : Nat → Nat → UInt64) (v1 : Int32) (v2 : Int32) (v3 : Int32) (v4 : Int32) : ex (171, 95, [.ref 316, .int v1, .int v2, .int v3, .int v4, dv, dv, dv, dv, dv], [], mm I J D) = ex (171, 96, [.ref 316, .int v1, .int v2, .int v3, .int v4, dv, dv, dv, dv, dv], [.int v1], mm I J D) := (ex_itr 1 _).trans rfl
set_option maxRecDepth 100000 in
theorem e_171_96 (I : Nat → Nat → Int32) (J : Nat → Nat → Int64) (D : Nat → Nat → UInt64) (v1 : Int32) (v2 : Int32) (v3 : Int32) (v4 : Int32) (s0 : Int32) : ex (171, 96, [.ref 316, .int v1, .int v2, .int v3, .int v4, dv, dv, dv, dv, dv], [.int s0], mm I J D) = bif decide (v4 = 0) then ex (171, 107, [.ref 316, dv, .int v2, .int v3, .int v4, .int s0, dv, dv, dv, dv], [], mm I J D) else ex (171, 103, [.ref 316, .int v1, dv, .int v3, .int v4, .int s0, dv, dv, dv, dv], [], mm I J D) := (ex_itr 3 _).trans rfl
set_option maxRecDepth 100000 in
theorem e_171_103 (I : Nat → Nat → Int32) (J : Nat → Nat → Int64) (D : Nat → Nat → UInt64) (v1 : Int32) (v3 : Int32) (v4 : Int32) (v5 : Int32) : ex (171, 103, [.ref 316, .int v1, dv, .int v3, .int v4, .int v5, dv, dv, dv, dv], [], mm I J D) = ex (171, 108, [.ref 316, dv, dv, .int v3, .int v4, .int v5, dv, dv, dv, dv], [.int v1], mm I J D) := (ex_itr 2 _).trans rfl
set_option maxRecDepth 100000 in
theorem e_171_107 (I : Nat → Nat → Int32) (J : Nat → Nat → Int64) (D : Nat → Nat → UInt64) (v2 : Int32) (v3 : Int32) (v4 : Int32) (v5 : Int32) : ex (171, 107, [.ref 316, dv, .int v2, .int v3, .int v4, .int v5, dv, dv, dv, dv], [], mm I J D) = ex (171, 108, [.ref 316, dv, dv, .int v3, .int v4, .int v5, dv, dv, dv, dv], [.int v2], mm I J D) := (ex_itr 1 _).trans rfl
set_option maxRecDepth 100000 in
theorem e_171_108 (I : Nat → Nat → Int32) (J : Nat → Nat → Int64) (D : Nat → Nat → UInt64) (v3 : Int32) (v4 : Int32) (v5 : Int32) (s0 : Int32) : ex (171, 108, [.ref 316, dv, dv, .int v3, .int v4, .int v5, dv, dv, dv, dv], [.int s0], mm I J D) = bif decide (v4 = 0) then ex (171, 120, [.ref 316, dv, dv, .int v3, dv, .int v5, .int s0, dv, dv, dv], [], mm I J D) else ex (171, 115, [.ref 316, dv, dv, .int v3, dv, .int v5, .int s0, dv, dv, dv], [], mm I J D) := (ex_itr 3 _).trans rfl
set_option maxRecDepth 100000 in
theorem e_171_115 (I : Nat → Nat → Int32) (J : Nat → Nat → Int64) (D : Nat → Nat → UInt64) (v3 : Int32) (v5 : Int32) (v6 : Int32) : ex (171, 115, [.ref 316, dv, dv, .int v3, dv, .int v5, .int v6, dv, dv, dv], [], mm I J D) = ex (171, 121, [.ref 316, dv, dv, dv, dv, .int v5, .int v6, dv, dv, dv], [.int (-v3)], mm I J D) := (ex_itr 3 _).trans rfl
set_option maxRecDepth 100000 in
theorem e_171_120 (I : Nat → Nat → Int32) (J : Nat → Nat → Int64) (D : Nat → Nat → UInt64) (v3 : Int32) (v5 : Int32) (v6 : Int32) : ex (171, 120, [.ref 316, dv, dv, .int v3, dv, .int v5, .int v6, dv, dv, dv], [], mm I J D) = ex (171, 121, [.ref 316, dv, dv, dv, dv, .int v5, .int v6, dv, dv, dv], [.int v3], mm I J D) := (ex_itr 1 _).trans rfl
set_option maxRecDepth 100000 in
theorem e_171_121 (I : Nat → Nat → Int32) (J : Nat → Nat → Int64) (D : Nat → Nat → UInt64) (v5 : Int32) (v6 : Int32) (s0 : Int32) : ex (171, 121, [.ref 316, dv, dv, dv, dv, .int v5, .int v6, dv, dv, dv], [.int s0], mm I J D) = cal 171 128 [.ref 316, dv, dv, dv, dv, .int v5, .int v6, .int s0, dv, dv] [] (ex (167, 0, [.ref 316, .int (-1), dv, dv, dv, dv, dv], [], mm I J D)) := (ex_itr 4 _).trans rfl
set_option maxRecDepth 100000 in
theorem e_171_128 (I : Nat → Nat → Int32) (J : Nat → Nat → Int64) (D : Nat → Nat → UInt64) (v5 : Int32) (v6 : Int32) (v7 : Int32) : ex (171, 128, [.ref 316, dv, dv, dv, dv, .int v5, .int v6, .int v7, dv, dv], [], mm I J D) = bif inb (((17 : Int32) * v6) + v5) 289 then (bif decide ((I 321 (((17 : Int32) * v6) + v5).toNatClampNeg) = 100000000) then ex (171, 159, [.ref 316, dv, dv, dv, dv, .int v5, .int v6, .int v7, dv, dv], [.ref 316], mm I J D) else ex (171, 151, [.ref 316, dv, dv, dv, dv, .int v5, .int v6, .int v7, .int (I 321 (((17 : Int32) * v6) + v5).toNatClampNeg), dv], [.ref 316], mm I J D)) else none := (ex_itr 13 _).trans rfl
set_option maxRecDepth 100000 in
theorem e_171_151 (I : Nat → Nat → Int32) (J : Nat → Nat → Int64) (D : Nat → Nat → UInt64) (v5 : Int32) (v6 : Int32) (v7 : Int32) (v8 : Int32) : ex (171, 151, [.ref 316, dv, dv, dv, dv, .int v5, .int v6, .int v7, .int v8, dv], [.ref 316], mm I J D) = bif decide ((v8 + v7) < 0) then ex (171, 163, [.ref 316, dv, dv, dv, dv, .int v5, .int v6, .int v7, dv, dv], [.ref 316], mm I J D) else ex (171, 159, [.ref 316, dv, dv, dv, dv, .int v5, .int v6, .int v7, dv, dv], [.ref 316], mm I J D) := (ex_itr 4 _).trans rfl
set_option maxRecDepth 100000 in
theorem e_171_159 (I : Nat → Nat → Int32) (J : Nat → Nat → Int64) (D : Nat → Nat → UInt64) (v5 : Int32) (v6 : Int32) (v7 : Int32) : ex (171, 159, [.ref 316, dv, dv, dv, dv, .int v5, .int v6, .int v7, dv, dv], [.ref 316], mm I J D) = ex (171, 164, [.ref 316, dv, dv, dv, dv, .int v5, .int v6, .int v7, dv, dv], [.int 1, .ref 316], mm I J D) := (ex_itr 2 _).trans rfl
set_option maxRecDepth 100000 in
theorem e_171_163 (I : Nat → Nat → Int32) (J : Nat → Nat → Int64) (D : Nat → Nat → UInt64) (v5 : Int32) (v6 : Int32) (v7 : Int32) : ex (171, 163, [.ref 316, dv, dv, dv, dv, .int v5, .int v6, .int v7, dv, dv], [.ref 316], mm I J D) = ex (171, 164, [.ref 316, dv, dv, dv, dv, .int v5, .int v6, .int v7, dv, dv], [.int 0, .ref 316], mm I J D) := (ex_itr 1 _).trans rfl
set_option maxRecDepth 100000 in
theorem e_171_164 (I : Nat → Nat → Int32) (J : Nat → Nat → Int64) (D : Nat → Nat → UInt64) (v5 : Int32) (v6 : Int32) (v7 : Int32) (s0 : Int32) : ex (171, 164, [.ref 316, dv, dv, dv, dv, .int v5, .int v6, .int v7, dv, dv], [.int s0, .ref 316], mm I J D) = cal 171 168 [.ref 316, dv, dv, dv, dv, .int v5, .int v6, .int v7, dv, dv] [] (ex (156, 0, [.ref 316, .int s0, .int 3], [], mm I J D)) := (ex_itr 2 _).trans rfl
set_option maxRecDepth 100000 in
theorem e_171_168 (I : Nat → Nat → Int32) (J : Nat → Nat → Int64) (D : Nat → Nat → UInt64) (v5 : Int32) (v6 : Int32) (v7 : Int32) (s0 : Int32) : ex (171, 168, [.ref 316, dv, dv, dv, dv, .int v5, .int v6, .int v7, dv, dv], [.int s0], mm I J D) = bif decide (s0 ≠ 0) then ex (171, 183, [.ref 316, dv, dv, dv, dv, .int v5, .int v6, .int v7, dv, dv], [], mm I J D) else ex (171, 171, [.ref 316, dv, dv, dv, dv, .int v5, .int v6, .int v7, dv, dv], [], mm I J D) := (ex_itr 1 _).trans rfl
set_option maxRecDepth 100000 in
theorem e_171_171 (I : Nat → Nat → Int32) (J : Nat → Nat → Int64) (D : Nat → Nat → UInt64) (v5 : Int32) (v6 : Int32) (v7 : Int32) : ex (171, 171, [.ref 316, dv, dv, dv, dv, .int v5, .int v6, .int v7, dv, dv], [], mm I J D) = cal 171 181 [dv, dv, dv, dv, dv, dv, dv, dv, dv, dv] [] (ex (169, 0, [.ref 316, .int v5, .int v6, .int v7, dv, dv, dv, dv], [], mm I J D)) := (ex_itr 5 _).trans rfl
set_option maxRecDepth 100000 in
theorem e_171_181 (I : Nat → Nat → Int32) (J : Nat → Nat → Int64) (D : Nat → Nat → UInt64)  : ex (171, 181, [dv, dv, dv, dv, dv, dv, dv, dv, dv, dv], [], mm I J D) = some (.inl (some (.int 0)), mm I J D) := (ex_itr 2 _).trans rfl
set_option maxRecDepth 100000 in
theorem e_171_183 (I : Nat → Nat → Int32) (J : Nat → Nat → Int64) (D : Nat → Nat → UInt64) (v5 : Int32) (v6 : Int32) (v7 : Int32) : ex (171, 183, [.ref 316, dv, dv, dv, dv, .int v5, .int v6, .int v7, dv, dv], [], mm I J D) = cal 171 187 [.ref 316, dv, dv, dv, dv, .int v5, .int v6, .int v7, dv, dv] [] (ex (161, 0, [.ref 316, dv, dv], [], mm I J D)) := (ex_itr 2 _).trans rfl
set_option maxRecDepth 100000 in
theorem e_171_187 (I : Nat → Nat → Int32) (J : Nat → Nat → Int64) (D : Nat → Nat → UInt64) (v5 : Int32) (v6 : Int32) (v7 : Int32) : ex (171, 187, [.ref 316, dv, dv, dv, dv, .int v5, .int v6, .int v7, dv, dv], [], mm I J D) = bif inb ((2 : Int32) + (I 317 1)) 850 then (bif inb ((52 : Int32) + (I 317 1)) 850 then (bif inb ((102 : Int32) + (I 317 1)) 850 then (bif inb ((152 : Int32) + (I 317 1)) 850 then (some (.inl (some (.int (I 317 1))), mm (ups (ups (ups (ups (ups I 317 1 ((I 317 1) + 1)) 317 (((2 : Int32) + (I 317 1)).toNatClampNeg) v5) 317 (((52 : Int32) + (I 317 1)).toNatClampNeg) v6) 317 (((102 : Int32) + (I 317 1)).toNatClampNeg) v7) 317 (((152 : Int32) + (I 317 1)).toNatClampNeg) 1) J D)) else none) else none) else none) else none := (ex_itr 43 _).trans rfl
/-! GlacierBookModel.least(III)I -/
set_option maxRecDepth 100000 in
theorem e_172_0 (I : Nat → Nat → Int32) (J : Nat → Nat → Int64) (D : Nat → Nat → UInt64) (v1 : Int32) (v2 : Int32) (v3 : Int32) : ex (172, 0, [.ref 316, .int v1, .int v2, .int v3], [], mm I J D) = cal 172 8 [dv, dv, dv, dv] [] (ex (171, 0, [.ref 316, .int v1, .int v2, .int v3, .int 1, dv, dv, dv, dv, dv], [], mm I J D)) := (ex_itr 6 _).trans rfl
set_option maxRecDepth 100000 in
theorem e_172_8 (I : Nat → Nat → Int32) (J : Nat → Nat → Int64) (D : Nat → Nat → UInt64) (s0 : Int32) : ex (172, 8, [dv, dv, dv, dv], [.int s0], mm I J D) = some (.inl (some (.int s0)), mm I J D) := (ex_itr 1 _).trans rfl
/-! GlacierBookModel.most(III)I -/
set_option maxRecDepth 100000 in
theorem e_173_0 (I : Nat → Nat → Int32) (J : Nat → Nat → Int64) (D : Nat → Nat → UInt64) (v1 : Int32) (v2 : Int32) (v3 : Int32) : ex (173, 0, [.ref 316, .int v1, .int v2, .int v3], [], mm I J D) = cal 173 8 [dv, dv, dv, dv] [] (ex (171, 0, [.ref 316, .int v1, .int v2, .int v3, .int 0, dv, dv, dv, dv, dv], [], mm I J D)) := (ex_itr 6 _).trans rfl
set_option maxRecDepth 100000 in
theorem e_173_8 (I : Nat → Nat → Int32) (J : Nat → Nat → Int64) (D : Nat → Nat → UInt64) (s0 : Int32) : ex (173, 8, [dv, dv, dv, dv], [.int s0], mm I J D) = some (.inl (some (.int s0)), mm I J D) := (ex_itr 1 _).trans rfl
/-! GlacierBookModel.boundsLeft()I -/
set_option maxRecDepth 100000 in
theorem e_174_0 (I : Nat → Nat → Int32) (J : Nat → Nat → Int64) (D : Nat → Nat → UInt64)  : ex (174, 0, [.ref 316, dv, dv], [], mm I J D) = ex (174, 4, [.ref 316, .int 0, .int 0], [], mm I J D) := (ex_itr 4 _).trans rfl
set_option maxRecDepth 100000 in
theorem e_174_4 (I : Nat → Nat → Int32) (J : Nat → Nat → Int64) (D : Nat → Nat → UInt64) (v1 : Int32) (v2 : Int32) : ex (174, 4, [.ref 316, .int v1, .int v2], [], mm I J D) = bif decide ((I 317 1) ≤ v2) then ex (174, 33, [dv, .int v1, dv], [], mm I J D) else ex (174, 14, [.ref 316, .int v1, .int v2], [], mm I J D) := (ex_itr 6 _).trans rfl
set_option maxRecDepth 100000 in
theorem e_174_14 (I : Nat → Nat → Int32) (J : Nat → Nat → Int64) (D : Nat → Nat → UInt64) (v1 : Int32) (v2 : Int32) : ex (174, 14, [.ref 316, .int v1, .int v2], [], mm I J D) = bif inb ((152 : Int32) + v2) 850 then (ex (174, 4, [.ref 316, .int (v1 + (I 317 ((152 : Int32) + v2).toNatClampNeg)), .int (v2 + 1)], [], mm I J D)) else none := (ex_itr 11 _).trans rfl
set_option maxRecDepth 100000 in
theorem e_174_33 (I : Nat → Nat → Int32) (J : Nat → Nat → Int64) (D : Nat → Nat → UInt64) (v1 : Int32) : ex (174, 33, [dv, .int v1, dv], [], mm I J D) = some (.inl (some (.int v1)), mm I J D) := (ex_itr 2 _).trans rfl
/-! GlacierBookModel.isBound(I)Z -/
set_option maxRecDepth 100000 in
theorem e_175_0 (I : Nat → Nat → Int32) (J : Nat → Nat → Int64) (D : Nat → Nat → UInt64) (v1 : Int32) : ex (175, 0, [.ref 316, .int v1], [], mm I J D) = cal 175 14 [.ref 316, .int v1] [.ref 316] (ex (157, 0, [.int v1, .int 0, .int ((I 317 1) - 1)], [], mm I J D)) := (ex_itr 10 _).trans rfl
set_option maxRecDepth 100000 in
theorem e_175_14 (I : Nat → Nat → Int32) (J : Nat → Nat → Int64) (D : Nat → Nat → UInt64) (v1 : Int32) (s0 : Int32) : ex (175, 14, [.ref 316, .int v1], [.int s0, .ref 316], mm I J D) = cal 175 18 [.ref 316, .int v1] [] (ex (156, 0, [.ref 316, .int s0, .int 1], [], mm I J D)) := (ex_itr 2 _).trans rfl
set_option maxRecDepth 100000 in
theorem e_175_18 (I : Nat → Nat → Int32) (J : Nat → Nat → Int64) (D : Nat → Nat → UInt64) (v1 : Int32) (s0 : Int32) : ex (175, 18, [.ref 316, .int v1], [.int s0], mm I J D) = bif decide (s0 = 0) then ex (175, 52, [dv, dv], [], mm I J D) else ex (175, 21, [.ref 316, .int v1], [], mm I J D) := (ex_itr 1 _).trans rfl
set_option maxRecDepth 100000 in
theorem e_175_21 (I : Nat → Nat → Int32) (J : Nat → Nat → Int64) (D : Nat → Nat → UInt64) (v1 : Int32) : ex (175, 21, [.ref 316, .int v1], [], mm I J D) = bif inb ((152 : Int32) + v1) 850 then (bif decide ((I 317 ((152 : Int32) + v1).toNatClampNeg) ≠ 1) then ex (175, 40, [dv, dv], [.ref 316], mm I J D) else ex (175, 36, [dv, dv], [.ref 316], mm I J D)) else none := (ex_itr 9 _).trans rfl
set_option maxRecDepth 100000 in
theorem e_175_36 (I : Nat → Nat → Int32) (J : Nat → Nat → Int64) (D : Nat → Nat → UInt64)  : ex (175, 36, [dv, dv], [.ref 316], mm I J D) = ex (175, 41, [dv, dv], [.int 1, .ref 316], mm I J D) := (ex_itr 2 _).trans rfl
set_option maxRecDepth 100000 in
theorem e_175_40 (I : Nat → Nat → Int32) (J : Nat → Nat → Int64) (D : Nat → Nat → UInt64)  : ex (175, 40, [dv, dv], [.ref 316], mm I J D) = ex (175, 41, [dv, dv], [.int 0, .ref 316], mm I J D) := (ex_itr 1 _).trans rfl
set_option maxRecDepth 100000 in
theorem e_175_41 (I : Nat → Nat → Int32) (J : Nat → Nat → Int64) (D : Nat → Nat → UInt64) (s0 : Int32) : ex (175, 41, [dv, dv], [.int s0, .ref 316], mm I J D) = cal 175 45 [dv, dv] [] (ex (156, 0, [.ref 316, .int s0, .int 2], [], mm I J D)) := (ex_itr 2 _).trans rfl
set_option maxRecDepth 100000 in
theorem e_175_45 (I : Nat → Nat → Int32) (J : Nat → Nat → Int64) (D : Nat → Nat → UInt64) (s0 : Int32) : ex (175, 45, [dv, dv], [.int s0], mm I J D) = bif decide (s0 = 0) then ex (175, 52, [dv, dv], [], mm I J D) else ex (175, 48, [dv, dv], [], mm I J D) := (ex_itr 1 _).trans rfl
set_option maxRecDepth 100000 in
theorem e_175_48 (I : Nat → Nat → Int32) (J : Nat → Nat → Int64) (D : Nat → Nat → UInt64)  : ex (175, 48, [dv, dv], [], mm I J D) = ex (175, 53, [dv, dv], [.int 1], mm I J D) := (ex_itr 2 _).trans rfl
set_option maxRecDepth 100000 in
theorem e_175_52 (I : Nat → Nat → Int32) (J : Nat → Nat → Int64) (D : Nat → Nat → UInt64)  : ex (175, 52, [dv, dv], [], mm I J D) = ex (175, 53, [dv, dv], [.int 0], mm I J D) := (ex_itr 1 _).trans rfl
set_option maxRecDepth 100000 in
theorem e_175_53 (I : Nat → Nat → Int32) (J : Nat → Nat → Int64) (D : Nat → Nat → UInt64) (s0 : Int32) : ex (175, 53, [dv, dv], [.int s0], mm I J D) = bif decide (s0 = 0 ∨ s0 = 1) then (some (.inl (some (.int s0)), mm I J D)) else none := (ex_itr 1 _).trans rfl
/-! GlacierBookModel.takeBack(I)I -/
set_option maxRecDepth 100000 in
theorem e_176_0 (I : Nat → Nat → Int32) (J : Nat → Nat → Int64) (D : Nat → Nat → UInt64) (v1 : Int32) : ex (176, 0, [.ref 316, .int v1], [], mm I J D) = cal 176 5 [.ref 316, .int v1] [] (ex (175, 0, [.ref 316, .int v1], [], mm I J D)) := (ex_itr 3 _).trans rfl
set_option maxRecDepth 100000 in
theorem e_176_5 (I : Nat → Nat → Int32) (J : Nat → Nat → Int64) (D : Nat → Nat → UInt64) (v1 : Int32) (s0 : Int32) : ex (176, 5, [.ref 316, .int v1], [.int s0], mm I J D) = bif decide (s0 ≠ 0) then ex (176, 10, [.ref 316, .int v1], [], mm I J D) else ex (176, 8, [dv, dv], [], mm I J D) := (ex_itr 1 _).trans rfl
set_option maxRecDepth 100000 in
theorem e_176_8 (I : Nat → Nat → Int32) (J : Nat → Nat → Int64) (D : Nat → Nat → UInt64)  : ex (176, 8, [dv, dv], [], mm I J D) = some (.inl (some (.int 0)), mm I J D) := (ex_itr 2 _).trans rfl
set_option maxRecDepth 100000 in
theorem e_176_10 (I : Nat → Nat → Int32) (J : Nat → Nat → Int64) (D : Nat → Nat → UInt64) (v1 : Int32) : ex (176, 10, [.ref 316, .int v1], [], mm I J D) = cal 176 14 [.ref 316, .int v1] [] (ex (161, 0, [.ref 316, dv, dv], [], mm I J D)) := (ex_itr 2 _).trans rfl
set_option maxRecDepth 100000 in
theorem e_176_14 (I : Nat → Nat → Int32) (J : Nat → Nat → Int64) (D : Nat → Nat → UInt64) (v1 : Int32) : ex (176, 14, [.ref 316, .int v1], [], mm I J D) = bif inb ((152 : Int32) + v1) 850 then (cal 176 29 [dv, dv] [] (ex (174, 0, [.ref 316, dv, dv], [], mm (ups I 317 (((152 : Int32) + v1).toNatClampNeg) 0) J D))) else none := (ex_itr 9 _).trans rfl
set_option maxRecDepth 100000 in
theorem e_176_29 (I : Nat → Nat → Int32) (J : Nat → Nat → Int64) (D : Nat → Nat → UInt64) (s0 : Int32) : ex (176, 29, [dv, dv], [.int s0], mm I J D) = some (.inl (some (.int s0)), mm I J D) := (ex_itr 1 _).trans rfl
/-! GlacierBookModel.follows(I)Z -/
set_option maxRecDepth 100000 in
theorem e_177_0 (I : Nat → Nat → Int32) (J : Nat → Nat → Int64) (D : Nat → Nat → UInt64) (v1 : Int32) : ex (177, 0, [.ref 316, .int v1, dv], [], mm I J D) = cal 177 5 [.ref 316, .int v1, dv] [] (ex (175, 0, [.ref 316, .int v1], [], mm I J D)) := (ex_itr 3 _).trans rfl
set_option maxRecDepth 100000 in
theorem e_177_5 (I : Nat → Nat → Int32) (J : Nat → Nat → Int64) (D : Nat → Nat → UInt64) (v1 : Int32) (s0 : Int32) : ex (177, 5, [.ref 316, .int v1, dv], [.int s0], mm I J D) = bif decide (s0 ≠ 0) then ex (177, 10, [.ref 316, .int v1, dv], [], mm I J D) else ex (177, 8, [dv, dv, dv], [], mm I J D) := (ex_itr 1 _).trans rfl
set_option maxRecDepth 100000 in
theorem e_177_8 (I : Nat → Nat → Int32) (J : Nat → Nat → Int64) (D : Nat → Nat → UInt64)  : ex (177, 8, [dv, dv, dv], [], mm I J D) = some (.inl (some (.int 0)), mm I J D) := (ex_itr 2 _).trans rfl
set_option maxRecDepth 100000 in
theorem e_177_10 (I : Nat → Nat → Int32) (J : Nat → Nat → Int64) (D : Nat → Nat → UInt64) (v1 : Int32) : ex (177, 10, [.ref 316, .int v1, dv], [], mm I J D) = cal 177 15 [.ref 316, dv, dv] [] (ex (167, 0, [.ref 316, .int v1, dv, dv, dv, dv, dv], [], mm I J D)) := (ex_itr 3 _).trans rfl
set_option maxRecDepth 100000 in
theorem e_177_15 (I : Nat → Nat → Int32) (J : Nat → Nat → Int64) (D : Nat → Nat → UInt64)  : ex (177, 15, [.ref 316, dv, dv], [], mm I J D) = ex (177, 17, [.ref 316, dv, .int 0], [], mm I J D) := (ex_itr 2 _).trans rfl
set_option maxRecDepth 100000 in
theorem e_177_17 (I : Nat → Nat → Int32) (J : Nat → Nat → Int64) (D : Nat → Nat → UInt64) (v2 : Int32) : ex (177, 17, [.ref 316, dv, .int v2], [], mm I J D) = bif decide (289 ≤ v2) then ex (177, 42, [.ref 316, dv, dv], [], mm I J D) else ex (177, 24, [.ref 316, dv, .int v2], [], mm I J D) := (ex_itr 3 _).trans rfl
set_option maxRecDepth 100000 in
theorem e_177_24 (I : Nat → Nat → Int32) (J : Nat → Nat → Int64) (D : Nat → Nat → UInt64) (v2 : Int32) : ex (177, 24, [.ref 316, dv, .int v2], [], mm I J D) = bif inb v2 289 then (bif inb v2 289 then (ex (177, 17, [.ref 316, dv, .int (v2 + 1)], [], mm (ups I 322 v2.toNatClampNeg (I 321 v2.toNatClampNeg)) J D)) else none) else none := (ex_itr 10 _).trans rfl
set_option maxRecDepth 100000 in
theorem e_177_42 (I : Nat → Nat → Int32) (J : Nat → Nat → Int64) (D : Nat → Nat → UInt64)  : ex (177, 42, [.ref 316, dv, dv], [], mm I J D) = cal 177 47 [.ref 316, dv, dv] [] (ex (167, 0, [.ref 316, .int (-1), dv, dv, dv, dv, dv], [], mm I J D)) := (ex_itr 3 _).trans rfl
set_option maxRecDepth 100000 in
theorem e_177_47 (I : Nat → Nat → Int32) (J : Nat → Nat → Int64) (D : Nat → Nat → UInt64)  : ex (177, 47, [.ref 316, dv, dv], [], mm I J D) = ex (177, 49, [.ref 316, dv, .int 0], [], mm I J D) := (ex_itr 2 _).trans rfl
set_option maxRecDepth 100000 in
theorem e_177_49 (I : Nat → Nat → Int32) (J : Nat → Nat → Int64) (D : Nat → Nat → UInt64) (v2 : Int32) : ex (177, 49, [.ref 316, dv, .int v2], [], mm I J D) = bif decide (289 ≤ v2) then ex (177, 79, [dv, dv, dv], [], mm I J D) else ex (177, 56, [.ref 316, dv, .int v2], [], mm I J D) := (ex_itr 3 _).trans rfl
set_option maxRecDepth 100000 in
theorem e_177_56 (I : Nat → Nat → Int32) (J : Nat → Nat → Int64) (D : Nat → Nat → UInt64) (v2 : Int32) : ex (177, 56, [.ref 316, dv, .int v2], [], mm I J D) = bif inb v2 289 then (bif inb v2 289 then (bif decide ((I 322 v2.toNatClampNeg) = (I 321 v2.toNatClampNeg)) then ex (177, 73, [.ref 316, dv, .int v2], [], mm I J D) else ex (177, 71, [dv, dv, dv], [], mm I J D)) else none) else none := (ex_itr 9 _).trans rfl
set_option maxRecDepth 100000 in
theorem e_177_71 (I : Nat → Nat → Int32) (J : Nat → Nat → Int64) (D : Nat → Nat → UInt64)  : ex (177, 71, [dv, dv, dv], [], mm I J D) = some (.inl (some (.int 0)), mm I J D) := (ex_itr 2 _).trans rfl
set_option maxRecDepth 100000 in
theorem e_177_73 (I : Nat → Nat → Int32) (J : Nat → Nat → Int64) (D : Nat → Nat → UInt64) (v2 : Int32) : ex (177, 73, [.ref 316, dv, .int v2], [], mm I J D) = ex (177, 49, [.ref 316, dv, .int (v2 + 1)], [], mm I J D) := (ex_itr 2 _).trans rfl
set_option maxRecDepth 100000 in
theorem e_177_79 (I : Nat → Nat → Int32) (J : Nat → Nat → Int64) (D : Nat → Nat → UInt64)  : ex (177, 79, [dv, dv, dv], [], mm I J D) = some (.inl (some (.int 1)), mm I J D) := (ex_itr 2 _).trans rfl
/-! GlacierBookModel.difference(II)I -/
set_option maxRecDepth 100000 in
theorem e_178_0 (I : Nat → Nat → Int32) (J : Nat → Nat → Int64) (D : Nat → Nat → UInt64) (v1 : Int32) (v2 : Int32) : ex (178, 0, [.ref 316, .int v1, .int v2], [], mm I J D) = cal 178 5 [.ref 316, .int v1, .int v2] [] (ex (167, 0, [.ref 316, .int (-1), dv, dv, dv, dv, dv], [], mm I J D)) := (ex_itr 3 _).trans rfl
set_option maxRecDepth 100000 in
theorem e_178_5 (I : Nat → Nat → Int32) (J : Nat → Nat → Int64) (D : Nat → Nat → UInt64) (v1 : Int32) (v2 : Int32) : ex (178, 5, [.ref 316, .int v1, .int v2], [], mm I J D) = bif inb (((17 : Int32) * v1) + v2) 289 then (some (.inl (some (.int (I 321 (((17 : Int32) * v1) + v2).toNatClampNeg))), mm I J D)) else none := (ex_itr 9 _).trans rfl
/-! GlacierBookModel.low(II)I -/
set_option maxRecDepth 100000 in
theorem e_179_0 (I : Nat → Nat → Int32) (J : Nat → Nat → Int64) (D : Nat → Nat → UInt64) (v1 : Int32) (v2 : Int32) : ex (179, 0, [.ref 316, .int v1, .int v2, dv], [], mm I J D) = cal 179 6 [.ref 316, .int v1, .int v2, dv] [.ref 316] (ex (165, 0, [.ref 316, .int v1], [], mm I J D)) := (ex_itr 4 _).trans rfl
set_option maxRecDepth 100000 in
theorem e_179_6 (I : Nat → Nat → Int32) (J : Nat → Nat → Int64) (D : Nat → Nat → UInt64) (v1 : Int32) (v2 : Int32) (s0 : Int32) : ex (179, 6, [.ref 316, .int v1, .int v2, dv], [.int s0, .ref 316], mm I J D) = bif decide (s0 = 0) then ex (179, 21, [.ref 316, .int v1, .int v2, dv], [.ref 316], mm I J D) else ex (179, 9, [.ref 316, .int v1, .int v2, dv], [.ref 316], mm I J D) := (ex_itr 1 _).trans rfl
set_option maxRecDepth 100000 in
theorem e_179_9 (I : Nat → Nat → Int32) (J : Nat → Nat → Int64) (D : Nat → Nat → UInt64) (v1 : Int32) (v2 : Int32) : ex (179, 9, [.ref 316, .int v1, .int v2, dv], [.ref 316], mm I J D) = cal 179 14 [.ref 316, .int v1, .int v2, dv] [.ref 316] (ex (165, 0, [.ref 316, .int v2], [], mm I J D)) := (ex_itr 3 _).trans rfl
set_option maxRecDepth 100000 in
theorem e_179_14 (I : Nat → Nat → Int32) (J : Nat → Nat → Int64) (D : Nat → Nat → UInt64) (v1 : Int32) (v2 : Int32) (s0 : Int32) : ex (179, 14, [.ref 316, .int v1, .int v2, dv], [.int s0, .ref 316], mm I J D) = bif decide (s0 = 0) then ex (179, 21, [.ref 316, .int v1, .int v2, dv], [.ref 316], mm I J D) else ex (179, 17, [.ref 316, .int v1, .int v2, dv], [.ref 316], mm I J D) := (ex_itr 1 _).trans rfl
set_option maxRecDepth 100000 in
theorem e_179_17 (I : Nat → Nat → Int32) (J : Nat → Nat → Int64) (D : Nat → Nat → UInt64) (v1 : Int32) (v2 : Int32) : ex (179, 17, [.ref 316, .int v1, .int v2, dv], [.ref 316], mm I J D) = ex (179, 22, [.ref 316, .int v1, .int v2, dv], [.int 1, .ref 316], mm I J D) := (ex_itr 2 _).trans rfl
set_option maxRecDepth 100000 in
theorem e_179_21 (I : Nat → Nat → Int32) (J : Nat → Nat → Int64) (D : Nat → Nat → UInt64) (v1 : Int32) (v2 : Int32) : ex (179, 21, [.ref 316, .int v1, .int v2, dv], [.ref 316], mm I J D) = ex (179, 22, [.ref 316, .int v1, .int v2, dv], [.int 0, .ref 316], mm I J D) := (ex_itr 1 _).trans rfl
set_option maxRecDepth 100000 in
theorem e_179_22 (I : Nat → Nat → Int32) (J : Nat → Nat → Int64) (D : Nat → Nat → UInt64) (v1 : Int32) (v2 : Int32) (s0 : Int32) : ex (179, 22, [.ref 316, .int v1, .int v2, dv], [.int s0, .ref 316], mm I J D) = cal 179 26 [.ref 316, .int v1, .int v2, dv] [] (ex (156, 0, [.ref 316, .int s0, .int 1], [], mm I J D)) := (ex_itr 2 _).trans rfl
set_option maxRecDepth 100000 in
theorem e_179_26 (I : Nat → Nat → Int32) (J : Nat → Nat → Int64) (D : Nat → Nat → UInt64) (v1 : Int32) (v2 : Int32) (s0 : Int32) : ex (179, 26, [.ref 316, .int v1, .int v2, dv], [.int s0], mm I J D) = bif decide (s0 ≠ 0) then ex (179, 31, [.ref 316, .int v1, .int v2, dv], [], mm I J D) else ex (179, 29, [dv, dv, dv, dv], [], mm I J D) := (ex_itr 1 _).trans rfl
set_option maxRecDepth 100000 in
theorem e_179_29 (I : Nat → Nat → Int32) (J : Nat → Nat → Int64) (D : Nat → Nat → UInt64)  : ex (179, 29, [dv, dv, dv, dv], [], mm I J D) = some (.inl (some (.int 0)), mm I J D) := (ex_itr 2 _).trans rfl
set_option maxRecDepth 100000 in
theorem e_179_31 (I : Nat → Nat → Int32) (J : Nat → Nat → Int64) (D : Nat → Nat → UInt64) (v1 : Int32) (v2 : Int32) : ex (179, 31, [.ref 316, .int v1, .int v2, dv], [], mm I J D) = cal 179 37 [.ref 316, dv, dv, dv] [] (ex (178, 0, [.ref 316, .int v2, .int v1], [], mm I J D)) := (ex_itr 4 _).trans rfl
set_option maxRecDepth 100000 in
theorem e_179_37 (I : Nat → Nat → Int32) (J : Nat → Nat → Int64) (D : Nat → Nat → UInt64) (s0 : Int32) : ex (179, 37, [.ref 316, dv, dv, dv], [.int s0], mm I J D) = bif decide (s0 = 100000000) then ex (179, 49, [dv, dv, dv, .int s0], [.ref 316], mm I J D) else ex (179, 45, [dv, dv, dv, .int s0], [.ref 316], mm I J D) := (ex_itr 5 _).trans rfl
set_option maxRecDepth 100000 in
theorem e_179_45 (I : Nat → Nat → Int32) (J : Nat → Nat → Int64) (D : Nat → Nat → UInt64) (v3 : Int32) : ex (179, 45, [dv, dv, dv, .int v3], [.ref 316], mm I J D) = ex (179, 50, [dv, dv, dv, .int v3], [.int 1, .ref 316], mm I J D) := (ex_itr 2 _).trans rfl
set_option maxRecDepth 100000 in
theorem e_179_49 (I : Nat → Nat → Int32) (J : Nat → Nat → Int64) (D : Nat → Nat → UInt64) (v3 : Int32) : ex (179, 49, [dv, dv, dv, .int v3], [.ref 316], mm I J D) = ex (179, 50, [dv, dv, dv, .int v3], [.int 0, .ref 316], mm I J D) := (ex_itr 1 _).trans rfl
set_option maxRecDepth 100000 in
theorem e_179_50 (I : Nat → Nat → Int32) (J : Nat → Nat → Int64) (D : Nat → Nat → UInt64) (v3 : Int32) (s0 : Int32) : ex (179, 50, [dv, dv, dv, .int v3], [.int s0, .ref 316], mm I J D) = cal 179 54 [dv, dv, dv, .int v3] [] (ex (156, 0, [.ref 316, .int s0, .int 2], [], mm I J D)) := (ex_itr 2 _).trans rfl
set_option maxRecDepth 100000 in
theorem e_179_54 (I : Nat → Nat → Int32) (J : Nat → Nat → Int64) (D : Nat → Nat → UInt64) (v3 : Int32) (s0 : Int32) : ex (179, 54, [dv, dv, dv, .int v3], [.int s0], mm I J D) = bif decide (s0 = 0) then ex (179, 62, [dv, dv, dv, dv], [], mm I J D) else ex (179, 57, [dv, dv, dv, .int v3], [], mm I J D) := (ex_itr 1 _).trans rfl
set_option maxRecDepth 100000 in
theorem e_179_57 (I : Nat → Nat → Int32) (J : Nat → Nat → Int64) (D : Nat → Nat → UInt64) (v3 : Int32) : ex (179, 57, [dv, dv, dv, .int v3], [], mm I J D) = ex (179, 63, [dv, dv, dv, dv], [.int (-v3)], mm I J D) := (ex_itr 3 _).trans rfl
set_option maxRecDepth 100000 in
theorem e_179_62 (I : Nat → Nat → Int32) (J : Nat → Nat → Int64) (D : Nat → Nat → UInt64)  : ex (179, 62, [dv, dv, dv, dv], [], mm I J D) = ex (179, 63, [dv, dv, dv, dv], [.int 0], mm I J D) := (ex_itr 1 _).trans rfl
set_option maxRecDepth 100000 in
theorem e_179_63 (I : Nat → Nat → Int32) (J : Nat → Nat → Int64) (D : Nat → Nat → UInt64) (s0 : Int32) : ex (179, 63, [dv, dv, dv, dv], [.int s0], mm I J D) = some (.inl (some (.int s0)), mm I J D) := (ex_itr 1 _).trans rfl
/-! GlacierBookModel.high(II)I -/
set_option maxRecDepth 100000 in
theorem e_180_0 (I : Nat → Nat → Int32) (J : Nat → Nat → Int64) (D : Nat → Nat → UInt64) (v1 : Int32) (v2 : Int32) : ex (180, 0, [.ref 316, .int v1, .int v2, dv], [], mm I J D) = cal 180 6 [.ref 316, .int v1, .int v2, dv] [.ref 316] (ex (165, 0, [.ref 316, .int v1], [], mm I J D)) := (ex_itr 4 _).trans rfl
set_option maxRecDepth 100000 in
theorem e_180_6 (I : Nat → Nat → Int32) (J : Nat → Nat → Int64) (D : Nat → Nat → UInt64) (v1 : Int32) (v2 : Int32) (s0 : Int32) : ex (180, 6, [.ref 316, .int v1, .int v2, dv], [.int s0, .ref 316], mm I J D) = bif decide (s0 = 0) then ex (180, 21, [.ref 316, .int v1, .int v2, dv], [.ref 316], mm I J D) else ex (180, 9, [.ref 316, .int v1, .int v2, dv], [.ref 316], mm I J D) := (ex_itr 1 _).trans rfl
set_option maxRecDepth 100000 in
theorem e_180_9 (I : Nat → Nat → Int32) (J : Nat → Nat → Int64) (D : Nat → Nat → UInt64) (v1 : Int32) (v2 : Int32) : ex (180, 9, [.ref 316, .int v1, .int v2, dv], [.ref 316], mm I J D) = cal 180 14 [.ref 316, .int v1, .int v2, dv] [.ref 316] (ex (165, 0, [.ref 316, .int v2], [], mm I J D)) := (ex_itr 3 _).trans rfl
set_option maxRecDepth 100000 in
theorem e_180_14 (I : Nat → Nat → Int32) (J : Nat → Nat → Int64) (D : Nat → Nat → UInt64) (v1 : Int32) (v2 : Int32) (s0 : Int32) : ex (180, 14, [.ref 316, .int v1, .int v2, dv], [.int s0, .ref 316], mm I J D) = bif decide (s0 = 0) then ex (180, 21, [.ref 316, .int v1, .int v2, dv], [.ref 316], mm I J D) else ex (180, 17, [.ref 316, .int v1, .int v2, dv], [.ref 316], mm I J D) := (ex_itr 1 _).trans rfl
set_option maxRecDepth 100000 in
theorem e_180_17 (I : Nat → Nat → Int32) (J : Nat → Nat → Int64) (D : Nat → Nat → UInt64) (v1 : Int32) (v2 : Int32) : ex (180, 17, [.ref 316, .int v1, .int v2, dv], [.ref 316], mm I J D) = ex (180, 22, [.ref 316, .int v1, .int v2, dv], [.int 1, .ref 316], mm I J D) := (ex_itr 2 _).trans rfl
set_option maxRecDepth 100000 in
theorem e_180_21 (I : Nat → Nat → Int32) (J : Nat → Nat → Int64) (D : Nat → Nat → UInt64) (v1 : Int32) (v2 : Int32) : ex (180, 21, [.ref 316, .int v1, .int v2, dv], [.ref 316], mm I J D) = ex (180, 22, [.ref 316, .int v1, .int v2, dv], [.int 0, .ref 316], mm I J D) := (ex_itr 1 _).trans rfl
set_option maxRecDepth 100000 in
theorem e_180_22 (I : Nat → Nat → Int32) (J : Nat → Nat → Int64) (D : Nat → Nat → UInt64) (v1 : Int32) (v2 : Int32) (s0 : Int32) : ex (180, 22, [.ref 316, .int v1, .int v2, dv], [.int s0, .ref 316], mm I J D) = cal 180 26 [.ref 316, .int v1, .int v2, dv] [] (ex (156, 0, [.ref 316, .int s0, .int 1], [], mm I J D)) := (ex_itr 2 _).trans rfl
set_option maxRecDepth 100000 in
theorem e_180_26 (I : Nat → Nat → Int32) (J : Nat → Nat → Int64) (D : Nat → Nat → UInt64) (v1 : Int32) (v2 : Int32) (s0 : Int32) : ex (180, 26, [.ref 316, .int v1, .int v2, dv], [.int s0], mm I J D) = bif decide (s0 ≠ 0) then ex (180, 31, [.ref 316, .int v1, .int v2, dv], [], mm I J D) else ex (180, 29, [dv, dv, dv, dv], [], mm I J D) := (ex_itr 1 _).trans rfl
set_option maxRecDepth 100000 in
theorem e_180_29 (I : Nat → Nat → Int32) (J : Nat → Nat → Int64) (D : Nat → Nat → UInt64)  : ex (180, 29, [dv, dv, dv, dv], [], mm I J D) = some (.inl (some (.int 0)), mm I J D) := (ex_itr 2 _).trans rfl
set_option maxRecDepth 100000 in
theorem e_180_31 (I : Nat → Nat → Int32) (J : Nat → Nat → Int64) (D : Nat → Nat → UInt64) (v1 : Int32) (v2 : Int32) : ex (180, 31, [.ref 316, .int v1, .int v2, dv], [], mm I J D) = cal 180 37 [.ref 316, dv, dv, dv] [] (ex (178, 0, [.ref 316, .int v1, .int v2], [], mm I J D)) := (ex_itr 4 _).trans rfl
set_option maxRecDepth 100000 in
theorem e_180_37 (I : Nat → Nat → Int32) (J : Nat → Nat → Int64) (D : Nat → Nat → UInt64) (s0 : Int32) : ex (180, 37, [.ref 316, dv, dv, dv], [.int s0], mm I J D) = bif decide (s0 = 100000000) then ex (180, 49, [dv, dv, dv, .int s0], [.ref 316], mm I J D) else ex (180, 45, [dv, dv, dv, .int s0], [.ref 316], mm I J D) := (ex_itr 5 _).trans rfl
set_option maxRecDepth 100000 in
theorem e_180_45 (I : Nat → Nat → Int32) (J : Nat → Nat → Int64) (D : Nat → Nat → UInt64) (v3 : Int32) : ex (180, 45, [dv, dv, dv, .int v3], [.ref 316], mm I J D) = ex (180, 50, [dv, dv, dv, .int v3], [.int 1, .ref 316], mm I J D) := (ex_itr 2 _).trans rfl
set_option maxRecDepth 100000 in
theorem e_180_49 (I : Nat → Nat → Int32) (J : Nat → Nat → Int64) (D : Nat → Nat → UInt64) (v3 : Int32) : ex (180, 49, [dv, dv, dv, .int v3], [.ref 316], mm I J D) = ex (180, 50, [dv, dv, dv, .int v3], [.int 0, .ref 316], mm I J D) := (ex_itr 1 _).trans rfl
set_option maxRecDepth 100000 in
theorem e_180_50 (I : Nat → Nat → Int32) (J : Nat → Nat → Int64) (D : Nat → Nat → UInt64) (v3 : Int32) (s0 : Int32) : ex (180, 50, [dv, dv, dv, .int v3], [.int s0, .ref 316], mm I J D) = cal 180 54 [dv, dv, dv, .int v3] [] (ex (156, 0, [.ref 316, .int s0, .int 2], [], mm I J D)) := (ex_itr 2 _).trans rfl
set_option maxRecDepth 100000 in
theorem e_180_54 (I : Nat → Nat → Int32) (J : Nat → Nat → Int64) (D : Nat → Nat → UInt64) (v3 : Int32) (s0 : Int32) : ex (180, 54, [dv, dv, dv, .int v3], [.int s0], mm I J D) = bif decide (s0 = 0) then ex (180, 61, [dv, dv, dv, dv], [], mm I J D) else ex (180, 57, [dv, dv, dv, .int v3], [], mm I J D) := (ex_itr 1 _).trans rfl
set_option maxRecDepth 100000 in
theorem e_180_57 (I : Nat → Nat → Int32) (J : Nat → Nat → Int64) (D : Nat → Nat → UInt64) (v3 : Int32) : ex (180, 57, [dv, dv, dv, .int v3], [], mm I J D) = ex (180, 62, [dv, dv, dv, dv], [.int v3], mm I J D) := (ex_itr 2 _).trans rfl
set_option maxRecDepth 100000 in
theorem e_180_61 (I : Nat → Nat → Int32) (J : Nat → Nat → Int64) (D : Nat → Nat → UInt64)  : ex (180, 61, [dv, dv, dv, dv], [], mm I J D) = ex (180, 62, [dv, dv, dv, dv], [.int 0], mm I J D) := (ex_itr 1 _).trans rfl
set_option maxRecDepth 100000 in
theorem e_180_62 (I : Nat → Nat → Int32) (J : Nat → Nat → Int64) (D : Nat → Nat → UInt64) (s0 : Int32) : ex (180, 62, [dv, dv, dv, dv], [.int s0], mm I J D) = some (.inl (some (.int s0)), mm I J D) := (ex_itr 1 _).trans rfl
/-! GlacierBookModel.ringLength()I -/
set_option maxRecDepth 100000 in
theorem e_181_0 (I : Nat → Nat → Int32) (J : Nat → Nat → Int64) (D : Nat → Nat → UInt64)  : ex (181, 0, [.ref 316], [], mm I J D) = some (.inl (some (.int ((ups I 316 0 0) 316 6))), mm (ups I 316 0 0) J D) := (ex_itr 6 _).trans rfl
/-! GlacierBookModel.ringAt(I)I -/
set_option maxRecDepth 100000 in
theorem e_182_0 (I : Nat → Nat → Int32) (J : Nat → Nat → Int64) (D : Nat → Nat → UInt64) (v1 : Int32) : ex (182, 0, [.ref 316, .int v1], [], mm I J D) = cal 182 12 [.ref 316, .int v1] [.ref 316] (ex (157, 0, [.int v1, .int 0, .int ((I 316 6) - 1)], [], mm I J D)) := (ex_itr 8 _).trans rfl
set_option maxRecDepth 100000 in
theorem e_182_12 (I : Nat → Nat → Int32) (J : Nat → Nat → Int64) (D : Nat → Nat → UInt64) (v1 : Int32) (s0 : Int32) : ex (182, 12, [.ref 316, .int v1], [.int s0, .ref 316], mm I J D) = cal 182 16 [.ref 316, .int v1] [] (ex (156, 0, [.ref 316, .int s0, .int 1], [], mm I J D)) := (ex_itr 2 _).trans rfl
set_option maxRecDepth 100000 in
theorem e_182_16 (I : Nat → Nat → Int32) (J : Nat → Nat → Int64) (D : Nat → Nat → UInt64) (v1 : Int32) (s0 : Int32) : ex (182, 16, [.ref 316, .int v1], [.int s0], mm I J D) = bif decide (s0 = 0) then ex (182, 28, [dv, dv], [], mm I J D) else ex (182, 19, [.ref 316, .int v1], [], mm I J D) := (ex_itr 1 _).trans rfl
set_option maxRecDepth 100000 in
theorem e_182_19 (I : Nat → Nat → Int32) (J : Nat → Nat → Int64) (D : Nat → Nat → UInt64) (v1 : Int32) : ex (182, 19, [.ref 316, .int v1], [], mm I J D) = bif inb v1 20 then (ex (182, 29, [dv, dv], [.int (I 319 v1.toNatClampNeg)], mm I J D)) else none := (ex_itr 5 _).trans rfl
set_option maxRecDepth 100000 in
theorem e_182_28 (I : Nat → Nat → Int32) (J : Nat → Nat → Int64) (D : Nat → Nat → UInt64)  : ex (182, 28, [dv, dv], [], mm I J D) = ex (182, 29, [dv, dv], [.int 0], mm I J D) := (ex_itr 1 _).trans rfl
set_option maxRecDepth 100000 in
theorem e_182_29 (I : Nat → Nat → Int32) (J : Nat → Nat → Int64) (D : Nat → Nat → UInt64) (s0 : Int32) : ex (182, 29, [dv, dv], [.int s0], mm I J D) = some (.inl (some (.int s0)), mm I J D) := (ex_itr 1 _).trans rfl
/-! GlacierBookModel.layerCount()I -/
set_option maxRecDepth 100000 in
theorem e_183_0 (I : Nat → Nat → Int32) (J : Nat → Nat → Int64) (D : Nat → Nat → UInt64)  : ex (183, 0, [.ref 316], [], mm I J D) = some (.inl (some (.int ((ups I 316 0 0) 317 0))), mm (ups I 316 0 0) J D) := (ex_itr 8 _).trans rfl
/-! GlacierBookModel.boundCount()I -/
set_option maxRecDepth 100000 in
theorem e_184_0 (I : Nat → Nat → Int32) (J : Nat → Nat → Int64) (D : Nat → Nat → UInt64)  : ex (184, 0, [.ref 316], [], mm I J D) = cal 184 9 [dv] [] (ex (174, 0, [.ref 316, dv, dv], [], mm (ups I 316 0 0) J D)) := (ex_itr 5 _).trans rfl
set_option maxRecDepth 100000 in
theorem e_184_9 (I : Nat → Nat → Int32) (J : Nat → Nat → Int64) (D : Nat → Nat → UInt64) (s0 : Int32) : ex (184, 9, [dv], [.int s0], mm I J D) = some (.inl (some (.int s0)), mm I J D) := (ex_itr 1 _).trans rfl
/-! GlacierBookModel.laysAbove()V -/
set_option maxRecDepth 100000 in
theorem e_185_0 (I : Nat → Nat → Int32) (J : Nat → Nat → Int64) (D : Nat → Nat → UInt64)  : ex (185, 0, [.ref 316, dv, dv, dv], [], mm I J D) = ex (185, 2, [.ref 316, .int 0, dv, dv], [], mm I J D) := (ex_itr 2 _).trans rfl
set_option maxRecDepth 100000 in
theorem e_185_2 (I : Nat → Nat → Int32) (J : Nat → Nat → Int64) (D : Nat → Nat → UInt64) (v1 : Int32) : ex (185, 2, [.ref 316, .int v1, dv, dv], [], mm I J D) = bif decide (289 ≤ v1) then ex (185, 40, [.ref 316, dv, dv, dv], [], mm I J D) else ex (185, 9, [.ref 316, .int v1, dv, dv], [], mm I J D) := (ex_itr 3 _).trans rfl
set_option maxRecDepth 100000 in
theorem e_185_9 (I : Nat → Nat → Int32) (J : Nat → Nat → Int64) (D : Nat → Nat → UInt64) (v1 : Int32) : ex (185, 9, [.ref 316, .int v1, dv, dv], [], mm I J D) = bif inb ((202 : Int32) + v1) 850 then (bif decide ((I 317 ((202 : Int32) + v1).toNatClampNeg) ≠ 1) then ex (185, 32, [.ref 316, .int v1, dv, dv], [.int v1, .ref 324], mm I J D) else ex (185, 28, [.ref 316, .int v1, dv, dv], [.int v1, .ref 324], mm I J D)) else none := (ex_itr 11 _).trans rfl
set_option maxRecDepth 100000 in
theorem e_185_28 (I : Nat → Nat → Int32) (J : Nat → Nat → Int64) (D : Nat → Nat → UInt64) (v1 : Int32) (s0 : Int32) : ex (185, 28, [.ref 316, .int v1, dv, dv], [.int s0, .ref 324], mm I J D) = ex (185, 33, [.ref 316, .int v1, dv, dv], [.int 1, .int s0, .ref 324], mm I J D) := (ex_itr 2 _).trans rfl
set_option maxRecDepth 100000 in
theorem e_185_32 (I : Nat → Nat → Int32) (J : Nat → Nat → Int64) (D : Nat → Nat → UInt64) (v1 : Int32) (s0 : Int32) : ex (185, 32, [.ref 316, .int v1, dv, dv], [.int s0, .ref 324], mm I J D) = ex (185, 33, [.ref 316, .int v1, dv, dv], [.int 0, .int s0, .ref 324], mm I J D) := (ex_itr 1 _).trans rfl
set_option maxRecDepth 100000 in
theorem e_185_33 (I : Nat → Nat → Int32) (J : Nat → Nat → Int64) (D : Nat → Nat → UInt64) (v1 : Int32) (s0 : Int32) (s1 : Int32) : ex (185, 33, [.ref 316, .int v1, dv, dv], [.int s0, .int s1, .ref 324], mm I J D) = bif inb s1 289 then (ex (185, 2, [.ref 316, .int (v1 + 1), dv, dv], [], mm (ups I 324 s1.toNatClampNeg (vp_nar .boolean s0)) J D)) else none := (ex_itr 3 _).trans rfl
set_option maxRecDepth 100000 in
theorem e_185_40 (I : Nat → Nat → Int32) (J : Nat → Nat → Int64) (D : Nat → Nat → UInt64)  : ex (185, 40, [.ref 316, dv, dv, dv], [], mm I J D) = ex (185, 42, [.ref 316, .int 1, dv, dv], [], mm I J D) := (ex_itr 2 _).trans rfl
set_option maxRecDepth 100000 in
theorem e_185_42 (I : Nat → Nat → Int32) (J : Nat → Nat → Int64) (D : Nat → Nat → UInt64) (v1 : Int32) : ex (185, 42, [.ref 316, .int v1, dv, dv], [], mm I J D) = bif decide (17 ≤ v1) then ex (185, 140, [dv, dv, dv, dv], [], mm I J D) else ex (185, 48, [.ref 316, .int v1, dv, dv], [], mm I J D) := (ex_itr 3 _).trans rfl
set_option maxRecDepth 100000 in
theorem e_185_48 (I : Nat → Nat → Int32) (J : Nat → Nat → Int64) (D : Nat → Nat → UInt64) (v1 : Int32) : ex (185, 48, [.ref 316, .int v1, dv, dv], [], mm I J D) = ex (185, 50, [.ref 316, .int v1, .int 1, dv], [], mm I J D) := (ex_itr 2 _).trans rfl
set_option maxRecDepth 100000 in
theorem e_185_50 (I : Nat → Nat → Int32) (J : Nat → Nat → Int64) (D : Nat → Nat → UInt64) (v1 : Int32) (v2 : Int32) : ex (185, 50, [.ref 316, .int v1, .int v2, dv], [], mm I J D) = bif decide (17 ≤ v2) then ex (185, 134, [.ref 316, .int v1, dv, dv], [], mm I J D) else ex (185, 56, [.ref 316, .int v1, .int v2, dv], [], mm I J D) := (ex_itr 3 _).trans rfl
set_option maxRecDepth 100000 in
theorem e_185_56 (I : Nat → Nat → Int32) (J : Nat → Nat → Int64) (D : Nat → Nat → UInt64) (v1 : Int32) (v2 : Int32) : ex (185, 56, [.ref 316, .int v1, .int v2, dv], [], mm I J D) = ex (185, 58, [.ref 316, .int v1, .int v2, .int 1], [], mm I J D) := (ex_itr 2 _).trans rfl
set_option maxRecDepth 100000 in
theorem e_185_58 (I : Nat → Nat → Int32) (J : Nat → Nat → Int64) (D : Nat → Nat → UInt64) (v1 : Int32) (v2 : Int32) (v3 : Int32) : ex (185, 58, [.ref 316, .int v1, .int v2, .int v3], [], mm I J D) = bif decide (17 ≤ v3) then ex (185, 128, [.ref 316, .int v1, .int v2, dv], [], mm I J D) else ex (185, 64, [.ref 316, .int v1, .int v2, .int v3], [], mm I J D) := (ex_itr 3 _).trans rfl
set_option maxRecDepth 100000 in
theorem e_185_64 (I : Nat → Nat → Int32) (J : Nat → Nat → Int64) (D : Nat → Nat → UInt64) (v1 : Int32) (v2 : Int32) (v3 : Int32) : ex (185, 64, [.ref 316, .int v1, .int v2, .int v3], [], mm I J D) = bif inb (((17 : Int32) * v2) + v3) 289 then (bif decide ((I 324 (((17 : Int32) * v2) + v3).toNatClampNeg) ≠ 0) then ex (185, 116, [.ref 316, .int v1, .int v2, .int v3], [.int (((17 : Int32) * v2) + v3), .ref 324], mm I J D) else ex (185, 88, [.ref 316, .int v1, .int v2, .int v3], [.int (((17 : Int32) * v2) + v3), .ref 324], mm I J D)) else none := (ex_itr 16 _).trans rfl
set_option maxRecDepth 100000 in
theorem e_185_88 (I : Nat → Nat → Int32) (J : Nat → Nat → Int64) (D : Nat → Nat → UInt64) (v1 : Int32) (v2 : Int32) (v3 : Int32) (s0 : Int32) : ex (185, 88, [.ref 316, .int v1, .int v2, .int v3], [.int s0, .ref 324], mm I J D) = bif inb (((17 : Int32) * v2) + v1) 289 then (bif decide ((I 324 (((17 : Int32) * v2) + v1).toNatClampNeg) = 0) then ex (185, 120, [.ref 316, .int v1, .int v2, .int v3], [.int s0, .ref 324], mm I J D) else ex (185, 102, [.ref 316, .int v1, .int v2, .int v3], [.int s0, .ref 324], mm I J D)) else none := (ex_itr 9 _).trans rfl
set_option maxRecDepth 100000 in
theorem e_185_102 (I : Nat → Nat → Int32) (J : Nat → Nat → Int64) (D : Nat → Nat → UInt64) (v1 : Int32) (v2 : Int32) (v3 : Int32) (s0 : Int32) : ex (185, 102, [.ref 316, .int v1, .int v2, .int v3], [.int s0, .ref 324], mm I J D) = bif inb (((17 : Int32) * v1) + v3) 289 then (bif decide ((I 324 (((17 : Int32) * v1) + v3).toNatClampNeg) = 0) then ex (185, 120, [.ref 316, .int v1, .int v2, .int v3], [.int s0, .ref 324], mm I J D) else ex (185, 116, [.ref 316, .int v1, .int v2, .int v3], [.int s0, .ref 324], mm I J D)) else none := (ex_itr 9 _).trans rfl
set_option maxRecDepth 100000 in
theorem e_185_116 (I : Nat → Nat → Int32) (J : Nat → Nat → Int64) (D : Nat → Nat → UInt64) (v1 : Int32) (v2 : Int32) (v3 : Int32) (s0 : Int32) : ex (185, 116, [.ref 316, .int v1, .int v2, .int v3], [.int s0, .ref 324], mm I J D) = ex (185, 121, [.ref 316, .int v1, .int v2, .int v3], [.int 1, .int s0, .ref 324], mm I J D) := (ex_itr 2 _).trans rfl
set_option maxRecDepth 100000 in
theorem e_185_120 (I : Nat → Nat → Int32) (J : Nat → Nat → Int64) (D : Nat → Nat → UInt64) (v1 : Int32) (v2 : Int32) (v3 : Int32) (s0 : Int32) : ex (185, 120, [.ref 316, .int v1, .int v2, .int v3], [.int s0, .ref 324], mm I J D) = ex (185, 121, [.ref 316, .int v1, .int v2, .int v3], [.int 0, .int s0, .ref 324], mm I J D) := (ex_itr 1 _).trans rfl
set_option maxRecDepth 100000 in
theorem e_185_121 (I : Nat → Nat → Int32) (J : Nat → Nat → Int64) (D : Nat → Nat → UInt64) (v1 : Int32) (v2 : Int32) (v3 : Int32) (s0 : Int32) (s1 : Int32) : ex (185, 121, [.ref 316, .int v1, .int v2, .int v3], [.int s0, .int s1, .ref 324], mm I J D) = bif inb s1 289 then (ex (185, 58, [.ref 316, .int v1, .int v2, .int (v3 + 1)], [], mm (ups I 324 s1.toNatClampNeg (vp_nar .boolean s0)) J D)) else none := (ex_itr 3 _).trans rfl
set_option maxRecDepth 100000 in
theorem e_185_128 (I : Nat → Nat → Int32) (J : Nat → Nat → Int64) (D : Nat → Nat → UInt64) (v1 : Int32) (v2 : Int32) : ex (185, 128, [.ref 316, .int v1, .int v2, dv], [], mm I J D) = ex (185, 50, [.ref 316, .int v1, .int (v2 + 1), dv], [], mm I J D) := (ex_itr 2 _).trans rfl
set_option maxRecDepth 100000 in
theorem e_185_134 (I : Nat → Nat → Int32) (J : Nat → Nat → Int64) (D : Nat → Nat → UInt64) (v1 : Int32) : ex (185, 134, [.ref 316, .int v1, dv, dv], [], mm I J D) = ex (185, 42, [.ref 316, .int (v1 + 1), dv, dv], [], mm I J D) := (ex_itr 2 _).trans rfl
set_option maxRecDepth 100000 in
theorem e_185_140 (I : Nat → Nat → Int32) (J : Nat → Nat → Int64) (D : Nat → Nat → UInt64)  : ex (185, 140, [dv, dv, dv, dv], [], mm I J D) = some (.inl none, mm I J D) := (ex_itr 1 _).trans rfl
/-! GlacierBookModel.lies(II)Z -/
set_option maxRecDepth 100000 in
theorem e_186_0 (I : Nat → Nat → Int32) (J : Nat → Nat → Int64) (D : Nat → Nat → UInt64) (v1 : Int32) (v2 : Int32) : ex (186, 0, [.ref 316, .int v1, .int v2], [], mm I J D) = bif inb (((17 : Int32) * v1) + v2) 289 then (bif decide ((I 324 (((17 : Int32) * v1) + v2).toNatClampNeg) = 0 ∨ (I 324 (((17 : Int32) * v1) + v2).toNatClampNeg) = 1) then (some (.inl (some (.int (I 324 (((17 : Int32) * v1) + v2).toNatClampNeg))), mm I J D)) else none) else none := (ex_itr 9 _).trans rfl
/-! GlacierBookModel.isLine(II)Z -/
set_option maxRecDepth 100000 in
theorem e_187_0 (I : Nat → Nat → Int32) (J : Nat → Nat → Int64) (D : Nat → Nat → UInt64) (v1 : Int32) (v2 : Int32) : ex (187, 0, [.ref 316, .int v1, .int v2, dv, dv], [], mm I J D) = cal 187 6 [.ref 316, .int v1, .int v2, dv, dv] [] (ex (186, 0, [.ref 316, .int v1, .int v2], [], mm I J D)) := (ex_itr 4 _).trans rfl
set_option maxRecDepth 100000 in
theorem e_187_6 (I : Nat → Nat → Int32) (J : Nat → Nat → Int64) (D : Nat → Nat → UInt64) (v1 : Int32) (v2 : Int32) (s0 : Int32) : ex (187, 6, [.ref 316, .int v1, .int v2, dv, dv], [.int s0], mm I J D) = ex (187, 10, [.ref 316, .int v1, .int v2, .int s0, .int 1], [], mm I J D) := (ex_itr 3 _).trans rfl
set_option maxRecDepth 100000 in
theorem e_187_10 (I : Nat → Nat → Int32) (J : Nat → Nat → Int64) (D : Nat → Nat → UInt64) (v1 : Int32) (v2 : Int32) (v3 : Int32) (v4 : Int32) : ex (187, 10, [.ref 316, .int v1, .int v2, .int v3, .int v4], [], mm I J D) = bif decide (17 ≤ v4) then ex (187, 53, [dv, dv, dv, .int v3, dv], [], mm I J D) else ex (187, 17, [.ref 316, .int v1, .int v2, .int v3, .int v4], [], mm I J D) := (ex_itr 3 _).trans rfl
set_option maxRecDepth 100000 in
theorem e_187_17 (I : Nat → Nat → Int32) (J : Nat → Nat → Int64) (D : Nat → Nat → UInt64) (v1 : Int32) (v2 : Int32) (v3 : Int32) (v4 : Int32) : ex (187, 17, [.ref 316, .int v1, .int v2, .int v3, .int v4], [], mm I J D) = bif decide (v3 = 0) then ex (187, 53, [dv, dv, dv, .int v3, dv], [], mm I J D) else ex (187, 21, [.ref 316, .int v1, .int v2, dv, .int v4], [], mm I J D) := (ex_itr 2 _).trans rfl
set_option maxRecDepth 100000 in
theorem e_187_21 (I : Nat → Nat → Int32) (J : Nat → Nat → Int64) (D : Nat → Nat → UInt64) (v1 : Int32) (v2 : Int32) (v4 : Int32) : ex (187, 21, [.ref 316, .int v1, .int v2, dv, .int v4], [], mm I J D) = cal 187 28 [.ref 316, .int v1, .int v2, dv, .int v4] [] (ex (186, 0, [.ref 316, .int v1, .int v4], [], mm I J D)) := (ex_itr 4 _).trans rfl
set_option maxRecDepth 100000 in
theorem e_187_28 (I : Nat → Nat → Int32) (J : Nat → Nat → Int64) (D : Nat → Nat → UInt64) (v1 : Int32) (v2 : Int32) (v4 : Int32) (s0 : Int32) : ex (187, 28, [.ref 316, .int v1, .int v2, dv, .int v4], [.int s0], mm I J D) = bif decide (s0 = 0) then ex (187, 41, [.ref 316, .int v1, .int v2, dv, .int v4], [], mm I J D) else ex (187, 31, [.ref 316, .int v1, .int v2, dv, .int v4], [], mm I J D) := (ex_itr 1 _).trans rfl
set_option maxRecDepth 100000 in
theorem e_187_31 (I : Nat → Nat → Int32) (J : Nat → Nat → Int64) (D : Nat → Nat → UInt64) (v1 : Int32) (v2 : Int32) (v4 : Int32) : ex (187, 31, [.ref 316, .int v1, .int v2, dv, .int v4], [], mm I J D) = cal 187 38 [.ref 316, .int v1, .int v2, dv, .int v4] [] (ex (186, 0, [.ref 316, .int v4, .int v2], [], mm I J D)) := (ex_itr 4 _).trans rfl
set_option maxRecDepth 100000 in
theorem e_187_38 (I : Nat → Nat → Int32) (J : Nat → Nat → Int64) (D : Nat → Nat → UInt64) (v1 : Int32) (v2 : Int32) (v4 : Int32) (s0 : Int32) : ex (187, 38, [.ref 316, .int v1, .int v2, dv, .int v4], [.int s0], mm I J D) = bif decide (s0 ≠ 0) then ex (187, 45, [.ref 316, .int v1, .int v2, dv, .int v4], [], mm I J D) else ex (187, 41, [.ref 316, .int v1, .int v2, dv, .int v4], [], mm I J D) := (ex_itr 1 _).trans rfl
set_option maxRecDepth 100000 in
theorem e_187_41 (I : Nat → Nat → Int32) (J : Nat → Nat → Int64) (D : Nat → Nat → UInt64) (v1 : Int32) (v2 : Int32) (v4 : Int32) : ex (187, 41, [.ref 316, .int v1, .int v2, dv, .int v4], [], mm I J D) = ex (187, 46, [.ref 316, .int v1, .int v2, dv, .int v4], [.int 1], mm I J D) := (ex_itr 2 _).trans rfl
set_option maxRecDepth 100000 in
theorem e_187_45 (I : Nat → Nat → Int32) (J : Nat → Nat → Int64) (D : Nat → Nat → UInt64) (v1 : Int32) (v2 : Int32) (v4 : Int32) : ex (187, 45, [.ref 316, .int v1, .int v2, dv, .int v4], [], mm I J D) = ex (187, 46, [.ref 316, .int v1, .int v2, dv, .int v4], [.int 0], mm I J D) := (ex_itr 1 _).trans rfl
set_option maxRecDepth 100000 in
theorem e_187_46 (I : Nat → Nat → Int32) (J : Nat → Nat → Int64) (D : Nat → Nat → UInt64) (v1 : Int32) (v2 : Int32) (v4 : Int32) (s0 : Int32) : ex (187, 46, [.ref 316, .int v1, .int v2, dv, .int v4], [.int s0], mm I J D) = ex (187, 10, [.ref 316, .int v1, .int v2, .int s0, .int (v4 + 1)], [], mm I J D) := (ex_itr 3 _).trans rfl
set_option maxRecDepth 100000 in
theorem e_187_53 (I : Nat → Nat → Int32) (J : Nat → Nat → Int64) (D : Nat → Nat → UInt64) (v3 : Int32) : ex (187, 53, [dv, dv, dv, .int v3, dv], [], mm I J D) = bif decide (v3 = 0 ∨ v3 = 1) then (some (.inl (some (.int v3)), mm I J D)) else none := (ex_itr 2 _).trans rfl
/-! GlacierBookModel.lines()I -/
set_option maxRecDepth 100000 in
theorem e_188_0 (I : Nat → Nat → Int32) (J : Nat → Nat → Int64) (D : Nat → Nat → UInt64)  : ex (188, 0, [.ref 316, dv, dv, dv], [], mm I J D) = cal 188 4 [.ref 316, dv, dv, dv] [] (ex (185, 0, [.ref 316, dv, dv, dv], [], mm I J D)) := (ex_itr 2 _).trans rfl
set_option maxRecDepth 100000 in
theorem e_188_4 (I : Nat → Nat → Int32) (J : Nat → Nat → Int64) (D : Nat → Nat → UInt64)  : ex (188, 4, [.ref 316, dv, dv, dv], [], mm I J D) = ex (188, 8, [.ref 316, .int 0, .int 1, dv], [], mm I J D) := (ex_itr 4 _).trans rfl
set_option maxRecDepth 100000 in
theorem e_188_8 (I : Nat → Nat → Int32) (J : Nat → Nat → Int64) (D : Nat → Nat → UInt64) (v1 : Int32) (v2 : Int32) : ex (188, 8, [.ref 316, .int v1, .int v2, dv], [], mm I J D) = bif decide (17 ≤ v2) then ex (188, 51, [dv, .int v1, dv, dv], [], mm I J D) else ex (188, 14, [.ref 316, .int v1, .int v2, dv], [], mm I J D) := (ex_itr 3 _).trans rfl
set_option maxRecDepth 100000 in
theorem e_188_14 (I : Nat → Nat → Int32) (J : Nat → Nat → Int64) (D : Nat → Nat → UInt64) (v1 : Int32) (v2 : Int32) : ex (188, 14, [.ref 316, .int v1, .int v2, dv], [], mm I J D) = ex (188, 16, [.ref 316, .int v1, .int v2, .int 1], [], mm I J D) := (ex_itr 2 _).trans rfl
set_option maxRecDepth 100000 in
theorem e_188_16 (I : Nat → Nat → Int32) (J : Nat → Nat → Int64) (D : Nat → Nat → UInt64) (v1 : Int32) (v2 : Int32) (v3 : Int32) : ex (188, 16, [.ref 316, .int v1, .int v2, .int v3], [], mm I J D) = bif decide (17 ≤ v3) then ex (188, 45, [.ref 316, .int v1, .int v2, dv], [], mm I J D) else ex (188, 22, [.ref 316, .int v1, .int v2, .int v3], [], mm I J D) := (ex_itr 3 _).trans rfl
set_option maxRecDepth 100000 in
theorem e_188_22 (I : Nat → Nat → Int32) (J : Nat → Nat → Int64) (D : Nat → Nat → UInt64) (v1 : Int32) (v2 : Int32) (v3 : Int32) : ex (188, 22, [.ref 316, .int v1, .int v2, .int v3], [], mm I J D) = cal 188 29 [.ref 316, dv, .int v2, .int v3] [.int v1] (ex (187, 0, [.ref 316, .int v2, .int v3, dv, dv], [], mm I J D)) := (ex_itr 5 _).trans rfl
set_option maxRecDepth 100000 in
theorem e_188_29 (I : Nat → Nat → Int32) (J : Nat → Nat → Int64) (D : Nat → Nat → UInt64) (v2 : Int32) (v3 : Int32) (s0 : Int32) (s1 : Int32) : ex (188, 29, [.ref 316, dv, .int v2, .int v3], [.int s0, .int s1], mm I J D) = bif decide (s0 = 0) then ex (188, 36, [.ref 316, dv, .int v2, .int v3], [.int s1], mm I J D) else ex (188, 32, [.ref 316, dv, .int v2, .int v3], [.int s1], mm I J D) := (ex_itr 1 _).trans rfl
set_option maxRecDepth 100000 in
theorem e_188_32 (I : Nat → Nat → Int32) (J : Nat → Nat → Int64) (D : Nat → Nat → UInt64) (v2 : Int32) (v3 : Int32) (s0 : Int32) : ex (188, 32, [.ref 316, dv, .int v2, .int v3], [.int s0], mm I J D) = ex (188, 37, [.ref 316, dv, .int v2, .int v3], [.int 1, .int s0], mm I J D) := (ex_itr 2 _).trans rfl
set_option maxRecDepth 100000 in
theorem e_188_36 (I : Nat → Nat → Int32) (J : Nat → Nat → Int64) (D : Nat → Nat → UInt64) (v2 : Int32) (v3 : Int32) (s0 : Int32) : ex (188, 36, [.ref 316, dv, .int v2, .int v3], [.int s0], mm I J D) = ex (188, 37, [.ref 316, dv, .int v2, .int v3], [.int 0, .int s0], mm I J D) := (ex_itr 1 _).trans rfl
set_option maxRecDepth 100000 in
theorem e_188_37 (I : Nat → Nat → Int32) (J : Nat → Nat → Int64) (D : Nat → Nat → UInt64) (v2 : Int32) (v3 : Int32) (s0 : Int32) (s1 : Int32) : ex (188, 37, [.ref 316, dv, .int v2, .int v3], [.int s0, .int s1], mm I J D) = ex (188, 16, [.ref 316, .int (s1 + s0), .int v2, .int (v3 + 1)], [], mm I J D) := (ex_itr 4 _).trans rfl
set_option maxRecDepth 100000 in
theorem e_188_45 (I : Nat → Nat → Int32) (J : Nat → Nat → Int64) (D : Nat → Nat → UInt64) (v1 : Int32) (v2 : Int32) : ex (188, 45, [.ref 316, .int v1, .int v2, dv], [], mm I J D) = ex (188, 8, [.ref 316, .int v1, .int (v2 + 1), dv], [], mm I J D) := (ex_itr 2 _).trans rfl
set_option maxRecDepth 100000 in
theorem e_188_51 (I : Nat → Nat → Int32) (J : Nat → Nat → Int64) (D : Nat → Nat → UInt64) (v1 : Int32) : ex (188, 51, [dv, .int v1, dv, dv], [], mm I J D) = some (.inl (some (.int v1)), mm I J D) := (ex_itr 2 _).trans rfl
/-! GlacierBookModel.layOn(II)I -/
set_option maxRecDepth 100000 in
theorem e_189_0 (I : Nat → Nat → Int32) (J : Nat → Nat → Int64) (D : Nat → Nat → UInt64) (v1 : Int32) (v2 : Int32) : ex (189, 0, [.ref 316, .int v1, .int v2], [], mm I J D) = cal 189 6 [.ref 316, .int v1, .int v2] [.ref 316] (ex (166, 0, [.ref 316, .int v1], [], mm I J D)) := (ex_itr 4 _).trans rfl
set_option maxRecDepth 100000 in
theorem e_189_6 (I : Nat → Nat → Int32) (J : Nat → Nat → Int64) (D : Nat → Nat → UInt64) (v1 : Int32) (v2 : Int32) (s0 : Int32) : ex (189, 6, [.ref 316, .int v1, .int v2], [.int s0, .ref 316], mm I J D) = bif decide (s0 = 0) then ex (189, 21, [.ref 316, .int v1, .int v2], [.ref 316], mm I J D) else ex (189, 9, [.ref 316, .int v1, .int v2], [.ref 316], mm I J D) := (ex_itr 1 _).trans rfl
set_option maxRecDepth 100000 in
theorem e_189_9 (I : Nat → Nat → Int32) (J : Nat → Nat → Int64) (D : Nat → Nat → UInt64) (v1 : Int32) (v2 : Int32) : ex (189, 9, [.ref 316, .int v1, .int v2], [.ref 316], mm I J D) = cal 189 14 [.ref 316, .int v1, .int v2] [.ref 316] (ex (166, 0, [.ref 316, .int v2], [], mm I J D)) := (ex_itr 3 _).trans rfl
set_option maxRecDepth 100000 in
theorem e_189_14 (I : Nat → Nat → Int32) (J : Nat → Nat → Int64) (D : Nat → Nat → UInt64) (v1 : Int32) (v2 : Int32) (s0 : Int32) : ex (189, 14, [.ref 316, .int v1, .int v2], [.int s0, .ref 316], mm I J D) = bif decide (s0 = 0) then ex (189, 21, [.ref 316, .int v1, .int v2], [.ref 316], mm I J D) else ex (189, 17, [.ref 316, .int v1, .int v2], [.ref 316], mm I J D) := (ex_itr 1 _).trans rfl
set_option maxRecDepth 100000 in
theorem e_189_17 (I : Nat → Nat → Int32) (J : Nat → Nat → Int64) (D : Nat → Nat → UInt64) (v1 : Int32) (v2 : Int32) : ex (189, 17, [.ref 316, .int v1, .int v2], [.ref 316], mm I J D) = ex (189, 22, [.ref 316, .int v1, .int v2], [.int 1, .ref 316], mm I J D) := (ex_itr 2 _).trans rfl
set_option maxRecDepth 100000 in
theorem e_189_21 (I : Nat → Nat → Int32) (J : Nat → Nat → Int64) (D : Nat → Nat → UInt64) (v1 : Int32) (v2 : Int32) : ex (189, 21, [.ref 316, .int v1, .int v2], [.ref 316], mm I J D) = ex (189, 22, [.ref 316, .int v1, .int v2], [.int 0, .ref 316], mm I J D) := (ex_itr 1 _).trans rfl
set_option maxRecDepth 100000 in
theorem e_189_22 (I : Nat → Nat → Int32) (J : Nat → Nat → Int64) (D : Nat → Nat → UInt64) (v1 : Int32) (v2 : Int32) (s0 : Int32) : ex (189, 22, [.ref 316, .int v1, .int v2], [.int s0, .ref 316], mm I J D) = cal 189 26 [.ref 316, .int v1, .int v2] [] (ex (156, 0, [.ref 316, .int s0, .int 1], [], mm I J D)) := (ex_itr 2 _).trans rfl
set_option maxRecDepth 100000 in
theorem e_189_26 (I : Nat → Nat → Int32) (J : Nat → Nat → Int64) (D : Nat → Nat → UInt64) (v1 : Int32) (v2 : Int32) (s0 : Int32) : ex (189, 26, [.ref 316, .int v1, .int v2], [.int s0], mm I J D) = bif decide (s0 = 0) then ex (189, 47, [dv, dv, dv], [], mm I J D) else ex (189, 29, [.ref 316, .int v1, .int v2], [], mm I J D) := (ex_itr 1 _).trans rfl
set_option maxRecDepth 100000 in
theorem e_189_29 (I : Nat → Nat → Int32) (J : Nat → Nat → Int64) (D : Nat → Nat → UInt64) (v1 : Int32) (v2 : Int32) : ex (189, 29, [.ref 316, .int v1, .int v2], [], mm I J D) = bif decide (v1 = v2) then ex (189, 39, [.ref 316, .int v1, .int v2], [.ref 316], mm I J D) else ex (189, 35, [.ref 316, .int v1, .int v2], [.ref 316], mm I J D) := (ex_itr 4 _).trans rfl
set_option maxRecDepth 100000 in
theorem e_189_35 (I : Nat → Nat → Int32) (J : Nat → Nat → Int64) (D : Nat → Nat → UInt64) (v1 : Int32) (v2 : Int32) : ex (189, 35, [.ref 316, .int v1, .int v2], [.ref 316], mm I J D) = ex (189, 40, [.ref 316, .int v1, .int v2], [.int 1, .ref 316], mm I J D) := (ex_itr 2 _).trans rfl
set_option maxRecDepth 100000 in
theorem e_189_39 (I : Nat → Nat → Int32) (J : Nat → Nat → Int64) (D : Nat → Nat → UInt64) (v1 : Int32) (v2 : Int32) : ex (189, 39, [.ref 316, .int v1, .int v2], [.ref 316], mm I J D) = ex (189, 40, [.ref 316, .int v1, .int v2], [.int 0, .ref 316], mm I J D) := (ex_itr 1 _).trans rfl
set_option maxRecDepth 100000 in
theorem e_189_40 (I : Nat → Nat → Int32) (J : Nat → Nat → Int64) (D : Nat → Nat → UInt64) (v1 : Int32) (v2 : Int32) (s0 : Int32) : ex (189, 40, [.ref 316, .int v1, .int v2], [.int s0, .ref 316], mm I J D) = cal 189 44 [.ref 316, .int v1, .int v2] [] (ex (156, 0, [.ref 316, .int s0, .int 2], [], mm I J D)) := (ex_itr 2 _).trans rfl
set_option maxRecDepth 100000 in
theorem e_189_44 (I : Nat → Nat → Int32) (J : Nat → Nat → Int64) (D : Nat → Nat → UInt64) (v1 : Int32) (v2 : Int32) (s0 : Int32) : ex (189, 44, [.ref 316, .int v1, .int v2], [.int s0], mm I J D) = bif decide (s0 ≠ 0) then ex (189, 49, [.ref 316, .int v1, .int v2], [], mm I J D) else ex (189, 47, [dv, dv, dv], [], mm I J D) := (ex_itr 1 _).trans rfl
set_option maxRecDepth 100000 in
theorem e_189_47 (I : Nat → Nat → Int32) (J : Nat → Nat → Int64) (D : Nat → Nat → UInt64)  : ex (189, 47, [dv, dv, dv], [], mm I J D) = some (.inl (some (.int 0)), mm I J D) := (ex_itr 2 _).trans rfl
set_option maxRecDepth 100000 in
theorem e_189_49 (I : Nat → Nat → Int32) (J : Nat → Nat → Int64) (D : Nat → Nat → UInt64) (v1 : Int32) (v2 : Int32) : ex (189, 49, [.ref 316, .int v1, .int v2], [], mm I J D) = cal 189 53 [.ref 316, .int v1, .int v2] [] (ex (185, 0, [.ref 316, dv, dv, dv], [], mm I J D)) := (ex_itr 2 _).trans rfl
set_option maxRecDepth 100000 in
theorem e_189_53 (I : Nat → Nat → Int32) (J : Nat → Nat → Int64) (D : Nat → Nat → UInt64) (v1 : Int32) (v2 : Int32) : ex (189, 53, [.ref 316, .int v1, .int v2], [], mm I J D) = cal 189 60 [.ref 316, .int v1, .int v2] [.ref 316] (ex (186, 0, [.ref 316, .int v2, .int v1], [], mm I J D)) := (ex_itr 5 _).trans rfl
set_option maxRecDepth 100000 in
theorem e_189_60 (I : Nat → Nat → Int32) (J : Nat → Nat → Int64) (D : Nat → Nat → UInt64) (v1 : Int32) (v2 : Int32) (s0 : Int32) : ex (189, 60, [.ref 316, .int v1, .int v2], [.int s0, .ref 316], mm I J D) = bif decide (s0 ≠ 0) then ex (189, 67, [.ref 316, .int v1, .int v2], [.ref 316], mm I J D) else ex (189, 63, [.ref 316, .int v1, .int v2], [.ref 316], mm I J D) := (ex_itr 1 _).trans rfl
set_option maxRecDepth 100000 in
theorem e_189_63 (I : Nat → Nat → Int32) (J : Nat → Nat → Int64) (D : Nat → Nat → UInt64) (v1 : Int32) (v2 : Int32) : ex (189, 63, [.ref 316, .int v1, .int v2], [.ref 316], mm I J D) = ex (189, 68, [.ref 316, .int v1, .int v2], [.int 1, .ref 316], mm I J D) := (ex_itr 2 _).trans rfl
set_option maxRecDepth 100000 in
theorem e_189_67 (I : Nat → Nat → Int32) (J : Nat → Nat → Int64) (D : Nat → Nat → UInt64) (v1 : Int32) (v2 : Int32) : ex (189, 67, [.ref 316, .int v1, .int v2], [.ref 316], mm I J D) = ex (189, 68, [.ref 316, .int v1, .int v2], [.int 0, .ref 316], mm I J D) := (ex_itr 1 _).trans rfl
set_option maxRecDepth 100000 in
theorem e_189_68 (I : Nat → Nat → Int32) (J : Nat → Nat → Int64) (D : Nat → Nat → UInt64) (v1 : Int32) (v2 : Int32) (s0 : Int32) : ex (189, 68, [.ref 316, .int v1, .int v2], [.int s0, .ref 316], mm I J D) = cal 189 72 [.ref 316, .int v1, .int v2] [] (ex (156, 0, [.ref 316, .int s0, .int 3], [], mm I J D)) := (ex_itr 2 _).trans rfl
set_option maxRecDepth 100000 in
theorem e_189_72 (I : Nat → Nat → Int32) (J : Nat → Nat → Int64) (D : Nat → Nat → UInt64) (v1 : Int32) (v2 : Int32) (s0 : Int32) : ex (189, 72, [.ref 316, .int v1, .int v2], [.int s0], mm I J D) = bif decide (s0 ≠ 0) then ex (189, 77, [.ref 316, .int v1, .int v2], [], mm I J D) else ex (189, 75, [dv, dv, dv], [], mm I J D) := (ex_itr 1 _).trans rfl
set_option maxRecDepth 100000 in
theorem e_189_75 (I : Nat → Nat → Int32) (J : Nat → Nat → Int64) (D : Nat → Nat → UInt64)  : ex (189, 75, [dv, dv, dv], [], mm I J D) = some (.inl (some (.int 0)), mm I J D) := (ex_itr 2 _).trans rfl
set_option maxRecDepth 100000 in
theorem e_189_77 (I : Nat → Nat → Int32) (J : Nat → Nat → Int64) (D : Nat → Nat → UInt64) (v1 : Int32) (v2 : Int32) : ex (189, 77, [.ref 316, .int v1, .int v2], [], mm I J D) = cal 189 81 [.ref 316, .int v1, .int v2] [] (ex (161, 0, [.ref 316, dv, dv], [], mm I J D)) := (ex_itr 2 _).trans rfl
set_option maxRecDepth 100000 in
theorem e_189_81 (I : Nat → Nat → Int32) (J : Nat → Nat → Int64) (D : Nat → Nat → UInt64) (v1 : Int32) (v2 : Int32) : ex (189, 81, [.ref 316, .int v1, .int v2], [], mm I J D) = bif inb (((202 : Int32) + ((17 : Int32) * v1)) + v2) 850 then (cal 189 101 [dv, dv, dv] [] (ex (188, 0, [.ref 316, dv, dv, dv], [], mm (ups I 317 ((((202 : Int32) + ((17 : Int32) * v1)) + v2).toNatClampNeg) 1) J D))) else none := (ex_itr 13 _).trans rfl
set_option maxRecDepth 100000 in
theorem e_189_101 (I : Nat → Nat → Int32) (J : Nat → Nat → Int64) (D : Nat → Nat → UInt64) (s0 : Int32) : ex (189, 101, [dv, dv, dv], [.int s0], mm I J D) = some (.inl (some (.int s0)), mm I J D) := (ex_itr 1 _).trans rfl
/-! GlacierBookModel.takeOff(II)I -/
set_option maxRecDepth 100000 in
theorem e_190_0 (I : Nat → Nat → Int32) (J : Nat → Nat → Int64) (D : Nat → Nat → UInt64) (v1 : Int32) (v2 : Int32) : ex (190, 0, [.ref 316, .int v1, .int v2], [], mm I J D) = cal 190 6 [.ref 316, .int v1, .int v2] [.ref 316] (ex (166, 0, [.ref 316, .int v1], [], mm I J D)) := (ex_itr 4 _).trans rfl
set_option maxRecDepth 100000 in
theorem e_190_6 (I : Nat → Nat → Int32) (J : Nat → Nat → Int64) (D : Nat → Nat → UInt64) (v1 : Int32) (v2 : Int32) (s0 : Int32) : ex (190, 6, [.ref 316, .int v1, .int v2], [.int s0, .ref 316], mm I J D) = bif decide (s0 = 0) then ex (190, 21, [.ref 316, .int v1, .int v2], [.ref 316], mm I J D) else ex (190, 9, [.ref 316, .int v1, .int v2], [.ref 316], mm I J D) := (ex_itr 1 _).trans rfl
set_option maxRecDepth 100000 in
theorem e_190_9 (I : Nat → Nat → Int32) (J : Nat → Nat → Int64) (D : Nat → Nat → UInt64) (v1 : Int32) (v2 : Int32) : ex (190, 9, [.ref 316, .int v1, .int v2], [.ref 316], mm I J D) = cal 190 14 [.ref 316, .int v1, .int v2] [.ref 316] (ex (166, 0, [.ref 316, .int v2], [], mm I J D)) := (ex_itr 3 _).trans rfl
set_option maxRecDepth 100000 in
theorem e_190_14 (I : Nat → Nat → Int32) (J : Nat → Nat → Int64) (D : Nat → Nat → UInt64) (v1 : Int32) (v2 : Int32) (s0 : Int32) : ex (190, 14, [.ref 316, .int v1, .int v2], [.int s0, .ref 316], mm I J D) = bif decide (s0 = 0) then ex (190, 21, [.ref 316, .int v1, .int v2], [.ref 316], mm I J D) else ex (190, 17, [.ref 316, .int v1, .int v2], [.ref 316], mm I J D) := (ex_itr 1 _).trans rfl
set_option maxRecDepth 100000 in
theorem e_190_17 (I : Nat → Nat → Int32) (J : Nat → Nat → Int64) (D : Nat → Nat → UInt64) (v1 : Int32) (v2 : Int32) : ex (190, 17, [.ref 316, .int v1, .int v2], [.ref 316], mm I J D) = ex (190, 22, [.ref 316, .int v1, .int v2], [.int 1, .ref 316], mm I J D) := (ex_itr 2 _).trans rfl
set_option maxRecDepth 100000 in
theorem e_190_21 (I : Nat → Nat → Int32) (J : Nat → Nat → Int64) (D : Nat → Nat → UInt64) (v1 : Int32) (v2 : Int32) : ex (190, 21, [.ref 316, .int v1, .int v2], [.ref 316], mm I J D) = ex (190, 22, [.ref 316, .int v1, .int v2], [.int 0, .ref 316], mm I J D) := (ex_itr 1 _).trans rfl
set_option maxRecDepth 100000 in
theorem e_190_22 (I : Nat → Nat → Int32) (J : Nat → Nat → Int64) (D : Nat → Nat → UInt64) (v1 : Int32) (v2 : Int32) (s0 : Int32) : ex (190, 22, [.ref 316, .int v1, .int v2], [.int s0, .ref 316], mm I J D) = cal 190 26 [.ref 316, .int v1, .int v2] [] (ex (156, 0, [.ref 316, .int s0, .int 1], [], mm I J D)) := (ex_itr 2 _).trans rfl
set_option maxRecDepth 100000 in
theorem e_190_26 (I : Nat → Nat → Int32) (J : Nat → Nat → Int64) (D : Nat → Nat → UInt64) (v1 : Int32) (v2 : Int32) (s0 : Int32) : ex (190, 26, [.ref 316, .int v1, .int v2], [.int s0], mm I J D) = bif decide (s0 = 0) then ex (190, 61, [dv, dv, dv], [], mm I J D) else ex (190, 29, [.ref 316, .int v1, .int v2], [], mm I J D) := (ex_itr 1 _).trans rfl
set_option maxRecDepth 100000 in
theorem e_190_29 (I : Nat → Nat → Int32) (J : Nat → Nat → Int64) (D : Nat → Nat → UInt64) (v1 : Int32) (v2 : Int32) : ex (190, 29, [.ref 316, .int v1, .int v2], [], mm I J D) = bif inb (((202 : Int32) + ((17 : Int32) * v1)) + v2) 850 then (bif decide ((I 317 (((202 : Int32) + ((17 : Int32) * v1)) + v2).toNatClampNeg) ≠ 1) then ex (190, 53, [.ref 316, .int v1, .int v2], [.ref 316], mm I J D) else ex (190, 49, [.ref 316, .int v1, .int v2], [.ref 316], mm I J D)) else none := (ex_itr 13 _).trans rfl
set_option maxRecDepth 100000 in
theorem e_190_49 (I : Nat → Nat → Int32) (J : Nat → Nat → Int64) (D : Nat → Nat → UInt64) (v1 : Int32) (v2 : Int32) : ex (190, 49, [.ref 316, .int v1, .int v2], [.ref 316], mm I J D) = ex (190, 54, [.ref 316, .int v1, .int v2], [.int 1, .ref 316], mm I J D) := (ex_itr 2 _).trans rfl
set_option maxRecDepth 100000 in
theorem e_190_53 (I : Nat → Nat → Int32) (J : Nat → Nat → Int64) (D : Nat → Nat → UInt64) (v1 : Int32) (v2 : Int32) : ex (190, 53, [.ref 316, .int v1, .int v2], [.ref 316], mm I J D) = ex (190, 54, [.ref 316, .int v1, .int v2], [.int 0, .ref 316], mm I J D) := (ex_itr 1 _).trans rfl
set_option maxRecDepth 100000 in
theorem e_190_54 (I : Nat → Nat → Int32) (J : Nat → Nat → Int64) (D : Nat → Nat → UInt64) (v1 : Int32) (v2 : Int32) (s0 : Int32) : ex (190, 54, [.ref 316, .int v1, .int v2], [.int s0, .ref 316], mm I J D) = cal 190 58 [.ref 316, .int v1, .int v2] [] (ex (156, 0, [.ref 316, .int s0, .int 2], [], mm I J D)) := (ex_itr 2 _).trans rfl
set_option maxRecDepth 100000 in
theorem e_190_58 (I : Nat → Nat → Int32) (J : Nat → Nat → Int64) (D : Nat → Nat → UInt64) (v1 : Int32) (v2 : Int32) (s0 : Int32) : ex (190, 58, [.ref 316, .int v1, .int v2], [.int s0], mm I J D) = bif decide (s0 ≠ 0) then ex (190, 63, [.ref 316, .int v1, .int v2], [], mm I J D) else ex (190, 61, [dv, dv, dv], [], mm I J D) := (ex_itr 1 _).trans rfl
set_option maxRecDepth 100000 in
theorem e_190_61 (I : Nat → Nat → Int32) (J : Nat → Nat → Int64) (D : Nat → Nat → UInt64)  : ex (190, 61, [dv, dv, dv], [], mm I J D) = some (.inl (some (.int 0)), mm I J D) := (ex_itr 2 _).trans rfl
set_option maxRecDepth 100000 in
theorem e_190_63 (I : Nat → Nat → Int32) (J : Nat → Nat → Int64) (D : Nat → Nat → UInt64) (v1 : Int32) (v2 : Int32) : ex (190, 63, [.ref 316, .int v1, .int v2], [], mm I J D) = cal 190 67 [.ref 316, .int v1, .int v2] [] (ex (161, 0, [.ref 316, dv, dv], [], mm I J D)) := (ex_itr 2 _).trans rfl
set_option maxRecDepth 100000 in
theorem e_190_67 (I : Nat → Nat → Int32) (J : Nat → Nat → Int64) (D : Nat → Nat → UInt64) (v1 : Int32) (v2 : Int32) : ex (190, 67, [.ref 316, .int v1, .int v2], [], mm I J D) = bif inb (((202 : Int32) + ((17 : Int32) * v1)) + v2) 850 then (cal 190 87 [dv, dv, dv] [] (ex (188, 0, [.ref 316, dv, dv, dv], [], mm (ups I 317 ((((202 : Int32) + ((17 : Int32) * v1)) + v2).toNatClampNeg) 0) J D))) else none := (ex_itr 13 _).trans rfl
set_option maxRecDepth 100000 in
theorem e_190_87 (I : Nat → Nat → Int32) (J : Nat → Nat → Int64) (D : Nat → Nat → UInt64) (s0 : Int32) : ex (190, 87, [dv, dv, dv], [.int s0], mm I J D) = some (.inl (some (.int s0)), mm I J D) := (ex_itr 1 _).trans rfl
/-! GlacierBookModel.isAbove(II)Z -/
set_option maxRecDepth 100000 in
theorem e_191_0 (I : Nat → Nat → Int32) (J : Nat → Nat → Int64) (D : Nat → Nat → UInt64) (v1 : Int32) (v2 : Int32) : ex (191, 0, [.ref 316, .int v1, .int v2], [], mm I J D) = cal 191 6 [.ref 316, .int v1, .int v2] [.ref 316] (ex (166, 0, [.ref 316, .int v1], [], mm I J D)) := (ex_itr 4 _).trans rfl
set_option maxRecDepth 100000 in
theorem e_191_6 (I : Nat → Nat → Int32) (J : Nat → Nat → Int64) (D : Nat → Nat → UInt64) (v1 : Int32) (v2 : Int32) (s0 : Int32) : ex (191, 6, [.ref 316, .int v1, .int v2], [.int s0, .ref 316], mm I J D) = bif decide (s0 = 0) then ex (191, 21, [.ref 316, .int v1, .int v2], [.ref 316], mm I J D) else ex (191, 9, [.ref 316, .int v1, .int v2], [.ref 316], mm I J D) := (ex_itr 1 _).trans rfl
set_option maxRecDepth 100000 in
theorem e_191_9 (I : Nat → Nat → Int32) (J : Nat → Nat → Int64) (D : Nat → Nat → UInt64) (v1 : Int32) (v2 : Int32) : ex (191, 9, [.ref 316, .int v1, .int v2], [.ref 316], mm I J D) = cal 191 14 [.ref 316, .int v1, .int v2] [.ref 316] (ex (166, 0, [.ref 316, .int v2], [], mm I J D)) := (ex_itr 3 _).trans rfl
set_option maxRecDepth 100000 in
theorem e_191_14 (I : Nat → Nat → Int32) (J : Nat → Nat → Int64) (D : Nat → Nat → UInt64) (v1 : Int32) (v2 : Int32) (s0 : Int32) : ex (191, 14, [.ref 316, .int v1, .int v2], [.int s0, .ref 316], mm I J D) = bif decide (s0 = 0) then ex (191, 21, [.ref 316, .int v1, .int v2], [.ref 316], mm I J D) else ex (191, 17, [.ref 316, .int v1, .int v2], [.ref 316], mm I J D) := (ex_itr 1 _).trans rfl
set_option maxRecDepth 100000 in
theorem e_191_17 (I : Nat → Nat → Int32) (J : Nat → Nat → Int64) (D : Nat → Nat → UInt64) (v1 : Int32) (v2 : Int32) : ex (191, 17, [.ref 316, .int v1, .int v2], [.ref 316], mm I J D) = ex (191, 22, [.ref 316, .int v1, .int v2], [.int 1, .ref 316], mm I J D) := (ex_itr 2 _).trans rfl
set_option maxRecDepth 100000 in
theorem e_191_21 (I : Nat → Nat → Int32) (J : Nat → Nat → Int64) (D : Nat → Nat → UInt64) (v1 : Int32) (v2 : Int32) : ex (191, 21, [.ref 316, .int v1, .int v2], [.ref 316], mm I J D) = ex (191, 22, [.ref 316, .int v1, .int v2], [.int 0, .ref 316], mm I J D) := (ex_itr 1 _).trans rfl
set_option maxRecDepth 100000 in
theorem e_191_22 (I : Nat → Nat → Int32) (J : Nat → Nat → Int64) (D : Nat → Nat → UInt64) (v1 : Int32) (v2 : Int32) (s0 : Int32) : ex (191, 22, [.ref 316, .int v1, .int v2], [.int s0, .ref 316], mm I J D) = cal 191 26 [.ref 316, .int v1, .int v2] [] (ex (156, 0, [.ref 316, .int s0, .int 1], [], mm I J D)) := (ex_itr 2 _).trans rfl
set_option maxRecDepth 100000 in
theorem e_191_26 (I : Nat → Nat → Int32) (J : Nat → Nat → Int64) (D : Nat → Nat → UInt64) (v1 : Int32) (v2 : Int32) (s0 : Int32) : ex (191, 26, [.ref 316, .int v1, .int v2], [.int s0], mm I J D) = bif decide (s0 ≠ 0) then ex (191, 31, [.ref 316, .int v1, .int v2], [], mm I J D) else ex (191, 29, [dv, dv, dv], [], mm I J D) := (ex_itr 1 _).trans rfl
set_option maxRecDepth 100000 in
theorem e_191_29 (I : Nat → Nat → Int32) (J : Nat → Nat → Int64) (D : Nat → Nat → UInt64)  : ex (191, 29, [dv, dv, dv], [], mm I J D) = some (.inl (some (.int 0)), mm I J D) := (ex_itr 2 _).trans rfl
set_option maxRecDepth 100000 in
theorem e_191_31 (I : Nat → Nat → Int32) (J : Nat → Nat → Int64) (D : Nat → Nat → UInt64) (v1 : Int32) (v2 : Int32) : ex (191, 31, [.ref 316, .int v1, .int v2], [], mm I J D) = cal 191 35 [.ref 316, .int v1, .int v2] [] (ex (185, 0, [.ref 316, dv, dv, dv], [], mm I J D)) := (ex_itr 2 _).trans rfl
set_option maxRecDepth 100000 in
theorem e_191_35 (I : Nat → Nat → Int32) (J : Nat → Nat → Int64) (D : Nat → Nat → UInt64) (v1 : Int32) (v2 : Int32) : ex (191, 35, [.ref 316, .int v1, .int v2], [], mm I J D) = cal 191 41 [dv, dv, dv] [] (ex (186, 0, [.ref 316, .int v1, .int v2], [], mm I J D)) := (ex_itr 4 _).trans rfl
set_option maxRecDepth 100000 in
theorem e_191_41 (I : Nat → Nat → Int32) (J : Nat → Nat → Int64) (D : Nat → Nat → UInt64) (s0 : Int32) : ex (191, 41, [dv, dv, dv], [.int s0], mm I J D) = bif decide (s0 = 0 ∨ s0 = 1) then (some (.inl (some (.int s0)), mm I J D)) else none := (ex_itr 1 _).trans rfl
/-! GlacierBookModel.lineCount()I -/
set_option maxRecDepth 100000 in
theorem e_192_0 (I : Nat → Nat → Int32) (J : Nat → Nat → Int64) (D : Nat → Nat → UInt64)  : ex (192, 0, [.ref 316], [], mm I J D) = cal 192 9 [dv] [] (ex (188, 0, [.ref 316, dv, dv, dv], [], mm (ups I 316 0 0) J D)) := (ex_itr 5 _).trans rfl
set_option maxRecDepth 100000 in
theorem e_192_9 (I : Nat → Nat → Int32) (J : Nat → Nat → Int64) (D : Nat → Nat → UInt64) (s0 : Int32) : ex (192, 9, [dv], [.int s0], mm I J D) = some (.inl (some (.int s0)), mm I J D) := (ex_itr 1 _).trans rfl
/-! GlacierBookModel.lineAt(I)I -/
set_option maxRecDepth 100000 in
theorem e_193_0 (I : Nat → Nat → Int32) (J : Nat → Nat → Int64) (D : Nat → Nat → UInt64) (v1 : Int32) : ex (193, 0, [.ref 316, .int v1, dv, dv], [], mm I J D) = cal 193 7 [.ref 316, .int v1, dv, dv] [.int 0, .int v1, .ref 316] (ex (188, 0, [.ref 316, dv, dv, dv], [], mm I J D)) := (ex_itr 5 _).trans rfl
set_option maxRecDepth 100000 in
theorem e_193_7 (I : Nat → Nat → Int32) (J : Nat → Nat → Int64) (D : Nat → Nat → UInt64) (v1 : Int32) (s0 : Int32) (s1 : Int32) (s2 : Int32) : ex (193, 7, [.ref 316, .int v1, dv, dv], [.int s0, .int s1, .int s2, .ref 316], mm I J D) = cal 193 12 [.ref 316, .int v1, dv, dv] [.ref 316] (ex (157, 0, [.int s2, .int s1, .int (s0 - 1)], [], mm I J D)) := (ex_itr 3 _).trans rfl
set_option maxRecDepth 100000 in
theorem e_193_12 (I : Nat → Nat → Int32) (J : Nat → Nat → Int64) (D : Nat → Nat → UInt64) (v1 : Int32) (s0 : Int32) : ex (193, 12, [.ref 316, .int v1, dv, dv], [.int s0, .ref 316], mm I J D) = cal 193 16 [.ref 316, .int v1, dv, dv] [] (ex (156, 0, [.ref 316, .int s0, .int 1], [], mm I J D)) := (ex_itr 2 _).trans rfl
set_option maxRecDepth 100000 in
theorem e_193_16 (I : Nat → Nat → Int32) (J : Nat → Nat → Int64) (D : Nat → Nat → UInt64) (v1 : Int32) (s0 : Int32) : ex (193, 16, [.ref 316, .int v1, dv, dv], [.int s0], mm I J D) = bif decide (s0 ≠ 0) then ex (193, 21, [.ref 316, .int v1, dv, dv], [], mm I J D) else ex (193, 19, [dv, dv, dv, dv], [], mm I J D) := (ex_itr 1 _).trans rfl
set_option maxRecDepth 100000 in
theorem e_193_19 (I : Nat → Nat → Int32) (J : Nat → Nat → Int64) (D : Nat → Nat → UInt64)  : ex (193, 19, [dv, dv, dv, dv], [], mm I J D) = some (.inl (some (.int 0)), mm I J D) := (ex_itr 2 _).trans rfl
set_option maxRecDepth 100000 in
theorem e_193_21 (I : Nat → Nat → Int32) (J : Nat → Nat → Int64) (D : Nat → Nat → UInt64) (v1 : Int32) : ex (193, 21, [.ref 316, .int v1, dv, dv], [], mm I J D) = ex (193, 25, [.ref 316, .int v1, .int 0, .int 0], [], mm I J D) := (ex_itr 4 _).trans rfl
set_option maxRecDepth 100000 in
theorem e_193_25 (I : Nat → Nat → Int32) (J : Nat → Nat → Int64) (D : Nat → Nat → UInt64) (v1 : Int32) (v2 : Int32) (v3 : Int32) : ex (193, 25, [.ref 316, .int v1, .int v2, .int v3], [], mm I J D) = cal 193 37 [.ref 316, .int v1, .int v2, .int v3] [] (ex (187, 0, [.ref 316, .int (v2 / 17), .int (v2 - v2 / 17 * 17), dv, dv], [], mm I J D)) := (ex_itr 8 _).trans rfl
set_option maxRecDepth 100000 in
theorem e_193_37 (I : Nat → Nat → Int32) (J : Nat → Nat → Int64) (D : Nat → Nat → UInt64) (v1 : Int32) (v2 : Int32) (v3 : Int32) (s0 : Int32) : ex (193, 37, [.ref 316, .int v1, .int v2, .int v3], [.int s0], mm I J D) = bif decide (s0 = 0) then ex (193, 45, [.ref 316, .int v1, .int v2, .int v3], [], mm I J D) else ex (193, 40, [.ref 316, .int v1, .int v2, .int v3], [], mm I J D) := (ex_itr 1 _).trans rfl
set_option maxRecDepth 100000 in
theorem e_193_40 (I : Nat → Nat → Int32) (J : Nat → Nat → Int64) (D : Nat → Nat → UInt64) (v1 : Int32) (v2 : Int32) (v3 : Int32) : ex (193, 40, [.ref 316, .int v1, .int v2, .int v3], [], mm I J D) = bif decide (v1 ≤ v3) then ex (193, 74, [dv, dv, .int v2, dv], [], mm I J D) else ex (193, 45, [.ref 316, .int v1, .int v2, .int v3], [], mm I J D) := (ex_itr 3 _).trans rfl
set_option maxRecDepth 100000 in
theorem e_193_45 (I : Nat → Nat → Int32) (J : Nat → Nat → Int64) (D : Nat → Nat → UInt64) (v1 : Int32) (v2 : Int32) (v3 : Int32) : ex (193, 45, [.ref 316, .int v1, .int v2, .int v3], [], mm I J D) = cal 193 58 [.ref 316, .int v1, .int v2, dv] [.int v3] (ex (187, 0, [.ref 316, .int (v2 / 17), .int (v2 - v2 / 17 * 17), dv, dv], [], mm I J D)) := (ex_itr 9 _).trans rfl
set_option maxRecDepth 100000 in
theorem e_193_58 (I : Nat → Nat → Int32) (J : Nat → Nat → Int64) (D : Nat → Nat → UInt64) (v1 : Int32) (v2 : Int32) (s0 : Int32) (s1 : Int32) : ex (193, 58, [.ref 316, .int v1, .int v2, dv], [.int s0, .int s1], mm I J D) = bif decide (s0 = 0) then ex (193, 65, [.ref 316, .int v1, .int v2, dv], [.int s1], mm I J D) else ex (193, 61, [.ref 316, .int v1, .int v2, dv], [.int s1], mm I J D) := (ex_itr 1 _).trans rfl
set_option maxRecDepth 100000 in
theorem e_193_61 (I : Nat → Nat → Int32) (J : Nat → Nat → Int64) (D : Nat → Nat → UInt64) (v1 : Int32) (v2 : Int32) (s0 : Int32) : ex (193, 61, [.ref 316, .int v1, .int v2, dv], [.int s0], mm I J D) = ex (193, 66, [.ref 316, .int v1, .int v2, dv], [.int 1, .int s0], mm I J D) := (ex_itr 2 _).trans rfl
set_option maxRecDepth 100000 in
theorem e_193_65 (I : Nat → Nat → Int32) (J : Nat → Nat → Int64) (D : Nat → Nat → UInt64) (v1 : Int32) (v2 : Int32) (s0 : Int32) : ex (193, 65, [.ref 316, .int v1, .int v2, dv], [.int s0], mm I J D) = ex (193, 66, [.ref 316, .int v1, .int v2, dv], [.int 0, .int s0], mm I J D) := (ex_itr 1 _).trans rfl
set_option maxRecDepth 100000 in
theorem e_193_66 (I : Nat → Nat → Int32) (J : Nat → Nat → Int64) (D : Nat → Nat → UInt64) (v1 : Int32) (v2 : Int32) (s0 : Int32) (s1 : Int32) : ex (193, 66, [.ref 316, .int v1, .int v2, dv], [.int s0, .int s1], mm I J D) = ex (193, 25, [.ref 316, .int v1, .int (v2 + 1), .int (s1 + s0)], [], mm I J D) := (ex_itr 4 _).trans rfl
set_option maxRecDepth 100000 in
theorem e_193_74 (I : Nat → Nat → Int32) (J : Nat → Nat → Int64) (D : Nat → Nat → UInt64) (v2 : Int32) : ex (193, 74, [dv, dv, .int v2, dv], [], mm I J D) = some (.inl (some (.int (((32 : Int32) * (v2 / 17)) + (v2 - v2 / 17 * 17)))), mm I J D) := (ex_itr 10 _).trans rfl
/-! GlacierBookModel.isReady(II)Z -/
set_option maxRecDepth 100000 in
theorem e_194_0 (I : Nat → Nat → Int32) (J : Nat → Nat → Int64) (D : Nat → Nat → UInt64) (v1 : Int32) (v2 : Int32) : ex (194, 0, [.ref 316, .int v1, .int v2, dv], [], mm I J D) = ex (194, 2, [.ref 316, .int v1, .int v2, .int 1], [], mm I J D) := (ex_itr 2 _).trans rfl
set_option maxRecDepth 100000 in
theorem e_194_2 (I : Nat → Nat → Int32) (J : Nat → Nat → Int64) (D : Nat → Nat → UInt64) (v1 : Int32) (v2 : Int32) (v3 : Int32) : ex (194, 2, [.ref 316, .int v1, .int v2, .int v3], [], mm I J D) = bif decide ((I 317 0) < v3) then ex (194, 39, [dv, .int v1, .int v2, dv], [], mm I J D) else ex (194, 12, [.ref 316, .int v1, .int v2, .int v3], [], mm I J D) := (ex_itr 6 _).trans rfl
set_option maxRecDepth 100000 in
theorem e_194_12 (I : Nat → Nat → Int32) (J : Nat → Nat → Int64) (D : Nat → Nat → UInt64) (v1 : Int32) (v2 : Int32) (v3 : Int32) : ex (194, 12, [.ref 316, .int v1, .int v2, .int v3], [], mm I J D) = cal 194 18 [.ref 316, .int v1, .int v2, .int v3] [] (ex (186, 0, [.ref 316, .int v3, .int v1], [], mm I J D)) := (ex_itr 4 _).trans rfl
set_option maxRecDepth 100000 in
theorem e_194_18 (I : Nat → Nat → Int32) (J : Nat → Nat → Int64) (D : Nat → Nat → UInt64) (v1 : Int32) (v2 : Int32) (v3 : Int32) (s0 : Int32) : ex (194, 18, [.ref 316, .int v1, .int v2, .int v3], [.int s0], mm I J D) = bif decide (s0 = 0) then ex (194, 33, [.ref 316, .int v1, .int v2, .int v3], [], mm I J D) else ex (194, 21, [.ref 316, .int v1, .int v2, .int v3], [], mm I J D) := (ex_itr 1 _).trans rfl
set_option maxRecDepth 100000 in
theorem e_194_21 (I : Nat → Nat → Int32) (J : Nat → Nat → Int64) (D : Nat → Nat → UInt64) (v1 : Int32) (v2 : Int32) (v3 : Int32) : ex (194, 21, [.ref 316, .int v1, .int v2, .int v3], [], mm I J D) = bif decide (((v2 >>> ((v3 - 1) &&& 31)) &&& 1) ≠ 0) then ex (194, 33, [.ref 316, .int v1, .int v2, .int v3], [], mm I J D) else ex (194, 31, [dv, dv, dv, dv], [], mm I J D) := (ex_itr 8 _).trans rfl
set_option maxRecDepth 100000 in
theorem e_194_31 (I : Nat → Nat → Int32) (J : Nat → Nat → Int64) (D : Nat → Nat → UInt64)  : ex (194, 31, [dv, dv, dv, dv], [], mm I J D) = some (.inl (some (.int 0)), mm I J D) := (ex_itr 2 _).trans rfl
set_option maxRecDepth 100000 in
theorem e_194_33 (I : Nat → Nat → Int32) (J : Nat → Nat → Int64) (D : Nat → Nat → UInt64) (v1 : Int32) (v2 : Int32) (v3 : Int32) : ex (194, 33, [.ref 316, .int v1, .int v2, .int v3], [], mm I J D) = ex (194, 2, [.ref 316, .int v1, .int v2, .int (v3 + 1)], [], mm I J D) := (ex_itr 2 _).trans rfl
set_option maxRecDepth 100000 in
theorem e_194_39 (I : Nat → Nat → Int32) (J : Nat → Nat → Int64) (D : Nat → Nat → UInt64) (v1 : Int32) (v2 : Int32) : ex (194, 39, [dv, .int v1, .int v2, dv], [], mm I J D) = bif decide (((v2 >>> ((v1 - 1) &&& 31)) &&& 1) ≠ 0) then ex (194, 53, [dv, dv, dv, dv], [], mm I J D) else ex (194, 49, [dv, dv, dv, dv], [], mm I J D) := (ex_itr 8 _).trans rfl
set_option maxRecDepth 100000 in
theorem e_194_49 (I : Nat → Nat → Int32) (J : Nat → Nat → Int64) (D : Nat → Nat → UInt64)  : ex (194, 49, [dv, dv, dv, dv], [], mm I J D) = ex (194, 54, [dv, dv, dv, dv], [.int 1], mm I J D) := (ex_itr 2 _).trans rfl
set_option maxRecDepth 100000 in
theorem e_194_53 (I : Nat → Nat → Int32) (J : Nat → Nat → Int64) (D : Nat → Nat → UInt64)  : ex (194, 53, [dv, dv, dv, dv], [], mm I J D) = ex (194, 54, [dv, dv, dv, dv], [.int 0], mm I J D) := (ex_itr 1 _).trans rfl
set_option maxRecDepth 100000 in
theorem e_194_54 (I : Nat → Nat → Int32) (J : Nat → Nat → Int64) (D : Nat → Nat → UInt64) (s0 : Int32) : ex (194, 54, [dv, dv, dv, dv], [.int s0], mm I J D) = bif decide (s0 = 0 ∨ s0 = 1) then (some (.inl (some (.int s0)), mm I J D)) else none := (ex_itr 1 _).trans rfl
/-! GlacierBookModel.orders()J -/
set_option maxRecDepth 100000 in
theorem e_195_0 (I : Nat → Nat → Int32) (J : Nat → Nat → Int64) (D : Nat → Nat → UInt64)  : ex (195, 0, [.ref 316, dv, dv, dv], [], mm I J D) = bif decide (14 < (I 317 0)) then ex (195, 16, [.ref 316, dv, dv, dv], [.ref 316], mm I J D) else ex (195, 12, [.ref 316, dv, dv, dv], [.ref 316], mm I J D) := (ex_itr 7 _).trans rfl
set_option maxRecDepth 100000 in
theorem e_195_12 (I : Nat → Nat → Int32) (J : Nat → Nat → Int64) (D : Nat → Nat → UInt64)  : ex (195, 12, [.ref 316, dv, dv, dv], [.ref 316], mm I J D) = ex (195, 17, [.ref 316, dv, dv, dv], [.int 1, .ref 316], mm I J D) := (ex_itr 2 _).trans rfl
set_option maxRecDepth 100000 in
theorem e_195_16 (I : Nat → Nat → Int32) (J : Nat → Nat → Int64) (D : Nat → Nat → UInt64)  : ex (195, 16, [.ref 316, dv, dv, dv], [.ref 316], mm I J D) = ex (195, 17, [.ref 316, dv, dv, dv], [.int 0, .ref 316], mm I J D) := (ex_itr 1 _).trans rfl
set_option maxRecDepth 100000 in
theorem e_195_17 (I : Nat → Nat → Int32) (J : Nat → Nat → Int64) (D : Nat → Nat → UInt64) (s0 : Int32) : ex (195, 17, [.ref 316, dv, dv, dv], [.int s0, .ref 316], mm I J D) = cal 195 21 [.ref 316, dv, dv, dv] [] (ex (156, 0, [.ref 316, .int s0, .int 1], [], mm I J D)) := (ex_itr 2 _).trans rfl
set_option maxRecDepth 100000 in
theorem e_195_21 (I : Nat → Nat → Int32) (J : Nat → Nat → Int64) (D : Nat → Nat → UInt64) (s0 : Int32) : ex (195, 21, [.ref 316, dv, dv, dv], [.int s0], mm I J D) = bif decide (s0 ≠ 0) then ex (195, 26, [.ref 316, dv, dv, dv], [], mm I J D) else ex (195, 24, [dv, dv, dv, dv], [], mm I J D) := (ex_itr 1 _).trans rfl
set_option maxRecDepth 100000 in
theorem e_195_24 (I : Nat → Nat → Int32) (J : Nat → Nat → Int64) (D : Nat → Nat → UInt64)  : ex (195, 24, [dv, dv, dv, dv], [], mm I J D) = some (.inl (some (.long 0)), mm I J D) := (ex_itr 2 _).trans rfl
set_option maxRecDepth 100000 in
theorem e_195_26 (I : Nat → Nat → Int32) (J : Nat → Nat → Int64) (D : Nat → Nat → UInt64)  : ex (195, 26, [.ref 316, dv, dv, dv], [], mm I J D) = cal 195 30 [.ref 316, dv, dv, dv] [] (ex (185, 0, [.ref 316, dv, dv, dv], [], mm I J D)) := (ex_itr 2 _).trans rfl
set_option maxRecDepth 100000 in
theorem e_195_30 (I : Nat → Nat → Int32) (J : Nat → Nat → Int64) (D : Nat → Nat → UInt64)  : ex (195, 30, [.ref 316, dv, dv, dv], [], mm I J D) = ex (195, 41, [.ref 316, .int ((1 : Int32) <<< ((I 317 0) &&& 31)), .int 0, dv], [], mm I J D) := (ex_itr 9 _).trans rfl
set_option maxRecDepth 100000 in
theorem e_195_41 (I : Nat → Nat → Int32) (J : Nat → Nat → Int64) (D : Nat → Nat → UInt64) (v1 : Int32) (v2 : Int32) : ex (195, 41, [.ref 316, .int v1, .int v2, dv], [], mm I J D) = bif decide (v1 ≤ v2) then ex (195, 67, [.ref 316, .int v1, dv, dv], [], mm I J D) else ex (195, 46, [.ref 316, .int v1, .int v2, dv], [], mm I J D) := (ex_itr 3 _).trans rfl
set_option maxRecDepth 100000 in
theorem e_195_46 (I : Nat → Nat → Int32) (J : Nat → Nat → Int64) (D : Nat → Nat → UInt64) (v1 : Int32) (v2 : Int32) : ex (195, 46, [.ref 316, .int v1, .int v2, dv], [], mm I J D) = bif decide (v2 ≠ 0) then ex (195, 59, [.ref 316, .int v1, .int v2, dv], [.int v2, .ref 327], mm I J D) else ex (195, 55, [.ref 316, .int v1, .int v2, dv], [.int v2, .ref 327], mm I J D) := (ex_itr 5 _).trans rfl
set_option maxRecDepth 100000 in
theorem e_195_55 (I : Nat → Nat → Int32) (J : Nat → Nat → Int64) (D : Nat → Nat → UInt64) (v1 : Int32) (v2 : Int32) (s0 : Int32) : ex (195, 55, [.ref 316, .int v1, .int v2, dv], [.int s0, .ref 327], mm I J D) = ex (195, 60, [.ref 316, .int v1, .int v2, dv], [.long 1, .int s0, .ref 327], mm I J D) := (ex_itr 2 _).trans rfl
set_option maxRecDepth 100000 in
theorem e_195_59 (I : Nat → Nat → Int32) (J : Nat → Nat → Int64) (D : Nat → Nat → UInt64) (v1 : Int32) (v2 : Int32) (s0 : Int32) : ex (195, 59, [.ref 316, .int v1, .int v2, dv], [.int s0, .ref 327], mm I J D) = ex (195, 60, [.ref 316, .int v1, .int v2, dv], [.long 0, .int s0, .ref 327], mm I J D) := (ex_itr 1 _).trans rfl
set_option maxRecDepth 100000 in
theorem e_195_60 (I : Nat → Nat → Int32) (J : Nat → Nat → Int64) (D : Nat → Nat → UInt64) (v1 : Int32) (v2 : Int32) (s0 : Int64) (s1 : Int32) : ex (195, 60, [.ref 316, .int v1, .int v2, dv], [.long s0, .int s1, .ref 327], mm I J D) = bif inb s1 16384 then (ex (195, 41, [.ref 316, .int v1, .int (v2 + 1), dv], [], mm I (upsL J 327 s1.toNatClampNeg s0) D)) else none := (ex_itr 3 _).trans rfl
set_option maxRecDepth 100000 in
theorem e_195_67 (I : Nat → Nat → Int32) (J : Nat → Nat → Int64) (D : Nat → Nat → UInt64) (v1 : Int32) : ex (195, 67, [.ref 316, .int v1, dv, dv], [], mm I J D) = ex (195, 69, [.ref 316, .int v1, .int 0, dv], [], mm I J D) := (ex_itr 2 _).trans rfl
set_option maxRecDepth 100000 in
theorem e_195_69 (I : Nat → Nat → Int32) (J : Nat → Nat → Int64) (D : Nat → Nat → UInt64) (v1 : Int32) (v2 : Int32) : ex (195, 69, [.ref 316, .int v1, .int v2, dv], [], mm I J D) = bif decide (v1 ≤ v2) then ex (195, 139, [.ref 316, .int v1, dv, dv], [], mm I J D) else ex (195, 74, [.ref 316, .int v1, .int v2, dv], [], mm I J D) := (ex_itr 3 _).trans rfl
set_option maxRecDepth 100000 in
theorem e_195_74 (I : Nat → Nat → Int32) (J : Nat → Nat → Int64) (D : Nat → Nat → UInt64) (v1 : Int32) (v2 : Int32) : ex (195, 74, [.ref 316, .int v1, .int v2, dv], [], mm I J D) = ex (195, 76, [.ref 316, .int v1, .int v2, .int 1], [], mm I J D) := (ex_itr 2 _).trans rfl
set_option maxRecDepth 100000 in
theorem e_195_76 (I : Nat → Nat → Int32) (J : Nat → Nat → Int64) (D : Nat → Nat → UInt64) (v1 : Int32) (v2 : Int32) (v3 : Int32) : ex (195, 76, [.ref 316, .int v1, .int v2, .int v3], [], mm I J D) = bif decide ((I 317 0) < v3) then ex (195, 133, [.ref 316, .int v1, .int v2, dv], [], mm I J D) else ex (195, 86, [.ref 316, .int v1, .int v2, .int v3], [], mm I J D) := (ex_itr 6 _).trans rfl
set_option maxRecDepth 100000 in
theorem e_195_86 (I : Nat → Nat → Int32) (J : Nat → Nat → Int64) (D : Nat → Nat → UInt64) (v1 : Int32) (v2 : Int32) (v3 : Int32) : ex (195, 86, [.ref 316, .int v1, .int v2, .int v3], [], mm I J D) = bif inb v2 16384 then (bif decide ((lg_cmp (J 327 v2.toNatClampNeg) 0) ≤ 0) then ex (195, 133, [.ref 316, .int v1, .int v2, dv], [], mm I J D) else ex (195, 97, [.ref 316, .int v1, .int v2, .int v3], [], mm I J D)) else none := (ex_itr 7 _).trans rfl
set_option maxRecDepth 100000 in
theorem e_195_97 (I : Nat → Nat → Int32) (J : Nat → Nat → Int64) (D : Nat → Nat → UInt64) (v1 : Int32) (v2 : Int32) (v3 : Int32) : ex (195, 97, [.ref 316, .int v1, .int v2, .int v3], [], mm I J D) = cal 195 103 [.ref 316, .int v1, .int v2, .int v3] [] (ex (194, 0, [.ref 316, .int v3, .int v2, dv], [], mm I J D)) := (ex_itr 4 _).trans rfl
set_option maxRecDepth 100000 in
theorem e_195_103 (I : Nat → Nat → Int32) (J : Nat → Nat → Int64) (D : Nat → Nat → UInt64) (v1 : Int32) (v2 : Int32) (v3 : Int32) (s0 : Int32) : ex (195, 103, [.ref 316, .int v1, .int v2, .int v3], [.int s0], mm I J D) = bif decide (s0 = 0) then ex (195, 127, [.ref 316, .int v1, .int v2, .int v3], [], mm I J D) else ex (195, 106, [.ref 316, .int v1, .int v2, .int v3], [], mm I J D) := (ex_itr 1 _).trans rfl
set_option maxRecDepth 100000 in
theorem e_195_106 (I : Nat → Nat → Int32) (J : Nat → Nat → Int64) (D : Nat → Nat → UInt64) (v1 : Int32) (v2 : Int32) (v3 : Int32) : ex (195, 106, [.ref 316, .int v1, .int v2, .int v3], [], mm I J D) = bif inb (v2 ||| ((1 : Int32) <<< ((v3 - 1) &&& 31))) 16384 then (bif inb v2 16384 then (bif inb (v2 ||| ((1 : Int32) <<< ((v3 - 1) &&& 31))) 16384 then (ex (195, 127, [.ref 316, .int v1, .int v2, .int v3], [], mm I (upsL J 327 ((v2 ||| ((1 : Int32) <<< ((v3 - 1) &&& 31))).toNatClampNeg) ((J 327 (v2 ||| ((1 : Int32) <<< ((v3 - 1) &&& 31))).toNatClampNeg) + (J 327 v2.toNatClampNeg))) D)) else none) else none) else none := (ex_itr 17 _).trans rfl
set_option maxRecDepth 100000 in
theorem e_195_127 (I : Nat → Nat → Int32) (J : Nat → Nat → Int64) (D : Nat → Nat → UInt64) (v1 : Int32) (v2 : Int32) (v3 : Int32) : ex (195, 127, [.ref 316, .int v1, .int v2, .int v3], [], mm I J D) = ex (195, 76, [.ref 316, .int v1, .int v2, .int (v3 + 1)], [], mm I J D) := (ex_itr 2 _).trans rfl
set_option maxRecDepth 100000 in
theorem e_195_133 (I : Nat → Nat → Int32) (J : Nat → Nat → Int64) (D : Nat → Nat → UInt64) (v1 : Int32) (v2 : Int32) : ex (195, 133, [.ref 316, .int v1, .int v2, dv], [], mm I J D) = ex (195, 69, [.ref 316, .int v1, .int (v2 + 1), dv], [], mm I J D) := (ex_itr 2 _).trans rfl
set_option maxRecDepth 100000 in
theorem e_195_139 (I : Nat → Nat → Int32) (J : Nat → Nat → Int64) (D : Nat → Nat → UInt64) (v1 : Int32) : ex (195, 139, [.ref 316, .int v1, dv, dv], [], mm I J D) = bif inb (v1 - 1) 16384 then (some (.inl (some (.long (J 327 (v1 - 1).toNatClampNeg))), mm I J D)) else none := (ex_itr 7 _).trans rfl
/-! GlacierBookModel.orderAt(I)I -/
set_option maxRecDepth 100000 in
theorem e_196_0 (I : Nat → Nat → Int32) (J : Nat → Nat → Int64) (D : Nat → Nat → UInt64) (v1 : Int32) : ex (196, 0, [.ref 316, .int v1, dv, dv, dv], [], mm I J D) = cal 196 14 [.ref 316, .int v1, dv, dv, dv] [.ref 316] (ex (157, 0, [.int v1, .int 0, .int ((I 317 0) - 1)], [], mm I J D)) := (ex_itr 10 _).trans rfl
set_option maxRecDepth 100000 in
theorem e_196_14 (I : Nat → Nat → Int32) (J : Nat → Nat → Int64) (D : Nat → Nat → UInt64) (v1 : Int32) (s0 : Int32) : ex (196, 14, [.ref 316, .int v1, dv, dv, dv], [.int s0, .ref 316], mm I J D) = cal 196 18 [.ref 316, .int v1, dv, dv, dv] [] (ex (156, 0, [.ref 316, .int s0, .int 1], [], mm I J D)) := (ex_itr 2 _).trans rfl
set_option maxRecDepth 100000 in
theorem e_196_18 (I : Nat → Nat → Int32) (J : Nat → Nat → Int64) (D : Nat → Nat → UInt64) (v1 : Int32) (s0 : Int32) : ex (196, 18, [.ref 316, .int v1, dv, dv, dv], [.int s0], mm I J D) = bif decide (s0 ≠ 0) then ex (196, 23, [.ref 316, .int v1, dv, dv, dv], [], mm I J D) else ex (196, 21, [dv, dv, dv, dv, dv], [], mm I J D) := (ex_itr 1 _).trans rfl
set_option maxRecDepth 100000 in
theorem e_196_21 (I : Nat → Nat → Int32) (J : Nat → Nat → Int64) (D : Nat → Nat → UInt64)  : ex (196, 21, [dv, dv, dv, dv, dv], [], mm I J D) = some (.inl (some (.int 0)), mm I J D) := (ex_itr 2 _).trans rfl
set_option maxRecDepth 100000 in
theorem e_196_23 (I : Nat → Nat → Int32) (J : Nat → Nat → Int64) (D : Nat → Nat → UInt64) (v1 : Int32) : ex (196, 23, [.ref 316, .int v1, dv, dv, dv], [], mm I J D) = cal 196 27 [.ref 316, .int v1, dv, dv, dv] [] (ex (185, 0, [.ref 316, dv, dv, dv], [], mm I J D)) := (ex_itr 2 _).trans rfl
set_option maxRecDepth 100000 in
theorem e_196_27 (I : Nat → Nat → Int32) (J : Nat → Nat → Int64) (D : Nat → Nat → UInt64) (v1 : Int32) : ex (196, 27, [.ref 316, .int v1, dv, dv, dv], [], mm I J D) = ex (196, 34, [.ref 316, .int v1, .int 0, .int 0, .int 0], [], mm I J D) := (ex_itr 6 _).trans rfl
set_option maxRecDepth 100000 in
theorem e_196_34 (I : Nat → Nat → Int32) (J : Nat → Nat → Int64) (D : Nat → Nat → UInt64) (v1 : Int32) (v2 : Int32) (v3 : Int32) (v4 : Int32) : ex (196, 34, [.ref 316, .int v1, .int v2, .int v3, .int v4], [], mm I J D) = bif decide (v1 < v4) then ex (196, 71, [dv, dv, dv, .int v3, dv], [], mm I J D) else ex (196, 40, [.ref 316, .int v1, .int v2, dv, .int v4], [], mm I J D) := (ex_itr 3 _).trans rfl
set_option maxRecDepth 100000 in
theorem e_196_40 (I : Nat → Nat → Int32) (J : Nat → Nat → Int64) (D : Nat → Nat → UInt64) (v1 : Int32) (v2 : Int32) (v4 : Int32) : ex (196, 40, [.ref 316, .int v1, .int v2, dv, .int v4], [], mm I J D) = ex (196, 42, [.ref 316, .int v1, .int v2, .int 1, .int v4], [], mm I J D) := (ex_itr 2 _).trans rfl
set_option maxRecDepth 100000 in
theorem e_196_42 (I : Nat → Nat → Int32) (J : Nat → Nat → Int64) (D : Nat → Nat → UInt64) (v1 : Int32) (v2 : Int32) (v3 : Int32) (v4 : Int32) : ex (196, 42, [.ref 316, .int v1, .int v2, .int v3, .int v4], [], mm I J D) = cal 196 48 [.ref 316, .int v1, .int v2, .int v3, .int v4] [] (ex (194, 0, [.ref 316, .int v3, .int v2, dv], [], mm I J D)) := (ex_itr 4 _).trans rfl
set_option maxRecDepth 100000 in
theorem e_196_48 (I : Nat → Nat → Int32) (J : Nat → Nat → Int64) (D : Nat → Nat → UInt64) (v1 : Int32) (v2 : Int32) (v3 : Int32) (v4 : Int32) (s0 : Int32) : ex (196, 48, [.ref 316, .int v1, .int v2, .int v3, .int v4], [.int s0], mm I J D) = bif decide (s0 ≠ 0) then ex (196, 57, [.ref 316, .int v1, .int v2, .int v3, .int v4], [], mm I J D) else ex (196, 51, [.ref 316, .int v1, .int v2, .int v3, .int v4], [], mm I J D) := (ex_itr 1 _).trans rfl
set_option maxRecDepth 100000 in
theorem e_196_51 (I : Nat → Nat → Int32) (J : Nat → Nat → Int64) (D : Nat → Nat → UInt64) (v1 : Int32) (v2 : Int32) (v3 : Int32) (v4 : Int32) : ex (196, 51, [.ref 316, .int v1, .int v2, .int v3, .int v4], [], mm I J D) = ex (196, 42, [.ref 316, .int v1, .int v2, .int (v3 + 1), .int v4], [], mm I J D) := (ex_itr 2 _).trans rfl
set_option maxRecDepth 100000 in
theorem e_196_57 (I : Nat → Nat → Int32) (J : Nat → Nat → Int64) (D : Nat → Nat → UInt64) (v1 : Int32) (v2 : Int32) (v3 : Int32) (v4 : Int32) : ex (196, 57, [.ref 316, .int v1, .int v2, .int v3, .int v4], [], mm I J D) = ex (196, 34, [.ref 316, .int v1, .int (v2 ||| ((1 : Int32) <<< ((v3 - 1) &&& 31))), .int v3, .int (v4 + 1)], [], mm I J D) := (ex_itr 10 _).trans rfl
set_option maxRecDepth 100000 in
theorem e_196_71 (I : Nat → Nat → Int32) (J : Nat → Nat → Int64) (D : Nat → Nat → UInt64) (v3 : Int32) : ex (196, 71, [dv, dv, dv, .int v3, dv], [], mm I J D) = some (.inl (some (.int v3)), mm I J D) := (ex_itr 2 _).trans rfl
/-! GlacierBookModel.phase(I)I -/
set_option maxRecDepth 100000 in
theorem e_197_0 (I : Nat → Nat → Int32) (J : Nat → Nat → Int64) (D : Nat → Nat → UInt64) (v1 : Int32) : ex (197, 0, [.ref 316, .int v1, dv, dv, dv], [], mm I J D) = cal 197 6 [.ref 316, .int v1, dv, dv, dv] [.ref 316] (ex (166, 0, [.ref 316, .int v1], [], mm I J D)) := (ex_itr 4 _).trans rfl
set_option maxRecDepth 100000 in
theorem e_197_6 (I : Nat → Nat → Int32) (J : Nat → Nat → Int64) (D : Nat → Nat → UInt64) (v1 : Int32) (s0 : Int32) : ex (197, 6, [.ref 316, .int v1, dv, dv, dv], [.int s0, .ref 316], mm I J D) = cal 197 10 [.ref 316, .int v1, dv, dv, dv] [] (ex (156, 0, [.ref 316, .int s0, .int 1], [], mm I J D)) := (ex_itr 2 _).trans rfl
set_option maxRecDepth 100000 in
theorem e_197_10 (I : Nat → Nat → Int32) (J : Nat → Nat → Int64) (D : Nat → Nat → UInt64) (v1 : Int32) (s0 : Int32) : ex (197, 10, [.ref 316, .int v1, dv, dv, dv], [.int s0], mm I J D) = bif decide (s0 ≠ 0) then ex (197, 15, [.ref 316, .int v1, dv, dv, dv], [], mm I J D) else ex (197, 13, [dv, dv, dv, dv, dv], [], mm I J D) := (ex_itr 1 _).trans rfl
set_option maxRecDepth 100000 in
theorem e_197_13 (I : Nat → Nat → Int32) (J : Nat → Nat → Int64) (D : Nat → Nat → UInt64)  : ex (197, 13, [dv, dv, dv, dv, dv], [], mm I J D) = some (.inl (some (.int 0)), mm I J D) := (ex_itr 2 _).trans rfl
set_option maxRecDepth 100000 in
theorem e_197_15 (I : Nat → Nat → Int32) (J : Nat → Nat → Int64) (D : Nat → Nat → UInt64) (v1 : Int32) : ex (197, 15, [.ref 316, .int v1, dv, dv, dv], [], mm I J D) = cal 197 19 [.ref 316, .int v1, dv, dv, dv] [] (ex (185, 0, [.ref 316, dv, dv, dv], [], mm I J D)) := (ex_itr 2 _).trans rfl
set_option maxRecDepth 100000 in
theorem e_197_19 (I : Nat → Nat → Int32) (J : Nat → Nat → Int64) (D : Nat → Nat → UInt64) (v1 : Int32) : ex (197, 19, [.ref 316, .int v1, dv, dv, dv], [], mm I J D) = ex (197, 21, [.ref 316, .int v1, .int 0, dv, dv], [], mm I J D) := (ex_itr 2 _).trans rfl
set_option maxRecDepth 100000 in
theorem e_197_21 (I : Nat → Nat → Int32) (J : Nat → Nat → Int64) (D : Nat → Nat → UInt64) (v1 : Int32) (v2 : Int32) : ex (197, 21, [.ref 316, .int v1, .int v2, dv, dv], [], mm I J D) = bif decide (17 ≤ v2) then ex (197, 40, [.ref 316, .int v1, dv, dv, dv], [], mm I J D) else ex (197, 27, [.ref 316, .int v1, .int v2, dv, dv], [], mm I J D) := (ex_itr 3 _).trans rfl
set_option maxRecDepth 100000 in
theorem e_197_27 (I : Nat → Nat → Int32) (J : Nat → Nat → Int64) (D : Nat → Nat → UInt64) (v1 : Int32) (v2 : Int32) : ex (197, 27, [.ref 316, .int v1, .int v2, dv, dv], [], mm I J D) = bif inb v2 17 then (ex (197, 21, [.ref 316, .int v1, .int (v2 + 1), dv, dv], [], mm (ups I 326 v2.toNatClampNeg 0) J D)) else none := (ex_itr 7 _).trans rfl
set_option maxRecDepth 100000 in
theorem e_197_40 (I : Nat → Nat → Int32) (J : Nat → Nat → Int64) (D : Nat → Nat → UInt64) (v1 : Int32) : ex (197, 40, [.ref 316, .int v1, dv, dv, dv], [], mm I J D) = ex (197, 42, [.ref 316, .int v1, .int 0, dv, dv], [], mm I J D) := (ex_itr 2 _).trans rfl
set_option maxRecDepth 100000 in
theorem e_197_42 (I : Nat → Nat → Int32) (J : Nat → Nat → Int64) (D : Nat → Nat → UInt64) (v1 : Int32) (v2 : Int32) : ex (197, 42, [.ref 316, .int v1, .int v2, dv, dv], [], mm I J D) = bif decide (17 ≤ v2) then ex (197, 137, [.ref 316, .int v1, dv, dv, dv], [], mm I J D) else ex (197, 48, [.ref 316, .int v1, .int v2, dv, dv], [], mm I J D) := (ex_itr 3 _).trans rfl
set_option maxRecDepth 100000 in
theorem e_197_48 (I : Nat → Nat → Int32) (J : Nat → Nat → Int64) (D : Nat → Nat → UInt64) (v1 : Int32) (v2 : Int32) : ex (197, 48, [.ref 316, .int v1, .int v2, dv, dv], [], mm I J D) = ex (197, 50, [.ref 316, .int v1, .int v2, .int 1, dv], [], mm I J D) := (ex_itr 2 _).trans rfl
set_option maxRecDepth 100000 in
theorem e_197_50 (I : Nat → Nat → Int32) (J : Nat → Nat → Int64) (D : Nat → Nat → UInt64) (v1 : Int32) (v2 : Int32) (v3 : Int32) : ex (197, 50, [.ref 316, .int v1, .int v2, .int v3, dv], [], mm I J D) = bif decide (17 ≤ v3) then ex (197, 131, [.ref 316, .int v1, .int v2, dv, dv], [], mm I J D) else ex (197, 56, [.ref 316, .int v1, .int v2, .int v3, dv], [], mm I J D) := (ex_itr 3 _).trans rfl
set_option maxRecDepth 100000 in
theorem e_197_56 (I : Nat → Nat → Int32) (J : Nat → Nat → Int64) (D : Nat → Nat → UInt64) (v1 : Int32) (v2 : Int32) (v3 : Int32) : ex (197, 56, [.ref 316, .int v1, .int v2, .int v3, dv], [], mm I J D) = ex (197, 59, [.ref 316, .int v1, .int v2, .int v3, .int 1], [], mm I J D) := (ex_itr 2 _).trans rfl
set_option maxRecDepth 100000 in
theorem e_197_59 (I : Nat → Nat → Int32) (J : Nat → Nat → Int64) (D : Nat → Nat → UInt64) (v1 : Int32) (v2 : Int32) (v3 : Int32) (v4 : Int32) : ex (197, 59, [.ref 316, .int v1, .int v2, .int v3, .int v4], [], mm I J D) = bif decide (17 ≤ v4) then ex (197, 125, [.ref 316, .int v1, .int v2, .int v3, dv], [], mm I J D) else ex (197, 66, [.ref 316, .int v1, .int v2, .int v3, .int v4], [], mm I J D) := (ex_itr 3 _).trans rfl
set_option maxRecDepth 100000 in
theorem e_197_66 (I : Nat → Nat → Int32) (J : Nat → Nat → Int64) (D : Nat → Nat → UInt64) (v1 : Int32) (v2 : Int32) (v3 : Int32) (v4 : Int32) : ex (197, 66, [.ref 316, .int v1, .int v2, .int v3, .int v4], [], mm I J D) = cal 197 79 [.ref 316, .int v1, .int v2, .int v3, .int v4] [.int v4, .ref 326] (ex (186, 0, [.ref 316, .int v3, .int v4], [], mm I J D)) := (ex_itr 7 _).trans rfl
set_option maxRecDepth 100000 in
theorem e_197_79 (I : Nat → Nat → Int32) (J : Nat → Nat → Int64) (D : Nat → Nat → UInt64) (v1 : Int32) (v2 : Int32) (v3 : Int32) (v4 : Int32) (s0 : Int32) (s1 : Int32) : ex (197, 79, [.ref 316, .int v1, .int v2, .int v3, .int v4], [.int s0, .int s1, .ref 326], mm I J D) = bif decide (s0 = 0) then ex (197, 111, [.ref 316, .int v1, .int v2, .int v3, .int v4], [.int s1, .ref 326], mm I J D) else ex (197, 82, [.ref 316, .int v1, .int v2, .int v3, .int v4], [.int s1, .ref 326], mm I J D) := (ex_itr 1 _).trans rfl
set_option maxRecDepth 100000 in
theorem e_197_82 (I : Nat → Nat → Int32) (J : Nat → Nat → Int64) (D : Nat → Nat → UInt64) (v1 : Int32) (v2 : Int32) (v3 : Int32) (v4 : Int32) (s0 : Int32) : ex (197, 82, [.ref 316, .int v1, .int v2, .int v3, .int v4], [.int s0, .ref 326], mm I J D) = bif inb v3 17 then (bif inb v4 17 then (bif decide (((I 326 v3.toNatClampNeg) + 1) ≤ (I 326 v4.toNatClampNeg)) then ex (197, 111, [.ref 316, .int v1, .int v2, .int v3, .int v4], [.int s0, .ref 326], mm I J D) else ex (197, 100, [.ref 316, .int v1, .int v2, .int v3, .int v4], [.int s0, .ref 326], mm I J D)) else none) else none := (ex_itr 11 _).trans rfl
set_option maxRecDepth 100000 in
theorem e_197_100 (I : Nat → Nat → Int32) (J : Nat → Nat → Int64) (D : Nat → Nat → UInt64) (v1 : Int32) (v2 : Int32) (v3 : Int32) (v4 : Int32) (s0 : Int32) : ex (197, 100, [.ref 316, .int v1, .int v2, .int v3, .int v4], [.int s0, .ref 326], mm I J D) = bif inb v3 17 then (ex (197, 118, [.ref 316, .int v1, .int v2, .int v3, .int v4], [.int ((I 326 v3.toNatClampNeg) + 1), .int s0, .ref 326], mm I J D)) else none := (ex_itr 7 _).trans rfl
set_option maxRecDepth 100000 in
theorem e_197_111 (I : Nat → Nat → Int32) (J : Nat → Nat → Int64) (D : Nat → Nat → UInt64) (v1 : Int32) (v2 : Int32) (v3 : Int32) (v4 : Int32) (s0 : Int32) : ex (197, 111, [.ref 316, .int v1, .int v2, .int v3, .int v4], [.int s0, .ref 326], mm I J D) = bif inb v4 17 then (ex (197, 118, [.ref 316, .int v1, .int v2, .int v3, .int v4], [.int (I 326 v4.toNatClampNeg), .int s0, .ref 326], mm I J D)) else none := (ex_itr 4 _).trans rfl
set_option maxRecDepth 100000 in
theorem e_197_118 (I : Nat → Nat → Int32) (J : Nat → Nat → Int64) (D : Nat → Nat → UInt64) (v1 : Int32) (v2 : Int32) (v3 : Int32) (v4 : Int32) (s0 : Int32) (s1 : Int32) : ex (197, 118, [.ref 316, .int v1, .int v2, .int v3, .int v4], [.int s0, .int s1, .ref 326], mm I J D) = bif inb s1 17 then (ex (197, 59, [.ref 316, .int v1, .int v2, .int v3, .int (v4 + 1)], [], mm (ups I 326 s1.toNatClampNeg s0) J D)) else none := (ex_itr 3 _).trans rfl
set_option maxRecDepth 100000 in
theorem e_197_125 (I : Nat → Nat → Int32) (J : Nat → Nat → Int64) (D : Nat → Nat → UInt64) (v1 : Int32) (v2 : Int32) (v3 : Int32) : ex (197, 125, [.ref 316, .int v1, .int v2, .int v3, dv], [], mm I J D) = ex (197, 50, [.ref 316, .int v1, .int v2, .int (v3 + 1), dv], [], mm I J D) := (ex_itr 2 _).trans rfl
set_option maxRecDepth 100000 in
theorem e_197_131 (I : Nat → Nat → Int32) (J : Nat → Nat → Int64) (D : Nat → Nat → UInt64) (v1 : Int32) (v2 : Int32) : ex (197, 131, [.ref 316, .int v1, .int v2, dv, dv], [], mm I J D) = ex (197, 42, [.ref 316, .int v1, .int (v2 + 1), dv, dv], [], mm I J D) := (ex_itr 2 _).trans rfl
set_option maxRecDepth 100000 in
theorem e_197_137 (I : Nat → Nat → Int32) (J : Nat → Nat → Int64) (D : Nat → Nat → UInt64) (v1 : Int32) : ex (197, 137, [.ref 316, .int v1, dv, dv, dv], [], mm I J D) = bif inb v1 17 then (some (.inl (some (.int (I 326 v1.toNatClampNeg))), mm I J D)) else none := (ex_itr 5 _).trans rfl
/-! GlacierBookModel.isRow(I)Z -/
set_option maxRecDepth 100000 in
theorem e_198_0 (I : Nat → Nat → Int32) (J : Nat → Nat → Int64) (D : Nat → Nat → UInt64) (v0 : Int32) : ex (198, 0, [.int v0], [], mm I J D) = cal 198 6 [dv] [] (ex (157, 0, [.int v0, .int 0, .int 1], [], mm I J D)) := (ex_itr 4 _).trans rfl
set_option maxRecDepth 100000 in
theorem e_198_6 (I : Nat → Nat → Int32) (J : Nat → Nat → Int64) (D : Nat → Nat → UInt64) (s0 : Int32) : ex (198, 6, [dv], [.int s0], mm I J D) = bif decide (s0 = 0 ∨ s0 = 1) then (some (.inl (some (.int s0)), mm I J D)) else none := (ex_itr 1 _).trans rfl
/-! GlacierBookModel.isBand(II)Z -/
set_option maxRecDepth 100000 in
theorem e_199_0 (I : Nat → Nat → Int32) (J : Nat → Nat → Int64) (D : Nat → Nat → UInt64) (v1 : Int32) (v2 : Int32) : ex (199, 0, [.ref 316, .int v1, .int v2], [], mm I J D) = cal 199 4 [.ref 316, .int v1, .int v2] [] (ex (198, 0, [.int v1], [], mm I J D)) := (ex_itr 2 _).trans rfl
set_option maxRecDepth 100000 in
theorem e_199_4 (I : Nat → Nat → Int32) (J : Nat → Nat → Int64) (D : Nat → Nat → UInt64) (v1 : Int32) (v2 : Int32) (s0 : Int32) : ex (199, 4, [.ref 316, .int v1, .int v2], [.int s0], mm I J D) = bif decide (s0 = 0) then ex (199, 31, [dv, dv, dv], [], mm I J D) else ex (199, 7, [.ref 316, .int v1, .int v2], [], mm I J D) := (ex_itr 1 _).trans rfl
set_option maxRecDepth 100000 in
theorem e_199_7 (I : Nat → Nat → Int32) (J : Nat → Nat → Int64) (D : Nat → Nat → UInt64) (v1 : Int32) (v2 : Int32) : ex (199, 7, [.ref 316, .int v1, .int v2], [], mm I J D) = bif inb ((491 : Int32) + v1) 850 then (cal 199 24 [dv, dv, dv] [] (ex (157, 0, [.int v2, .int 0, .int ((I 317 ((491 : Int32) + v1).toNatClampNeg) - 1)], [], mm I J D))) else none := (ex_itr 11 _).trans rfl
set_option maxRecDepth 100000 in
theorem e_199_24 (I : Nat → Nat → Int32) (J : Nat → Nat → Int64) (D : Nat → Nat → UInt64) (s0 : Int32) : ex (199, 24, [dv, dv, dv], [.int s0], mm I J D) = bif decide (s0 = 0) then ex (199, 31, [dv, dv, dv], [], mm I J D) else ex (199, 27, [dv, dv, dv], [], mm I J D) := (ex_itr 1 _).trans rfl
set_option maxRecDepth 100000 in
theorem e_199_27 (I : Nat → Nat → Int32) (J : Nat → Nat → Int64) (D : Nat → Nat → UInt64)  : ex (199, 27, [dv, dv, dv], [], mm I J D) = ex (199, 32, [dv, dv, dv], [.int 1], mm I J D) := (ex_itr 2 _).trans rfl
set_option maxRecDepth 100000 in
theorem e_199_31 (I : Nat → Nat → Int32) (J : Nat → Nat → Int64) (D : Nat → Nat → UInt64)  : ex (199, 31, [dv, dv, dv], [], mm I J D) = ex (199, 32, [dv, dv, dv], [.int 0], mm I J D) := (ex_itr 1 _).trans rfl
set_option maxRecDepth 100000 in
theorem e_199_32 (I : Nat → Nat → Int32) (J : Nat → Nat → Int64) (D : Nat → Nat → UInt64) (s0 : Int32) : ex (199, 32, [dv, dv, dv], [.int s0], mm I J D) = bif decide (s0 = 0 ∨ s0 = 1) then (some (.inl (some (.int s0)), mm I J D)) else none := (ex_itr 1 _).trans rfl
/-! GlacierBookModel.addBand(III)I -/
set_option maxRecDepth 100000 in
theorem e_200_0 (I : Nat → Nat → Int32) (J : Nat → Nat → Int64) (D : Nat → Nat → UInt64) (v1 : Int32) (v2 : Int32) (v3 : Int32) : ex (200, 0, [.ref 316, .int v1, .int v2, .int v3, dv], [], mm I J D) = cal 200 5 [.ref 316, .int v1, .int v2, .int v3, dv] [.ref 316] (ex (198, 0, [.int v1], [], mm I J D)) := (ex_itr 3 _).trans rfl
set_option maxRecDepth 100000 in
theorem e_200_5 (I : Nat → Nat → Int32) (J : Nat → Nat → Int64) (D : Nat → Nat → UInt64) (v1 : Int32) (v2 : Int32) (v3 : Int32) (s0 : Int32) : ex (200, 5, [.ref 316, .int v1, .int v2, .int v3, dv], [.int s0, .ref 316], mm I J D) = cal 200 9 [.ref 316, .int v1, .int v2, .int v3, dv] [] (ex (156, 0, [.ref 316, .int s0, .int 1], [], mm I J D)) := (ex_itr 2 _).trans rfl
set_option maxRecDepth 100000 in
theorem e_200_9 (I : Nat → Nat → Int32) (J : Nat → Nat → Int64) (D : Nat → Nat → UInt64) (v1 : Int32) (v2 : Int32) (v3 : Int32) (s0 : Int32) : ex (200, 9, [.ref 316, .int v1, .int v2, .int v3, dv], [.int s0], mm I J D) = bif decide (s0 = 0) then ex (200, 72, [dv, dv, dv, dv, dv], [], mm I J D) else ex (200, 12, [.ref 316, .int v1, .int v2, .int v3, dv], [], mm I J D) := (ex_itr 1 _).trans rfl
set_option maxRecDepth 100000 in
theorem e_200_12 (I : Nat → Nat → Int32) (J : Nat → Nat → Int64) (D : Nat → Nat → UInt64) (v1 : Int32) (v2 : Int32) (v3 : Int32) : ex (200, 12, [.ref 316, .int v1, .int v2, .int v3, dv], [], mm I J D) = cal 200 20 [.ref 316, .int v1, .int v2, .int v3, dv] [.ref 316] (ex (157, 0, [.int v2, .int 1, .int 9], [], mm I J D)) := (ex_itr 5 _).trans rfl
set_option maxRecDepth 100000 in
theorem e_200_20 (I : Nat → Nat → Int32) (J : Nat → Nat → Int64) (D : Nat → Nat → UInt64) (v1 : Int32) (v2 : Int32) (v3 : Int32) (s0 : Int32) : ex (200, 20, [.ref 316, .int v1, .int v2, .int v3, dv], [.int s0, .ref 316], mm I J D) = bif decide (s0 = 0) then ex (200, 36, [.ref 316, .int v1, .int v2, .int v3, dv], [.ref 316], mm I J D) else ex (200, 23, [.ref 316, .int v1, .int v2, .int v3, dv], [.ref 316], mm I J D) := (ex_itr 1 _).trans rfl
set_option maxRecDepth 100000 in
theorem e_200_23 (I : Nat → Nat → Int32) (J : Nat → Nat → Int64) (D : Nat → Nat → UInt64) (v1 : Int32) (v2 : Int32) (v3 : Int32) : ex (200, 23, [.ref 316, .int v1, .int v2, .int v3, dv], [.ref 316], mm I J D) = cal 200 29 [.ref 316, .int v1, .int v2, .int v3, dv] [.ref 316] (ex (157, 0, [.int v3, .int 0, .int 3], [], mm I J D)) := (ex_itr 4 _).trans rfl
set_option maxRecDepth 100000 in
theorem e_200_29 (I : Nat → Nat → Int32) (J : Nat → Nat → Int64) (D : Nat → Nat → UInt64) (v1 : Int32) (v2 : Int32) (v3 : Int32) (s0 : Int32) : ex (200, 29, [.ref 316, .int v1, .int v2, .int v3, dv], [.int s0, .ref 316], mm I J D) = bif decide (s0 = 0) then ex (200, 36, [.ref 316, .int v1, .int v2, .int v3, dv], [.ref 316], mm I J D) else ex (200, 32, [.ref 316, .int v1, .int v2, .int v3, dv], [.ref 316], mm I J D) := (ex_itr 1 _).trans rfl
set_option maxRecDepth 100000 in
theorem e_200_32 (I : Nat → Nat → Int32) (J : Nat → Nat → Int64) (D : Nat → Nat → UInt64) (v1 : Int32) (v2 : Int32) (v3 : Int32) : ex (200, 32, [.ref 316, .int v1, .int v2, .int v3, dv], [.ref 316], mm I J D) = ex (200, 37, [.ref 316, .int v1, .int v2, .int v3, dv], [.int 1, .ref 316], mm I J D) := (ex_itr 2 _).trans rfl
set_option maxRecDepth 100000 in
theorem e_200_36 (I : Nat → Nat → Int32) (J : Nat → Nat → Int64) (D : Nat → Nat → UInt64) (v1 : Int32) (v2 : Int32) (v3 : Int32) : ex (200, 36, [.ref 316, .int v1, .int v2, .int v3, dv], [.ref 316], mm I J D) = ex (200, 37, [.ref 316, .int v1, .int v2, .int v3, dv], [.int 0, .ref 316], mm I J D) := (ex_itr 1 _).trans rfl
set_option maxRecDepth 100000 in
theorem e_200_37 (I : Nat → Nat → Int32) (J : Nat → Nat → Int64) (D : Nat → Nat → UInt64) (v1 : Int32) (v2 : Int32) (v3 : Int32) (s0 : Int32) : ex (200, 37, [.ref 316, .int v1, .int v2, .int v3, dv], [.int s0, .ref 316], mm I J D) = cal 200 41 [.ref 316, .int v1, .int v2, .int v3, dv] [] (ex (156, 0, [.ref 316, .int s0, .int 2], [], mm I J D)) := (ex_itr 2 _).trans rfl
set_option maxRecDepth 100000 in
theorem e_200_41 (I : Nat → Nat → Int32) (J : Nat → Nat → Int64) (D : Nat → Nat → UInt64) (v1 : Int32) (v2 : Int32) (v3 : Int32) (s0 : Int32) : ex (200, 41, [.ref 316, .int v1, .int v2, .int v3, dv], [.int s0], mm I J D) = bif decide (s0 = 0) then ex (200, 72, [dv, dv, dv, dv, dv], [], mm I J D) else ex (200, 44, [.ref 316, .int v1, .int v2, .int v3, dv], [], mm I J D) := (ex_itr 1 _).trans rfl
set_option maxRecDepth 100000 in
theorem e_200_44 (I : Nat → Nat → Int32) (J : Nat → Nat → Int64) (D : Nat → Nat → UInt64) (v1 : Int32) (v2 : Int32) (v3 : Int32) : ex (200, 44, [.ref 316, .int v1, .int v2, .int v3, dv], [], mm I J D) = bif inb ((491 : Int32) + v1) 850 then (bif decide (16 ≤ (I 317 ((491 : Int32) + v1).toNatClampNeg)) then ex (200, 64, [.ref 316, .int v1, .int v2, .int v3, dv], [.ref 316], mm I J D) else ex (200, 60, [.ref 316, .int v1, .int v2, .int v3, dv], [.ref 316], mm I J D)) else none := (ex_itr 9 _).trans rfl
set_option maxRecDepth 100000 in
theorem e_200_60 (I : Nat → Nat → Int32) (J : Nat → Nat → Int64) (D : Nat → Nat → UInt64) (v1 : Int32) (v2 : Int32) (v3 : Int32) : ex (200, 60, [.ref 316, .int v1, .int v2, .int v3, dv], [.ref 316], mm I J D) = ex (200, 65, [.ref 316, .int v1, .int v2, .int v3, dv], [.int 1, .ref 316], mm I J D) := (ex_itr 2 _).trans rfl
set_option maxRecDepth 100000 in
theorem e_200_64 (I : Nat → Nat → Int32) (J : Nat → Nat → Int64) (D : Nat → Nat → UInt64) (v1 : Int32) (v2 : Int32) (v3 : Int32) : ex (200, 64, [.ref 316, .int v1, .int v2, .int v3, dv], [.ref 316], mm I J D) = ex (200, 65, [.ref 316, .int v1, .int v2, .int v3, dv], [.int 0, .ref 316], mm I J D) := (ex_itr 1 _).trans rfl
set_option maxRecDepth 100000 in
theorem e_200_65 (I : Nat → Nat → Int32) (J : Nat → Nat → Int64) (D : Nat → Nat → UInt64) (v1 : Int32) (v2 : Int32) (v3 : Int32) (s0 : Int32) : ex (200, 65, [.ref 316, .int v1, .int v2, .int v3, dv], [.int s0, .ref 316], mm I J D) = cal 200 69 [.ref 316, .int v1, .int v2, .int v3, dv] [] (ex (156, 0, [.ref 316, .int s0, .int 3], [], mm I J D)) := (ex_itr 2 _).trans rfl
set_option maxRecDepth 100000 in
theorem e_200_69 (I : Nat → Nat → Int32) (J : Nat → Nat → Int64) (D : Nat → Nat → UInt64) (v1 : Int32) (v2 : Int32) (v3 : Int32) (s0 : Int32) : ex (200, 69, [.ref 316, .int v1, .int v2, .int v3, dv], [.int s0], mm I J D) = bif decide (s0 ≠ 0) then ex (200, 74, [.ref 316, .int v1, .int v2, .int v3, dv], [], mm I J D) else ex (200, 72, [dv, dv, dv, dv, dv], [], mm I J D) := (ex_itr 1 _).trans rfl
set_option maxRecDepth 100000 in
theorem e_200_72 (I : Nat → Nat → Int32) (J : Nat → Nat → Int64) (D : Nat → Nat → UInt64)  : ex (200, 72, [dv, dv, dv, dv, dv], [], mm I J D) = some (.inl (some (.int 0)), mm I J D) := (ex_itr 2 _).trans rfl
set_option maxRecDepth 100000 in
theorem e_200_74 (I : Nat → Nat → Int32) (J : Nat → Nat → Int64) (D : Nat → Nat → UInt64) (v1 : Int32) (v2 : Int32) (v3 : Int32) : ex (200, 74, [.ref 316, .int v1, .int v2, .int v3, dv], [], mm I J D) = cal 200 78 [.ref 316, .int v1, .int v2, .int v3, dv] [] (ex (161, 0, [.ref 316, dv, dv], [], mm I J D)) := (ex_itr 2 _).trans rfl
set_option maxRecDepth 100000 in
theorem e_200_78 (I : Nat → Nat → Int32) (J : Nat → Nat → Int64) (D : Nat → Nat → UInt64) (v1 : Int32) (v2 : Int32) (v3 : Int32) : ex (200, 78, [.ref 316, .int v1, .int v2, .int v3, dv], [], mm I J D) = bif inb ((491 : Int32) + v1) 850 then (bif inb ((491 : Int32) + v1) 850 then (bif inb ((491 : Int32) + v1) 850 then (bif inb (((493 : Int32) + ((16 : Int32) * v1)) + (I 317 ((491 : Int32) + v1).toNatClampNeg)) 850 then (bif inb (((525 : Int32) + ((16 : Int32) * v1)) + (I 317 ((491 : Int32) + v1).toNatClampNeg)) 850 then (some (.inl (some (.int (I 317 ((491 : Int32) + v1).toNatClampNeg))), mm (ups (ups (ups I 317 (((491 : Int32) + v1).toNatClampNeg) ((I 317 ((491 : Int32) + v1).toNatClampNeg) + 1)) 317 ((((493 : Int32) + ((16 : Int32) * v1)) + (I 317 ((491 : Int32) + v1).toNatClampNeg)).toNatClampNeg) v2) 317 ((((525 : Int32) + ((16 : Int32) * v1)) + (I 317 ((491 : Int32) + v1).toNatClampNeg)).toNatClampNeg) v3) J D)) else none) else none) else none) else none) else none := (ex_itr 41 _).trans rfl
/-! GlacierBookModel.setPrices(III)I -/
set_option maxRecDepth 100000 in
theorem e_201_0 (I : Nat → Nat → Int32) (J : Nat → Nat → Int64) (D : Nat → Nat → UInt64) (v1 : Int32) (v2 : Int32) (v3 : Int32) : ex (201, 0, [.ref 316, .int v1, .int v2, .int v3, dv], [], mm I J D) = cal 201 8 [.ref 316, .int v1, .int v2, .int v3, dv] [.ref 316] (ex (157, 0, [.int v1, .int 0, .int 20], [], mm I J D)) := (ex_itr 5 _).trans rfl
set_option maxRecDepth 100000 in
theorem e_201_8 (I : Nat → Nat → Int32) (J : Nat → Nat → Int64) (D : Nat → Nat → UInt64) (v1 : Int32) (v2 : Int32) (v3 : Int32) (s0 : Int32) : ex (201, 8, [.ref 316, .int v1, .int v2, .int v3, dv], [.int s0, .ref 316], mm I J D) = bif decide (s0 = 0) then ex (201, 35, [.ref 316, .int v1, .int v2, .int v3, dv], [.ref 316], mm I J D) else ex (201, 11, [.ref 316, .int v1, .int v2, .int v3, dv], [.ref 316], mm I J D) := (ex_itr 1 _).trans rfl
set_option maxRecDepth 100000 in
theorem e_201_11 (I : Nat → Nat → Int32) (J : Nat → Nat → Int64) (D : Nat → Nat → UInt64) (v1 : Int32) (v2 : Int32) (v3 : Int32) : ex (201, 11, [.ref 316, .int v1, .int v2, .int v3, dv], [.ref 316], mm I J D) = cal 201 18 [.ref 316, .int v1, .int v2, .int v3, dv] [.ref 316] (ex (157, 0, [.int v2, .int 0, .int 20], [], mm I J D)) := (ex_itr 4 _).trans rfl
set_option maxRecDepth 100000 in
theorem e_201_18 (I : Nat → Nat → Int32) (J : Nat → Nat → Int64) (D : Nat → Nat → UInt64) (v1 : Int32) (v2 : Int32) (v3 : Int32) (s0 : Int32) : ex (201, 18, [.ref 316, .int v1, .int v2, .int v3, dv], [.int s0, .ref 316], mm I J D) = bif decide (s0 = 0) then ex (201, 35, [.ref 316, .int v1, .int v2, .int v3, dv], [.ref 316], mm I J D) else ex (201, 21, [.ref 316, .int v1, .int v2, .int v3, dv], [.ref 316], mm I J D) := (ex_itr 1 _).trans rfl
set_option maxRecDepth 100000 in
theorem e_201_21 (I : Nat → Nat → Int32) (J : Nat → Nat → Int64) (D : Nat → Nat → UInt64) (v1 : Int32) (v2 : Int32) (v3 : Int32) : ex (201, 21, [.ref 316, .int v1, .int v2, .int v3, dv], [.ref 316], mm I J D) = cal 201 28 [.ref 316, .int v1, .int v2, .int v3, dv] [.ref 316] (ex (157, 0, [.int v3, .int 0, .int 20], [], mm I J D)) := (ex_itr 4 _).trans rfl
set_option maxRecDepth 100000 in
theorem e_201_28 (I : Nat → Nat → Int32) (J : Nat → Nat → Int64) (D : Nat → Nat → UInt64) (v1 : Int32) (v2 : Int32) (v3 : Int32) (s0 : Int32) : ex (201, 28, [.ref 316, .int v1, .int v2, .int v3, dv], [.int s0, .ref 316], mm I J D) = bif decide (s0 = 0) then ex (201, 35, [.ref 316, .int v1, .int v2, .int v3, dv], [.ref 316], mm I J D) else ex (201, 31, [.ref 316, .int v1, .int v2, .int v3, dv], [.ref 316], mm I J D) := (ex_itr 1 _).trans rfl
set_option maxRecDepth 100000 in
theorem e_201_31 (I : Nat → Nat → Int32) (J : Nat → Nat → Int64) (D : Nat → Nat → UInt64) (v1 : Int32) (v2 : Int32) (v3 : Int32) : ex (201, 31, [.ref 316, .int v1, .int v2, .int v3, dv], [.ref 316], mm I J D) = ex (201, 36, [.ref 316, .int v1, .int v2, .int v3, dv], [.int 1, .ref 316], mm I J D) := (ex_itr 2 _).trans rfl
set_option maxRecDepth 100000 in
theorem e_201_35 (I : Nat → Nat → Int32) (J : Nat → Nat → Int64) (D : Nat → Nat → UInt64) (v1 : Int32) (v2 : Int32) (v3 : Int32) : ex (201, 35, [.ref 316, .int v1, .int v2, .int v3, dv], [.ref 316], mm I J D) = ex (201, 36, [.ref 316, .int v1, .int v2, .int v3, dv], [.int 0, .ref 316], mm I J D) := (ex_itr 1 _).trans rfl
set_option maxRecDepth 100000 in
theorem e_201_36 (I : Nat → Nat → Int32) (J : Nat → Nat → Int64) (D : Nat → Nat → UInt64) (v1 : Int32) (v2 : Int32) (v3 : Int32) (s0 : Int32) : ex (201, 36, [.ref 316, .int v1, .int v2, .int v3, dv], [.int s0, .ref 316], mm I J D) = cal 201 40 [.ref 316, .int v1, .int v2, .int v3, dv] [] (ex (156, 0, [.ref 316, .int s0, .int 1], [], mm I J D)) := (ex_itr 2 _).trans rfl
set_option maxRecDepth 100000 in
theorem e_201_40 (I : Nat → Nat → Int32) (J : Nat → Nat → Int64) (D : Nat → Nat → UInt64) (v1 : Int32) (v2 : Int32) (v3 : Int32) (s0 : Int32) : ex (201, 40, [.ref 316, .int v1, .int v2, .int v3, dv], [.int s0], mm I J D) = bif decide (s0 ≠ 0) then ex (201, 45, [.ref 316, .int v1, .int v2, .int v3, dv], [], mm I J D) else ex (201, 43, [dv, dv, dv, dv, dv], [], mm I J D) := (ex_itr 1 _).trans rfl
set_option maxRecDepth 100000 in
theorem e_201_43 (I : Nat → Nat → Int32) (J : Nat → Nat → Int64) (D : Nat → Nat → UInt64)  : ex (201, 43, [dv, dv, dv, dv, dv], [], mm I J D) = some (.inl (some (.int 0)), mm I J D) := (ex_itr 2 _).trans rfl
set_option maxRecDepth 100000 in
theorem e_201_45 (I : Nat → Nat → Int32) (J : Nat → Nat → Int64) (D : Nat → Nat → UInt64) (v1 : Int32) (v2 : Int32) (v3 : Int32) : ex (201, 45, [.ref 316, .int v1, .int v2, .int v3, dv], [], mm I J D) = cal 201 49 [.ref 316, .int v1, .int v2, .int v3, dv] [] (ex (161, 0, [.ref 316, dv, dv], [], mm I J D)) := (ex_itr 2 _).trans rfl
set_option maxRecDepth 100000 in
theorem e_201_49 (I : Nat → Nat → Int32) (J : Nat → Nat → Int64) (D : Nat → Nat → UInt64) (v1 : Int32) (v2 : Int32) (v3 : Int32) : ex (201, 49, [.ref 316, .int v1, .int v2, .int v3, dv], [], mm I J D) = some (.inl (some (.int (((I 317 621) + (I 317 622)) + (I 317 623)))), mm (ups (ups (ups I 317 621 v1) 317 622 v2) 317 623 v3) J D) := (ex_itr 32 _).trans rfl
/-! GlacierBookModel.tied(II)I -/
set_option maxRecDepth 100000 in
theorem e_202_0 (I : Nat → Nat → Int32) (J : Nat → Nat → Int64) (D : Nat → Nat → UInt64) (v1 : Int32) (v2 : Int32) : ex (202, 0, [.ref 316, .int v1, .int v2], [], mm I J D) = bif inb (((589 : Int32) + ((16 : Int32) * v1)) + v2) 850 then (some (.inl (some (.int (I 317 (((589 : Int32) + ((16 : Int32) * v1)) + v2).toNatClampNeg))), mm I J D)) else none := (ex_itr 11 _).trans rfl
/-! GlacierBookModel.ties()I -/
set_option maxRecDepth 100000 in
theorem e_203_0 (I : Nat → Nat → Int32) (J : Nat → Nat → Int64) (D : Nat → Nat → UInt64)  : ex (203, 0, [.ref 316, dv, dv], [], mm I J D) = ex (203, 4, [.ref 316, .int 0, .int 0], [], mm I J D) := (ex_itr 4 _).trans rfl
set_option maxRecDepth 100000 in
theorem e_203_4 (I : Nat → Nat → Int32) (J : Nat → Nat → Int64) (D : Nat → Nat → UInt64) (v1 : Int32) (v2 : Int32) : ex (203, 4, [.ref 316, .int v1, .int v2], [], mm I J D) = bif decide ((I 317 491) ≤ v2) then ex (203, 40, [dv, .int v1, dv], [], mm I J D) else ex (203, 16, [.ref 316, .int v1, .int v2], [], mm I J D) := (ex_itr 6 _).trans rfl
set_option maxRecDepth 100000 in
theorem e_203_16 (I : Nat → Nat → Int32) (J : Nat → Nat → Int64) (D : Nat → Nat → UInt64) (v1 : Int32) (v2 : Int32) : ex (203, 16, [.ref 316, .int v1, .int v2], [], mm I J D) = cal 203 23 [.ref 316, dv, .int v2] [.int v1] (ex (202, 0, [.ref 316, .int 0, .int v2], [], mm I J D)) := (ex_itr 5 _).trans rfl
set_option maxRecDepth 100000 in
theorem e_203_23 (I : Nat → Nat → Int32) (J : Nat → Nat → Int64) (D : Nat → Nat → UInt64) (v2 : Int32) (s0 : Int32) (s1 : Int32) : ex (203, 23, [.ref 316, dv, .int v2], [.int s0, .int s1], mm I J D) = bif decide (s0 ≠ (-1)) then ex (203, 31, [.ref 316, dv, .int v2], [.int s1], mm I J D) else ex (203, 27, [.ref 316, dv, .int v2], [.int s1], mm I J D) := (ex_itr 2 _).trans rfl
set_option maxRecDepth 100000 in
theorem e_203_27 (I : Nat → Nat → Int32) (J : Nat → Nat → Int64) (D : Nat → Nat → UInt64) (v2 : Int32) (s0 : Int32) : ex (203, 27, [.ref 316, dv, .int v2], [.int s0], mm I J D) = ex (203, 32, [.ref 316, dv, .int v2], [.int 0, .int s0], mm I J D) := (ex_itr 2 _).trans rfl
set_option maxRecDepth 100000 in
theorem e_203_31 (I : Nat → Nat → Int32) (J : Nat → Nat → Int64) (D : Nat → Nat → UInt64) (v2 : Int32) (s0 : Int32) : ex (203, 31, [.ref 316, dv, .int v2], [.int s0], mm I J D) = ex (203, 32, [.ref 316, dv, .int v2], [.int 1, .int s0], mm I J D) := (ex_itr 1 _).trans rfl
set_option maxRecDepth 100000 in
theorem e_203_32 (I : Nat → Nat → Int32) (J : Nat → Nat → Int64) (D : Nat → Nat → UInt64) (v2 : Int32) (s0 : Int32) (s1 : Int32) : ex (203, 32, [.ref 316, dv, .int v2], [.int s0, .int s1], mm I J D) = ex (203, 4, [.ref 316, .int (s1 + s0), .int (v2 + 1)], [], mm I J D) := (ex_itr 4 _).trans rfl
set_option maxRecDepth 100000 in
theorem e_203_40 (I : Nat → Nat → Int32) (J : Nat → Nat → Int64) (D : Nat → Nat → UInt64) (v1 : Int32) : ex (203, 40, [dv, .int v1, dv], [], mm I J D) = some (.inl (some (.int v1)), mm I J D) := (ex_itr 2 _).trans rfl
/-! GlacierBookModel.crosses(II)Z -/
set_option maxRecDepth 100000 in
theorem e_204_0 (I : Nat → Nat → Int32) (J : Nat → Nat → Int64) (D : Nat → Nat → UInt64) (v1 : Int32) (v2 : Int32) : ex (204, 0, [.ref 316, .int v1, .int v2, dv, dv], [], mm I J D) = ex (204, 2, [.ref 316, .int v1, .int v2, .int 0, dv], [], mm I J D) := (ex_itr 2 _).trans rfl
set_option maxRecDepth 100000 in
theorem e_204_2 (I : Nat → Nat → Int32) (J : Nat → Nat → Int64) (D : Nat → Nat → UInt64) (v1 : Int32) (v2 : Int32) (v3 : Int32) : ex (204, 2, [.ref 316, .int v1, .int v2, .int v3, dv], [], mm I J D) = bif decide ((I 317 491) ≤ v3) then ex (204, 60, [dv, dv, dv, dv, dv], [], mm I J D) else ex (204, 14, [.ref 316, .int v1, .int v2, .int v3, dv], [], mm I J D) := (ex_itr 6 _).trans rfl
set_option maxRecDepth 100000 in
theorem e_204_14 (I : Nat → Nat → Int32) (J : Nat → Nat → Int64) (D : Nat → Nat → UInt64) (v1 : Int32) (v2 : Int32) (v3 : Int32) : ex (204, 14, [.ref 316, .int v1, .int v2, .int v3, dv], [], mm I J D) = cal 204 20 [.ref 316, .int v1, .int v2, .int v3, dv] [] (ex (202, 0, [.ref 316, .int 0, .int v3], [], mm I J D)) := (ex_itr 4 _).trans rfl
set_option maxRecDepth 100000 in
theorem e_204_20 (I : Nat → Nat → Int32) (J : Nat → Nat → Int64) (D : Nat → Nat → UInt64) (v1 : Int32) (v2 : Int32) (v3 : Int32) (s0 : Int32) : ex (204, 20, [.ref 316, .int v1, .int v2, .int v3, dv], [.int s0], mm I J D) = bif decide (s0 = (-1)) then ex (204, 54, [.ref 316, .int v1, .int v2, .int v3, dv], [], mm I J D) else ex (204, 28, [.ref 316, .int v1, .int v2, .int v3, .int s0], [], mm I J D) := (ex_itr 4 _).trans rfl
set_option maxRecDepth 100000 in
theorem e_204_28 (I : Nat → Nat → Int32) (J : Nat → Nat → Int64) (D : Nat → Nat → UInt64) (v1 : Int32) (v2 : Int32) (v3 : Int32) (v4 : Int32) : ex (204, 28, [.ref 316, .int v1, .int v2, .int v3, .int v4], [], mm I J D) = bif decide (v1 ≤ v3) then ex (204, 37, [.ref 316, .int v1, .int v2, .int v3, .int v4], [], mm I J D) else ex (204, 33, [.ref 316, .int v1, .int v2, .int v3, .int v4], [], mm I J D) := (ex_itr 3 _).trans rfl
set_option maxRecDepth 100000 in
theorem e_204_33 (I : Nat → Nat → Int32) (J : Nat → Nat → Int64) (D : Nat → Nat → UInt64) (v1 : Int32) (v2 : Int32) (v3 : Int32) (v4 : Int32) : ex (204, 33, [.ref 316, .int v1, .int v2, .int v3, .int v4], [], mm I J D) = ex (204, 38, [.ref 316, .int v1, .int v2, .int v3, .int v4], [.int 1], mm I J D) := (ex_itr 2 _).trans rfl
set_option maxRecDepth 100000 in
theorem e_204_37 (I : Nat → Nat → Int32) (J : Nat → Nat → Int64) (D : Nat → Nat → UInt64) (v1 : Int32) (v2 : Int32) (v3 : Int32) (v4 : Int32) : ex (204, 37, [.ref 316, .int v1, .int v2, .int v3, .int v4], [], mm I J D) = ex (204, 38, [.ref 316, .int v1, .int v2, .int v3, .int v4], [.int 0], mm I J D) := (ex_itr 1 _).trans rfl
set_option maxRecDepth 100000 in
theorem e_204_38 (I : Nat → Nat → Int32) (J : Nat → Nat → Int64) (D : Nat → Nat → UInt64) (v1 : Int32) (v2 : Int32) (v3 : Int32) (v4 : Int32) (s0 : Int32) : ex (204, 38, [.ref 316, .int v1, .int v2, .int v3, .int v4], [.int s0], mm I J D) = bif decide (v2 ≤ v4) then ex (204, 48, [.ref 316, .int v1, .int v2, .int v3, dv], [.int s0], mm I J D) else ex (204, 44, [.ref 316, .int v1, .int v2, .int v3, dv], [.int s0], mm I J D) := (ex_itr 3 _).trans rfl
set_option maxRecDepth 100000 in
theorem e_204_44 (I : Nat → Nat → Int32) (J : Nat → Nat → Int64) (D : Nat → Nat → UInt64) (v1 : Int32) (v2 : Int32) (v3 : Int32) (s0 : Int32) : ex (204, 44, [.ref 316, .int v1, .int v2, .int v3, dv], [.int s0], mm I J D) = ex (204, 49, [.ref 316, .int v1, .int v2, .int v3, dv], [.int 1, .int s0], mm I J D) := (ex_itr 2 _).trans rfl
set_option maxRecDepth 100000 in
theorem e_204_48 (I : Nat → Nat → Int32) (J : Nat → Nat → Int64) (D : Nat → Nat → UInt64) (v1 : Int32) (v2 : Int32) (v3 : Int32) (s0 : Int32) : ex (204, 48, [.ref 316, .int v1, .int v2, .int v3, dv], [.int s0], mm I J D) = ex (204, 49, [.ref 316, .int v1, .int v2, .int v3, dv], [.int 0, .int s0], mm I J D) := (ex_itr 1 _).trans rfl
set_option maxRecDepth 100000 in
theorem e_204_49 (I : Nat → Nat → Int32) (J : Nat → Nat → Int64) (D : Nat → Nat → UInt64) (v1 : Int32) (v2 : Int32) (v3 : Int32) (s0 : Int32) (s1 : Int32) : ex (204, 49, [.ref 316, .int v1, .int v2, .int v3, dv], [.int s0, .int s1], mm I J D) = bif decide (s1 = s0) then ex (204, 54, [.ref 316, .int v1, .int v2, .int v3, dv], [], mm I J D) else ex (204, 52, [dv, dv, dv, dv, dv], [], mm I J D) := (ex_itr 1 _).trans rfl
set_option maxRecDepth 100000 in
theorem e_204_52 (I : Nat → Nat → Int32) (J : Nat → Nat → Int64) (D : Nat → Nat → UInt64)  : ex (204, 52, [dv, dv, dv, dv, dv], [], mm I J D) = some (.inl (some (.int 1)), mm I J D) := (ex_itr 2 _).trans rfl
set_option maxRecDepth 100000 in
theorem e_204_54 (I : Nat → Nat → Int32) (J : Nat → Nat → Int64) (D : Nat → Nat → UInt64) (v1 : Int32) (v2 : Int32) (v3 : Int32) : ex (204, 54, [.ref 316, .int v1, .int v2, .int v3, dv], [], mm I J D) = ex (204, 2, [.ref 316, .int v1, .int v2, .int (v3 + 1), dv], [], mm I J D) := (ex_itr 2 _).trans rfl
set_option maxRecDepth 100000 in
theorem e_204_60 (I : Nat → Nat → Int32) (J : Nat → Nat → Int64) (D : Nat → Nat → UInt64)  : ex (204, 60, [dv, dv, dv, dv, dv], [], mm I J D) = some (.inl (some (.int 0)), mm I J D) := (ex_itr 2 _).trans rfl
/-! GlacierBookModel.tie(II)I -/
set_option maxRecDepth 100000 in
theorem e_205_0 (I : Nat → Nat → Int32) (J : Nat → Nat → Int64) (D : Nat → Nat → UInt64) (v1 : Int32) (v2 : Int32) : ex (205, 0, [.ref 316, .int v1, .int v2], [], mm I J D) = cal 205 7 [.ref 316, .int v1, .int v2] [.ref 316] (ex (199, 0, [.ref 316, .int 0, .int v1], [], mm I J D)) := (ex_itr 5 _).trans rfl
set_option maxRecDepth 100000 in
theorem e_205_7 (I : Nat → Nat → Int32) (J : Nat → Nat → Int64) (D : Nat → Nat → UInt64) (v1 : Int32) (v2 : Int32) (s0 : Int32) : ex (205, 7, [.ref 316, .int v1, .int v2], [.int s0, .ref 316], mm I J D) = bif decide (s0 = 0) then ex (205, 23, [.ref 316, .int v1, .int v2], [.ref 316], mm I J D) else ex (205, 10, [.ref 316, .int v1, .int v2], [.ref 316], mm I J D) := (ex_itr 1 _).trans rfl
set_option maxRecDepth 100000 in
theorem e_205_10 (I : Nat → Nat → Int32) (J : Nat → Nat → Int64) (D : Nat → Nat → UInt64) (v1 : Int32) (v2 : Int32) : ex (205, 10, [.ref 316, .int v1, .int v2], [.ref 316], mm I J D) = cal 205 16 [.ref 316, .int v1, .int v2] [.ref 316] (ex (199, 0, [.ref 316, .int 1, .int v2], [], mm I J D)) := (ex_itr 4 _).trans rfl
set_option maxRecDepth 100000 in
theorem e_205_16 (I : Nat → Nat → Int32) (J : Nat → Nat → Int64) (D : Nat → Nat → UInt64) (v1 : Int32) (v2 : Int32) (s0 : Int32) : ex (205, 16, [.ref 316, .int v1, .int v2], [.int s0, .ref 316], mm I J D) = bif decide (s0 = 0) then ex (205, 23, [.ref 316, .int v1, .int v2], [.ref 316], mm I J D) else ex (205, 19, [.ref 316, .int v1, .int v2], [.ref 316], mm I J D) := (ex_itr 1 _).trans rfl
set_option maxRecDepth 100000 in
theorem e_205_19 (I : Nat → Nat → Int32) (J : Nat → Nat → Int64) (D : Nat → Nat → UInt64) (v1 : Int32) (v2 : Int32) : ex (205, 19, [.ref 316, .int v1, .int v2], [.ref 316], mm I J D) = ex (205, 24, [.ref 316, .int v1, .int v2], [.int 1, .ref 316], mm I J D) := (ex_itr 2 _).trans rfl
set_option maxRecDepth 100000 in
theorem e_205_23 (I : Nat → Nat → Int32) (J : Nat → Nat → Int64) (D : Nat → Nat → UInt64) (v1 : Int32) (v2 : Int32) : ex (205, 23, [.ref 316, .int v1, .int v2], [.ref 316], mm I J D) = ex (205, 24, [.ref 316, .int v1, .int v2], [.int 0, .ref 316], mm I J D) := (ex_itr 1 _).trans rfl
set_option maxRecDepth 100000 in
theorem e_205_24 (I : Nat → Nat → Int32) (J : Nat → Nat → Int64) (D : Nat → Nat → UInt64) (v1 : Int32) (v2 : Int32) (s0 : Int32) : ex (205, 24, [.ref 316, .int v1, .int v2], [.int s0, .ref 316], mm I J D) = cal 205 28 [.ref 316, .int v1, .int v2] [] (ex (156, 0, [.ref 316, .int s0, .int 1], [], mm I J D)) := (ex_itr 2 _).trans rfl
set_option maxRecDepth 100000 in
theorem e_205_28 (I : Nat → Nat → Int32) (J : Nat → Nat → Int64) (D : Nat → Nat → UInt64) (v1 : Int32) (v2 : Int32) (s0 : Int32) : ex (205, 28, [.ref 316, .int v1, .int v2], [.int s0], mm I J D) = bif decide (s0 = 0) then ex (205, 73, [dv, dv, dv], [], mm I J D) else ex (205, 31, [.ref 316, .int v1, .int v2], [], mm I J D) := (ex_itr 1 _).trans rfl
set_option maxRecDepth 100000 in
theorem e_205_31 (I : Nat → Nat → Int32) (J : Nat → Nat → Int64) (D : Nat → Nat → UInt64) (v1 : Int32) (v2 : Int32) : ex (205, 31, [.ref 316, .int v1, .int v2], [], mm I J D) = cal 205 38 [.ref 316, .int v1, .int v2] [.ref 316] (ex (202, 0, [.ref 316, .int 0, .int v1], [], mm I J D)) := (ex_itr 5 _).trans rfl
set_option maxRecDepth 100000 in
theorem e_205_38 (I : Nat → Nat → Int32) (J : Nat → Nat → Int64) (D : Nat → Nat → UInt64) (v1 : Int32) (v2 : Int32) (s0 : Int32) : ex (205, 38, [.ref 316, .int v1, .int v2], [.int s0, .ref 316], mm I J D) = bif decide (s0 ≠ (-1)) then ex (205, 65, [.ref 316, .int v1, .int v2], [.ref 316], mm I J D) else ex (205, 42, [.ref 316, .int v1, .int v2], [.ref 316], mm I J D) := (ex_itr 2 _).trans rfl
set_option maxRecDepth 100000 in
theorem e_205_42 (I : Nat → Nat → Int32) (J : Nat → Nat → Int64) (D : Nat → Nat → UInt64) (v1 : Int32) (v2 : Int32) : ex (205, 42, [.ref 316, .int v1, .int v2], [.ref 316], mm I J D) = cal 205 48 [.ref 316, .int v1, .int v2] [.ref 316] (ex (202, 0, [.ref 316, .int 1, .int v2], [], mm I J D)) := (ex_itr 4 _).trans rfl
set_option maxRecDepth 100000 in
theorem e_205_48 (I : Nat → Nat → Int32) (J : Nat → Nat → Int64) (D : Nat → Nat → UInt64) (v1 : Int32) (v2 : Int32) (s0 : Int32) : ex (205, 48, [.ref 316, .int v1, .int v2], [.int s0, .ref 316], mm I J D) = bif decide (s0 ≠ (-1)) then ex (205, 65, [.ref 316, .int v1, .int v2], [.ref 316], mm I J D) else ex (205, 52, [.ref 316, .int v1, .int v2], [.ref 316], mm I J D) := (ex_itr 2 _).trans rfl
set_option maxRecDepth 100000 in
theorem e_205_52 (I : Nat → Nat → Int32) (J : Nat → Nat → Int64) (D : Nat → Nat → UInt64) (v1 : Int32) (v2 : Int32) : ex (205, 52, [.ref 316, .int v1, .int v2], [.ref 316], mm I J D) = cal 205 58 [.ref 316, .int v1, .int v2] [.ref 316] (ex (204, 0, [.ref 316, .int v1, .int v2, dv, dv], [], mm I J D)) := (ex_itr 4 _).trans rfl
set_option maxRecDepth 100000 in
theorem e_205_58 (I : Nat → Nat → Int32) (J : Nat → Nat → Int64) (D : Nat → Nat → UInt64) (v1 : Int32) (v2 : Int32) (s0 : Int32) : ex (205, 58, [.ref 316, .int v1, .int v2], [.int s0, .ref 316], mm I J D) = bif decide (s0 ≠ 0) then ex (205, 65, [.ref 316, .int v1, .int v2], [.ref 316], mm I J D) else ex (205, 61, [.ref 316, .int v1, .int v2], [.ref 316], mm I J D) := (ex_itr 1 _).trans rfl
set_option maxRecDepth 100000 in
theorem e_205_61 (I : Nat → Nat → Int32) (J : Nat → Nat → Int64) (D : Nat → Nat → UInt64) (v1 : Int32) (v2 : Int32) : ex (205, 61, [.ref 316, .int v1, .int v2], [.ref 316], mm I J D) = ex (205, 66, [.ref 316, .int v1, .int v2], [.int 1, .ref 316], mm I J D) := (ex_itr 2 _).trans rfl
set_option maxRecDepth 100000 in
theorem e_205_65 (I : Nat → Nat → Int32) (J : Nat → Nat → Int64) (D : Nat → Nat → UInt64) (v1 : Int32) (v2 : Int32) : ex (205, 65, [.ref 316, .int v1, .int v2], [.ref 316], mm I J D) = ex (205, 66, [.ref 316, .int v1, .int v2], [.int 0, .ref 316], mm I J D) := (ex_itr 1 _).trans rfl
set_option maxRecDepth 100000 in
theorem e_205_66 (I : Nat → Nat → Int32) (J : Nat → Nat → Int64) (D : Nat → Nat → UInt64) (v1 : Int32) (v2 : Int32) (s0 : Int32) : ex (205, 66, [.ref 316, .int v1, .int v2], [.int s0, .ref 316], mm I J D) = cal 205 70 [.ref 316, .int v1, .int v2] [] (ex (156, 0, [.ref 316, .int s0, .int 2], [], mm I J D)) := (ex_itr 2 _).trans rfl
set_option maxRecDepth 100000 in
theorem e_205_70 (I : Nat → Nat → Int32) (J : Nat → Nat → Int64) (D : Nat → Nat → UInt64) (v1 : Int32) (v2 : Int32) (s0 : Int32) : ex (205, 70, [.ref 316, .int v1, .int v2], [.int s0], mm I J D) = bif decide (s0 ≠ 0) then ex (205, 75, [.ref 316, .int v1, .int v2], [], mm I J D) else ex (205, 73, [dv, dv, dv], [], mm I J D) := (ex_itr 1 _).trans rfl
set_option maxRecDepth 100000 in
theorem e_205_73 (I : Nat → Nat → Int32) (J : Nat → Nat → Int64) (D : Nat → Nat → UInt64)  : ex (205, 73, [dv, dv, dv], [], mm I J D) = some (.inl (some (.int 0)), mm I J D) := (ex_itr 2 _).trans rfl
set_option maxRecDepth 100000 in
theorem e_205_75 (I : Nat → Nat → Int32) (J : Nat → Nat → Int64) (D : Nat → Nat → UInt64) (v1 : Int32) (v2 : Int32) : ex (205, 75, [.ref 316, .int v1, .int v2], [], mm I J D) = cal 205 79 [.ref 316, .int v1, .int v2] [] (ex (161, 0, [.ref 316, dv, dv], [], mm I J D)) := (ex_itr 2 _).trans rfl
set_option maxRecDepth 100000 in
theorem e_205_79 (I : Nat → Nat → Int32) (J : Nat → Nat → Int64) (D : Nat → Nat → UInt64) (v1 : Int32) (v2 : Int32) : ex (205, 79, [.ref 316, .int v1, .int v2], [], mm I J D) = bif inb ((589 : Int32) + v1) 850 then (bif inb ((605 : Int32) + v2) 850 then (cal 205 105 [dv, dv, dv] [] (ex (203, 0, [.ref 316, dv, dv], [], mm (ups (ups I 317 (((589 : Int32) + v1).toNatClampNeg) v2) 317 (((605 : Int32) + v2).toNatClampNeg) v1) J D))) else none) else none := (ex_itr 16 _).trans rfl
set_option maxRecDepth 100000 in
theorem e_205_105 (I : Nat → Nat → Int32) (J : Nat → Nat → Int64) (D : Nat → Nat → UInt64) (s0 : Int32) : ex (205, 105, [dv, dv, dv], [.int s0], mm I J D) = some (.inl (some (.int s0)), mm I J D) := (ex_itr 1 _).trans rfl
/-! GlacierBookModel.untie(II)I -/
set_option maxRecDepth 100000 in
theorem e_206_0 (I : Nat → Nat → Int32) (J : Nat → Nat → Int64) (D : Nat → Nat → UInt64) (v1 : Int32) (v2 : Int32) : ex (206, 0, [.ref 316, .int v1, .int v2, dv], [], mm I J D) = cal 206 7 [.ref 316, .int v1, .int v2, dv] [.ref 316] (ex (199, 0, [.ref 316, .int v1, .int v2], [], mm I J D)) := (ex_itr 5 _).trans rfl
set_option maxRecDepth 100000 in
theorem e_206_7 (I : Nat → Nat → Int32) (J : Nat → Nat → Int64) (D : Nat → Nat → UInt64) (v1 : Int32) (v2 : Int32) (s0 : Int32) : ex (206, 7, [.ref 316, .int v1, .int v2, dv], [.int s0, .ref 316], mm I J D) = cal 206 11 [.ref 316, .int v1, .int v2, dv] [] (ex (156, 0, [.ref 316, .int s0, .int 1], [], mm I J D)) := (ex_itr 2 _).trans rfl
set_option maxRecDepth 100000 in
theorem e_206_11 (I : Nat → Nat → Int32) (J : Nat → Nat → Int64) (D : Nat → Nat → UInt64) (v1 : Int32) (v2 : Int32) (s0 : Int32) : ex (206, 11, [.ref 316, .int v1, .int v2, dv], [.int s0], mm I J D) = bif decide (s0 = 0) then ex (206, 37, [dv, dv, dv, dv], [], mm I J D) else ex (206, 14, [.ref 316, .int v1, .int v2, dv], [], mm I J D) := (ex_itr 1 _).trans rfl
set_option maxRecDepth 100000 in
theorem e_206_14 (I : Nat → Nat → Int32) (J : Nat → Nat → Int64) (D : Nat → Nat → UInt64) (v1 : Int32) (v2 : Int32) : ex (206, 14, [.ref 316, .int v1, .int v2, dv], [], mm I J D) = cal 206 21 [.ref 316, .int v1, .int v2, dv] [.ref 316] (ex (202, 0, [.ref 316, .int v1, .int v2], [], mm I J D)) := (ex_itr 5 _).trans rfl
set_option maxRecDepth 100000 in
theorem e_206_21 (I : Nat → Nat → Int32) (J : Nat → Nat → Int64) (D : Nat → Nat → UInt64) (v1 : Int32) (v2 : Int32) (s0 : Int32) : ex (206, 21, [.ref 316, .int v1, .int v2, dv], [.int s0, .ref 316], mm I J D) = bif decide (s0 = (-1)) then ex (206, 29, [.ref 316, .int v1, .int v2, dv], [.ref 316], mm I J D) else ex (206, 25, [.ref 316, .int v1, .int v2, dv], [.ref 316], mm I J D) := (ex_itr 2 _).trans rfl
set_option maxRecDepth 100000 in
theorem e_206_25 (I : Nat → Nat → Int32) (J : Nat → Nat → Int64) (D : Nat → Nat → UInt64) (v1 : Int32) (v2 : Int32) : ex (206, 25, [.ref 316, .int v1, .int v2, dv], [.ref 316], mm I J D) = ex (206, 30, [.ref 316, .int v1, .int v2, dv], [.int 1, .ref 316], mm I J D) := (ex_itr 2 _).trans rfl
set_option maxRecDepth 100000 in
theorem e_206_29 (I : Nat → Nat → Int32) (J : Nat → Nat → Int64) (D : Nat → Nat → UInt64) (v1 : Int32) (v2 : Int32) : ex (206, 29, [.ref 316, .int v1, .int v2, dv], [.ref 316], mm I J D) = ex (206, 30, [.ref 316, .int v1, .int v2, dv], [.int 0, .ref 316], mm I J D) := (ex_itr 1 _).trans rfl
set_option maxRecDepth 100000 in
theorem e_206_30 (I : Nat → Nat → Int32) (J : Nat → Nat → Int64) (D : Nat → Nat → UInt64) (v1 : Int32) (v2 : Int32) (s0 : Int32) : ex (206, 30, [.ref 316, .int v1, .int v2, dv], [.int s0, .ref 316], mm I J D) = cal 206 34 [.ref 316, .int v1, .int v2, dv] [] (ex (156, 0, [.ref 316, .int s0, .int 2], [], mm I J D)) := (ex_itr 2 _).trans rfl
set_option maxRecDepth 100000 in
theorem e_206_34 (I : Nat → Nat → Int32) (J : Nat → Nat → Int64) (D : Nat → Nat → UInt64) (v1 : Int32) (v2 : Int32) (s0 : Int32) : ex (206, 34, [.ref 316, .int v1, .int v2, dv], [.int s0], mm I J D) = bif decide (s0 ≠ 0) then ex (206, 39, [.ref 316, .int v1, .int v2, dv], [], mm I J D) else ex (206, 37, [dv, dv, dv, dv], [], mm I J D) := (ex_itr 1 _).trans rfl
set_option maxRecDepth 100000 in
theorem e_206_37 (I : Nat → Nat → Int32) (J : Nat → Nat → Int64) (D : Nat → Nat → UInt64)  : ex (206, 37, [dv, dv, dv, dv], [], mm I J D) = some (.inl (some (.int 0)), mm I J D) := (ex_itr 2 _).trans rfl
set_option maxRecDepth 100000 in
theorem e_206_39 (I : Nat → Nat → Int32) (J : Nat → Nat → Int64) (D : Nat → Nat → UInt64) (v1 : Int32) (v2 : Int32) : ex (206, 39, [.ref 316, .int v1, .int v2, dv], [], mm I J D) = cal 206 43 [.ref 316, .int v1, .int v2, dv] [] (ex (161, 0, [.ref 316, dv, dv], [], mm I J D)) := (ex_itr 2 _).trans rfl
set_option maxRecDepth 100000 in
theorem e_206_43 (I : Nat → Nat → Int32) (J : Nat → Nat → Int64) (D : Nat → Nat → UInt64) (v1 : Int32) (v2 : Int32) : ex (206, 43, [.ref 316, .int v1, .int v2, dv], [], mm I J D) = cal 206 49 [.ref 316, .int v1, .int v2, dv] [] (ex (202, 0, [.ref 316, .int v1, .int v2], [], mm I J D)) := (ex_itr 4 _).trans rfl
set_option maxRecDepth 100000 in
theorem e_206_49 (I : Nat → Nat → Int32) (J : Nat → Nat → Int64) (D : Nat → Nat → UInt64) (v1 : Int32) (v2 : Int32) (s0 : Int32) : ex (206, 49, [.ref 316, .int v1, .int v2, dv], [.int s0], mm I J D) = bif inb (((589 : Int32) + ((16 : Int32) * v1)) + v2) 850 then (bif inb (((589 : Int32) + ((16 : Int32) * ((1 : Int32) - v1))) + s0) 850 then (some (.inl (some (.int s0)), mm (ups (ups I 317 ((((589 : Int32) + ((16 : Int32) * v1)) + v2).toNatClampNeg) (-1)) 317 ((((589 : Int32) + ((16 : Int32) * ((1 : Int32) - v1))) + s0).toNatClampNeg) (-1)) J D)) else none) else none := (ex_itr 27 _).trans rfl
/-! GlacierBookModel.bandCount(I)I -/
set_option maxRecDepth 100000 in
theorem e_207_0 (I : Nat → Nat → Int32) (J : Nat → Nat → Int64) (D : Nat → Nat → UInt64) (v1 : Int32) : ex (207, 0, [.ref 316, .int v1], [], mm I J D) = cal 207 5 [.ref 316, .int v1] [.ref 316] (ex (198, 0, [.int v1], [], mm I J D)) := (ex_itr 3 _).trans rfl
set_option maxRecDepth 100000 in
theorem e_207_5 (I : Nat → Nat → Int32) (J : Nat → Nat → Int64) (D : Nat → Nat → UInt64) (v1 : Int32) (s0 : Int32) : ex (207, 5, [.ref 316, .int v1], [.int s0, .ref 316], mm I J D) = cal 207 9 [.ref 316, .int v1] [] (ex (156, 0, [.ref 316, .int s0, .int 1], [], mm I J D)) := (ex_itr 2 _).trans rfl
set_option maxRecDepth 100000 in
theorem e_207_9 (I : Nat → Nat → Int32) (J : Nat → Nat → Int64) (D : Nat → Nat → UInt64) (v1 : Int32) (s0 : Int32) : ex (207, 9, [.ref 316, .int v1], [.int s0], mm I J D) = bif decide (s0 = 0) then ex (207, 25, [dv, dv], [], mm I J D) else ex (207, 12, [.ref 316, .int v1], [], mm I J D) := (ex_itr 1 _).trans rfl
set_option maxRecDepth 100000 in
theorem e_207_12 (I : Nat → Nat → Int32) (J : Nat → Nat → Int64) (D : Nat → Nat → UInt64) (v1 : Int32) : ex (207, 12, [.ref 316, .int v1], [], mm I J D) = bif inb ((491 : Int32) + v1) 850 then (ex (207, 26, [dv, dv], [.int (I 317 ((491 : Int32) + v1).toNatClampNeg)], mm I J D)) else none := (ex_itr 7 _).trans rfl
set_option maxRecDepth 100000 in
theorem e_207_25 (I : Nat → Nat → Int32) (J : Nat → Nat → Int64) (D : Nat → Nat → UInt64)  : ex (207, 25, [dv, dv], [], mm I J D) = ex (207, 26, [dv, dv], [.int 0], mm I J D) := (ex_itr 1 _).trans rfl
set_option maxRecDepth 100000 in
theorem e_207_26 (I : Nat → Nat → Int32) (J : Nat → Nat → Int64) (D : Nat → Nat → UInt64) (s0 : Int32) : ex (207, 26, [dv, dv], [.int s0], mm I J D) = some (.inl (some (.int s0)), mm I J D) := (ex_itr 1 _).trans rfl
/-! GlacierBookModel.thick(II)I -/
set_option maxRecDepth 100000 in
theorem e_208_0 (I : Nat → Nat → Int32) (J : Nat → Nat → Int64) (D : Nat → Nat → UInt64) (v1 : Int32) (v2 : Int32) : ex (208, 0, [.ref 316, .int v1, .int v2], [], mm I J D) = bif inb (((493 : Int32) + ((16 : Int32) * v1)) + v2) 850 then (some (.inl (some (.int (I 317 (((493 : Int32) + ((16 : Int32) * v1)) + v2).toNatClampNeg))), mm I J D)) else none := (ex_itr 11 _).trans rfl
/-! GlacierBookModel.mark(II)I -/
set_option maxRecDepth 100000 in
theorem e_209_0 (I : Nat → Nat → Int32) (J : Nat → Nat → Int64) (D : Nat → Nat → UInt64) (v1 : Int32) (v2 : Int32) : ex (209, 0, [.ref 316, .int v1, .int v2], [], mm I J D) = bif inb (((525 : Int32) + ((16 : Int32) * v1)) + v2) 850 then (some (.inl (some (.int (I 317 (((525 : Int32) + ((16 : Int32) * v1)) + v2).toNatClampNeg))), mm I J D)) else none := (ex_itr 11 _).trans rfl
/-! GlacierBookModel.takes(II)I -/
set_option maxRecDepth 100000 in
theorem e_210_0 (I : Nat → Nat → Int32) (J : Nat → Nat → Int64) (D : Nat → Nat → UInt64) (v0 : Int32) (v1 : Int32) : ex (210, 0, [.int v0, .int v1], [], mm I J D) = bif decide (v0 = 1) then ex (210, 10, [.int v0, .int v1], [], mm I J D) else ex (210, 5, [.int v0, .int v1], [], mm I J D) := (ex_itr 3 _).trans rfl
set_option maxRecDepth 100000 in
theorem e_210_5 (I : Nat → Nat → Int32) (J : Nat → Nat → Int64) (D : Nat → Nat → UInt64) (v0 : Int32) (v1 : Int32) : ex (210, 5, [.int v0, .int v1], [], mm I J D) = bif decide (v0 ≠ 2) then ex (210, 38, [.int v0, .int v1], [], mm I J D) else ex (210, 10, [.int v0, .int v1], [], mm I J D) := (ex_itr 3 _).trans rfl
set_option maxRecDepth 100000 in
theorem e_210_10 (I : Nat → Nat → Int32) (J : Nat → Nat → Int64) (D : Nat → Nat → UInt64) (v0 : Int32) (v1 : Int32) : ex (210, 10, [.int v0, .int v1], [], mm I J D) = bif decide (v0 ≠ 1) then ex (210, 19, [dv, .int v1], [], mm I J D) else ex (210, 15, [dv, .int v1], [], mm I J D) := (ex_itr 3 _).trans rfl
set_option maxRecDepth 100000 in
theorem e_210_15 (I : Nat → Nat → Int32) (J : Nat → Nat → Int64) (D : Nat → Nat → UInt64) (v1 : Int32) : ex (210, 15, [dv, .int v1], [], mm I J D) = ex (210, 20, [dv, .int v1], [.int 1], mm I J D) := (ex_itr 2 _).trans rfl
set_option maxRecDepth 100000 in
theorem e_210_19 (I : Nat → Nat → Int32) (J : Nat → Nat → Int64) (D : Nat → Nat → UInt64) (v1 : Int32) : ex (210, 19, [dv, .int v1], [], mm I J D) = ex (210, 20, [dv, .int v1], [.int 0], mm I J D) := (ex_itr 1 _).trans rfl
set_option maxRecDepth 100000 in
theorem e_210_20 (I : Nat → Nat → Int32) (J : Nat → Nat → Int64) (D : Nat → Nat → UInt64) (v1 : Int32) (s0 : Int32) : ex (210, 20, [dv, .int v1], [.int s0], mm I J D) = bif decide (v1 ≠ 0) then ex (210, 28, [dv, dv], [.int s0], mm I J D) else ex (210, 24, [dv, dv], [.int s0], mm I J D) := (ex_itr 2 _).trans rfl
set_option maxRecDepth 100000 in
theorem e_210_24 (I : Nat → Nat → Int32) (J : Nat → Nat → Int64) (D : Nat → Nat → UInt64) (s0 : Int32) : ex (210, 24, [dv, dv], [.int s0], mm I J D) = ex (210, 29, [dv, dv], [.int 1, .int s0], mm I J D) := (ex_itr 2 _).trans rfl
set_option maxRecDepth 100000 in
theorem e_210_28 (I : Nat → Nat → Int32) (J : Nat → Nat → Int64) (D : Nat → Nat → UInt64) (s0 : Int32) : ex (210, 28, [dv, dv], [.int s0], mm I J D) = ex (210, 29, [dv, dv], [.int 0, .int s0], mm I J D) := (ex_itr 1 _).trans rfl
set_option maxRecDepth 100000 in
theorem e_210_29 (I : Nat → Nat → Int32) (J : Nat → Nat → Int64) (D : Nat → Nat → UInt64) (s0 : Int32) (s1 : Int32) : ex (210, 29, [dv, dv], [.int s0, .int s1], mm I J D) = bif decide (s1 ≠ s0) then ex (210, 36, [dv, dv], [], mm I J D) else ex (210, 32, [dv, dv], [], mm I J D) := (ex_itr 1 _).trans rfl
set_option maxRecDepth 100000 in
theorem e_210_32 (I : Nat → Nat → Int32) (J : Nat → Nat → Int64) (D : Nat → Nat → UInt64)  : ex (210, 32, [dv, dv], [], mm I J D) = ex (210, 37, [dv, dv], [.int 1], mm I J D) := (ex_itr 2 _).trans rfl
set_option maxRecDepth 100000 in
theorem e_210_36 (I : Nat → Nat → Int32) (J : Nat → Nat → Int64) (D : Nat → Nat → UInt64)  : ex (210, 36, [dv, dv], [], mm I J D) = ex (210, 37, [dv, dv], [.int 0], mm I J D) := (ex_itr 1 _).trans rfl
set_option maxRecDepth 100000 in
theorem e_210_37 (I : Nat → Nat → Int32) (J : Nat → Nat → Int64) (D : Nat → Nat → UInt64) (s0 : Int32) : ex (210, 37, [dv, dv], [.int s0], mm I J D) = some (.inl (some (.int s0)), mm I J D) := (ex_itr 1 _).trans rfl
set_option maxRecDepth 100000 in
theorem e_210_38 (I : Nat → Nat → Int32) (J : Nat → Nat → Int64) (D : Nat → Nat → UInt64) (v0 : Int32) (v1 : Int32) : ex (210, 38, [.int v0, .int v1], [], mm I J D) = bif decide (v0 ≠ 4) then ex (210, 47, [.int v0, .int v1], [], mm I J D) else ex (210, 43, [.int v0, .int v1], [], mm I J D) := (ex_itr 3 _).trans rfl
set_option maxRecDepth 100000 in
theorem e_210_43 (I : Nat → Nat → Int32) (J : Nat → Nat → Int64) (D : Nat → Nat → UInt64) (v0 : Int32) (v1 : Int32) : ex (210, 43, [.int v0, .int v1], [], mm I J D) = bif decide (v1 = 0) then ex (210, 57, [dv, dv], [], mm I J D) else ex (210, 47, [.int v0, .int v1], [], mm I J D) := (ex_itr 2 _).trans rfl
set_option maxRecDepth 100000 in
theorem e_210_47 (I : Nat → Nat → Int32) (J : Nat → Nat → Int64) (D : Nat → Nat → UInt64) (v0 : Int32) (v1 : Int32) : ex (210, 47, [.int v0, .int v1], [], mm I J D) = bif decide (v0 ≠ 3) then ex (210, 61, [dv, dv], [], mm I J D) else ex (210, 52, [dv, .int v1], [], mm I J D) := (ex_itr 3 _).trans rfl
set_option maxRecDepth 100000 in
theorem e_210_52 (I : Nat → Nat → Int32) (J : Nat → Nat → Int64) (D : Nat → Nat → UInt64) (v1 : Int32) : ex (210, 52, [dv, .int v1], [], mm I J D) = bif decide (v1 ≠ 1) then ex (210, 61, [dv, dv], [], mm I J D) else ex (210, 57, [dv, dv], [], mm I J D) := (ex_itr 3 _).trans rfl
set_option maxRecDepth 100000 in
theorem e_210_57 (I : Nat → Nat → Int32) (J : Nat → Nat → Int64) (D : Nat → Nat → UInt64)  : ex (210, 57, [dv, dv], [], mm I J D) = ex (210, 62, [dv, dv], [.int 2], mm I J D) := (ex_itr 2 _).trans rfl
set_option maxRecDepth 100000 in
theorem e_210_61 (I : Nat → Nat → Int32) (J : Nat → Nat → Int64) (D : Nat → Nat → UInt64)  : ex (210, 61, [dv, dv], [], mm I J D) = ex (210, 62, [dv, dv], [.int 1], mm I J D) := (ex_itr 1 _).trans rfl
set_option maxRecDepth 100000 in
theorem e_210_62 (I : Nat → Nat → Int32) (J : Nat → Nat → Int64) (D : Nat → Nat → UInt64) (s0 : Int32) : ex (210, 62, [dv, dv], [.int s0], mm I J D) = some (.inl (some (.int s0)), mm I J D) := (ex_itr 1 _).trans rfl
/-! GlacierBookModel.isLoose(III)Z -/
set_option maxRecDepth 100000 in
theorem e_211_0 (I : Nat → Nat → Int32) (J : Nat → Nat → Int64) (D : Nat → Nat → UInt64) (v1 : Int32) (v2 : Int32) (v3 : Int32) : ex (211, 0, [.ref 316, .int v1, .int v2, .int v3, dv], [], mm I J D) = ex (211, 3, [.ref 316, .int v1, .int v2, .int v3, .int v2], [], mm I J D) := (ex_itr 2 _).trans rfl
set_option maxRecDepth 100000 in
theorem e_211_3 (I : Nat → Nat → Int32) (J : Nat → Nat → Int64) (D : Nat → Nat → UInt64) (v1 : Int32) (v2 : Int32) (v3 : Int32) (v4 : Int32) : ex (211, 3, [.ref 316, .int v1, .int v2, .int v3, .int v4], [], mm I J D) = bif decide ((v2 + v3) ≤ v4) then ex (211, 30, [dv, dv, dv, dv, dv], [], mm I J D) else ex (211, 11, [.ref 316, .int v1, .int v2, .int v3, .int v4], [], mm I J D) := (ex_itr 5 _).trans rfl
set_option maxRecDepth 100000 in
theorem e_211_11 (I : Nat → Nat → Int32) (J : Nat → Nat → Int64) (D : Nat → Nat → UInt64) (v1 : Int32) (v2 : Int32) (v3 : Int32) (v4 : Int32) : ex (211, 11, [.ref 316, .int v1, .int v2, .int v3, .int v4], [], mm I J D) = cal 211 18 [.ref 316, .int v1, .int v2, .int v3, .int v4] [] (ex (202, 0, [.ref 316, .int v1, .int v4], [], mm I J D)) := (ex_itr 4 _).trans rfl
set_option maxRecDepth 100000 in
theorem e_211_18 (I : Nat → Nat → Int32) (J : Nat → Nat → Int64) (D : Nat → Nat → UInt64) (v1 : Int32) (v2 : Int32) (v3 : Int32) (v4 : Int32) (s0 : Int32) : ex (211, 18, [.ref 316, .int v1, .int v2, .int v3, .int v4], [.int s0], mm I J D) = bif decide (s0 = (-1)) then ex (211, 24, [.ref 316, .int v1, .int v2, .int v3, .int v4], [], mm I J D) else ex (211, 22, [dv, dv, dv, dv, dv], [], mm I J D) := (ex_itr 2 _).trans rfl
set_option maxRecDepth 100000 in
theorem e_211_22 (I : Nat → Nat → Int32) (J : Nat → Nat → Int64) (D : Nat → Nat → UInt64)  : ex (211, 22, [dv, dv, dv, dv, dv], [], mm I J D) = some (.inl (some (.int 0)), mm I J D) := (ex_itr 2 _).trans rfl
set_option maxRecDepth 100000 in
theorem e_211_24 (I : Nat → Nat → Int32) (J : Nat → Nat → Int64) (D : Nat → Nat → UInt64) (v1 : Int32) (v2 : Int32) (v3 : Int32) (v4 : Int32) : ex (211, 24, [.ref 316, .int v1, .int v2, .int v3, .int v4], [], mm I J D) = ex (211, 3, [.ref 316, .int v1, .int v2, .int v3, .int (v4 + 1)], [], mm I J D) := (ex_itr 2 _).trans rfl
set_option maxRecDepth 100000 in
theorem e_211_30 (I : Nat → Nat → Int32) (J : Nat → Nat → Int64) (D : Nat → Nat → UInt64)  : ex (211, 30, [dv, dv, dv, dv, dv], [], mm I J D) = some (.inl (some (.int 1)), mm I J D) := (ex_itr 2 _).trans rfl
/-! GlacierBookModel.isStep(III)Z -/
set_option maxRecDepth 100000 in
theorem e_212_0 (I : Nat → Nat → Int32) (J : Nat → Nat → Int64) (D : Nat → Nat → UInt64) (v1 : Int32) (v2 : Int32) (v3 : Int32) : ex (212, 0, [.ref 316, .int v1, .int v2, .int v3], [], mm I J D) = cal 212 6 [.ref 316, .int v1, .int v2, .int v3] [.int v2] (ex (210, 0, [.int v1, .int 0], [], mm I J D)) := (ex_itr 4 _).trans rfl
set_option maxRecDepth 100000 in
theorem e_212_6 (I : Nat → Nat → Int32) (J : Nat → Nat → Int64) (D : Nat → Nat → UInt64) (v1 : Int32) (v2 : Int32) (v3 : Int32) (s0 : Int32) (s1 : Int32) : ex (212, 6, [.ref 316, .int v1, .int v2, .int v3], [.int s0, .int s1], mm I J D) = bif decide ((I 317 491) < (s1 + s0)) then ex (212, 36, [dv, dv, dv, dv], [], mm I J D) else ex (212, 18, [.ref 316, .int v1, .int v2, .int v3], [], mm I J D) := (ex_itr 6 _).trans rfl
set_option maxRecDepth 100000 in
theorem e_212_18 (I : Nat → Nat → Int32) (J : Nat → Nat → Int64) (D : Nat → Nat → UInt64) (v1 : Int32) (v2 : Int32) (v3 : Int32) : ex (212, 18, [.ref 316, .int v1, .int v2, .int v3], [], mm I J D) = cal 212 24 [.ref 316, .int v1, .int v2, .int v3] [.int v3] (ex (210, 0, [.int v1, .int 1], [], mm I J D)) := (ex_itr 4 _).trans rfl
set_option maxRecDepth 100000 in
theorem e_212_24 (I : Nat → Nat → Int32) (J : Nat → Nat → Int64) (D : Nat → Nat → UInt64) (v1 : Int32) (v2 : Int32) (v3 : Int32) (s0 : Int32) (s1 : Int32) : ex (212, 24, [.ref 316, .int v1, .int v2, .int v3], [.int s0, .int s1], mm I J D) = bif decide ((s1 + s0) ≤ (I 317 492)) then ex (212, 38, [.ref 316, .int v1, .int v2, .int v3], [], mm I J D) else ex (212, 36, [dv, dv, dv, dv], [], mm I J D) := (ex_itr 6 _).trans rfl
set_option maxRecDepth 100000 in
theorem e_212_36 (I : Nat → Nat → Int32) (J : Nat → Nat → Int64) (D : Nat → Nat → UInt64)  : ex (212, 36, [dv, dv, dv, dv], [], mm I J D) = some (.inl (some (.int 0)), mm I J D) := (ex_itr 2 _).trans rfl
set_option maxRecDepth 100000 in
theorem e_212_38 (I : Nat → Nat → Int32) (J : Nat → Nat → Int64) (D : Nat → Nat → UInt64) (v1 : Int32) (v2 : Int32) (v3 : Int32) : ex (212, 38, [.ref 316, .int v1, .int v2, .int v3], [], mm I J D) = bif decide (v1 ≠ 0) then ex (212, 78, [.ref 316, .int v1, .int v2, .int v3], [], mm I J D) else ex (212, 42, [.ref 316, dv, .int v2, .int v3], [], mm I J D) := (ex_itr 2 _).trans rfl
set_option maxRecDepth 100000 in
theorem e_212_42 (I : Nat → Nat → Int32) (J : Nat → Nat → Int64) (D : Nat → Nat → UInt64) (v2 : Int32) (v3 : Int32) : ex (212, 42, [.ref 316, dv, .int v2, .int v3], [], mm I J D) = cal 212 48 [.ref 316, dv, .int v2, .int v3] [] (ex (202, 0, [.ref 316, .int 0, .int v2], [], mm I J D)) := (ex_itr 4 _).trans rfl
set_option maxRecDepth 100000 in
theorem e_212_48 (I : Nat → Nat → Int32) (J : Nat → Nat → Int64) (D : Nat → Nat → UInt64) (v2 : Int32) (v3 : Int32) (s0 : Int32) : ex (212, 48, [.ref 316, dv, .int v2, .int v3], [.int s0], mm I J D) = bif decide (s0 = v3) then ex (212, 72, [dv, dv, dv, dv], [], mm I J D) else ex (212, 52, [.ref 316, dv, .int v2, .int v3], [], mm I J D) := (ex_itr 2 _).trans rfl
set_option maxRecDepth 100000 in
theorem e_212_52 (I : Nat → Nat → Int32) (J : Nat → Nat → Int64) (D : Nat → Nat → UInt64) (v2 : Int32) (v3 : Int32) : ex (212, 52, [.ref 316, dv, .int v2, .int v3], [], mm I J D) = cal 212 58 [.ref 316, dv, dv, .int v3] [] (ex (202, 0, [.ref 316, .int 0, .int v2], [], mm I J D)) := (ex_itr 4 _).trans rfl
set_option maxRecDepth 100000 in
theorem e_212_58 (I : Nat → Nat → Int32) (J : Nat → Nat → Int64) (D : Nat → Nat → UInt64) (v3 : Int32) (s0 : Int32) : ex (212, 58, [.ref 316, dv, dv, .int v3], [.int s0], mm I J D) = bif decide (s0 ≠ (-1)) then ex (212, 76, [dv, dv, dv, dv], [], mm I J D) else ex (212, 62, [.ref 316, dv, dv, .int v3], [], mm I J D) := (ex_itr 2 _).trans rfl
set_option maxRecDepth 100000 in
theorem e_212_62 (I : Nat → Nat → Int32) (J : Nat → Nat → Int64) (D : Nat → Nat → UInt64) (v3 : Int32) : ex (212, 62, [.ref 316, dv, dv, .int v3], [], mm I J D) = cal 212 68 [dv, dv, dv, dv] [] (ex (202, 0, [.ref 316, .int 1, .int v3], [], mm I J D)) := (ex_itr 4 _).trans rfl
set_option maxRecDepth 100000 in
theorem e_212_68 (I : Nat → Nat → Int32) (J : Nat → Nat → Int64) (D : Nat → Nat → UInt64) (s0 : Int32) : ex (212, 68, [dv, dv, dv, dv], [.int s0], mm I J D) = bif decide (s0 ≠ (-1)) then ex (212, 76, [dv, dv, dv, dv], [], mm I J D) else ex (212, 72, [dv, dv, dv, dv], [], mm I J D) := (ex_itr 2 _).trans rfl
set_option maxRecDepth 100000 in
theorem e_212_72 (I : Nat → Nat → Int32) (J : Nat → Nat → Int64) (D : Nat → Nat → UInt64)  : ex (212, 72, [dv, dv, dv, dv], [], mm I J D) = ex (212, 77, [dv, dv, dv, dv], [.int 1], mm I J D) := (ex_itr 2 _).trans rfl
set_option maxRecDepth 100000 in
theorem e_212_76 (I : Nat → Nat → Int32) (J : Nat → Nat → Int64) (D : Nat → Nat → UInt64)  : ex (212, 76, [dv, dv, dv, dv], [], mm I J D) = ex (212, 77, [dv, dv, dv, dv], [.int 0], mm I J D) := (ex_itr 1 _).trans rfl
set_option maxRecDepth 100000 in
theorem e_212_77 (I : Nat → Nat → Int32) (J : Nat → Nat → Int64) (D : Nat → Nat → UInt64) (s0 : Int32) : ex (212, 77, [dv, dv, dv, dv], [.int s0], mm I J D) = bif decide (s0 = 0 ∨ s0 = 1) then (some (.inl (some (.int s0)), mm I J D)) else none := (ex_itr 1 _).trans rfl
set_option maxRecDepth 100000 in
theorem e_212_78 (I : Nat → Nat → Int32) (J : Nat → Nat → Int64) (D : Nat → Nat → UInt64) (v1 : Int32) (v2 : Int32) (v3 : Int32) : ex (212, 78, [.ref 316, .int v1, .int v2, .int v3], [], mm I J D) = cal 212 86 [.ref 316, .int v1, dv, .int v3] [.int v2, .int 0, .ref 316] (ex (210, 0, [.int v1, .int 0], [], mm I J D)) := (ex_itr 6 _).trans rfl
set_option maxRecDepth 100000 in
theorem e_212_86 (I : Nat → Nat → Int32) (J : Nat → Nat → Int64) (D : Nat → Nat → UInt64) (v1 : Int32) (v3 : Int32) (s0 : Int32) (s1 : Int32) (s2 : Int32) : ex (212, 86, [.ref 316, .int v1, dv, .int v3], [.int s0, .int s1, .int s2, .ref 316], mm I J D) = cal 212 89 [.ref 316, .int v1, dv, .int v3] [] (ex (211, 0, [.ref 316, .int s2, .int s1, .int s0, dv], [], mm I J D)) := (ex_itr 1 _).trans rfl
set_option maxRecDepth 100000 in
theorem e_212_89 (I : Nat → Nat → Int32) (J : Nat → Nat → Int64) (D : Nat → Nat → UInt64) (v1 : Int32) (v3 : Int32) (s0 : Int32) : ex (212, 89, [.ref 316, .int v1, dv, .int v3], [.int s0], mm I J D) = bif decide (s0 = 0) then ex (212, 110, [dv, dv, dv, dv], [], mm I J D) else ex (212, 92, [.ref 316, .int v1, dv, .int v3], [], mm I J D) := (ex_itr 1 _).trans rfl
set_option maxRecDepth 100000 in
theorem e_212_92 (I : Nat → Nat → Int32) (J : Nat → Nat → Int64) (D : Nat → Nat → UInt64) (v1 : Int32) (v3 : Int32) : ex (212, 92, [.ref 316, .int v1, dv, .int v3], [], mm I J D) = cal 212 100 [dv, dv, dv, dv] [.int v3, .int 1, .ref 316] (ex (210, 0, [.int v1, .int 1], [], mm I J D)) := (ex_itr 6 _).trans rfl
set_option maxRecDepth 100000 in
theorem e_212_100 (I : Nat → Nat → Int32) (J : Nat → Nat → Int64) (D : Nat → Nat → UInt64) (s0 : Int32) (s1 : Int32) (s2 : Int32) : ex (212, 100, [dv, dv, dv, dv], [.int s0, .int s1, .int s2, .ref 316], mm I J D) = cal 212 103 [dv, dv, dv, dv] [] (ex (211, 0, [.ref 316, .int s2, .int s1, .int s0, dv], [], mm I J D)) := (ex_itr 1 _).trans rfl
set_option maxRecDepth 100000 in
theorem e_212_103 (I : Nat → Nat → Int32) (J : Nat → Nat → Int64) (D : Nat → Nat → UInt64) (s0 : Int32) : ex (212, 103, [dv, dv, dv, dv], [.int s0], mm I J D) = bif decide (s0 = 0) then ex (212, 110, [dv, dv, dv, dv], [], mm I J D) else ex (212, 106, [dv, dv, dv, dv], [], mm I J D) := (ex_itr 1 _).trans rfl
set_option maxRecDepth 100000 in
theorem e_212_106 (I : Nat → Nat → Int32) (J : Nat → Nat → Int64) (D : Nat → Nat → UInt64)  : ex (212, 106, [dv, dv, dv, dv], [], mm I J D) = ex (212, 111, [dv, dv, dv, dv], [.int 1], mm I J D) := (ex_itr 2 _).trans rfl
set_option maxRecDepth 100000 in
theorem e_212_110 (I : Nat → Nat → Int32) (J : Nat → Nat → Int64) (D : Nat → Nat → UInt64)  : ex (212, 110, [dv, dv, dv, dv], [], mm I J D) = ex (212, 111, [dv, dv, dv, dv], [.int 0], mm I J D) := (ex_itr 1 _).trans rfl
set_option maxRecDepth 100000 in
theorem e_212_111 (I : Nat → Nat → Int32) (J : Nat → Nat → Int64) (D : Nat → Nat → UInt64) (s0 : Int32) : ex (212, 111, [dv, dv, dv, dv], [.int s0], mm I J D) = bif decide (s0 = 0 ∨ s0 = 1) then (some (.inl (some (.int s0)), mm I J D)) else none := (ex_itr 1 _).trans rfl
/-! GlacierBookModel.priceOf(III)I -/
set_option maxRecDepth 100000 in
theorem e_213_0 (I : Nat → Nat → Int32) (J : Nat → Nat → Int64) (D : Nat → Nat → UInt64) (v1 : Int32) (v2 : Int32) (v3 : Int32) : ex (213, 0, [.ref 316, .int v1, .int v2, .int v3, dv, dv, dv, dv], [], mm I J D) = bif decide (v1 ≠ 0) then ex (213, 48, [.ref 316, .int v1, .int v2, .int v3, dv, dv, dv, dv], [], mm I J D) else ex (213, 4, [.ref 316, dv, .int v2, .int v3, dv, dv, dv, dv], [], mm I J D) := (ex_itr 2 _).trans rfl
set_option maxRecDepth 100000 in
theorem e_213_4 (I : Nat → Nat → Int32) (J : Nat → Nat → Int64) (D : Nat → Nat → UInt64) (v2 : Int32) (v3 : Int32) : ex (213, 4, [.ref 316, dv, .int v2, .int v3, dv, dv, dv, dv], [], mm I J D) = cal 213 10 [.ref 316, dv, .int v2, .int v3, dv, dv, dv, dv] [] (ex (208, 0, [.ref 316, .int 0, .int v2], [], mm I J D)) := (ex_itr 4 _).trans rfl
set_option maxRecDepth 100000 in
theorem e_213_10 (I : Nat → Nat → Int32) (J : Nat → Nat → Int64) (D : Nat → Nat → UInt64) (v2 : Int32) (v3 : Int32) (s0 : Int32) : ex (213, 10, [.ref 316, dv, .int v2, .int v3, dv, dv, dv, dv], [.int s0], mm I J D) = cal 213 16 [.ref 316, dv, .int v2, .int v3, dv, dv, dv, dv] [.int s0] (ex (208, 0, [.ref 316, .int 1, .int v3], [], mm I J D)) := (ex_itr 4 _).trans rfl
set_option maxRecDepth 100000 in
theorem e_213_16 (I : Nat → Nat → Int32) (J : Nat → Nat → Int64) (D : Nat → Nat → UInt64) (v2 : Int32) (v3 : Int32) (s0 : Int32) (s1 : Int32) : ex (213, 16, [.ref 316, dv, .int v2, .int v3, dv, dv, dv, dv], [.int s0, .int s1], mm I J D) = cal 213 19 [.ref 316, dv, .int v2, .int v3, dv, dv, dv, dv] [] (ex (158, 0, [.int s1, .int s0], [], mm I J D)) := (ex_itr 1 _).trans rfl
set_option maxRecDepth 100000 in
theorem e_213_19 (I : Nat → Nat → Int32) (J : Nat → Nat → Int64) (D : Nat → Nat → UInt64) (v2 : Int32) (v3 : Int32) (s0 : Int32) : ex (213, 19, [.ref 316, dv, .int v2, .int v3, dv, dv, dv, dv], [.int s0], mm I J D) = cal 213 25 [.ref 316, dv, dv, .int v3, dv, dv, dv, dv] [.int s0] (ex (209, 0, [.ref 316, .int 0, .int v2], [], mm I J D)) := (ex_itr 4 _).trans rfl
set_option maxRecDepth 100000 in
theorem e_213_25 (I : Nat → Nat → Int32) (J : Nat → Nat → Int64) (D : Nat → Nat → UInt64) (v3 : Int32) (s0 : Int32) (s1 : Int32) : ex (213, 25, [.ref 316, dv, dv, .int v3, dv, dv, dv, dv], [.int s0, .int s1], mm I J D) = cal 213 31 [.ref 316, dv, dv, dv, dv, dv, dv, dv] [.int s0, .int s1] (ex (209, 0, [.ref 316, .int 1, .int v3], [], mm I J D)) := (ex_itr 4 _).trans rfl
set_option maxRecDepth 100000 in
theorem e_213_31 (I : Nat → Nat → Int32) (J : Nat → Nat → Int64) (D : Nat → Nat → UInt64) (s0 : Int32) (s1 : Int32) (s2 : Int32) : ex (213, 31, [.ref 316, dv, dv, dv, dv, dv, dv, dv], [.int s0, .int s1, .int s2], mm I J D) = bif decide (s1 ≠ s0) then ex (213, 38, [.ref 316, dv, dv, dv, dv, dv, dv, dv], [.int s2], mm I J D) else ex (213, 34, [dv, dv, dv, dv, dv, dv, dv, dv], [.int s2], mm I J D) := (ex_itr 1 _).trans rfl
set_option maxRecDepth 100000 in
theorem e_213_34 (I : Nat → Nat → Int32) (J : Nat → Nat → Int64) (D : Nat → Nat → UInt64) (s0 : Int32) : ex (213, 34, [dv, dv, dv, dv, dv, dv, dv, dv], [.int s0], mm I J D) = ex (213, 46, [dv, dv, dv, dv, dv, dv, dv, dv], [.int 0, .int s0], mm I J D) := (ex_itr 2 _).trans rfl
set_option maxRecDepth 100000 in
theorem e_213_38 (I : Nat → Nat → Int32) (J : Nat → Nat → Int64) (D : Nat → Nat → UInt64) (s0 : Int32) : ex (213, 38, [.ref 316, dv, dv, dv, dv, dv, dv, dv], [.int s0], mm I J D) = ex (213, 46, [dv, dv, dv, dv, dv, dv, dv, dv], [.int (I 317 623), .int s0], mm I J D) := (ex_itr 4 _).trans rfl
set_option maxRecDepth 100000 in
theorem e_213_46 (I : Nat → Nat → Int32) (J : Nat → Nat → Int64) (D : Nat → Nat → UInt64) (s0 : Int32) (s1 : Int32) : ex (213, 46, [dv, dv, dv, dv, dv, dv, dv, dv], [.int s0, .int s1], mm I J D) = some (.inl (some (.int (s1 + s0))), mm I J D) := (ex_itr 2 _).trans rfl
set_option maxRecDepth 100000 in
theorem e_213_48 (I : Nat → Nat → Int32) (J : Nat → Nat → Int64) (D : Nat → Nat → UInt64) (v1 : Int32) (v2 : Int32) (v3 : Int32) : ex (213, 48, [.ref 316, .int v1, .int v2, .int v3, dv, dv, dv, dv], [], mm I J D) = bif decide (v1 = 1) then ex (213, 58, [.ref 316, dv, dv, dv, dv, dv, dv, dv], [], mm I J D) else ex (213, 53, [.ref 316, .int v1, .int v2, .int v3, dv, dv, dv, dv], [], mm I J D) := (ex_itr 3 _).trans rfl
set_option maxRecDepth 100000 in
theorem e_213_53 (I : Nat → Nat → Int32) (J : Nat → Nat → Int64) (D : Nat → Nat → UInt64) (v1 : Int32) (v2 : Int32) (v3 : Int32) : ex (213, 53, [.ref 316, .int v1, .int v2, .int v3, dv, dv, dv, dv], [], mm I J D) = bif decide (v1 ≠ 2) then ex (213, 67, [.ref 316, .int v1, .int v2, .int v3, dv, dv, dv, dv], [], mm I J D) else ex (213, 58, [.ref 316, dv, dv, dv, dv, dv, dv, dv], [], mm I J D) := (ex_itr 3 _).trans rfl
set_option maxRecDepth 100000 in
theorem e_213_58 (I : Nat → Nat → Int32) (J : Nat → Nat → Int64) (D : Nat → Nat → UInt64)  : ex (213, 58, [.ref 316, dv, dv, dv, dv, dv, dv, dv], [], mm I J D) = some (.inl (some (.int (I 317 621))), mm I J D) := (ex_itr 5 _).trans rfl
set_option maxRecDepth 100000 in
theorem e_213_67 (I : Nat → Nat → Int32) (J : Nat → Nat → Int64) (D : Nat → Nat → UInt64) (v1 : Int32) (v2 : Int32) (v3 : Int32) : ex (213, 67, [.ref 316, .int v1, .int v2, .int v3, dv, dv, dv, dv], [], mm I J D) = bif decide (v1 ≠ 3) then ex (213, 76, [.ref 316, dv, .int v2, .int v3, dv, dv, dv, dv], [], mm I J D) else ex (213, 72, [.ref 316, dv, .int v2, .int v3, dv, dv, dv, dv], [], mm I J D) := (ex_itr 3 _).trans rfl
set_option maxRecDepth 100000 in
theorem e_213_72 (I : Nat → Nat → Int32) (J : Nat → Nat → Int64) (D : Nat → Nat → UInt64) (v2 : Int32) (v3 : Int32) : ex (213, 72, [.ref 316, dv, .int v2, .int v3, dv, dv, dv, dv], [], mm I J D) = ex (213, 77, [.ref 316, dv, .int v2, .int v3, dv, dv, dv, dv], [.int 0], mm I J D) := (ex_itr 2 _).trans rfl
set_option maxRecDepth 100000 in
theorem e_213_76 (I : Nat → Nat → Int32) (J : Nat → Nat → Int64) (D : Nat → Nat → UInt64) (v2 : Int32) (v3 : Int32) : ex (213, 76, [.ref 316, dv, .int v2, .int v3, dv, dv, dv, dv], [], mm I J D) = ex (213, 77, [.ref 316, dv, .int v2, .int v3, dv, dv, dv, dv], [.int 1], mm I J D) := (ex_itr 1 _).trans rfl
set_option maxRecDepth 100000 in
theorem e_213_77 (I : Nat → Nat → Int32) (J : Nat → Nat → Int64) (D : Nat → Nat → UInt64) (v2 : Int32) (v3 : Int32) (s0 : Int32) : ex (213, 77, [.ref 316, dv, .int v2, .int v3, dv, dv, dv, dv], [.int s0], mm I J D) = bif decide (s0 ≠ 0) then ex (213, 88, [.ref 316, dv, .int v2, .int v3, .int s0, dv, dv, dv], [], mm I J D) else ex (213, 84, [.ref 316, dv, .int v2, .int v3, .int s0, dv, dv, dv], [], mm I J D) := (ex_itr 3 _).trans rfl
set_option maxRecDepth 100000 in
theorem e_213_84 (I : Nat → Nat → Int32) (J : Nat → Nat → Int64) (D : Nat → Nat → UInt64) (v2 : Int32) (v3 : Int32) (v4 : Int32) : ex (213, 84, [.ref 316, dv, .int v2, .int v3, .int v4, dv, dv, dv], [], mm I J D) = ex (213, 89, [.ref 316, dv, .int v2, .int v3, .int v4, dv, dv, dv], [.int v2], mm I J D) := (ex_itr 2 _).trans rfl
set_option maxRecDepth 100000 in
theorem e_213_88 (I : Nat → Nat → Int32) (J : Nat → Nat → Int64) (D : Nat → Nat → UInt64) (v2 : Int32) (v3 : Int32) (v4 : Int32) : ex (213, 88, [.ref 316, dv, .int v2, .int v3, .int v4, dv, dv, dv], [], mm I J D) = ex (213, 89, [.ref 316, dv, .int v2, .int v3, .int v4, dv, dv, dv], [.int v3], mm I J D) := (ex_itr 1 _).trans rfl
set_option maxRecDepth 100000 in
theorem e_213_89 (I : Nat → Nat → Int32) (J : Nat → Nat → Int64) (D : Nat → Nat → UInt64) (v2 : Int32) (v3 : Int32) (v4 : Int32) (s0 : Int32) : ex (213, 89, [.ref 316, dv, .int v2, .int v3, .int v4, dv, dv, dv], [.int s0], mm I J D) = bif decide (v4 ≠ 0) then ex (213, 100, [.ref 316, dv, .int v2, dv, .int v4, .int s0, dv, dv], [], mm I J D) else ex (213, 96, [.ref 316, dv, dv, .int v3, .int v4, .int s0, dv, dv], [], mm I J D) := (ex_itr 3 _).trans rfl
set_option maxRecDepth 100000 in
theorem e_213_96 (I : Nat → Nat → Int32) (J : Nat → Nat → Int64) (D : Nat → Nat → UInt64) (v3 : Int32) (v4 : Int32) (v5 : Int32) : ex (213, 96, [.ref 316, dv, dv, .int v3, .int v4, .int v5, dv, dv], [], mm I J D) = ex (213, 101, [.ref 316, dv, dv, dv, .int v4, .int v5, dv, dv], [.int v3], mm I J D) := (ex_itr 2 _).trans rfl
set_option maxRecDepth 100000 in
theorem e_213_100 (I : Nat → Nat → Int32) (J : Nat → Nat → Int64) (D : Nat → Nat → UInt64) (v2 : Int32) (v4 : Int32) (v5 : Int32) : ex (213, 100, [.ref 316, dv, .int v2, dv, .int v4, .int v5, dv, dv], [], mm I J D) = ex (213, 101, [.ref 316, dv, dv, dv, .int v4, .int v5, dv, dv], [.int v2], mm I J D) := (ex_itr 1 _).trans rfl
set_option maxRecDepth 100000 in
theorem e_213_101 (I : Nat → Nat → Int32) (J : Nat → Nat → Int64) (D : Nat → Nat → UInt64) (v4 : Int32) (v5 : Int32) (s0 : Int32) : ex (213, 101, [.ref 316, dv, dv, dv, .int v4, .int v5, dv, dv], [.int s0], mm I J D) = cal 213 111 [.ref 316, dv, dv, dv, .int v4, .int v5, .int s0, dv] [] (ex (209, 0, [.ref 316, .int v4, .int v5], [], mm I J D)) := (ex_itr 5 _).trans rfl
set_option maxRecDepth 100000 in
theorem e_213_111 (I : Nat → Nat → Int32) (J : Nat → Nat → Int64) (D : Nat → Nat → UInt64) (v4 : Int32) (v5 : Int32) (v6 : Int32) (s0 : Int32) : ex (213, 111, [.ref 316, dv, dv, dv, .int v4, .int v5, .int v6, dv], [.int s0], mm I J D) = cal 213 121 [.ref 316, dv, dv, dv, .int v4, .int v5, .int v6, dv] [.int s0] (ex (209, 0, [.ref 316, .int ((1 : Int32) - v4), .int v6], [], mm I J D)) := (ex_itr 6 _).trans rfl
set_option maxRecDepth 100000 in
theorem e_213_121 (I : Nat → Nat → Int32) (J : Nat → Nat → Int64) (D : Nat → Nat → UInt64) (v4 : Int32) (v5 : Int32) (v6 : Int32) (s0 : Int32) (s1 : Int32) : ex (213, 121, [.ref 316, dv, dv, dv, .int v4, .int v5, .int v6, dv], [.int s0, .int s1], mm I J D) = bif decide (s1 = s0) then ex (213, 147, [.ref 316, dv, dv, dv, .int v4, .int v5, .int v6, dv], [], mm I J D) else ex (213, 124, [.ref 316, dv, dv, dv, .int v4, .int v5, .int v6, dv], [], mm I J D) := (ex_itr 1 _).trans rfl
set_option maxRecDepth 100000 in
theorem e_213_124 (I : Nat → Nat → Int32) (J : Nat → Nat → Int64) (D : Nat → Nat → UInt64) (v4 : Int32) (v5 : Int32) (v6 : Int32) : ex (213, 124, [.ref 316, dv, dv, dv, .int v4, .int v5, .int v6, dv], [], mm I J D) = cal 213 132 [.ref 316, dv, dv, dv, .int v4, .int v5, .int v6, dv] [] (ex (209, 0, [.ref 316, .int v4, .int v5], [], mm I J D)) := (ex_itr 4 _).trans rfl
set_option maxRecDepth 100000 in
theorem e_213_132 (I : Nat → Nat → Int32) (J : Nat → Nat → Int64) (D : Nat → Nat → UInt64) (v4 : Int32) (v5 : Int32) (v6 : Int32) (s0 : Int32) : ex (213, 132, [.ref 316, dv, dv, dv, .int v4, .int v5, .int v6, dv], [.int s0], mm I J D) = cal 213 144 [.ref 316, dv, dv, dv, .int v4, .int v5, .int v6, dv] [.int s0] (ex (209, 0, [.ref 316, .int ((1 : Int32) - v4), .int (v6 + 1)], [], mm I J D)) := (ex_itr 8 _).trans rfl
set_option maxRecDepth 100000 in
theorem e_213_144 (I : Nat → Nat → Int32) (J : Nat → Nat → Int64) (D : Nat → Nat → UInt64) (v4 : Int32) (v5 : Int32) (v6 : Int32) (s0 : Int32) (s1 : Int32) : ex (213, 144, [.ref 316, dv, dv, dv, .int v4, .int v5, .int v6, dv], [.int s0, .int s1], mm I J D) = bif decide (s1 ≠ s0) then ex (213, 151, [.ref 316, dv, dv, dv, .int v4, .int v5, .int v6, dv], [], mm I J D) else ex (213, 147, [.ref 316, dv, dv, dv, .int v4, .int v5, .int v6, dv], [], mm I J D) := (ex_itr 1 _).trans rfl
set_option maxRecDepth 100000 in
theorem e_213_147 (I : Nat → Nat → Int32) (J : Nat → Nat → Int64) (D : Nat → Nat → UInt64) (v4 : Int32) (v5 : Int32) (v6 : Int32) : ex (213, 147, [.ref 316, dv, dv, dv, .int v4, .int v5, .int v6, dv], [], mm I J D) = ex (213, 152, [.ref 316, dv, dv, dv, .int v4, .int v5, .int v6, dv], [.int 1], mm I J D) := (ex_itr 2 _).trans rfl
set_option maxRecDepth 100000 in
theorem e_213_151 (I : Nat → Nat → Int32) (J : Nat → Nat → Int64) (D : Nat → Nat → UInt64) (v4 : Int32) (v5 : Int32) (v6 : Int32) : ex (213, 151, [.ref 316, dv, dv, dv, .int v4, .int v5, .int v6, dv], [], mm I J D) = ex (213, 152, [.ref 316, dv, dv, dv, .int v4, .int v5, .int v6, dv], [.int 0], mm I J D) := (ex_itr 1 _).trans rfl
set_option maxRecDepth 100000 in
theorem e_213_152 (I : Nat → Nat → Int32) (J : Nat → Nat → Int64) (D : Nat → Nat → UInt64) (v4 : Int32) (v5 : Int32) (v6 : Int32) (s0 : Int32) : ex (213, 152, [.ref 316, dv, dv, dv, .int v4, .int v5, .int v6, dv], [.int s0], mm I J D) = cal 213 170 [.ref 316, dv, dv, dv, .int v4, dv, .int v6, .int s0] [.int (I 317 622)] (ex (208, 0, [.ref 316, .int v4, .int v5], [], mm I J D)) := (ex_itr 9 _).trans rfl
set_option maxRecDepth 100000 in
theorem e_213_170 (I : Nat → Nat → Int32) (J : Nat → Nat → Int64) (D : Nat → Nat → UInt64) (v4 : Int32) (v6 : Int32) (v7 : Int32) (s0 : Int32) (s1 : Int32) : ex (213, 170, [.ref 316, dv, dv, dv, .int v4, dv, .int v6, .int v7], [.int s0, .int s1], mm I J D) = cal 213 180 [.ref 316, dv, dv, dv, .int v4, dv, .int v6, .int v7] [.int s0, .int s1] (ex (208, 0, [.ref 316, .int ((1 : Int32) - v4), .int v6], [], mm I J D)) := (ex_itr 6 _).trans rfl
set_option maxRecDepth 100000 in
theorem e_213_180 (I : Nat → Nat → Int32) (J : Nat → Nat → Int64) (D : Nat → Nat → UInt64) (v4 : Int32) (v6 : Int32) (v7 : Int32) (s0 : Int32) (s1 : Int32) (s2 : Int32) : ex (213, 180, [.ref 316, dv, dv, dv, .int v4, dv, .int v6, .int v7], [.int s0, .int s1, .int s2], mm I J D) = cal 213 192 [.ref 316, dv, dv, dv, dv, dv, dv, .int v7] [.int s0, .int s1, .int s2] (ex (208, 0, [.ref 316, .int ((1 : Int32) - v4), .int (v6 + 1)], [], mm I J D)) := (ex_itr 8 _).trans rfl
set_option maxRecDepth 100000 in
theorem e_213_192 (I : Nat → Nat → Int32) (J : Nat → Nat → Int64) (D : Nat → Nat → UInt64) (v7 : Int32) (s0 : Int32) (s1 : Int32) (s2 : Int32) (s3 : Int32) : ex (213, 192, [.ref 316, dv, dv, dv, dv, dv, dv, .int v7], [.int s0, .int s1, .int s2, .int s3], mm I J D) = cal 213 196 [.ref 316, dv, dv, dv, dv, dv, dv, .int v7] [.int s3] (ex (158, 0, [.int s2, .int (s1 + s0)], [], mm I J D)) := (ex_itr 2 _).trans rfl
set_option maxRecDepth 100000 in
theorem e_213_196 (I : Nat → Nat → Int32) (J : Nat → Nat → Int64) (D : Nat → Nat → UInt64) (v7 : Int32) (s0 : Int32) (s1 : Int32) : ex (213, 196, [.ref 316, dv, dv, dv, dv, dv, dv, .int v7], [.int s0, .int s1], mm I J D) = bif decide (v7 = 0) then ex (213, 206, [.ref 316, dv, dv, dv, dv, dv, dv, dv], [.int (s1 + s0)], mm I J D) else ex (213, 202, [dv, dv, dv, dv, dv, dv, dv, dv], [.int (s1 + s0)], mm I J D) := (ex_itr 3 _).trans rfl
set_option maxRecDepth 100000 in
theorem e_213_202 (I : Nat → Nat → Int32) (J : Nat → Nat → Int64) (D : Nat → Nat → UInt64) (s0 : Int32) : ex (213, 202, [dv, dv, dv, dv, dv, dv, dv, dv], [.int s0], mm I J D) = ex (213, 214, [dv, dv, dv, dv, dv, dv, dv, dv], [.int 0, .int s0], mm I J D) := (ex_itr 2 _).trans rfl
set_option maxRecDepth 100000 in
theorem e_213_206 (I : Nat → Nat → Int32) (J : Nat → Nat → Int64) (D : Nat → Nat → UInt64) (s0 : Int32) : ex (213, 206, [.ref 316, dv, dv, dv, dv, dv, dv, dv], [.int s0], mm I J D) = ex (213, 214, [dv, dv, dv, dv, dv, dv, dv, dv], [.int (I 317 623), .int s0], mm I J D) := (ex_itr 4 _).trans rfl
set_option maxRecDepth 100000 in
theorem e_213_214 (I : Nat → Nat → Int32) (J : Nat → Nat → Int64) (D : Nat → Nat → UInt64) (s0 : Int32) (s1 : Int32) : ex (213, 214, [dv, dv, dv, dv, dv, dv, dv, dv], [.int s0, .int s1], mm I J D) = some (.inl (some (.int (s1 + s0))), mm I J D) := (ex_itr 2 _).trans rfl
/-! GlacierBookModel.pairAt(II)I -/
set_option maxRecDepth 100000 in
theorem e_214_0 (I : Nat → Nat → Int32) (J : Nat → Nat → Int64) (D : Nat → Nat → UInt64) (v0 : Int32) (v1 : Int32) : ex (214, 0, [.int v0, .int v1], [], mm I J D) = some (.inl (some (.int (((18 : Int32) * v0) + v1))), mm I J D) := (ex_itr 6 _).trans rfl
/-! GlacierBookModel.priceBy(III)I -/
set_option maxRecDepth 100000 in
theorem e_215_0 (I : Nat → Nat → Int32) (J : Nat → Nat → Int64) (D : Nat → Nat → UInt64) (v1 : Int32) (v2 : Int32) (v3 : Int32) : ex (215, 0, [.ref 316, .int v1, .int v2, .int v3, dv], [], mm I J D) = cal 215 7 [.ref 316, .int v1, .int v2, .int v3, dv] [] (ex (212, 0, [.ref 316, .int v1, .int v2, .int v3], [], mm I J D)) := (ex_itr 5 _).trans rfl
set_option maxRecDepth 100000 in
theorem e_215_7 (I : Nat → Nat → Int32) (J : Nat → Nat → Int64) (D : Nat → Nat → UInt64) (v1 : Int32) (v2 : Int32) (v3 : Int32) (s0 : Int32) : ex (215, 7, [.ref 316, .int v1, .int v2, .int v3, dv], [.int s0], mm I J D) = bif decide (s0 ≠ 0) then ex (215, 13, [.ref 316, .int v1, .int v2, .int v3, dv], [], mm I J D) else ex (215, 10, [dv, dv, dv, dv, dv], [], mm I J D) := (ex_itr 1 _).trans rfl
set_option maxRecDepth 100000 in
theorem e_215_10 (I : Nat → Nat → Int32) (J : Nat → Nat → Int64) (D : Nat → Nat → UInt64)  : ex (215, 10, [dv, dv, dv, dv, dv], [], mm I J D) = some (.inl (some (.int 100000000)), mm I J D) := (ex_itr 2 _).trans rfl
set_option maxRecDepth 100000 in
theorem e_215_13 (I : Nat → Nat → Int32) (J : Nat → Nat → Int64) (D : Nat → Nat → UInt64) (v1 : Int32) (v2 : Int32) (v3 : Int32) : ex (215, 13, [.ref 316, .int v1, .int v2, .int v3, dv], [], mm I J D) = cal 215 23 [.ref 316, .int v1, .int v2, .int v3, dv] [.int v2, .ref 328] (ex (210, 0, [.int v1, .int 0], [], mm I J D)) := (ex_itr 6 _).trans rfl
set_option maxRecDepth 100000 in
theorem e_215_23 (I : Nat → Nat → Int32) (J : Nat → Nat → Int64) (D : Nat → Nat → UInt64) (v1 : Int32) (v2 : Int32) (v3 : Int32) (s0 : Int32) (s1 : Int32) : ex (215, 23, [.ref 316, .int v1, .int v2, .int v3, dv], [.int s0, .int s1, .ref 328], mm I J D) = cal 215 30 [.ref 316, .int v1, .int v2, .int v3, dv] [.int v3, .int (s1 + s0), .ref 328] (ex (210, 0, [.int v1, .int 1], [], mm I J D)) := (ex_itr 5 _).trans rfl
set_option maxRecDepth 100000 in
theorem e_215_30 (I : Nat → Nat → Int32) (J : Nat → Nat → Int64) (D : Nat → Nat → UInt64) (v1 : Int32) (v2 : Int32) (v3 : Int32) (s0 : Int32) (s1 : Int32) (s2 : Int32) : ex (215, 30, [.ref 316, .int v1, .int v2, .int v3, dv], [.int s0, .int s1, .int s2, .ref 328], mm I J D) = cal 215 34 [.ref 316, .int v1, .int v2, .int v3, dv] [.ref 328] (ex (214, 0, [.int s2, .int (s1 + s0)], [], mm I J D)) := (ex_itr 2 _).trans rfl
set_option maxRecDepth 100000 in
theorem e_215_34 (I : Nat → Nat → Int32) (J : Nat → Nat → Int64) (D : Nat → Nat → UInt64) (v1 : Int32) (v2 : Int32) (v3 : Int32) (s0 : Int32) : ex (215, 34, [.ref 316, .int v1, .int v2, .int v3, dv], [.int s0, .ref 328], mm I J D) = bif inb s0 324 then (bif decide ((I 328 s0.toNatClampNeg) ≠ 100000000) then ex (215, 49, [.ref 316, .int v1, .int v2, .int v3, .int (I 328 s0.toNatClampNeg)], [], mm I J D) else ex (215, 44, [dv, dv, dv, dv, dv], [], mm I J D)) else none := (ex_itr 5 _).trans rfl
set_option maxRecDepth 100000 in
theorem e_215_44 (I : Nat → Nat → Int32) (J : Nat → Nat → Int64) (D : Nat → Nat → UInt64)  : ex (215, 44, [dv, dv, dv, dv, dv], [], mm I J D) = ex (215, 59, [dv, dv, dv, dv, dv], [.int 100000000], mm I J D) := (ex_itr 2 _).trans rfl
set_option maxRecDepth 100000 in
theorem e_215_49 (I : Nat → Nat → Int32) (J : Nat → Nat → Int64) (D : Nat → Nat → UInt64) (v1 : Int32) (v2 : Int32) (v3 : Int32) (v4 : Int32) : ex (215, 49, [.ref 316, .int v1, .int v2, .int v3, .int v4], [], mm I J D) = cal 215 56 [dv, dv, dv, dv, .int v4] [] (ex (213, 0, [.ref 316, .int v1, .int v2, .int v3, dv, dv, dv, dv], [], mm I J D)) := (ex_itr 5 _).trans rfl
set_option maxRecDepth 100000 in
theorem e_215_56 (I : Nat → Nat → Int32) (J : Nat → Nat → Int64) (D : Nat → Nat → UInt64) (v4 : Int32) (s0 : Int32) : ex (215, 56, [dv, dv, dv, dv, .int v4], [.int s0], mm I J D) = ex (215, 59, [dv, dv, dv, dv, dv], [.int (s0 + v4)], mm I J D) := (ex_itr 2 _).trans rfl
set_option maxRecDepth 100000 in
theorem e_215_59 (I : Nat → Nat → Int32) (J : Nat → Nat → Int64) (D : Nat → Nat → UInt64) (s0 : Int32) : ex (215, 59, [dv, dv, dv, dv, dv], [.int s0], mm I J D) = some (.inl (some (.int s0)), mm I J D) := (ex_itr 1 _).trans rfl
/-! GlacierBookModel.laysWays(II)V -/
set_option maxRecDepth 100000 in
theorem e_216_0 (I : Nat → Nat → Int32) (J : Nat → Nat → Int64) (D : Nat → Nat → UInt64) (v1 : Int32) (v2 : Int32) : ex (216, 0, [.ref 316, .int v1, .int v2, dv, dv, dv, dv, dv, dv], [], mm I J D) = ex (216, 9, [.ref 316, .int v1, .int v2, .int (I 317 491), dv, dv, dv, dv, dv], [], mm I J D) := (ex_itr 5 _).trans rfl
set_option maxRecDepth 100000 in
theorem e_216_9 (I : Nat → Nat → Int32) (J : Nat → Nat → Int64) (D : Nat → Nat → UInt64) (v1 : Int32) (v2 : Int32) (v3 : Int32) : ex (216, 9, [.ref 316, .int v1, .int v2, .int v3, dv, dv, dv, dv, dv], [], mm I J D) = bif decide (v3 < 0) then ex (216, 277, [dv, dv, dv, dv, dv, dv, dv, dv, dv], [], mm I J D) else ex (216, 13, [.ref 316, .int v1, .int v2, .int v3, dv, dv, dv, dv, dv], [], mm I J D) := (ex_itr 2 _).trans rfl
set_option maxRecDepth 100000 in
theorem e_216_13 (I : Nat → Nat → Int32) (J : Nat → Nat → Int64) (D : Nat → Nat → UInt64) (v1 : Int32) (v2 : Int32) (v3 : Int32) : ex (216, 13, [.ref 316, .int v1, .int v2, .int v3, dv, dv, dv, dv, dv], [], mm I J D) = ex (216, 23, [.ref 316, .int v1, .int v2, .int v3, .int (I 317 492), dv, dv, dv, dv], [], mm I J D) := (ex_itr 5 _).trans rfl
set_option maxRecDepth 100000 in
theorem e_216_23 (I : Nat → Nat → Int32) (J : Nat → Nat → Int64) (D : Nat → Nat → UInt64) (v1 : Int32) (v2 : Int32) (v3 : Int32) (v4 : Int32) : ex (216, 23, [.ref 316, .int v1, .int v2, .int v3, .int v4, dv, dv, dv, dv], [], mm I J D) = bif decide (v4 < 0) then ex (216, 271, [.ref 316, .int v1, .int v2, .int v3, dv, dv, dv, dv, dv], [], mm I J D) else ex (216, 28, [.ref 316, .int v1, .int v2, .int v3, .int v4, dv, dv, dv, dv], [], mm I J D) := (ex_itr 2 _).trans rfl
set_option maxRecDepth 100000 in
theorem e_216_28 (I : Nat → Nat → Int32) (J : Nat → Nat → Int64) (D : Nat → Nat → UInt64) (v1 : Int32) (v2 : Int32) (v3 : Int32) (v4 : Int32) : ex (216, 28, [.ref 316, .int v1, .int v2, .int v3, .int v4, dv, dv, dv, dv], [], mm I J D) = bif decide (v3 ≠ (I 317 491)) then ex (216, 57, [.ref 316, .int v1, .int v2, .int v3, .int v4, dv, dv, dv, dv], [], mm I J D) else ex (216, 40, [.ref 316, .int v1, .int v2, .int v3, .int v4, dv, dv, dv, dv], [], mm I J D) := (ex_itr 6 _).trans rfl
set_option maxRecDepth 100000 in
theorem e_216_40 (I : Nat → Nat → Int32) (J : Nat → Nat → Int64) (D : Nat → Nat → UInt64) (v1 : Int32) (v2 : Int32) (v3 : Int32) (v4 : Int32) : ex (216, 40, [.ref 316, .int v1, .int v2, .int v3, .int v4, dv, dv, dv, dv], [], mm I J D) = bif decide (v4 ≠ (I 317 492)) then ex (216, 57, [.ref 316, .int v1, .int v2, .int v3, .int v4, dv, dv, dv, dv], [], mm I J D) else ex (216, 53, [.ref 316, .int v1, .int v2, .int v3, .int v4, dv, dv, dv, dv], [], mm I J D) := (ex_itr 6 _).trans rfl
set_option maxRecDepth 100000 in
theorem e_216_53 (I : Nat → Nat → Int32) (J : Nat → Nat → Int64) (D : Nat → Nat → UInt64) (v1 : Int32) (v2 : Int32) (v3 : Int32) (v4 : Int32) : ex (216, 53, [.ref 316, .int v1, .int v2, .int v3, .int v4, dv, dv, dv, dv], [], mm I J D) = ex (216, 58, [.ref 316, .int v1, .int v2, .int v3, .int v4, dv, dv, dv, dv], [.int 1], mm I J D) := (ex_itr 2 _).trans rfl
set_option maxRecDepth 100000 in
theorem e_216_57 (I : Nat → Nat → Int32) (J : Nat → Nat → Int64) (D : Nat → Nat → UInt64) (v1 : Int32) (v2 : Int32) (v3 : Int32) (v4 : Int32) : ex (216, 57, [.ref 316, .int v1, .int v2, .int v3, .int v4, dv, dv, dv, dv], [], mm I J D) = ex (216, 58, [.ref 316, .int v1, .int v2, .int v3, .int v4, dv, dv, dv, dv], [.int 0], mm I J D) := (ex_itr 1 _).trans rfl
set_option maxRecDepth 100000 in
theorem e_216_58 (I : Nat → Nat → Int32) (J : Nat → Nat → Int64) (D : Nat → Nat → UInt64) (v1 : Int32) (v2 : Int32) (v3 : Int32) (v4 : Int32) (s0 : Int32) : ex (216, 58, [.ref 316, .int v1, .int v2, .int v3, .int v4, dv, dv, dv, dv], [.int s0], mm I J D) = cal 216 70 [.ref 316, .int v1, .int v2, .int v3, .int v4, .int s0, dv, dv, dv] [.ref 328] (ex (214, 0, [.int v3, .int v4], [], mm I J D)) := (ex_itr 6 _).trans rfl
set_option maxRecDepth 100000 in
theorem e_216_70 (I : Nat → Nat → Int32) (J : Nat → Nat → Int64) (D : Nat → Nat → UInt64) (v1 : Int32) (v2 : Int32) (v3 : Int32) (v4 : Int32) (v5 : Int32) (s0 : Int32) : ex (216, 70, [.ref 316, .int v1, .int v2, .int v3, .int v4, .int v5, dv, dv, dv], [.int s0, .ref 328], mm I J D) = bif decide (v5 = 0) then ex (216, 79, [.ref 316, .int v1, .int v2, .int v3, .int v4, .int v5, dv, dv, dv], [.int s0, .ref 328], mm I J D) else ex (216, 75, [.ref 316, .int v1, .int v2, .int v3, .int v4, .int v5, dv, dv, dv], [.int s0, .ref 328], mm I J D) := (ex_itr 2 _).trans rfl
set_option maxRecDepth 100000 in
theorem e_216_75 (I : Nat → Nat → Int32) (J : Nat → Nat → Int64) (D : Nat → Nat → UInt64) (v1 : Int32) (v2 : Int32) (v3 : Int32) (v4 : Int32) (v5 : Int32) (s0 : Int32) : ex (216, 75, [.ref 316, .int v1, .int v2, .int v3, .int v4, .int v5, dv, dv, dv], [.int s0, .ref 328], mm I J D) = ex (216, 81, [.ref 316, .int v1, .int v2, .int v3, .int v4, .int v5, dv, dv, dv], [.int 0, .int s0, .ref 328], mm I J D) := (ex_itr 2 _).trans rfl
set_option maxRecDepth 100000 in
theorem e_216_79 (I : Nat → Nat → Int32) (J : Nat → Nat → Int64) (D : Nat → Nat → UInt64) (v1 : Int32) (v2 : Int32) (v3 : Int32) (v4 : Int32) (v5 : Int32) (s0 : Int32) : ex (216, 79, [.ref 316, .int v1, .int v2, .int v3, .int v4, .int v5, dv, dv, dv], [.int s0, .ref 328], mm I J D) = ex (216, 81, [.ref 316, .int v1, .int v2, .int v3, .int v4, .int v5, dv, dv, dv], [.int 100000000, .int s0, .ref 328], mm I J D) := (ex_itr 1 _).trans rfl
set_option maxRecDepth 100000 in
theorem e_216_81 (I : Nat → Nat → Int32) (J : Nat → Nat → Int64) (D : Nat → Nat → UInt64) (v1 : Int32) (v2 : Int32) (v3 : Int32) (v4 : Int32) (v5 : Int32) (s0 : Int32) (s1 : Int32) : ex (216, 81, [.ref 316, .int v1, .int v2, .int v3, .int v4, .int v5, dv, dv, dv], [.int s0, .int s1, .ref 328], mm I J D) = bif inb s1 324 then (cal 216 92 [.ref 316, .int v1, .int v2, .int v3, .int v4, .int v5, dv, dv, dv] [.ref 329] (ex (214, 0, [.int v3, .int v4], [], mm (ups I 328 s1.toNatClampNeg s0) J D))) else none := (ex_itr 6 _).trans rfl
set_option maxRecDepth 100000 in
theorem e_216_92 (I : Nat → Nat → Int32) (J : Nat → Nat → Int64) (D : Nat → Nat → UInt64) (v1 : Int32) (v2 : Int32) (v3 : Int32) (v4 : Int32) (v5 : Int32) (s0 : Int32) : ex (216, 92, [.ref 316, .int v1, .int v2, .int v3, .int v4, .int v5, dv, dv, dv], [.int s0, .ref 329], mm I J D) = bif decide (v5 = 0) then ex (216, 101, [.ref 316, .int v1, .int v2, .int v3, .int v4, dv, dv, dv, dv], [.int s0, .ref 329], mm I J D) else ex (216, 97, [.ref 316, .int v1, .int v2, .int v3, .int v4, dv, dv, dv, dv], [.int s0, .ref 329], mm I J D) := (ex_itr 2 _).trans rfl
set_option maxRecDepth 100000 in
theorem e_216_97 (I : Nat → Nat → Int32) (J : Nat → Nat → Int64) (D : Nat → Nat → UInt64) (v1 : Int32) (v2 : Int32) (v3 : Int32) (v4 : Int32) (s0 : Int32) : ex (216, 97, [.ref 316, .int v1, .int v2, .int v3, .int v4, dv, dv, dv, dv], [.int s0, .ref 329], mm I J D) = ex (216, 102, [.ref 316, .int v1, .int v2, .int v3, .int v4, dv, dv, dv, dv], [.long 1, .int s0, .ref 329], mm I J D) := (ex_itr 2 _).trans rfl
set_option maxRecDepth 100000 in
theorem e_216_101 (I : Nat → Nat → Int32) (J : Nat → Nat → Int64) (D : Nat → Nat → UInt64) (v1 : Int32) (v2 : Int32) (v3 : Int32) (v4 : Int32) (s0 : Int32) : ex (216, 101, [.ref 316, .int v1, .int v2, .int v3, .int v4, dv, dv, dv, dv], [.int s0, .ref 329], mm I J D) = ex (216, 102, [.ref 316, .int v1, .int v2, .int v3, .int v4, dv, dv, dv, dv], [.long 0, .int s0, .ref 329], mm I J D) := (ex_itr 1 _).trans rfl
set_option maxRecDepth 100000 in
theorem e_216_102 (I : Nat → Nat → Int32) (J : Nat → Nat → Int64) (D : Nat → Nat → UInt64) (v1 : Int32) (v2 : Int32) (v3 : Int32) (v4 : Int32) (s0 : Int64) (s1 : Int32) : ex (216, 102, [.ref 316, .int v1, .int v2, .int v3, .int v4, dv, dv, dv, dv], [.long s0, .int s1, .ref 329], mm I J D) = bif inb s1 324 then (ex (216, 106, [.ref 316, .int v1, .int v2, .int v3, .int v4, dv, .int 0, dv, dv], [], mm I (upsL J 329 s1.toNatClampNeg s0) D)) else none := (ex_itr 3 _).trans rfl
set_option maxRecDepth 100000 in
theorem e_216_106 (I : Nat → Nat → Int32) (J : Nat → Nat → Int64) (D : Nat → Nat → UInt64) (v1 : Int32) (v2 : Int32) (v3 : Int32) (v4 : Int32) (v6 : Int32) : ex (216, 106, [.ref 316, .int v1, .int v2, .int v3, .int v4, dv, .int v6, dv, dv], [], mm I J D) = bif decide (4 < v6) then ex (216, 265, [.ref 316, .int v1, .int v2, .int v3, .int v4, dv, dv, dv, dv], [], mm I J D) else ex (216, 112, [.ref 316, .int v1, .int v2, .int v3, .int v4, dv, .int v6, dv, dv], [], mm I J D) := (ex_itr 3 _).trans rfl
set_option maxRecDepth 100000 in
theorem e_216_112 (I : Nat → Nat → Int32) (J : Nat → Nat → Int64) (D : Nat → Nat → UInt64) (v1 : Int32) (v2 : Int32) (v3 : Int32) (v4 : Int32) (v6 : Int32) : ex (216, 112, [.ref 316, .int v1, .int v2, .int v3, .int v4, dv, .int v6, dv, dv], [], mm I J D) = bif decide (v6 ≠ 0) then ex (216, 132, [.ref 316, .int v1, .int v2, .int v3, .int v4, dv, .int v6, dv, dv], [], mm I J D) else ex (216, 117, [.ref 316, .int v1, .int v2, .int v3, .int v4, dv, .int v6, dv, dv], [], mm I J D) := (ex_itr 2 _).trans rfl
set_option maxRecDepth 100000 in
theorem e_216_117 (I : Nat → Nat → Int32) (J : Nat → Nat → Int64) (D : Nat → Nat → UInt64) (v1 : Int32) (v2 : Int32) (v3 : Int32) (v4 : Int32) (v6 : Int32) : ex (216, 117, [.ref 316, .int v1, .int v2, .int v3, .int v4, dv, .int v6, dv, dv], [], mm I J D) = bif decide (v3 ≠ v1) then ex (216, 132, [.ref 316, .int v1, .int v2, .int v3, .int v4, dv, .int v6, dv, dv], [], mm I J D) else ex (216, 122, [.ref 316, .int v1, .int v2, .int v3, .int v4, dv, .int v6, dv, dv], [], mm I J D) := (ex_itr 3 _).trans rfl
set_option maxRecDepth 100000 in
theorem e_216_122 (I : Nat → Nat → Int32) (J : Nat → Nat → Int64) (D : Nat → Nat → UInt64) (v1 : Int32) (v2 : Int32) (v3 : Int32) (v4 : Int32) (v6 : Int32) : ex (216, 122, [.ref 316, .int v1, .int v2, .int v3, .int v4, dv, .int v6, dv, dv], [], mm I J D) = bif decide (v4 ≠ v2) then ex (216, 132, [.ref 316, .int v1, .int v2, .int v3, .int v4, dv, .int v6, dv, dv], [], mm I J D) else ex (216, 128, [.ref 316, .int v1, .int v2, .int v3, .int v4, dv, .int v6, dv, dv], [], mm I J D) := (ex_itr 3 _).trans rfl
set_option maxRecDepth 100000 in
theorem e_216_128 (I : Nat → Nat → Int32) (J : Nat → Nat → Int64) (D : Nat → Nat → UInt64) (v1 : Int32) (v2 : Int32) (v3 : Int32) (v4 : Int32) (v6 : Int32) : ex (216, 128, [.ref 316, .int v1, .int v2, .int v3, .int v4, dv, .int v6, dv, dv], [], mm I J D) = ex (216, 133, [.ref 316, .int v1, .int v2, .int v3, .int v4, dv, .int v6, dv, dv], [.int 1], mm I J D) := (ex_itr 2 _).trans rfl
set_option maxRecDepth 100000 in
theorem e_216_132 (I : Nat → Nat → Int32) (J : Nat → Nat → Int64) (D : Nat → Nat → UInt64) (v1 : Int32) (v2 : Int32) (v3 : Int32) (v4 : Int32) (v6 : Int32) : ex (216, 132, [.ref 316, .int v1, .int v2, .int v3, .int v4, dv, .int v6, dv, dv], [], mm I J D) = ex (216, 133, [.ref 316, .int v1, .int v2, .int v3, .int v4, dv, .int v6, dv, dv], [.int 0], mm I J D) := (ex_itr 1 _).trans rfl
set_option maxRecDepth 100000 in
theorem e_216_133 (I : Nat → Nat → Int32) (J : Nat → Nat → Int64) (D : Nat → Nat → UInt64) (v1 : Int32) (v2 : Int32) (v3 : Int32) (v4 : Int32) (v6 : Int32) (s0 : Int32) : ex (216, 133, [.ref 316, .int v1, .int v2, .int v3, .int v4, dv, .int v6, dv, dv], [.int s0], mm I J D) = bif decide (s0 = 0) then ex (216, 145, [.ref 316, .int v1, .int v2, .int v3, .int v4, dv, .int v6, dv, dv], [], mm I J D) else ex (216, 140, [.ref 316, .int v1, .int v2, .int v3, .int v4, dv, .int v6, dv, dv], [], mm I J D) := (ex_itr 3 _).trans rfl
set_option maxRecDepth 100000 in
theorem e_216_140 (I : Nat → Nat → Int32) (J : Nat → Nat → Int64) (D : Nat → Nat → UInt64) (v1 : Int32) (v2 : Int32) (v3 : Int32) (v4 : Int32) (v6 : Int32) : ex (216, 140, [.ref 316, .int v1, .int v2, .int v3, .int v4, dv, .int v6, dv, dv], [], mm I J D) = ex (216, 154, [.ref 316, .int v1, .int v2, .int v3, .int v4, dv, .int v6, dv, dv], [.int 100000000], mm I J D) := (ex_itr 2 _).trans rfl
set_option maxRecDepth 100000 in
theorem e_216_145 (I : Nat → Nat → Int32) (J : Nat → Nat → Int64) (D : Nat → Nat → UInt64) (v1 : Int32) (v2 : Int32) (v3 : Int32) (v4 : Int32) (v6 : Int32) : ex (216, 145, [.ref 316, .int v1, .int v2, .int v3, .int v4, dv, .int v6, dv, dv], [], mm I J D) = cal 216 154 [.ref 316, .int v1, .int v2, .int v3, .int v4, dv, .int v6, dv, dv] [] (ex (215, 0, [.ref 316, .int v6, .int v3, .int v4, dv], [], mm I J D)) := (ex_itr 5 _).trans rfl
set_option maxRecDepth 100000 in
theorem e_216_154 (I : Nat → Nat → Int32) (J : Nat → Nat → Int64) (D : Nat → Nat → UInt64) (v1 : Int32) (v2 : Int32) (v3 : Int32) (v4 : Int32) (v6 : Int32) (s0 : Int32) : ex (216, 154, [.ref 316, .int v1, .int v2, .int v3, .int v4, dv, .int v6, dv, dv], [.int s0], mm I J D) = cal 216 168 [.ref 316, .int v1, .int v2, .int v3, .int v4, dv, .int v6, dv, .int s0] [.ref 328, .int s0] (ex (214, 0, [.int v3, .int v4], [], mm I J D)) := (ex_itr 7 _).trans rfl
set_option maxRecDepth 100000 in
theorem e_216_168 (I : Nat → Nat → Int32) (J : Nat → Nat → Int64) (D : Nat → Nat → UInt64) (v1 : Int32) (v2 : Int32) (v3 : Int32) (v4 : Int32) (v6 : Int32) (v8 : Int32) (s0 : Int32) (s2 : Int32) : ex (216, 168, [.ref 316, .int v1, .int v2, .int v3, .int v4, dv, .int v6, dv, .int v8], [.int s0, .ref 328, .int s2], mm I J D) = bif inb s0 324 then (bif decide ((I 328 s0.toNatClampNeg) ≤ s2) then ex (216, 197, [.ref 316, .int v1, .int v2, .int v3, .int v4, dv, .int v6, dv, .int v8], [], mm I J D) else ex (216, 172, [.ref 316, .int v1, .int v2, .int v3, .int v4, dv, .int v6, dv, .int v8], [], mm I J D)) else none := (ex_itr 2 _).trans rfl
set_option maxRecDepth 100000 in
theorem e_216_172 (I : Nat → Nat → Int32) (J : Nat → Nat → Int64) (D : Nat → Nat → UInt64) (v1 : Int32) (v2 : Int32) (v3 : Int32) (v4 : Int32) (v6 : Int32) (v8 : Int32) : ex (216, 172, [.ref 316, .int v1, .int v2, .int v3, .int v4, dv, .int v6, dv, .int v8], [], mm I J D) = cal 216 182 [.ref 316, .int v1, .int v2, .int v3, .int v4, dv, .int v6, dv, .int v8] [.ref 328] (ex (214, 0, [.int v3, .int v4], [], mm I J D)) := (ex_itr 5 _).trans rfl
set_option maxRecDepth 100000 in
theorem e_216_182 (I : Nat → Nat → Int32) (J : Nat → Nat → Int64) (D : Nat → Nat → UInt64) (v1 : Int32) (v2 : Int32) (v3 : Int32) (v4 : Int32) (v6 : Int32) (v8 : Int32) (s0 : Int32) : ex (216, 182, [.ref 316, .int v1, .int v2, .int v3, .int v4, dv, .int v6, dv, .int v8], [.int s0, .ref 328], mm I J D) = bif inb s0 324 then (cal 216 195 [.ref 316, .int v1, .int v2, .int v3, .int v4, dv, .int v6, dv, .int v8] [.ref 329] (ex (214, 0, [.int v3, .int v4], [], mm (ups I 328 s0.toNatClampNeg v8) J D))) else none := (ex_itr 7 _).trans rfl
set_option maxRecDepth 100000 in
theorem e_216_195 (I : Nat → Nat → Int32) (J : Nat → Nat → Int64) (D : Nat → Nat → UInt64) (v1 : Int32) (v2 : Int32) (v3 : Int32) (v4 : Int32) (v6 : Int32) (v8 : Int32) (s0 : Int32) : ex (216, 195, [.ref 316, .int v1, .int v2, .int v3, .int v4, dv, .int v6, dv, .int v8], [.int s0, .ref 329], mm I J D) = bif inb s0 324 then (ex (216, 197, [.ref 316, .int v1, .int v2, .int v3, .int v4, dv, .int v6, dv, .int v8], [], mm I (upsL J 329 s0.toNatClampNeg 0) D)) else none := (ex_itr 2 _).trans rfl
set_option maxRecDepth 100000 in
theorem e_216_197 (I : Nat → Nat → Int32) (J : Nat → Nat → Int64) (D : Nat → Nat → UInt64) (v1 : Int32) (v2 : Int32) (v3 : Int32) (v4 : Int32) (v6 : Int32) (v8 : Int32) : ex (216, 197, [.ref 316, .int v1, .int v2, .int v3, .int v4, dv, .int v6, dv, .int v8], [], mm I J D) = bif decide (v8 = 100000000) then ex (216, 259, [.ref 316, .int v1, .int v2, .int v3, .int v4, dv, .int v6, dv, dv], [], mm I J D) else ex (216, 204, [.ref 316, .int v1, .int v2, .int v3, .int v4, dv, .int v6, dv, .int v8], [], mm I J D) := (ex_itr 3 _).trans rfl
set_option maxRecDepth 100000 in
theorem e_216_204 (I : Nat → Nat → Int32) (J : Nat → Nat → Int64) (D : Nat → Nat → UInt64) (v1 : Int32) (v2 : Int32) (v3 : Int32) (v4 : Int32) (v6 : Int32) (v8 : Int32) : ex (216, 204, [.ref 316, .int v1, .int v2, .int v3, .int v4, dv, .int v6, dv, .int v8], [], mm I J D) = cal 216 216 [.ref 316, .int v1, .int v2, .int v3, .int v4, dv, .int v6, dv, dv] [.ref 328, .int v8] (ex (214, 0, [.int v3, .int v4], [], mm I J D)) := (ex_itr 6 _).trans rfl
set_option maxRecDepth 100000 in
theorem e_216_216 (I : Nat → Nat → Int32) (J : Nat → Nat → Int64) (D : Nat → Nat → UInt64) (v1 : Int32) (v2 : Int32) (v3 : Int32) (v4 : Int32) (v6 : Int32) (s0 : Int32) (s2 : Int32) : ex (216, 216, [.ref 316, .int v1, .int v2, .int v3, .int v4, dv, .int v6, dv, dv], [.int s0, .ref 328, .int s2], mm I J D) = bif inb s0 324 then (bif decide (s2 ≠ (I 328 s0.toNatClampNeg)) then ex (216, 259, [.ref 316, .int v1, .int v2, .int v3, .int v4, dv, .int v6, dv, dv], [], mm I J D) else ex (216, 220, [.ref 316, .int v1, .int v2, .int v3, .int v4, dv, .int v6, dv, dv], [], mm I J D)) else none := (ex_itr 2 _).trans rfl
set_option maxRecDepth 100000 in
theorem e_216_220 (I : Nat → Nat → Int32) (J : Nat → Nat → Int64) (D : Nat → Nat → UInt64) (v1 : Int32) (v2 : Int32) (v3 : Int32) (v4 : Int32) (v6 : Int32) : ex (216, 220, [.ref 316, .int v1, .int v2, .int v3, .int v4, dv, .int v6, dv, dv], [], mm I J D) = cal 216 230 [.ref 316, .int v1, .int v2, .int v3, .int v4, dv, .int v6, dv, dv] [.ref 329] (ex (214, 0, [.int v3, .int v4], [], mm I J D)) := (ex_itr 5 _).trans rfl
set_option maxRecDepth 100000 in
theorem e_216_230 (I : Nat → Nat → Int32) (J : Nat → Nat → Int64) (D : Nat → Nat → UInt64) (v1 : Int32) (v2 : Int32) (v3 : Int32) (v4 : Int32) (v6 : Int32) (s0 : Int32) : ex (216, 230, [.ref 316, .int v1, .int v2, .int v3, .int v4, dv, .int v6, dv, dv], [.int s0, .ref 329], mm I J D) = bif inb s0 324 then (cal 216 243 [.ref 316, .int v1, .int v2, .int v3, .int v4, dv, .int v6, dv, dv] [.int v3, .ref 329, .long (J 329 s0.toNatClampNeg), .int s0, .ref 329] (ex (210, 0, [.int v6, .int 0], [], mm I J D))) else none := (ex_itr 8 _).trans rfl
set_option maxRecDepth 100000 in
theorem e_216_243 (I : Nat → Nat → Int32) (J : Nat → Nat → Int64) (D : Nat → Nat → UInt64) (v1 : Int32) (v2 : Int32) (v3 : Int32) (v4 : Int32) (v6 : Int32) (s0 : Int32) (s1 : Int32) (s3 : Int64) (s4 : Int32) : ex (216, 243, [.ref 316, .int v1, .int v2, .int v3, .int v4, dv, .int v6, dv, dv], [.int s0, .int s1, .ref 329, .long s3, .int s4, .ref 329], mm I J D) = cal 216 252 [.ref 316, .int v1, .int v2, .int v3, .int v4, dv, .int v6, dv, dv] [.int v4, .int (s1 + s0), .ref 329, .long s3, .int s4, .ref 329] (ex (210, 0, [.int v6, .int 1], [], mm I J D)) := (ex_itr 5 _).trans rfl
set_option maxRecDepth 100000 in
theorem e_216_252 (I : Nat → Nat → Int32) (J : Nat → Nat → Int64) (D : Nat → Nat → UInt64) (v1 : Int32) (v2 : Int32) (v3 : Int32) (v4 : Int32) (v6 : Int32) (s0 : Int32) (s1 : Int32) (s2 : Int32) (s4 : Int64) (s5 : Int32) : ex (216, 252, [.ref 316, .int v1, .int v2, .int v3, .int v4, dv, .int v6, dv, dv], [.int s0, .int s1, .int s2, .ref 329, .long s4, .int s5, .ref 329], mm I J D) = cal 216 256 [.ref 316, .int v1, .int v2, .int v3, .int v4, dv, .int v6, dv, dv] [.ref 329, .long s4, .int s5, .ref 329] (ex (214, 0, [.int s2, .int (s1 + s0)], [], mm I J D)) := (ex_itr 2 _).trans rfl
set_option maxRecDepth 100000 in
theorem e_216_256 (I : Nat → Nat → Int32) (J : Nat → Nat → Int64) (D : Nat → Nat → UInt64) (v1 : Int32) (v2 : Int32) (v3 : Int32) (v4 : Int32) (v6 : Int32) (s0 : Int32) (s2 : Int64) (s3 : Int32) : ex (216, 256, [.ref 316, .int v1, .int v2, .int v3, .int v4, dv, .int v6, dv, dv], [.int s0, .ref 329, .long s2, .int s3, .ref 329], mm I J D) = bif inb s0 324 then (bif inb s3 324 then (ex (216, 259, [.ref 316, .int v1, .int v2, .int v3, .int v4, dv, .int v6, dv, dv], [], mm I (upsL J 329 s3.toNatClampNeg (s2 + (J 329 s0.toNatClampNeg))) D)) else none) else none := (ex_itr 3 _).trans rfl
set_option maxRecDepth 100000 in
theorem e_216_259 (I : Nat → Nat → Int32) (J : Nat → Nat → Int64) (D : Nat → Nat → UInt64) (v1 : Int32) (v2 : Int32) (v3 : Int32) (v4 : Int32) (v6 : Int32) : ex (216, 259, [.ref 316, .int v1, .int v2, .int v3, .int v4, dv, .int v6, dv, dv], [], mm I J D) = ex (216, 106, [.ref 316, .int v1, .int v2, .int v3, .int v4, dv, .int (v6 + 1), dv, dv], [], mm I J D) := (ex_itr 2 _).trans rfl
set_option maxRecDepth 100000 in
theorem e_216_265 (I : Nat → Nat → Int32) (J : Nat → Nat → Int64) (D : Nat → Nat → UInt64) (v1 : Int32) (v2 : Int32) (v3 : Int32) (v4 : Int32) : ex (216, 265, [.ref 316, .int v1, .int v2, .int v3, .int v4, dv, dv, dv, dv], [], mm I J D) = ex (216, 23, [.ref 316, .int v1, .int v2, .int v3, .int (v4 + (-1)), dv, dv, dv, dv], [], mm I J D) := (ex_itr 2 _).trans rfl
set_option maxRecDepth 100000 in
theorem e_216_271 (I : Nat → Nat → Int32) (J : Nat → Nat → Int64) (D : Nat → Nat → UInt64) (v1 : Int32) (v2 : Int32) (v3 : Int32) : ex (216, 271, [.ref 316, .int v1, .int v2, .int v3, dv, dv, dv, dv, dv], [], mm I J D) = ex (216, 9, [.ref 316, .int v1, .int v2, .int (v3 + (-1)), dv, dv, dv, dv, dv], [], mm I J D) := (ex_itr 2 _).trans rfl
set_option maxRecDepth 100000 in
theorem e_216_277 (I : Nat → Nat → Int32) (J : Nat → Nat → Int64) (D : Nat → Nat → UInt64)  : ex (216, 277, [dv, dv, dv, dv, dv, dv, dv, dv, dv], [], mm I J D) = some (.inl none, mm I J D) := (ex_itr 1 _).trans rfl
/-! GlacierBookModel.leastPrice()I -/
set_option maxRecDepth 100000 in
theorem e_217_0 (I : Nat → Nat → Int32) (J : Nat → Nat → Int64) (D : Nat → Nat → UInt64)  : ex (217, 0, [.ref 316], [], mm I J D) = cal 217 11 [.ref 316] [] (ex (216, 0, [.ref 316, .int (-1), .int (-1), dv, dv, dv, dv, dv, dv], [], mm (ups I 316 0 0) J D)) := (ex_itr 7 _).trans rfl
set_option maxRecDepth 100000 in
theorem e_217_11 (I : Nat → Nat → Int32) (J : Nat → Nat → Int64) (D : Nat → Nat → UInt64)  : ex (217, 11, [.ref 316], [], mm I J D) = some (.inl (some (.int (I 328 0))), mm I J D) := (ex_itr 5 _).trans rfl
/-! GlacierBookModel.bestWays()J -/
set_option maxRecDepth 100000 in
theorem e_218_0 (I : Nat → Nat → Int32) (J : Nat → Nat → Int64) (D : Nat → Nat → UInt64)  : ex (218, 0, [.ref 316], [], mm I J D) = cal 218 11 [.ref 316] [] (ex (216, 0, [.ref 316, .int (-1), .int (-1), dv, dv, dv, dv, dv, dv], [], mm (ups I 316 0 0) J D)) := (ex_itr 7 _).trans rfl
set_option maxRecDepth 100000 in
theorem e_218_11 (I : Nat → Nat → Int32) (J : Nat → Nat → Int64) (D : Nat → Nat → UInt64)  : ex (218, 11, [.ref 316], [], mm I J D) = some (.inl (some (.long (J 329 0))), mm I J D) := (ex_itr 5 _).trans rfl
/-! GlacierBookModel.goesFirst()V -/
set_option maxRecDepth 100000 in
theorem e_219_0 (I : Nat → Nat → Int32) (J : Nat → Nat → Int64) (D : Nat → Nat → UInt64)  : ex (219, 0, [.ref 316, dv, dv, dv, dv, dv, dv], [], mm I J D) = ex (219, 2, [.ref 316, .int 0, dv, dv, dv, dv, dv], [], mm I J D) := (ex_itr 2 _).trans rfl
set_option maxRecDepth 100000 in
theorem e_219_2 (I : Nat → Nat → Int32) (J : Nat → Nat → Int64) (D : Nat → Nat → UInt64) (v1 : Int32) : ex (219, 2, [.ref 316, .int v1, dv, dv, dv, dv, dv], [], mm I J D) = bif decide (32 ≤ v1) then ex (219, 21, [.ref 316, dv, dv, dv, dv, dv, dv], [], mm I J D) else ex (219, 8, [.ref 316, .int v1, dv, dv, dv, dv, dv], [], mm I J D) := (ex_itr 3 _).trans rfl
set_option maxRecDepth 100000 in
theorem e_219_8 (I : Nat → Nat → Int32) (J : Nat → Nat → Int64) (D : Nat → Nat → UInt64) (v1 : Int32) : ex (219, 8, [.ref 316, .int v1, dv, dv, dv, dv, dv], [], mm I J D) = bif inb v1 32 then (ex (219, 2, [.ref 316, .int (v1 + 1), dv, dv, dv, dv, dv], [], mm (ups I 330 v1.toNatClampNeg (-1)) J D)) else none := (ex_itr 7 _).trans rfl
set_option maxRecDepth 100000 in
theorem e_219_21 (I : Nat → Nat → Int32) (J : Nat → Nat → Int64) (D : Nat → Nat → UInt64)  : ex (219, 21, [.ref 316, dv, dv, dv, dv, dv, dv], [], mm I J D) = ex (219, 25, [.ref 316, .int 0, .int 0, dv, dv, dv, dv], [], mm I J D) := (ex_itr 4 _).trans rfl
set_option maxRecDepth 100000 in
theorem e_219_25 (I : Nat → Nat → Int32) (J : Nat → Nat → Int64) (D : Nat → Nat → UInt64) (v1 : Int32) (v2 : Int32) : ex (219, 25, [.ref 316, .int v1, .int v2, dv, dv, dv, dv], [], mm I J D) = bif decide (v1 < (I 317 491)) then ex (219, 49, [.ref 316, .int v1, .int v2, dv, dv, dv, dv], [], mm I J D) else ex (219, 37, [.ref 316, .int v1, .int v2, dv, dv, dv, dv], [], mm I J D) := (ex_itr 6 _).trans rfl
set_option maxRecDepth 100000 in
theorem e_219_37 (I : Nat → Nat → Int32) (J : Nat → Nat → Int64) (D : Nat → Nat → UInt64) (v1 : Int32) (v2 : Int32) : ex (219, 37, [.ref 316, .int v1, .int v2, dv, dv, dv, dv], [], mm I J D) = bif decide ((I 317 492) ≤ v2) then ex (219, 169, [dv, dv, dv, dv, dv, dv, dv], [], mm I J D) else ex (219, 49, [.ref 316, .int v1, .int v2, dv, dv, dv, dv], [], mm I J D) := (ex_itr 6 _).trans rfl
set_option maxRecDepth 100000 in
theorem e_219_49 (I : Nat → Nat → Int32) (J : Nat → Nat → Int64) (D : Nat → Nat → UInt64) (v1 : Int32) (v2 : Int32) : ex (219, 49, [.ref 316, .int v1, .int v2, dv, dv, dv, dv], [], mm I J D) = ex (219, 51, [.ref 316, .int v1, .int v2, .int 0, dv, dv, dv], [], mm I J D) := (ex_itr 2 _).trans rfl
set_option maxRecDepth 100000 in
theorem e_219_51 (I : Nat → Nat → Int32) (J : Nat → Nat → Int64) (D : Nat → Nat → UInt64) (v1 : Int32) (v2 : Int32) (v3 : Int32) : ex (219, 51, [.ref 316, .int v1, .int v2, .int v3, dv, dv, dv], [], mm I J D) = cal 219 58 [.ref 316, .int v1, .int v2, .int v3, dv, dv, dv] [] (ex (215, 0, [.ref 316, .int v3, .int v1, .int v2, dv], [], mm I J D)) := (ex_itr 5 _).trans rfl
set_option maxRecDepth 100000 in
theorem e_219_58 (I : Nat → Nat → Int32) (J : Nat → Nat → Int64) (D : Nat → Nat → UInt64) (v1 : Int32) (v2 : Int32) (v3 : Int32) (s0 : Int32) : ex (219, 58, [.ref 316, .int v1, .int v2, .int v3, dv, dv, dv], [.int s0], mm I J D) = cal 219 67 [.ref 316, .int v1, .int v2, .int v3, dv, dv, dv] [.ref 328, .int s0] (ex (214, 0, [.int v1, .int v2], [], mm I J D)) := (ex_itr 5 _).trans rfl
set_option maxRecDepth 100000 in
theorem e_219_67 (I : Nat → Nat → Int32) (J : Nat → Nat → Int64) (D : Nat → Nat → UInt64) (v1 : Int32) (v2 : Int32) (v3 : Int32) (s0 : Int32) (s2 : Int32) : ex (219, 67, [.ref 316, .int v1, .int v2, .int v3, dv, dv, dv], [.int s0, .ref 328, .int s2], mm I J D) = bif inb s0 324 then (bif decide (s2 = (I 328 s0.toNatClampNeg)) then ex (219, 77, [.ref 316, .int v1, .int v2, .int v3, dv, dv, dv], [], mm I J D) else ex (219, 71, [.ref 316, .int v1, .int v2, .int v3, dv, dv, dv], [], mm I J D)) else none := (ex_itr 2 _).trans rfl
set_option maxRecDepth 100000 in
theorem e_219_71 (I : Nat → Nat → Int32) (J : Nat → Nat → Int64) (D : Nat → Nat → UInt64) (v1 : Int32) (v2 : Int32) (v3 : Int32) : ex (219, 71, [.ref 316, .int v1, .int v2, .int v3, dv, dv, dv], [], mm I J D) = ex (219, 51, [.ref 316, .int v1, .int v2, .int (v3 + 1), dv, dv, dv], [], mm I J D) := (ex_itr 2 _).trans rfl
set_option maxRecDepth 100000 in
theorem e_219_77 (I : Nat → Nat → Int32) (J : Nat → Nat → Int64) (D : Nat → Nat → UInt64) (v1 : Int32) (v2 : Int32) (v3 : Int32) : ex (219, 77, [.ref 316, .int v1, .int v2, .int v3, dv, dv, dv], [], mm I J D) = cal 219 82 [.ref 316, .int v1, .int v2, .int v3, dv, dv, dv] [] (ex (210, 0, [.int v3, .int 0], [], mm I J D)) := (ex_itr 3 _).trans rfl
set_option maxRecDepth 100000 in
theorem e_219_82 (I : Nat → Nat → Int32) (J : Nat → Nat → Int64) (D : Nat → Nat → UInt64) (v1 : Int32) (v2 : Int32) (v3 : Int32) (s0 : Int32) : ex (219, 82, [.ref 316, .int v1, .int v2, .int v3, dv, dv, dv], [.int s0], mm I J D) = cal 219 89 [.ref 316, .int v1, .int v2, dv, .int s0, dv, dv] [] (ex (210, 0, [.int v3, .int 1], [], mm I J D)) := (ex_itr 4 _).trans rfl
set_option maxRecDepth 100000 in
theorem e_219_89 (I : Nat → Nat → Int32) (J : Nat → Nat → Int64) (D : Nat → Nat → UInt64) (v1 : Int32) (v2 : Int32) (v4 : Int32) (s0 : Int32) : ex (219, 89, [.ref 316, .int v1, .int v2, dv, .int v4, dv, dv], [.int s0], mm I J D) = ex (219, 94, [.ref 316, .int v1, .int v2, dv, .int v4, .int s0, .int 0], [], mm I J D) := (ex_itr 3 _).trans rfl
set_option maxRecDepth 100000 in
theorem e_219_94 (I : Nat → Nat → Int32) (J : Nat → Nat → Int64) (D : Nat → Nat → UInt64) (v1 : Int32) (v2 : Int32) (v4 : Int32) (v5 : Int32) (v6 : Int32) : ex (219, 94, [.ref 316, .int v1, .int v2, dv, .int v4, .int v5, .int v6], [], mm I J D) = bif decide (v4 ≤ v6) then ex (219, 122, [.ref 316, .int v1, .int v2, dv, .int v4, .int v5, dv], [], mm I J D) else ex (219, 101, [.ref 316, .int v1, .int v2, dv, .int v4, .int v5, .int v6], [], mm I J D) := (ex_itr 3 _).trans rfl
set_option maxRecDepth 100000 in
theorem e_219_101 (I : Nat → Nat → Int32) (J : Nat → Nat → Int64) (D : Nat → Nat → UInt64) (v1 : Int32) (v2 : Int32) (v4 : Int32) (v5 : Int32) (v6 : Int32) : ex (219, 101, [.ref 316, .int v1, .int v2, dv, .int v4, .int v5, .int v6], [], mm I J D) = bif decide (v5 ≤ 0) then ex (219, 122, [.ref 316, .int v1, .int v2, dv, .int v4, .int v5, dv], [], mm I J D) else ex (219, 106, [.ref 316, .int v1, .int v2, dv, .int v4, .int v5, .int v6], [], mm I J D) := (ex_itr 2 _).trans rfl
set_option maxRecDepth 100000 in
theorem e_219_106 (I : Nat → Nat → Int32) (J : Nat → Nat → Int64) (D : Nat → Nat → UInt64) (v1 : Int32) (v2 : Int32) (v4 : Int32) (v5 : Int32) (v6 : Int32) : ex (219, 106, [.ref 316, .int v1, .int v2, dv, .int v4, .int v5, .int v6], [], mm I J D) = bif inb (v1 + v6) 32 then (ex (219, 94, [.ref 316, .int v1, .int v2, dv, .int v4, .int v5, .int (v6 + 1)], [], mm (ups I 330 ((v1 + v6).toNatClampNeg) v2) J D)) else none := (ex_itr 9 _).trans rfl
set_option maxRecDepth 100000 in
theorem e_219_122 (I : Nat → Nat → Int32) (J : Nat → Nat → Int64) (D : Nat → Nat → UInt64) (v1 : Int32) (v2 : Int32) (v4 : Int32) (v5 : Int32) : ex (219, 122, [.ref 316, .int v1, .int v2, dv, .int v4, .int v5, dv], [], mm I J D) = ex (219, 125, [.ref 316, .int v1, .int v2, dv, .int v4, .int v5, .int 0], [], mm I J D) := (ex_itr 2 _).trans rfl
set_option maxRecDepth 100000 in
theorem e_219_125 (I : Nat → Nat → Int32) (J : Nat → Nat → Int64) (D : Nat → Nat → UInt64) (v1 : Int32) (v2 : Int32) (v4 : Int32) (v5 : Int32) (v6 : Int32) : ex (219, 125, [.ref 316, .int v1, .int v2, dv, .int v4, .int v5, .int v6], [], mm I J D) = bif decide (v5 ≤ v6) then ex (219, 156, [.ref 316, .int v1, .int v2, dv, .int v4, .int v5, dv], [], mm I J D) else ex (219, 132, [.ref 316, .int v1, .int v2, dv, .int v4, .int v5, .int v6], [], mm I J D) := (ex_itr 3 _).trans rfl
set_option maxRecDepth 100000 in
theorem e_219_132 (I : Nat → Nat → Int32) (J : Nat → Nat → Int64) (D : Nat → Nat → UInt64) (v1 : Int32) (v2 : Int32) (v4 : Int32) (v5 : Int32) (v6 : Int32) : ex (219, 132, [.ref 316, .int v1, .int v2, dv, .int v4, .int v5, .int v6], [], mm I J D) = bif decide (v4 ≤ 0) then ex (219, 156, [.ref 316, .int v1, .int v2, dv, .int v4, .int v5, dv], [], mm I J D) else ex (219, 137, [.ref 316, .int v1, .int v2, dv, .int v4, .int v5, .int v6], [], mm I J D) := (ex_itr 2 _).trans rfl
set_option maxRecDepth 100000 in
theorem e_219_137 (I : Nat → Nat → Int32) (J : Nat → Nat → Int64) (D : Nat → Nat → UInt64) (v1 : Int32) (v2 : Int32) (v4 : Int32) (v5 : Int32) (v6 : Int32) : ex (219, 137, [.ref 316, .int v1, .int v2, dv, .int v4, .int v5, .int v6], [], mm I J D) = bif inb (((16 : Int32) + v2) + v6) 32 then (ex (219, 125, [.ref 316, .int v1, .int v2, dv, .int v4, .int v5, .int (v6 + 1)], [], mm (ups I 330 ((((16 : Int32) + v2) + v6).toNatClampNeg) v1) J D)) else none := (ex_itr 11 _).trans rfl
set_option maxRecDepth 100000 in
theorem e_219_156 (I : Nat → Nat → Int32) (J : Nat → Nat → Int64) (D : Nat → Nat → UInt64) (v1 : Int32) (v2 : Int32) (v4 : Int32) (v5 : Int32) : ex (219, 156, [.ref 316, .int v1, .int v2, dv, .int v4, .int v5, dv], [], mm I J D) = ex (219, 25, [.ref 316, .int (v1 + v4), .int (v2 + v5), dv, dv, dv, dv], [], mm I J D) := (ex_itr 9 _).trans rfl
set_option maxRecDepth 100000 in
theorem e_219_169 (I : Nat → Nat → Int32) (J : Nat → Nat → Int64) (D : Nat → Nat → UInt64)  : ex (219, 169, [dv, dv, dv, dv, dv, dv, dv], [], mm I J D) = some (.inl none, mm I J D) := (ex_itr 1 _).trans rfl
/-! GlacierBookModel.partner(II)I -/
set_option maxRecDepth 100000 in
theorem e_220_0 (I : Nat → Nat → Int32) (J : Nat → Nat → Int64) (D : Nat → Nat → UInt64) (v1 : Int32) (v2 : Int32) : ex (220, 0, [.ref 316, .int v1, .int v2], [], mm I J D) = cal 220 7 [.ref 316, .int v1, .int v2] [.ref 316] (ex (199, 0, [.ref 316, .int v1, .int v2], [], mm I J D)) := (ex_itr 5 _).trans rfl
set_option maxRecDepth 100000 in
theorem e_220_7 (I : Nat → Nat → Int32) (J : Nat → Nat → Int64) (D : Nat → Nat → UInt64) (v1 : Int32) (v2 : Int32) (s0 : Int32) : ex (220, 7, [.ref 316, .int v1, .int v2], [.int s0, .ref 316], mm I J D) = cal 220 11 [.ref 316, .int v1, .int v2] [] (ex (156, 0, [.ref 316, .int s0, .int 1], [], mm I J D)) := (ex_itr 2 _).trans rfl
set_option maxRecDepth 100000 in
theorem e_220_11 (I : Nat → Nat → Int32) (J : Nat → Nat → Int64) (D : Nat → Nat → UInt64) (v1 : Int32) (v2 : Int32) (s0 : Int32) : ex (220, 11, [.ref 316, .int v1, .int v2], [.int s0], mm I J D) = bif decide (s0 ≠ 0) then ex (220, 16, [.ref 316, .int v1, .int v2], [], mm I J D) else ex (220, 14, [dv, dv, dv], [], mm I J D) := (ex_itr 1 _).trans rfl
set_option maxRecDepth 100000 in
theorem e_220_14 (I : Nat → Nat → Int32) (J : Nat → Nat → Int64) (D : Nat → Nat → UInt64)  : ex (220, 14, [dv, dv, dv], [], mm I J D) = some (.inl (some (.int 0)), mm I J D) := (ex_itr 2 _).trans rfl
set_option maxRecDepth 100000 in
theorem e_220_16 (I : Nat → Nat → Int32) (J : Nat → Nat → Int64) (D : Nat → Nat → UInt64) (v1 : Int32) (v2 : Int32) : ex (220, 16, [.ref 316, .int v1, .int v2], [], mm I J D) = cal 220 22 [.ref 316, .int v1, .int v2] [] (ex (216, 0, [.ref 316, .int (-1), .int (-1), dv, dv, dv, dv, dv, dv], [], mm I J D)) := (ex_itr 4 _).trans rfl
set_option maxRecDepth 100000 in
theorem e_220_22 (I : Nat → Nat → Int32) (J : Nat → Nat → Int64) (D : Nat → Nat → UInt64) (v1 : Int32) (v2 : Int32) : ex (220, 22, [.ref 316, .int v1, .int v2], [], mm I J D) = cal 220 26 [.ref 316, .int v1, .int v2] [] (ex (219, 0, [.ref 316, dv, dv, dv, dv, dv, dv], [], mm I J D)) := (ex_itr 2 _).trans rfl
set_option maxRecDepth 100000 in
theorem e_220_26 (I : Nat → Nat → Int32) (J : Nat → Nat → Int64) (D : Nat → Nat → UInt64) (v1 : Int32) (v2 : Int32) : ex (220, 26, [.ref 316, .int v1, .int v2], [], mm I J D) = bif inb (((16 : Int32) * v1) + v2) 32 then (some (.inl (some (.int (I 330 (((16 : Int32) * v1) + v2).toNatClampNeg))), mm I J D)) else none := (ex_itr 9 _).trans rfl
/-! GlacierBookModel.isSure(II)Z -/
set_option maxRecDepth 100000 in
theorem e_221_0 (I : Nat → Nat → Int32) (J : Nat → Nat → Int64) (D : Nat → Nat → UInt64) (v1 : Int32) (v2 : Int32) : ex (221, 0, [.ref 316, .int v1, .int v2, dv], [], mm I J D) = cal 221 7 [.ref 316, .int v1, .int v2, dv] [.ref 316] (ex (199, 0, [.ref 316, .int 0, .int v1], [], mm I J D)) := (ex_itr 5 _).trans rfl
set_option maxRecDepth 100000 in
theorem e_221_7 (I : Nat → Nat → Int32) (J : Nat → Nat → Int64) (D : Nat → Nat → UInt64) (v1 : Int32) (v2 : Int32) (s0 : Int32) : ex (221, 7, [.ref 316, .int v1, .int v2, dv], [.int s0, .ref 316], mm I J D) = bif decide (s0 = 0) then ex (221, 23, [.ref 316, .int v1, .int v2, dv], [.ref 316], mm I J D) else ex (221, 10, [.ref 316, .int v1, .int v2, dv], [.ref 316], mm I J D) := (ex_itr 1 _).trans rfl
set_option maxRecDepth 100000 in
theorem e_221_10 (I : Nat → Nat → Int32) (J : Nat → Nat → Int64) (D : Nat → Nat → UInt64) (v1 : Int32) (v2 : Int32) : ex (221, 10, [.ref 316, .int v1, .int v2, dv], [.ref 316], mm I J D) = cal 221 16 [.ref 316, .int v1, .int v2, dv] [.ref 316] (ex (199, 0, [.ref 316, .int 1, .int v2], [], mm I J D)) := (ex_itr 4 _).trans rfl
set_option maxRecDepth 100000 in
theorem e_221_16 (I : Nat → Nat → Int32) (J : Nat → Nat → Int64) (D : Nat → Nat → UInt64) (v1 : Int32) (v2 : Int32) (s0 : Int32) : ex (221, 16, [.ref 316, .int v1, .int v2, dv], [.int s0, .ref 316], mm I J D) = bif decide (s0 = 0) then ex (221, 23, [.ref 316, .int v1, .int v2, dv], [.ref 316], mm I J D) else ex (221, 19, [.ref 316, .int v1, .int v2, dv], [.ref 316], mm I J D) := (ex_itr 1 _).trans rfl
set_option maxRecDepth 100000 in
theorem e_221_19 (I : Nat → Nat → Int32) (J : Nat → Nat → Int64) (D : Nat → Nat → UInt64) (v1 : Int32) (v2 : Int32) : ex (221, 19, [.ref 316, .int v1, .int v2, dv], [.ref 316], mm I J D) = ex (221, 24, [.ref 316, .int v1, .int v2, dv], [.int 1, .ref 316], mm I J D) := (ex_itr 2 _).trans rfl
set_option maxRecDepth 100000 in
theorem e_221_23 (I : Nat → Nat → Int32) (J : Nat → Nat → Int64) (D : Nat → Nat → UInt64) (v1 : Int32) (v2 : Int32) : ex (221, 23, [.ref 316, .int v1, .int v2, dv], [.ref 316], mm I J D) = ex (221, 24, [.ref 316, .int v1, .int v2, dv], [.int 0, .ref 316], mm I J D) := (ex_itr 1 _).trans rfl
set_option maxRecDepth 100000 in
theorem e_221_24 (I : Nat → Nat → Int32) (J : Nat → Nat → Int64) (D : Nat → Nat → UInt64) (v1 : Int32) (v2 : Int32) (s0 : Int32) : ex (221, 24, [.ref 316, .int v1, .int v2, dv], [.int s0, .ref 316], mm I J D) = cal 221 28 [.ref 316, .int v1, .int v2, dv] [] (ex (156, 0, [.ref 316, .int s0, .int 1], [], mm I J D)) := (ex_itr 2 _).trans rfl
set_option maxRecDepth 100000 in
theorem e_221_28 (I : Nat → Nat → Int32) (J : Nat → Nat → Int64) (D : Nat → Nat → UInt64) (v1 : Int32) (v2 : Int32) (s0 : Int32) : ex (221, 28, [.ref 316, .int v1, .int v2, dv], [.int s0], mm I J D) = bif decide (s0 ≠ 0) then ex (221, 33, [.ref 316, .int v1, .int v2, dv], [], mm I J D) else ex (221, 31, [dv, dv, dv, dv], [], mm I J D) := (ex_itr 1 _).trans rfl
set_option maxRecDepth 100000 in
theorem e_221_31 (I : Nat → Nat → Int32) (J : Nat → Nat → Int64) (D : Nat → Nat → UInt64)  : ex (221, 31, [dv, dv, dv, dv], [], mm I J D) = some (.inl (some (.int 0)), mm I J D) := (ex_itr 2 _).trans rfl
set_option maxRecDepth 100000 in
theorem e_221_33 (I : Nat → Nat → Int32) (J : Nat → Nat → Int64) (D : Nat → Nat → UInt64) (v1 : Int32) (v2 : Int32) : ex (221, 33, [.ref 316, .int v1, .int v2, dv], [], mm I J D) = cal 221 39 [.ref 316, .int v1, .int v2, dv] [] (ex (216, 0, [.ref 316, .int (-1), .int (-1), dv, dv, dv, dv, dv, dv], [], mm I J D)) := (ex_itr 4 _).trans rfl
set_option maxRecDepth 100000 in
theorem e_221_39 (I : Nat → Nat → Int32) (J : Nat → Nat → Int64) (D : Nat → Nat → UInt64) (v1 : Int32) (v2 : Int32) : ex (221, 39, [.ref 316, .int v1, .int v2, dv], [], mm I J D) = cal 221 52 [.ref 316, dv, dv, .int (I 328 0)] [] (ex (216, 0, [.ref 316, .int v1, .int v2, dv, dv, dv, dv, dv, dv], [], mm I J D)) := (ex_itr 9 _).trans rfl
set_option maxRecDepth 100000 in
theorem e_221_52 (I : Nat → Nat → Int32) (J : Nat → Nat → Int64) (D : Nat → Nat → UInt64) (v3 : Int32) : ex (221, 52, [.ref 316, dv, dv, .int v3], [], mm I J D) = bif decide ((I 328 0) ≤ v3) then ex (221, 66, [dv, dv, dv, dv], [], mm I J D) else ex (221, 62, [dv, dv, dv, dv], [], mm I J D) := (ex_itr 6 _).trans rfl
set_option maxRecDepth 100000 in
theorem e_221_62 (I : Nat → Nat → Int32) (J : Nat → Nat → Int64) (D : Nat → Nat → UInt64)  : ex (221, 62, [dv, dv, dv, dv], [], mm I J D) = ex (221, 67, [dv, dv, dv, dv], [.int 1], mm I J D) := (ex_itr 2 _).trans rfl
set_option maxRecDepth 100000 in
theorem e_221_66 (I : Nat → Nat → Int32) (J : Nat → Nat → Int64) (D : Nat → Nat → UInt64)  : ex (221, 66, [dv, dv, dv, dv], [], mm I J D) = ex (221, 67, [dv, dv, dv, dv], [.int 0], mm I J D) := (ex_itr 1 _).trans rfl
set_option maxRecDepth 100000 in
theorem e_221_67 (I : Nat → Nat → Int32) (J : Nat → Nat → Int64) (D : Nat → Nat → UInt64) (s0 : Int32) : ex (221, 67, [dv, dv, dv, dv], [.int s0], mm I J D) = bif decide (s0 = 0 ∨ s0 = 1) then (some (.inl (some (.int s0)), mm I J D)) else none := (ex_itr 1 _).trans rfl
/-! GlacierBookModel.dateOf(II)I -/
set_option maxRecDepth 100000 in
theorem e_222_0 (I : Nat → Nat → Int32) (J : Nat → Nat → Int64) (D : Nat → Nat → UInt64) (v1 : Int32) (v2 : Int32) : ex (222, 0, [.ref 316, .int v1, .int v2], [], mm I J D) = bif inb (((557 : Int32) + ((16 : Int32) * v1)) + v2) 850 then (some (.inl (some (.int (I 317 (((557 : Int32) + ((16 : Int32) * v1)) + v2).toNatClampNeg))), mm I J D)) else none := (ex_itr 11 _).trans rfl
/-! GlacierBookModel.fits(III)Z -/
set_option maxRecDepth 100000 in
theorem e_223_0 (I : Nat → Nat → Int32) (J : Nat → Nat → Int64) (D : Nat → Nat → UInt64) (v1 : Int32) (v2 : Int32) (v3 : Int32) : ex (223, 0, [.ref 316, .int v1, .int v2, .int v3, dv, dv], [], mm I J D) = ex (223, 3, [.ref 316, .int v1, .int v2, .int v3, .int 0, dv], [], mm I J D) := (ex_itr 2 _).trans rfl
set_option maxRecDepth 100000 in
theorem e_223_3 (I : Nat → Nat → Int32) (J : Nat → Nat → Int64) (D : Nat → Nat → UInt64) (v1 : Int32) (v2 : Int32) (v3 : Int32) (v4 : Int32) : ex (223, 3, [.ref 316, .int v1, .int v2, .int v3, .int v4, dv], [], mm I J D) = bif inb ((491 : Int32) + v1) 850 then (bif decide ((I 317 ((491 : Int32) + v1).toNatClampNeg) ≤ v4) then ex (223, 65, [dv, dv, dv, dv, dv, dv], [], mm I J D) else ex (223, 18, [.ref 316, .int v1, .int v2, .int v3, .int v4, dv], [], mm I J D)) else none := (ex_itr 8 _).trans rfl
set_option maxRecDepth 100000 in
theorem e_223_18 (I : Nat → Nat → Int32) (J : Nat → Nat → Int64) (D : Nat → Nat → UInt64) (v1 : Int32) (v2 : Int32) (v3 : Int32) (v4 : Int32) : ex (223, 18, [.ref 316, .int v1, .int v2, .int v3, .int v4, dv], [], mm I J D) = cal 223 25 [.ref 316, .int v1, .int v2, .int v3, .int v4, dv] [] (ex (222, 0, [.ref 316, .int v1, .int v4], [], mm I J D)) := (ex_itr 4 _).trans rfl
set_option maxRecDepth 100000 in
theorem e_223_25 (I : Nat → Nat → Int32) (J : Nat → Nat → Int64) (D : Nat → Nat → UInt64) (v1 : Int32) (v2 : Int32) (v3 : Int32) (v4 : Int32) (s0 : Int32) : ex (223, 25, [.ref 316, .int v1, .int v2, .int v3, .int v4, dv], [.int s0], mm I J D) = bif decide (s0 = (-1)) then ex (223, 59, [.ref 316, .int v1, .int v2, .int v3, .int v4, dv], [], mm I J D) else ex (223, 33, [.ref 316, .int v1, .int v2, .int v3, .int v4, .int s0], [], mm I J D) := (ex_itr 4 _).trans rfl
set_option maxRecDepth 100000 in
theorem e_223_33 (I : Nat → Nat → Int32) (J : Nat → Nat → Int64) (D : Nat → Nat → UInt64) (v1 : Int32) (v2 : Int32) (v3 : Int32) (v4 : Int32) (v5 : Int32) : ex (223, 33, [.ref 316, .int v1, .int v2, .int v3, .int v4, .int v5], [], mm I J D) = bif decide (v2 ≤ v4) then ex (223, 45, [.ref 316, .int v1, .int v2, .int v3, .int v4, .int v5], [], mm I J D) else ex (223, 39, [.ref 316, .int v1, .int v2, .int v3, .int v4, .int v5], [], mm I J D) := (ex_itr 3 _).trans rfl
set_option maxRecDepth 100000 in
theorem e_223_39 (I : Nat → Nat → Int32) (J : Nat → Nat → Int64) (D : Nat → Nat → UInt64) (v1 : Int32) (v2 : Int32) (v3 : Int32) (v4 : Int32) (v5 : Int32) : ex (223, 39, [.ref 316, .int v1, .int v2, .int v3, .int v4, .int v5], [], mm I J D) = bif decide (v3 < v5) then ex (223, 57, [dv, dv, dv, dv, dv, dv], [], mm I J D) else ex (223, 45, [.ref 316, .int v1, .int v2, .int v3, .int v4, .int v5], [], mm I J D) := (ex_itr 3 _).trans rfl
set_option maxRecDepth 100000 in
theorem e_223_45 (I : Nat → Nat → Int32) (J : Nat → Nat → Int64) (D : Nat → Nat → UInt64) (v1 : Int32) (v2 : Int32) (v3 : Int32) (v4 : Int32) (v5 : Int32) : ex (223, 45, [.ref 316, .int v1, .int v2, .int v3, .int v4, .int v5], [], mm I J D) = bif decide (v4 ≤ v2) then ex (223, 59, [.ref 316, .int v1, .int v2, .int v3, .int v4, dv], [], mm I J D) else ex (223, 51, [.ref 316, .int v1, .int v2, .int v3, .int v4, .int v5], [], mm I J D) := (ex_itr 3 _).trans rfl
set_option maxRecDepth 100000 in
theorem e_223_51 (I : Nat → Nat → Int32) (J : Nat → Nat → Int64) (D : Nat → Nat → UInt64) (v1 : Int32) (v2 : Int32) (v3 : Int32) (v4 : Int32) (v5 : Int32) : ex (223, 51, [.ref 316, .int v1, .int v2, .int v3, .int v4, .int v5], [], mm I J D) = bif decide (v3 ≤ v5) then ex (223, 59, [.ref 316, .int v1, .int v2, .int v3, .int v4, dv], [], mm I J D) else ex (223, 57, [dv, dv, dv, dv, dv, dv], [], mm I J D) := (ex_itr 3 _).trans rfl
set_option maxRecDepth 100000 in
theorem e_223_57 (I : Nat → Nat → Int32) (J : Nat → Nat → Int64) (D : Nat → Nat → UInt64)  : ex (223, 57, [dv, dv, dv, dv, dv, dv], [], mm I J D) = some (.inl (some (.int 0)), mm I J D) := (ex_itr 2 _).trans rfl
set_option maxRecDepth 100000 in
theorem e_223_59 (I : Nat → Nat → Int32) (J : Nat → Nat → Int64) (D : Nat → Nat → UInt64) (v1 : Int32) (v2 : Int32) (v3 : Int32) (v4 : Int32) : ex (223, 59, [.ref 316, .int v1, .int v2, .int v3, .int v4, dv], [], mm I J D) = ex (223, 3, [.ref 316, .int v1, .int v2, .int v3, .int (v4 + 1), dv], [], mm I J D) := (ex_itr 2 _).trans rfl
set_option maxRecDepth 100000 in
theorem e_223_65 (I : Nat → Nat → Int32) (J : Nat → Nat → Int64) (D : Nat → Nat → UInt64)  : ex (223, 65, [dv, dv, dv, dv, dv, dv], [], mm I J D) = some (.inl (some (.int 1)), mm I J D) := (ex_itr 2 _).trans rfl
/-! GlacierBookModel.setDate(III)I -/
set_option maxRecDepth 100000 in
theorem e_224_0 (I : Nat → Nat → Int32) (J : Nat → Nat → Int64) (D : Nat → Nat → UInt64) (v1 : Int32) (v2 : Int32) (v3 : Int32) : ex (224, 0, [.ref 316, .int v1, .int v2, .int v3, dv], [], mm I J D) = cal 224 7 [.ref 316, .int v1, .int v2, .int v3, dv] [.ref 316] (ex (199, 0, [.ref 316, .int v1, .int v2], [], mm I J D)) := (ex_itr 5 _).trans rfl
set_option maxRecDepth 100000 in
theorem e_224_7 (I : Nat → Nat → Int32) (J : Nat → Nat → Int64) (D : Nat → Nat → UInt64) (v1 : Int32) (v2 : Int32) (v3 : Int32) (s0 : Int32) : ex (224, 7, [.ref 316, .int v1, .int v2, .int v3, dv], [.int s0, .ref 316], mm I J D) = cal 224 11 [.ref 316, .int v1, .int v2, .int v3, dv] [] (ex (156, 0, [.ref 316, .int s0, .int 1], [], mm I J D)) := (ex_itr 2 _).trans rfl
set_option maxRecDepth 100000 in
theorem e_224_11 (I : Nat → Nat → Int32) (J : Nat → Nat → Int64) (D : Nat → Nat → UInt64) (v1 : Int32) (v2 : Int32) (v3 : Int32) (s0 : Int32) : ex (224, 11, [.ref 316, .int v1, .int v2, .int v3, dv], [.int s0], mm I J D) = bif decide (s0 = 0) then ex (224, 44, [dv, dv, dv, dv, dv], [], mm I J D) else ex (224, 14, [.ref 316, .int v1, .int v2, .int v3, dv], [], mm I J D) := (ex_itr 1 _).trans rfl
set_option maxRecDepth 100000 in
theorem e_224_14 (I : Nat → Nat → Int32) (J : Nat → Nat → Int64) (D : Nat → Nat → UInt64) (v1 : Int32) (v2 : Int32) (v3 : Int32) : ex (224, 14, [.ref 316, .int v1, .int v2, .int v3, dv], [], mm I J D) = cal 224 22 [.ref 316, .int v1, .int v2, .int v3, dv] [.ref 316] (ex (157, 0, [.int v3, .int 0, .int 99999], [], mm I J D)) := (ex_itr 5 _).trans rfl
set_option maxRecDepth 100000 in
theorem e_224_22 (I : Nat → Nat → Int32) (J : Nat → Nat → Int64) (D : Nat → Nat → UInt64) (v1 : Int32) (v2 : Int32) (v3 : Int32) (s0 : Int32) : ex (224, 22, [.ref 316, .int v1, .int v2, .int v3, dv], [.int s0, .ref 316], mm I J D) = cal 224 26 [.ref 316, .int v1, .int v2, .int v3, dv] [] (ex (156, 0, [.ref 316, .int s0, .int 2], [], mm I J D)) := (ex_itr 2 _).trans rfl
set_option maxRecDepth 100000 in
theorem e_224_26 (I : Nat → Nat → Int32) (J : Nat → Nat → Int64) (D : Nat → Nat → UInt64) (v1 : Int32) (v2 : Int32) (v3 : Int32) (s0 : Int32) : ex (224, 26, [.ref 316, .int v1, .int v2, .int v3, dv], [.int s0], mm I J D) = bif decide (s0 = 0) then ex (224, 44, [dv, dv, dv, dv, dv], [], mm I J D) else ex (224, 29, [.ref 316, .int v1, .int v2, .int v3, dv], [], mm I J D) := (ex_itr 1 _).trans rfl
set_option maxRecDepth 100000 in
theorem e_224_29 (I : Nat → Nat → Int32) (J : Nat → Nat → Int64) (D : Nat → Nat → UInt64) (v1 : Int32) (v2 : Int32) (v3 : Int32) : ex (224, 29, [.ref 316, .int v1, .int v2, .int v3, dv], [], mm I J D) = cal 224 37 [.ref 316, .int v1, .int v2, .int v3, dv] [.ref 316] (ex (223, 0, [.ref 316, .int v1, .int v2, .int v3, dv, dv], [], mm I J D)) := (ex_itr 6 _).trans rfl
set_option maxRecDepth 100000 in
theorem e_224_37 (I : Nat → Nat → Int32) (J : Nat → Nat → Int64) (D : Nat → Nat → UInt64) (v1 : Int32) (v2 : Int32) (v3 : Int32) (s0 : Int32) : ex (224, 37, [.ref 316, .int v1, .int v2, .int v3, dv], [.int s0, .ref 316], mm I J D) = cal 224 41 [.ref 316, .int v1, .int v2, .int v3, dv] [] (ex (156, 0, [.ref 316, .int s0, .int 3], [], mm I J D)) := (ex_itr 2 _).trans rfl
set_option maxRecDepth 100000 in
theorem e_224_41 (I : Nat → Nat → Int32) (J : Nat → Nat → Int64) (D : Nat → Nat → UInt64) (v1 : Int32) (v2 : Int32) (v3 : Int32) (s0 : Int32) : ex (224, 41, [.ref 316, .int v1, .int v2, .int v3, dv], [.int s0], mm I J D) = bif decide (s0 ≠ 0) then ex (224, 46, [.ref 316, .int v1, .int v2, .int v3, dv], [], mm I J D) else ex (224, 44, [dv, dv, dv, dv, dv], [], mm I J D) := (ex_itr 1 _).trans rfl
set_option maxRecDepth 100000 in
theorem e_224_44 (I : Nat → Nat → Int32) (J : Nat → Nat → Int64) (D : Nat → Nat → UInt64)  : ex (224, 44, [dv, dv, dv, dv, dv], [], mm I J D) = some (.inl (some (.int 0)), mm I J D) := (ex_itr 2 _).trans rfl
set_option maxRecDepth 100000 in
theorem e_224_46 (I : Nat → Nat → Int32) (J : Nat → Nat → Int64) (D : Nat → Nat → UInt64) (v1 : Int32) (v2 : Int32) (v3 : Int32) : ex (224, 46, [.ref 316, .int v1, .int v2, .int v3, dv], [], mm I J D) = cal 224 50 [.ref 316, .int v1, .int v2, .int v3, dv] [] (ex (161, 0, [.ref 316, dv, dv], [], mm I J D)) := (ex_itr 2 _).trans rfl
set_option maxRecDepth 100000 in
theorem e_224_50 (I : Nat → Nat → Int32) (J : Nat → Nat → Int64) (D : Nat → Nat → UInt64) (v1 : Int32) (v2 : Int32) (v3 : Int32) : ex (224, 50, [.ref 316, .int v1, .int v2, .int v3, dv], [], mm I J D) = cal 224 56 [.ref 316, .int v1, .int v2, .int v3, dv] [] (ex (222, 0, [.ref 316, .int v1, .int v2], [], mm I J D)) := (ex_itr 4 _).trans rfl
set_option maxRecDepth 100000 in
theorem e_224_56 (I : Nat → Nat → Int32) (J : Nat → Nat → Int64) (D : Nat → Nat → UInt64) (v1 : Int32) (v2 : Int32) (v3 : Int32) (s0 : Int32) : ex (224, 56, [.ref 316, .int v1, .int v2, .int v3, dv], [.int s0], mm I J D) = bif inb (((557 : Int32) + ((16 : Int32) * v1)) + v2) 850 then (some (.inl (some (.int s0)), mm (ups I 317 ((((557 : Int32) + ((16 : Int32) * v1)) + v2).toNatClampNeg) v3) J D)) else none := (ex_itr 14 _).trans rfl
/-! GlacierBookModel.noDate(II)I -/
set_option maxRecDepth 100000 in
theorem e_225_0 (I : Nat → Nat → Int32) (J : Nat → Nat → Int64) (D : Nat → Nat → UInt64) (v1 : Int32) (v2 : Int32) : ex (225, 0, [.ref 316, .int v1, .int v2, dv], [], mm I J D) = cal 225 7 [.ref 316, .int v1, .int v2, dv] [.ref 316] (ex (199, 0, [.ref 316, .int v1, .int v2], [], mm I J D)) := (ex_itr 5 _).trans rfl
set_option maxRecDepth 100000 in
theorem e_225_7 (I : Nat → Nat → Int32) (J : Nat → Nat → Int64) (D : Nat → Nat → UInt64) (v1 : Int32) (v2 : Int32) (s0 : Int32) : ex (225, 7, [.ref 316, .int v1, .int v2, dv], [.int s0, .ref 316], mm I J D) = cal 225 11 [.ref 316, .int v1, .int v2, dv] [] (ex (156, 0, [.ref 316, .int s0, .int 1], [], mm I J D)) := (ex_itr 2 _).trans rfl
set_option maxRecDepth 100000 in
theorem e_225_11 (I : Nat → Nat → Int32) (J : Nat → Nat → Int64) (D : Nat → Nat → UInt64) (v1 : Int32) (v2 : Int32) (s0 : Int32) : ex (225, 11, [.ref 316, .int v1, .int v2, dv], [.int s0], mm I J D) = bif decide (s0 = 0) then ex (225, 37, [dv, dv, dv, dv], [], mm I J D) else ex (225, 14, [.ref 316, .int v1, .int v2, dv], [], mm I J D) := (ex_itr 1 _).trans rfl
set_option maxRecDepth 100000 in
theorem e_225_14 (I : Nat → Nat → Int32) (J : Nat → Nat → Int64) (D : Nat → Nat → UInt64) (v1 : Int32) (v2 : Int32) : ex (225, 14, [.ref 316, .int v1, .int v2, dv], [], mm I J D) = cal 225 21 [.ref 316, .int v1, .int v2, dv] [.ref 316] (ex (222, 0, [.ref 316, .int v1, .int v2], [], mm I J D)) := (ex_itr 5 _).trans rfl
set_option maxRecDepth 100000 in
theorem e_225_21 (I : Nat → Nat → Int32) (J : Nat → Nat → Int64) (D : Nat → Nat → UInt64) (v1 : Int32) (v2 : Int32) (s0 : Int32) : ex (225, 21, [.ref 316, .int v1, .int v2, dv], [.int s0, .ref 316], mm I J D) = bif decide (s0 = (-1)) then ex (225, 29, [.ref 316, .int v1, .int v2, dv], [.ref 316], mm I J D) else ex (225, 25, [.ref 316, .int v1, .int v2, dv], [.ref 316], mm I J D) := (ex_itr 2 _).trans rfl
set_option maxRecDepth 100000 in
theorem e_225_25 (I : Nat → Nat → Int32) (J : Nat → Nat → Int64) (D : Nat → Nat → UInt64) (v1 : Int32) (v2 : Int32) : ex (225, 25, [.ref 316, .int v1, .int v2, dv], [.ref 316], mm I J D) = ex (225, 30, [.ref 316, .int v1, .int v2, dv], [.int 1, .ref 316], mm I J D) := (ex_itr 2 _).trans rfl
set_option maxRecDepth 100000 in
theorem e_225_29 (I : Nat → Nat → Int32) (J : Nat → Nat → Int64) (D : Nat → Nat → UInt64) (v1 : Int32) (v2 : Int32) : ex (225, 29, [.ref 316, .int v1, .int v2, dv], [.ref 316], mm I J D) = ex (225, 30, [.ref 316, .int v1, .int v2, dv], [.int 0, .ref 316], mm I J D) := (ex_itr 1 _).trans rfl
set_option maxRecDepth 100000 in
theorem e_225_30 (I : Nat → Nat → Int32) (J : Nat → Nat → Int64) (D : Nat → Nat → UInt64) (v1 : Int32) (v2 : Int32) (s0 : Int32) : ex (225, 30, [.ref 316, .int v1, .int v2, dv], [.int s0, .ref 316], mm I J D) = cal 225 34 [.ref 316, .int v1, .int v2, dv] [] (ex (156, 0, [.ref 316, .int s0, .int 2], [], mm I J D)) := (ex_itr 2 _).trans rfl
set_option maxRecDepth 100000 in
theorem e_225_34 (I : Nat → Nat → Int32) (J : Nat → Nat → Int64) (D : Nat → Nat → UInt64) (v1 : Int32) (v2 : Int32) (s0 : Int32) : ex (225, 34, [.ref 316, .int v1, .int v2, dv], [.int s0], mm I J D) = bif decide (s0 ≠ 0) then ex (225, 39, [.ref 316, .int v1, .int v2, dv], [], mm I J D) else ex (225, 37, [dv, dv, dv, dv], [], mm I J D) := (ex_itr 1 _).trans rfl
set_option maxRecDepth 100000 in
theorem e_225_37 (I : Nat → Nat → Int32) (J : Nat → Nat → Int64) (D : Nat → Nat → UInt64)  : ex (225, 37, [dv, dv, dv, dv], [], mm I J D) = some (.inl (some (.int 0)), mm I J D) := (ex_itr 2 _).trans rfl
set_option maxRecDepth 100000 in
theorem e_225_39 (I : Nat → Nat → Int32) (J : Nat → Nat → Int64) (D : Nat → Nat → UInt64) (v1 : Int32) (v2 : Int32) : ex (225, 39, [.ref 316, .int v1, .int v2, dv], [], mm I J D) = cal 225 43 [.ref 316, .int v1, .int v2, dv] [] (ex (161, 0, [.ref 316, dv, dv], [], mm I J D)) := (ex_itr 2 _).trans rfl
set_option maxRecDepth 100000 in
theorem e_225_43 (I : Nat → Nat → Int32) (J : Nat → Nat → Int64) (D : Nat → Nat → UInt64) (v1 : Int32) (v2 : Int32) : ex (225, 43, [.ref 316, .int v1, .int v2, dv], [], mm I J D) = cal 225 49 [.ref 316, .int v1, .int v2, dv] [] (ex (222, 0, [.ref 316, .int v1, .int v2], [], mm I J D)) := (ex_itr 4 _).trans rfl
set_option maxRecDepth 100000 in
theorem e_225_49 (I : Nat → Nat → Int32) (J : Nat → Nat → Int64) (D : Nat → Nat → UInt64) (v1 : Int32) (v2 : Int32) (s0 : Int32) : ex (225, 49, [.ref 316, .int v1, .int v2, dv], [.int s0], mm I J D) = bif inb (((557 : Int32) + ((16 : Int32) * v1)) + v2) 850 then (some (.inl (some (.int s0)), mm (ups I 317 ((((557 : Int32) + ((16 : Int32) * v1)) + v2).toNatClampNeg) (-1)) J D)) else none := (ex_itr 14 _).trans rfl
/-! GlacierBookModel.ageOf(II)I -/
set_option maxRecDepth 100000 in
theorem e_226_0 (I : Nat → Nat → Int32) (J : Nat → Nat → Int64) (D : Nat → Nat → UInt64) (v1 : Int32) (v2 : Int32) : ex (226, 0, [.ref 316, .int v1, .int v2, dv, dv, dv], [], mm I J D) = cal 226 7 [.ref 316, .int v1, .int v2, dv, dv, dv] [.ref 316] (ex (199, 0, [.ref 316, .int v1, .int v2], [], mm I J D)) := (ex_itr 5 _).trans rfl
set_option maxRecDepth 100000 in
theorem e_226_7 (I : Nat → Nat → Int32) (J : Nat → Nat → Int64) (D : Nat → Nat → UInt64) (v1 : Int32) (v2 : Int32) (s0 : Int32) : ex (226, 7, [.ref 316, .int v1, .int v2, dv, dv, dv], [.int s0, .ref 316], mm I J D) = cal 226 11 [.ref 316, .int v1, .int v2, dv, dv, dv] [] (ex (156, 0, [.ref 316, .int s0, .int 1], [], mm I J D)) := (ex_itr 2 _).trans rfl
set_option maxRecDepth 100000 in
theorem e_226_11 (I : Nat → Nat → Int32) (J : Nat → Nat → Int64) (D : Nat → Nat → UInt64) (v1 : Int32) (v2 : Int32) (s0 : Int32) : ex (226, 11, [.ref 316, .int v1, .int v2, dv, dv, dv], [.int s0], mm I J D) = bif decide (s0 ≠ 0) then ex (226, 16, [.ref 316, .int v1, .int v2, dv, dv, dv], [], mm I J D) else ex (226, 14, [dv, dv, dv, dv, dv, dv], [], mm I J D) := (ex_itr 1 _).trans rfl
set_option maxRecDepth 100000 in
theorem e_226_14 (I : Nat → Nat → Int32) (J : Nat → Nat → Int64) (D : Nat → Nat → UInt64)  : ex (226, 14, [dv, dv, dv, dv, dv, dv], [], mm I J D) = some (.inl (some (.int 0)), mm I J D) := (ex_itr 2 _).trans rfl
set_option maxRecDepth 100000 in
theorem e_226_16 (I : Nat → Nat → Int32) (J : Nat → Nat → Int64) (D : Nat → Nat → UInt64) (v1 : Int32) (v2 : Int32) : ex (226, 16, [.ref 316, .int v1, .int v2, dv, dv, dv], [], mm I J D) = ex (226, 18, [.ref 316, .int v1, .int v2, .int v2, dv, dv], [], mm I J D) := (ex_itr 2 _).trans rfl
set_option maxRecDepth 100000 in
theorem e_226_18 (I : Nat → Nat → Int32) (J : Nat → Nat → Int64) (D : Nat → Nat → UInt64) (v1 : Int32) (v2 : Int32) (v3 : Int32) : ex (226, 18, [.ref 316, .int v1, .int v2, .int v3, dv, dv], [], mm I J D) = bif decide (v3 < 0) then ex (226, 38, [.ref 316, .int v1, .int v2, .int v3, dv, dv], [], mm I J D) else ex (226, 22, [.ref 316, .int v1, .int v2, .int v3, dv, dv], [], mm I J D) := (ex_itr 2 _).trans rfl
set_option maxRecDepth 100000 in
theorem e_226_22 (I : Nat → Nat → Int32) (J : Nat → Nat → Int64) (D : Nat → Nat → UInt64) (v1 : Int32) (v2 : Int32) (v3 : Int32) : ex (226, 22, [.ref 316, .int v1, .int v2, .int v3, dv, dv], [], mm I J D) = cal 226 28 [.ref 316, .int v1, .int v2, .int v3, dv, dv] [] (ex (222, 0, [.ref 316, .int v1, .int v3], [], mm I J D)) := (ex_itr 4 _).trans rfl
set_option maxRecDepth 100000 in
theorem e_226_28 (I : Nat → Nat → Int32) (J : Nat → Nat → Int64) (D : Nat → Nat → UInt64) (v1 : Int32) (v2 : Int32) (v3 : Int32) (s0 : Int32) : ex (226, 28, [.ref 316, .int v1, .int v2, .int v3, dv, dv], [.int s0], mm I J D) = bif decide (s0 ≠ (-1)) then ex (226, 38, [.ref 316, .int v1, .int v2, .int v3, dv, dv], [], mm I J D) else ex (226, 32, [.ref 316, .int v1, .int v2, .int v3, dv, dv], [], mm I J D) := (ex_itr 2 _).trans rfl
set_option maxRecDepth 100000 in
theorem e_226_32 (I : Nat → Nat → Int32) (J : Nat → Nat → Int64) (D : Nat → Nat → UInt64) (v1 : Int32) (v2 : Int32) (v3 : Int32) : ex (226, 32, [.ref 316, .int v1, .int v2, .int v3, dv, dv], [], mm I J D) = ex (226, 18, [.ref 316, .int v1, .int v2, .int (v3 + (-1)), dv, dv], [], mm I J D) := (ex_itr 2 _).trans rfl
set_option maxRecDepth 100000 in
theorem e_226_38 (I : Nat → Nat → Int32) (J : Nat → Nat → Int64) (D : Nat → Nat → UInt64) (v1 : Int32) (v2 : Int32) (v3 : Int32) : ex (226, 38, [.ref 316, .int v1, .int v2, .int v3, dv, dv], [], mm I J D) = ex (226, 41, [.ref 316, .int v1, .int v2, .int v3, .int v2, dv], [], mm I J D) := (ex_itr 2 _).trans rfl
set_option maxRecDepth 100000 in
theorem e_226_41 (I : Nat → Nat → Int32) (J : Nat → Nat → Int64) (D : Nat → Nat → UInt64) (v1 : Int32) (v2 : Int32) (v3 : Int32) (v4 : Int32) : ex (226, 41, [.ref 316, .int v1, .int v2, .int v3, .int v4, dv], [], mm I J D) = bif inb ((491 : Int32) + v1) 850 then (bif decide ((I 317 ((491 : Int32) + v1).toNatClampNeg) ≤ v4) then ex (226, 73, [.ref 316, .int v1, .int v2, .int v3, .int v4, dv], [], mm I J D) else ex (226, 56, [.ref 316, .int v1, .int v2, .int v3, .int v4, dv], [], mm I J D)) else none := (ex_itr 8 _).trans rfl
set_option maxRecDepth 100000 in
theorem e_226_56 (I : Nat → Nat → Int32) (J : Nat → Nat → Int64) (D : Nat → Nat → UInt64) (v1 : Int32) (v2 : Int32) (v3 : Int32) (v4 : Int32) : ex (226, 56, [.ref 316, .int v1, .int v2, .int v3, .int v4, dv], [], mm I J D) = cal 226 63 [.ref 316, .int v1, .int v2, .int v3, .int v4, dv] [] (ex (222, 0, [.ref 316, .int v1, .int v4], [], mm I J D)) := (ex_itr 4 _).trans rfl
set_option maxRecDepth 100000 in
theorem e_226_63 (I : Nat → Nat → Int32) (J : Nat → Nat → Int64) (D : Nat → Nat → UInt64) (v1 : Int32) (v2 : Int32) (v3 : Int32) (v4 : Int32) (s0 : Int32) : ex (226, 63, [.ref 316, .int v1, .int v2, .int v3, .int v4, dv], [.int s0], mm I J D) = bif decide (s0 ≠ (-1)) then ex (226, 73, [.ref 316, .int v1, .int v2, .int v3, .int v4, dv], [], mm I J D) else ex (226, 67, [.ref 316, .int v1, .int v2, .int v3, .int v4, dv], [], mm I J D) := (ex_itr 2 _).trans rfl
set_option maxRecDepth 100000 in
theorem e_226_67 (I : Nat → Nat → Int32) (J : Nat → Nat → Int64) (D : Nat → Nat → UInt64) (v1 : Int32) (v2 : Int32) (v3 : Int32) (v4 : Int32) : ex (226, 67, [.ref 316, .int v1, .int v2, .int v3, .int v4, dv], [], mm I J D) = ex (226, 41, [.ref 316, .int v1, .int v2, .int v3, .int (v4 + 1), dv], [], mm I J D) := (ex_itr 2 _).trans rfl
set_option maxRecDepth 100000 in
theorem e_226_73 (I : Nat → Nat → Int32) (J : Nat → Nat → Int64) (D : Nat → Nat → UInt64) (v1 : Int32) (v2 : Int32) (v3 : Int32) (v4 : Int32) : ex (226, 73, [.ref 316, .int v1, .int v2, .int v3, .int v4, dv], [], mm I J D) = bif decide (v3 < 0) then ex (226, 97, [.ref 316, .int v1, .int v2, .int v3, .int v4, dv], [.ref 316], mm I J D) else ex (226, 78, [.ref 316, .int v1, .int v2, .int v3, .int v4, dv], [.ref 316], mm I J D) := (ex_itr 3 _).trans rfl
set_option maxRecDepth 100000 in
theorem e_226_78 (I : Nat → Nat → Int32) (J : Nat → Nat → Int64) (D : Nat → Nat → UInt64) (v1 : Int32) (v2 : Int32) (v3 : Int32) (v4 : Int32) : ex (226, 78, [.ref 316, .int v1, .int v2, .int v3, .int v4, dv], [.ref 316], mm I J D) = bif inb ((491 : Int32) + v1) 850 then (bif decide ((I 317 ((491 : Int32) + v1).toNatClampNeg) ≤ v4) then ex (226, 97, [.ref 316, .int v1, .int v2, .int v3, .int v4, dv], [.ref 316], mm I J D) else ex (226, 93, [.ref 316, .int v1, .int v2, .int v3, .int v4, dv], [.ref 316], mm I J D)) else none := (ex_itr 8 _).trans rfl
set_option maxRecDepth 100000 in
theorem e_226_93 (I : Nat → Nat → Int32) (J : Nat → Nat → Int64) (D : Nat → Nat → UInt64) (v1 : Int32) (v2 : Int32) (v3 : Int32) (v4 : Int32) : ex (226, 93, [.ref 316, .int v1, .int v2, .int v3, .int v4, dv], [.ref 316], mm I J D) = ex (226, 98, [.ref 316, .int v1, .int v2, .int v3, .int v4, dv], [.int 1, .ref 316], mm I J D) := (ex_itr 2 _).trans rfl
set_option maxRecDepth 100000 in
theorem e_226_97 (I : Nat → Nat → Int32) (J : Nat → Nat → Int64) (D : Nat → Nat → UInt64) (v1 : Int32) (v2 : Int32) (v3 : Int32) (v4 : Int32) : ex (226, 97, [.ref 316, .int v1, .int v2, .int v3, .int v4, dv], [.ref 316], mm I J D) = ex (226, 98, [.ref 316, .int v1, .int v2, .int v3, .int v4, dv], [.int 0, .ref 316], mm I J D) := (ex_itr 1 _).trans rfl
set_option maxRecDepth 100000 in
theorem e_226_98 (I : Nat → Nat → Int32) (J : Nat → Nat → Int64) (D : Nat → Nat → UInt64) (v1 : Int32) (v2 : Int32) (v3 : Int32) (v4 : Int32) (s0 : Int32) : ex (226, 98, [.ref 316, .int v1, .int v2, .int v3, .int v4, dv], [.int s0, .ref 316], mm I J D) = cal 226 102 [.ref 316, .int v1, .int v2, .int v3, .int v4, dv] [] (ex (156, 0, [.ref 316, .int s0, .int 2], [], mm I J D)) := (ex_itr 2 _).trans rfl
set_option maxRecDepth 100000 in
theorem e_226_102 (I : Nat → Nat → Int32) (J : Nat → Nat → Int64) (D : Nat → Nat → UInt64) (v1 : Int32) (v2 : Int32) (v3 : Int32) (v4 : Int32) (s0 : Int32) : ex (226, 102, [.ref 316, .int v1, .int v2, .int v3, .int v4, dv], [.int s0], mm I J D) = bif decide (s0 ≠ 0) then ex (226, 107, [.ref 316, .int v1, .int v2, .int v3, .int v4, dv], [], mm I J D) else ex (226, 105, [dv, dv, dv, dv, dv, dv], [], mm I J D) := (ex_itr 1 _).trans rfl
set_option maxRecDepth 100000 in
theorem e_226_105 (I : Nat → Nat → Int32) (J : Nat → Nat → Int64) (D : Nat → Nat → UInt64)  : ex (226, 105, [dv, dv, dv, dv, dv, dv], [], mm I J D) = some (.inl (some (.int 0)), mm I J D) := (ex_itr 2 _).trans rfl
set_option maxRecDepth 100000 in
theorem e_226_107 (I : Nat → Nat → Int32) (J : Nat → Nat → Int64) (D : Nat → Nat → UInt64) (v1 : Int32) (v2 : Int32) (v3 : Int32) (v4 : Int32) : ex (226, 107, [.ref 316, .int v1, .int v2, .int v3, .int v4, dv], [], mm I J D) = cal 226 113 [.ref 316, .int v1, .int v2, .int v3, .int v4, dv] [] (ex (222, 0, [.ref 316, .int v1, .int v3], [], mm I J D)) := (ex_itr 4 _).trans rfl
set_option maxRecDepth 100000 in
theorem e_226_113 (I : Nat → Nat → Int32) (J : Nat → Nat → Int64) (D : Nat → Nat → UInt64) (v1 : Int32) (v2 : Int32) (v3 : Int32) (v4 : Int32) (s0 : Int32) : ex (226, 113, [.ref 316, .int v1, .int v2, .int v3, .int v4, dv], [.int s0], mm I J D) = bif decide (v3 ≠ v4) then ex (226, 126, [.ref 316, .int v1, .int v2, .int v3, .int v4, .int s0], [], mm I J D) else ex (226, 121, [dv, dv, dv, dv, dv, .int s0], [], mm I J D) := (ex_itr 4 _).trans rfl
set_option maxRecDepth 100000 in
theorem e_226_121 (I : Nat → Nat → Int32) (J : Nat → Nat → Int64) (D : Nat → Nat → UInt64) (v5 : Int32) : ex (226, 121, [dv, dv, dv, dv, dv, .int v5], [], mm I J D) = ex (226, 148, [dv, dv, dv, dv, dv, dv], [.int v5], mm I J D) := (ex_itr 2 _).trans rfl
set_option maxRecDepth 100000 in
theorem e_226_126 (I : Nat → Nat → Int32) (J : Nat → Nat → Int64) (D : Nat → Nat → UInt64) (v1 : Int32) (v2 : Int32) (v3 : Int32) (v4 : Int32) (v5 : Int32) : ex (226, 126, [.ref 316, .int v1, .int v2, .int v3, .int v4, .int v5], [], mm I J D) = cal 226 135 [dv, dv, .int v2, .int v3, .int v4, .int v5] [.int v5] (ex (222, 0, [.ref 316, .int v1, .int v4], [], mm I J D)) := (ex_itr 5 _).trans rfl
set_option maxRecDepth 100000 in
theorem e_226_135 (I : Nat → Nat → Int32) (J : Nat → Nat → Int64) (D : Nat → Nat → UInt64) (v2 : Int32) (v3 : Int32) (v4 : Int32) (v5 : Int32) (s0 : Int32) (s1 : Int32) : ex (226, 135, [dv, dv, .int v2, .int v3, .int v4, .int v5], [.int s0, .int s1], mm I J D) = bif decide (¬ (v4 - v3) = 0) then (ex (226, 148, [dv, dv, dv, dv, dv, dv], [.int (s1 + (((s0 - v5) * (v2 - v3)) / (v4 - v3)))], mm I J D)) else none := (ex_itr 11 _).trans rfl
set_option maxRecDepth 100000 in
theorem e_226_148 (I : Nat → Nat → Int32) (J : Nat → Nat → Int64) (D : Nat → Nat → UInt64) (s0 : Int32) : ex (226, 148, [dv, dv, dv, dv, dv, dv], [.int s0], mm I J D) = some (.inl (some (.int s0)), mm I J D) := (ex_itr 1 _).trans rfl
/-! GlacierBookModel.isZone(I)Z -/
set_option maxRecDepth 100000 in
theorem e_227_0 (I : Nat → Nat → Int32) (J : Nat → Nat → Int64) (D : Nat → Nat → UInt64) (v0 : Int32) : ex (227, 0, [.int v0], [], mm I J D) = cal 227 7 [dv] [] (ex (157, 0, [.int v0, .int 0, .int 7], [], mm I J D)) := (ex_itr 4 _).trans rfl
set_option maxRecDepth 100000 in
theorem e_227_7 (I : Nat → Nat → Int32) (J : Nat → Nat → Int64) (D : Nat → Nat → UInt64) (s0 : Int32) : ex (227, 7, [dv], [.int s0], mm I J D) = bif decide (s0 = 0 ∨ s0 = 1) then (some (.inl (some (.int s0)), mm I J D)) else none := (ex_itr 1 _).trans rfl
/-! GlacierBookModel.isYear(I)Z -/
set_option maxRecDepth 100000 in
theorem e_228_0 (I : Nat → Nat → Int32) (J : Nat → Nat → Int64) (D : Nat → Nat → UInt64) (v0 : Int32) : ex (228, 0, [.int v0], [], mm I J D) = cal 228 7 [dv] [] (ex (157, 0, [.int v0, .int 0, .int 9], [], mm I J D)) := (ex_itr 4 _).trans rfl
set_option maxRecDepth 100000 in
theorem e_228_7 (I : Nat → Nat → Int32) (J : Nat → Nat → Int64) (D : Nat → Nat → UInt64) (s0 : Int32) : ex (228, 7, [dv], [.int s0], mm I J D) = bif decide (s0 = 0 ∨ s0 = 1) then (some (.inl (some (.int s0)), mm I J D)) else none := (ex_itr 1 _).trans rfl
/-! GlacierBookModel.stakeAt(II)I -/
set_option maxRecDepth 100000 in
theorem e_229_0 (I : Nat → Nat → Int32) (J : Nat → Nat → Int64) (D : Nat → Nat → UInt64) (v0 : Int32) (v1 : Int32) : ex (229, 0, [.int v0, .int v1], [], mm I J D) = some (.inl (some (.int (((8 : Int32) * v1) + v0))), mm I J D) := (ex_itr 6 _).trans rfl
/-! GlacierBookModel.has(II)Z -/
set_option maxRecDepth 100000 in
theorem e_230_0 (I : Nat → Nat → Int32) (J : Nat → Nat → Int64) (D : Nat → Nat → UInt64) (v1 : Int32) (v2 : Int32) : ex (230, 0, [.ref 316, .int v1, .int v2], [], mm I J D) = cal 230 12 [dv, dv, dv] [.int 640, .ref 317] (ex (229, 0, [.int v1, .int v2], [], mm I J D)) := (ex_itr 6 _).trans rfl
set_option maxRecDepth 100000 in
theorem e_230_12 (I : Nat → Nat → Int32) (J : Nat → Nat → Int64) (D : Nat → Nat → UInt64) (s0 : Int32) (s1 : Int32) : ex (230, 12, [dv, dv, dv], [.int s0, .int s1, .ref 317], mm I J D) = bif inb (s1 + s0) 850 then (bif decide ((I 317 (s1 + s0).toNatClampNeg) ≠ 1) then ex (230, 22, [dv, dv, dv], [], mm I J D) else ex (230, 18, [dv, dv, dv], [], mm I J D)) else none := (ex_itr 4 _).trans rfl
set_option maxRecDepth 100000 in
theorem e_230_18 (I : Nat → Nat → Int32) (J : Nat → Nat → Int64) (D : Nat → Nat → UInt64)  : ex (230, 18, [dv, dv, dv], [], mm I J D) = ex (230, 23, [dv, dv, dv], [.int 1], mm I J D) := (ex_itr 2 _).trans rfl
set_option maxRecDepth 100000 in
theorem e_230_22 (I : Nat → Nat → Int32) (J : Nat → Nat → Int64) (D : Nat → Nat → UInt64)  : ex (230, 22, [dv, dv, dv], [], mm I J D) = ex (230, 23, [dv, dv, dv], [.int 0], mm I J D) := (ex_itr 1 _).trans rfl
set_option maxRecDepth 100000 in
theorem e_230_23 (I : Nat → Nat → Int32) (J : Nat → Nat → Int64) (D : Nat → Nat → UInt64) (s0 : Int32) : ex (230, 23, [dv, dv, dv], [.int s0], mm I J D) = bif decide (s0 = 0 ∨ s0 = 1) then (some (.inl (some (.int s0)), mm I J D)) else none := (ex_itr 1 _).trans rfl
/-! GlacierBookModel.readings(I)I -/
set_option maxRecDepth 100000 in
theorem e_231_0 (I : Nat → Nat → Int32) (J : Nat → Nat → Int64) (D : Nat → Nat → UInt64) (v1 : Int32) : ex (231, 0, [.ref 316, .int v1, dv, dv], [], mm I J D) = ex (231, 4, [.ref 316, .int v1, .int 0, .int 0], [], mm I J D) := (ex_itr 4 _).trans rfl
set_option maxRecDepth 100000 in
theorem e_231_4 (I : Nat → Nat → Int32) (J : Nat → Nat → Int64) (D : Nat → Nat → UInt64) (v1 : Int32) (v2 : Int32) (v3 : Int32) : ex (231, 4, [.ref 316, .int v1, .int v2, .int v3], [], mm I J D) = bif decide (8 ≤ v3) then ex (231, 33, [dv, dv, .int v2, dv], [], mm I J D) else ex (231, 10, [.ref 316, .int v1, .int v2, .int v3], [], mm I J D) := (ex_itr 3 _).trans rfl
set_option maxRecDepth 100000 in
theorem e_231_10 (I : Nat → Nat → Int32) (J : Nat → Nat → Int64) (D : Nat → Nat → UInt64) (v1 : Int32) (v2 : Int32) (v3 : Int32) : ex (231, 10, [.ref 316, .int v1, .int v2, .int v3], [], mm I J D) = cal 231 23 [.ref 316, .int v1, dv, .int v3] [.int 640, .ref 317, .int v2] (ex (229, 0, [.int v3, .int v1], [], mm I J D)) := (ex_itr 7 _).trans rfl
set_option maxRecDepth 100000 in
theorem e_231_23 (I : Nat → Nat → Int32) (J : Nat → Nat → Int64) (D : Nat → Nat → UInt64) (v1 : Int32) (v3 : Int32) (s0 : Int32) (s1 : Int32) (s3 : Int32) : ex (231, 23, [.ref 316, .int v1, dv, .int v3], [.int s0, .int s1, .ref 317, .int s3], mm I J D) = bif inb (s1 + s0) 850 then (ex (231, 4, [.ref 316, .int v1, .int (s3 + (I 317 (s1 + s0).toNatClampNeg)), .int (v3 + 1)], [], mm I J D)) else none := (ex_itr 6 _).trans rfl
set_option maxRecDepth 100000 in
theorem e_231_33 (I : Nat → Nat → Int32) (J : Nat → Nat → Int64) (D : Nat → Nat → UInt64) (v2 : Int32) : ex (231, 33, [dv, dv, .int v2, dv], [], mm I J D) = some (.inl (some (.int v2)), mm I J D) := (ex_itr 2 _).trans rfl
/-! GlacierBookModel.setZone(III)I -/
set_option maxRecDepth 100000 in
theorem e_232_0 (I : Nat → Nat → Int32) (J : Nat → Nat → Int64) (D : Nat → Nat → UInt64) (v1 : Int32) (v2 : Int32) (v3 : Int32) : ex (232, 0, [.ref 316, .int v1, .int v2, .int v3, dv], [], mm I J D) = cal 232 5 [.ref 316, .int v1, .int v2, .int v3, dv] [.ref 316] (ex (227, 0, [.int v1], [], mm I J D)) := (ex_itr 3 _).trans rfl
set_option maxRecDepth 100000 in
theorem e_232_5 (I : Nat → Nat → Int32) (J : Nat → Nat → Int64) (D : Nat → Nat → UInt64) (v1 : Int32) (v2 : Int32) (v3 : Int32) (s0 : Int32) : ex (232, 5, [.ref 316, .int v1, .int v2, .int v3, dv], [.int s0, .ref 316], mm I J D) = cal 232 9 [.ref 316, .int v1, .int v2, .int v3, dv] [] (ex (156, 0, [.ref 316, .int s0, .int 1], [], mm I J D)) := (ex_itr 2 _).trans rfl
set_option maxRecDepth 100000 in
theorem e_232_9 (I : Nat → Nat → Int32) (J : Nat → Nat → Int64) (D : Nat → Nat → UInt64) (v1 : Int32) (v2 : Int32) (v3 : Int32) (s0 : Int32) : ex (232, 9, [.ref 316, .int v1, .int v2, .int v3, dv], [.int s0], mm I J D) = bif decide (s0 = 0) then ex (232, 44, [dv, dv, dv, dv, dv], [], mm I J D) else ex (232, 12, [.ref 316, .int v1, .int v2, .int v3, dv], [], mm I J D) := (ex_itr 1 _).trans rfl
set_option maxRecDepth 100000 in
theorem e_232_12 (I : Nat → Nat → Int32) (J : Nat → Nat → Int64) (D : Nat → Nat → UInt64) (v1 : Int32) (v2 : Int32) (v3 : Int32) : ex (232, 12, [.ref 316, .int v1, .int v2, .int v3, dv], [], mm I J D) = cal 232 20 [.ref 316, .int v1, .int v2, .int v3, dv] [.ref 316] (ex (157, 0, [.int v2, .int 1, .int 99], [], mm I J D)) := (ex_itr 5 _).trans rfl
set_option maxRecDepth 100000 in
theorem e_232_20 (I : Nat → Nat → Int32) (J : Nat → Nat → Int64) (D : Nat → Nat → UInt64) (v1 : Int32) (v2 : Int32) (v3 : Int32) (s0 : Int32) : ex (232, 20, [.ref 316, .int v1, .int v2, .int v3, dv], [.int s0, .ref 316], mm I J D) = bif decide (s0 = 0) then ex (232, 36, [.ref 316, .int v1, .int v2, .int v3, dv], [.ref 316], mm I J D) else ex (232, 23, [.ref 316, .int v1, .int v2, .int v3, dv], [.ref 316], mm I J D) := (ex_itr 1 _).trans rfl
set_option maxRecDepth 100000 in
theorem e_232_23 (I : Nat → Nat → Int32) (J : Nat → Nat → Int64) (D : Nat → Nat → UInt64) (v1 : Int32) (v2 : Int32) (v3 : Int32) : ex (232, 23, [.ref 316, .int v1, .int v2, .int v3, dv], [.ref 316], mm I J D) = cal 232 29 [.ref 316, .int v1, .int v2, .int v3, dv] [.ref 316] (ex (157, 0, [.int v3, .int 0, .int 3], [], mm I J D)) := (ex_itr 4 _).trans rfl
set_option maxRecDepth 100000 in
theorem e_232_29 (I : Nat → Nat → Int32) (J : Nat → Nat → Int64) (D : Nat → Nat → UInt64) (v1 : Int32) (v2 : Int32) (v3 : Int32) (s0 : Int32) : ex (232, 29, [.ref 316, .int v1, .int v2, .int v3, dv], [.int s0, .ref 316], mm I J D) = bif decide (s0 = 0) then ex (232, 36, [.ref 316, .int v1, .int v2, .int v3, dv], [.ref 316], mm I J D) else ex (232, 32, [.ref 316, .int v1, .int v2, .int v3, dv], [.ref 316], mm I J D) := (ex_itr 1 _).trans rfl
set_option maxRecDepth 100000 in
theorem e_232_32 (I : Nat → Nat → Int32) (J : Nat → Nat → Int64) (D : Nat → Nat → UInt64) (v1 : Int32) (v2 : Int32) (v3 : Int32) : ex (232, 32, [.ref 316, .int v1, .int v2, .int v3, dv], [.ref 316], mm I J D) = ex (232, 37, [.ref 316, .int v1, .int v2, .int v3, dv], [.int 1, .ref 316], mm I J D) := (ex_itr 2 _).trans rfl
set_option maxRecDepth 100000 in
theorem e_232_36 (I : Nat → Nat → Int32) (J : Nat → Nat → Int64) (D : Nat → Nat → UInt64) (v1 : Int32) (v2 : Int32) (v3 : Int32) : ex (232, 36, [.ref 316, .int v1, .int v2, .int v3, dv], [.ref 316], mm I J D) = ex (232, 37, [.ref 316, .int v1, .int v2, .int v3, dv], [.int 0, .ref 316], mm I J D) := (ex_itr 1 _).trans rfl
set_option maxRecDepth 100000 in
theorem e_232_37 (I : Nat → Nat → Int32) (J : Nat → Nat → Int64) (D : Nat → Nat → UInt64) (v1 : Int32) (v2 : Int32) (v3 : Int32) (s0 : Int32) : ex (232, 37, [.ref 316, .int v1, .int v2, .int v3, dv], [.int s0, .ref 316], mm I J D) = cal 232 41 [.ref 316, .int v1, .int v2, .int v3, dv] [] (ex (156, 0, [.ref 316, .int s0, .int 2], [], mm I J D)) := (ex_itr 2 _).trans rfl
set_option maxRecDepth 100000 in
theorem e_232_41 (I : Nat → Nat → Int32) (J : Nat → Nat → Int64) (D : Nat → Nat → UInt64) (v1 : Int32) (v2 : Int32) (v3 : Int32) (s0 : Int32) : ex (232, 41, [.ref 316, .int v1, .int v2, .int v3, dv], [.int s0], mm I J D) = bif decide (s0 ≠ 0) then ex (232, 46, [.ref 316, .int v1, .int v2, .int v3, dv], [], mm I J D) else ex (232, 44, [dv, dv, dv, dv, dv], [], mm I J D) := (ex_itr 1 _).trans rfl
set_option maxRecDepth 100000 in
theorem e_232_44 (I : Nat → Nat → Int32) (J : Nat → Nat → Int64) (D : Nat → Nat → UInt64)  : ex (232, 44, [dv, dv, dv, dv, dv], [], mm I J D) = some (.inl (some (.int 0)), mm I J D) := (ex_itr 2 _).trans rfl
set_option maxRecDepth 100000 in
theorem e_232_46 (I : Nat → Nat → Int32) (J : Nat → Nat → Int64) (D : Nat → Nat → UInt64) (v1 : Int32) (v2 : Int32) (v3 : Int32) : ex (232, 46, [.ref 316, .int v1, .int v2, .int v3, dv], [], mm I J D) = cal 232 50 [.ref 316, .int v1, .int v2, .int v3, dv] [] (ex (161, 0, [.ref 316, dv, dv], [], mm I J D)) := (ex_itr 2 _).trans rfl
set_option maxRecDepth 100000 in
theorem e_232_50 (I : Nat → Nat → Int32) (J : Nat → Nat → Int64) (D : Nat → Nat → UInt64) (v1 : Int32) (v2 : Int32) (v3 : Int32) : ex (232, 50, [.ref 316, .int v1, .int v2, .int v3, dv], [], mm I J D) = bif inb ((624 : Int32) + v1) 850 then (bif inb ((624 : Int32) + v1) 850 then (bif inb ((632 : Int32) + v1) 850 then (some (.inl (some (.int (I 317 ((624 : Int32) + v1).toNatClampNeg))), mm (ups (ups I 317 (((624 : Int32) + v1).toNatClampNeg) v2) 317 (((632 : Int32) + v1).toNatClampNeg) v3) J D)) else none) else none) else none := (ex_itr 23 _).trans rfl
/-! GlacierBookModel.read(III)I -/
set_option maxRecDepth 100000 in
theorem e_233_0 (I : Nat → Nat → Int32) (J : Nat → Nat → Int64) (D : Nat → Nat → UInt64) (v1 : Int32) (v2 : Int32) (v3 : Int32) : ex (233, 0, [.ref 316, .int v1, .int v2, .int v3], [], mm I J D) = cal 233 5 [.ref 316, .int v1, .int v2, .int v3] [.ref 316] (ex (227, 0, [.int v1], [], mm I J D)) := (ex_itr 3 _).trans rfl
set_option maxRecDepth 100000 in
theorem e_233_5 (I : Nat → Nat → Int32) (J : Nat → Nat → Int64) (D : Nat → Nat → UInt64) (v1 : Int32) (v2 : Int32) (v3 : Int32) (s0 : Int32) : ex (233, 5, [.ref 316, .int v1, .int v2, .int v3], [.int s0, .ref 316], mm I J D) = bif decide (s0 = 0) then ex (233, 19, [.ref 316, .int v1, .int v2, .int v3], [.ref 316], mm I J D) else ex (233, 8, [.ref 316, .int v1, .int v2, .int v3], [.ref 316], mm I J D) := (ex_itr 1 _).trans rfl
set_option maxRecDepth 100000 in
theorem e_233_8 (I : Nat → Nat → Int32) (J : Nat → Nat → Int64) (D : Nat → Nat → UInt64) (v1 : Int32) (v2 : Int32) (v3 : Int32) : ex (233, 8, [.ref 316, .int v1, .int v2, .int v3], [.ref 316], mm I J D) = cal 233 12 [.ref 316, .int v1, .int v2, .int v3] [.ref 316] (ex (228, 0, [.int v2], [], mm I J D)) := (ex_itr 2 _).trans rfl
set_option maxRecDepth 100000 in
theorem e_233_12 (I : Nat → Nat → Int32) (J : Nat → Nat → Int64) (D : Nat → Nat → UInt64) (v1 : Int32) (v2 : Int32) (v3 : Int32) (s0 : Int32) : ex (233, 12, [.ref 316, .int v1, .int v2, .int v3], [.int s0, .ref 316], mm I J D) = bif decide (s0 = 0) then ex (233, 19, [.ref 316, .int v1, .int v2, .int v3], [.ref 316], mm I J D) else ex (233, 15, [.ref 316, .int v1, .int v2, .int v3], [.ref 316], mm I J D) := (ex_itr 1 _).trans rfl
set_option maxRecDepth 100000 in
theorem e_233_15 (I : Nat → Nat → Int32) (J : Nat → Nat → Int64) (D : Nat → Nat → UInt64) (v1 : Int32) (v2 : Int32) (v3 : Int32) : ex (233, 15, [.ref 316, .int v1, .int v2, .int v3], [.ref 316], mm I J D) = ex (233, 20, [.ref 316, .int v1, .int v2, .int v3], [.int 1, .ref 316], mm I J D) := (ex_itr 2 _).trans rfl
set_option maxRecDepth 100000 in
theorem e_233_19 (I : Nat → Nat → Int32) (J : Nat → Nat → Int64) (D : Nat → Nat → UInt64) (v1 : Int32) (v2 : Int32) (v3 : Int32) : ex (233, 19, [.ref 316, .int v1, .int v2, .int v3], [.ref 316], mm I J D) = ex (233, 20, [.ref 316, .int v1, .int v2, .int v3], [.int 0, .ref 316], mm I J D) := (ex_itr 1 _).trans rfl
set_option maxRecDepth 100000 in
theorem e_233_20 (I : Nat → Nat → Int32) (J : Nat → Nat → Int64) (D : Nat → Nat → UInt64) (v1 : Int32) (v2 : Int32) (v3 : Int32) (s0 : Int32) : ex (233, 20, [.ref 316, .int v1, .int v2, .int v3], [.int s0, .ref 316], mm I J D) = cal 233 24 [.ref 316, .int v1, .int v2, .int v3] [] (ex (156, 0, [.ref 316, .int s0, .int 1], [], mm I J D)) := (ex_itr 2 _).trans rfl
set_option maxRecDepth 100000 in
theorem e_233_24 (I : Nat → Nat → Int32) (J : Nat → Nat → Int64) (D : Nat → Nat → UInt64) (v1 : Int32) (v2 : Int32) (v3 : Int32) (s0 : Int32) : ex (233, 24, [.ref 316, .int v1, .int v2, .int v3], [.int s0], mm I J D) = bif decide (s0 = 0) then ex (233, 45, [dv, dv, dv, dv], [], mm I J D) else ex (233, 27, [.ref 316, .int v1, .int v2, .int v3], [], mm I J D) := (ex_itr 1 _).trans rfl
set_option maxRecDepth 100000 in
theorem e_233_27 (I : Nat → Nat → Int32) (J : Nat → Nat → Int64) (D : Nat → Nat → UInt64) (v1 : Int32) (v2 : Int32) (v3 : Int32) : ex (233, 27, [.ref 316, .int v1, .int v2, .int v3], [], mm I J D) = cal 233 38 [.ref 316, .int v1, .int v2, .int v3] [.ref 316] (ex (157, 0, [.int v3, .int (-999), .int 999], [], mm I J D)) := (ex_itr 5 _).trans rfl
set_option maxRecDepth 100000 in
theorem e_233_38 (I : Nat → Nat → Int32) (J : Nat → Nat → Int64) (D : Nat → Nat → UInt64) (v1 : Int32) (v2 : Int32) (v3 : Int32) (s0 : Int32) : ex (233, 38, [.ref 316, .int v1, .int v2, .int v3], [.int s0, .ref 316], mm I J D) = cal 233 42 [.ref 316, .int v1, .int v2, .int v3] [] (ex (156, 0, [.ref 316, .int s0, .int 2], [], mm I J D)) := (ex_itr 2 _).trans rfl
set_option maxRecDepth 100000 in
theorem e_233_42 (I : Nat → Nat → Int32) (J : Nat → Nat → Int64) (D : Nat → Nat → UInt64) (v1 : Int32) (v2 : Int32) (v3 : Int32) (s0 : Int32) : ex (233, 42, [.ref 316, .int v1, .int v2, .int v3], [.int s0], mm I J D) = bif decide (s0 ≠ 0) then ex (233, 47, [.ref 316, .int v1, .int v2, .int v3], [], mm I J D) else ex (233, 45, [dv, dv, dv, dv], [], mm I J D) := (ex_itr 1 _).trans rfl
set_option maxRecDepth 100000 in
theorem e_233_45 (I : Nat → Nat → Int32) (J : Nat → Nat → Int64) (D : Nat → Nat → UInt64)  : ex (233, 45, [dv, dv, dv, dv], [], mm I J D) = some (.inl (some (.int 0)), mm I J D) := (ex_itr 2 _).trans rfl
set_option maxRecDepth 100000 in
theorem e_233_47 (I : Nat → Nat → Int32) (J : Nat → Nat → Int64) (D : Nat → Nat → UInt64) (v1 : Int32) (v2 : Int32) (v3 : Int32) : ex (233, 47, [.ref 316, .int v1, .int v2, .int v3], [], mm I J D) = cal 233 51 [.ref 316, .int v1, .int v2, .int v3] [] (ex (161, 0, [.ref 316, dv, dv], [], mm I J D)) := (ex_itr 2 _).trans rfl
set_option maxRecDepth 100000 in
theorem e_233_51 (I : Nat → Nat → Int32) (J : Nat → Nat → Int64) (D : Nat → Nat → UInt64) (v1 : Int32) (v2 : Int32) (v3 : Int32) : ex (233, 51, [.ref 316, .int v1, .int v2, .int v3], [], mm I J D) = cal 233 63 [.ref 316, .int v1, .int v2, .int v3] [.int 640, .ref 317] (ex (229, 0, [.int v1, .int v2], [], mm I J D)) := (ex_itr 6 _).trans rfl
set_option maxRecDepth 100000 in
theorem e_233_63 (I : Nat → Nat → Int32) (J : Nat → Nat → Int64) (D : Nat → Nat → UInt64) (v1 : Int32) (v2 : Int32) (v3 : Int32) (s0 : Int32) (s1 : Int32) : ex (233, 63, [.ref 316, .int v1, .int v2, .int v3], [.int s0, .int s1, .ref 317], mm I J D) = bif inb (s1 + s0) 850 then (cal 233 78 [.ref 316, dv, .int v2, .int v3] [.int 720, .ref 317] (ex (229, 0, [.int v1, .int v2], [], mm (ups I 317 ((s1 + s0).toNatClampNeg) 1) J D))) else none := (ex_itr 9 _).trans rfl
set_option maxRecDepth 100000 in
theorem e_233_78 (I : Nat → Nat → Int32) (J : Nat → Nat → Int64) (D : Nat → Nat → UInt64) (v2 : Int32) (v3 : Int32) (s0 : Int32) (s1 : Int32) : ex (233, 78, [.ref 316, dv, .int v2, .int v3], [.int s0, .int s1, .ref 317], mm I J D) = bif inb (s1 + s0) 850 then (cal 233 86 [dv, dv, dv, dv] [] (ex (231, 0, [.ref 316, .int v2, dv, dv], [], mm (ups I 317 ((s1 + s0).toNatClampNeg) v3) J D))) else none := (ex_itr 6 _).trans rfl
set_option maxRecDepth 100000 in
theorem e_233_86 (I : Nat → Nat → Int32) (J : Nat → Nat → Int64) (D : Nat → Nat → UInt64) (s0 : Int32) : ex (233, 86, [dv, dv, dv, dv], [.int s0], mm I J D) = some (.inl (some (.int s0)), mm I J D) := (ex_itr 1 _).trans rfl
/-! GlacierBookModel.noReading(II)I -/
set_option maxRecDepth 100000 in
theorem e_234_0 (I : Nat → Nat → Int32) (J : Nat → Nat → Int64) (D : Nat → Nat → UInt64) (v1 : Int32) (v2 : Int32) : ex (234, 0, [.ref 316, .int v1, .int v2], [], mm I J D) = cal 234 5 [.ref 316, .int v1, .int v2] [.ref 316] (ex (227, 0, [.int v1], [], mm I J D)) := (ex_itr 3 _).trans rfl
set_option maxRecDepth 100000 in
theorem e_234_5 (I : Nat → Nat → Int32) (J : Nat → Nat → Int64) (D : Nat → Nat → UInt64) (v1 : Int32) (v2 : Int32) (s0 : Int32) : ex (234, 5, [.ref 316, .int v1, .int v2], [.int s0, .ref 316], mm I J D) = bif decide (s0 = 0) then ex (234, 19, [.ref 316, .int v1, .int v2], [.ref 316], mm I J D) else ex (234, 8, [.ref 316, .int v1, .int v2], [.ref 316], mm I J D) := (ex_itr 1 _).trans rfl
set_option maxRecDepth 100000 in
theorem e_234_8 (I : Nat → Nat → Int32) (J : Nat → Nat → Int64) (D : Nat → Nat → UInt64) (v1 : Int32) (v2 : Int32) : ex (234, 8, [.ref 316, .int v1, .int v2], [.ref 316], mm I J D) = cal 234 12 [.ref 316, .int v1, .int v2] [.ref 316] (ex (228, 0, [.int v2], [], mm I J D)) := (ex_itr 2 _).trans rfl
set_option maxRecDepth 100000 in
theorem e_234_12 (I : Nat → Nat → Int32) (J : Nat → Nat → Int64) (D : Nat → Nat → UInt64) (v1 : Int32) (v2 : Int32) (s0 : Int32) : ex (234, 12, [.ref 316, .int v1, .int v2], [.int s0, .ref 316], mm I J D) = bif decide (s0 = 0) then ex (234, 19, [.ref 316, .int v1, .int v2], [.ref 316], mm I J D) else ex (234, 15, [.ref 316, .int v1, .int v2], [.ref 316], mm I J D) := (ex_itr 1 _).trans rfl
set_option maxRecDepth 100000 in
theorem e_234_15 (I : Nat → Nat → Int32) (J : Nat → Nat → Int64) (D : Nat → Nat → UInt64) (v1 : Int32) (v2 : Int32) : ex (234, 15, [.ref 316, .int v1, .int v2], [.ref 316], mm I J D) = ex (234, 20, [.ref 316, .int v1, .int v2], [.int 1, .ref 316], mm I J D) := (ex_itr 2 _).trans rfl
set_option maxRecDepth 100000 in
theorem e_234_19 (I : Nat → Nat → Int32) (J : Nat → Nat → Int64) (D : Nat → Nat → UInt64) (v1 : Int32) (v2 : Int32) : ex (234, 19, [.ref 316, .int v1, .int v2], [.ref 316], mm I J D) = ex (234, 20, [.ref 316, .int v1, .int v2], [.int 0, .ref 316], mm I J D) := (ex_itr 1 _).trans rfl
set_option maxRecDepth 100000 in
theorem e_234_20 (I : Nat → Nat → Int32) (J : Nat → Nat → Int64) (D : Nat → Nat → UInt64) (v1 : Int32) (v2 : Int32) (s0 : Int32) : ex (234, 20, [.ref 316, .int v1, .int v2], [.int s0, .ref 316], mm I J D) = cal 234 24 [.ref 316, .int v1, .int v2] [] (ex (156, 0, [.ref 316, .int s0, .int 1], [], mm I J D)) := (ex_itr 2 _).trans rfl
set_option maxRecDepth 100000 in
theorem e_234_24 (I : Nat → Nat → Int32) (J : Nat → Nat → Int64) (D : Nat → Nat → UInt64) (v1 : Int32) (v2 : Int32) (s0 : Int32) : ex (234, 24, [.ref 316, .int v1, .int v2], [.int s0], mm I J D) = bif decide (s0 = 0) then ex (234, 41, [dv, dv, dv], [], mm I J D) else ex (234, 27, [.ref 316, .int v1, .int v2], [], mm I J D) := (ex_itr 1 _).trans rfl
set_option maxRecDepth 100000 in
theorem e_234_27 (I : Nat → Nat → Int32) (J : Nat → Nat → Int64) (D : Nat → Nat → UInt64) (v1 : Int32) (v2 : Int32) : ex (234, 27, [.ref 316, .int v1, .int v2], [], mm I J D) = cal 234 34 [.ref 316, .int v1, .int v2] [.ref 316] (ex (230, 0, [.ref 316, .int v1, .int v2], [], mm I J D)) := (ex_itr 5 _).trans rfl
set_option maxRecDepth 100000 in
theorem e_234_34 (I : Nat → Nat → Int32) (J : Nat → Nat → Int64) (D : Nat → Nat → UInt64) (v1 : Int32) (v2 : Int32) (s0 : Int32) : ex (234, 34, [.ref 316, .int v1, .int v2], [.int s0, .ref 316], mm I J D) = cal 234 38 [.ref 316, .int v1, .int v2] [] (ex (156, 0, [.ref 316, .int s0, .int 2], [], mm I J D)) := (ex_itr 2 _).trans rfl
set_option maxRecDepth 100000 in
theorem e_234_38 (I : Nat → Nat → Int32) (J : Nat → Nat → Int64) (D : Nat → Nat → UInt64) (v1 : Int32) (v2 : Int32) (s0 : Int32) : ex (234, 38, [.ref 316, .int v1, .int v2], [.int s0], mm I J D) = bif decide (s0 ≠ 0) then ex (234, 43, [.ref 316, .int v1, .int v2], [], mm I J D) else ex (234, 41, [dv, dv, dv], [], mm I J D) := (ex_itr 1 _).trans rfl
set_option maxRecDepth 100000 in
theorem e_234_41 (I : Nat → Nat → Int32) (J : Nat → Nat → Int64) (D : Nat → Nat → UInt64)  : ex (234, 41, [dv, dv, dv], [], mm I J D) = some (.inl (some (.int 0)), mm I J D) := (ex_itr 2 _).trans rfl
set_option maxRecDepth 100000 in
theorem e_234_43 (I : Nat → Nat → Int32) (J : Nat → Nat → Int64) (D : Nat → Nat → UInt64) (v1 : Int32) (v2 : Int32) : ex (234, 43, [.ref 316, .int v1, .int v2], [], mm I J D) = cal 234 47 [.ref 316, .int v1, .int v2] [] (ex (161, 0, [.ref 316, dv, dv], [], mm I J D)) := (ex_itr 2 _).trans rfl
set_option maxRecDepth 100000 in
theorem e_234_47 (I : Nat → Nat → Int32) (J : Nat → Nat → Int64) (D : Nat → Nat → UInt64) (v1 : Int32) (v2 : Int32) : ex (234, 47, [.ref 316, .int v1, .int v2], [], mm I J D) = cal 234 59 [.ref 316, .int v1, .int v2] [.int 640, .ref 317] (ex (229, 0, [.int v1, .int v2], [], mm I J D)) := (ex_itr 6 _).trans rfl
set_option maxRecDepth 100000 in
theorem e_234_59 (I : Nat → Nat → Int32) (J : Nat → Nat → Int64) (D : Nat → Nat → UInt64) (v1 : Int32) (v2 : Int32) (s0 : Int32) (s1 : Int32) : ex (234, 59, [.ref 316, .int v1, .int v2], [.int s0, .int s1, .ref 317], mm I J D) = bif inb (s1 + s0) 850 then (cal 234 74 [dv, dv, dv] [.int 720, .ref 317] (ex (229, 0, [.int v1, .int v2], [], mm (ups I 317 ((s1 + s0).toNatClampNeg) 0) J D))) else none := (ex_itr 9 _).trans rfl
set_option maxRecDepth 100000 in
theorem e_234_74 (I : Nat → Nat → Int32) (J : Nat → Nat → Int64) (D : Nat → Nat → UInt64) (s0 : Int32) (s1 : Int32) : ex (234, 74, [dv, dv, dv], [.int s0, .int s1, .ref 317], mm I J D) = bif inb (s1 + s0) 850 then (some (.inl (some (.int (I 317 (s1 + s0).toNatClampNeg))), mm I J D)) else none := (ex_itr 3 _).trans rfl
/-! GlacierBookModel.nearest(III)I -/
set_option maxRecDepth 100000 in
theorem e_235_0 (I : Nat → Nat → Int32) (J : Nat → Nat → Int64) (D : Nat → Nat → UInt64) (v1 : Int32) (v2 : Int32) (v3 : Int32) : ex (235, 0, [.ref 316, .int v1, .int v2, .int v3, dv], [], mm I J D) = ex (235, 3, [.ref 316, dv, .int v2, .int v3, .int v1], [], mm I J D) := (ex_itr 2 _).trans rfl
set_option maxRecDepth 100000 in
theorem e_235_3 (I : Nat → Nat → Int32) (J : Nat → Nat → Int64) (D : Nat → Nat → UInt64) (v2 : Int32) (v3 : Int32) (v4 : Int32) : ex (235, 3, [.ref 316, dv, .int v2, .int v3, .int v4], [], mm I J D) = cal 235 8 [.ref 316, dv, .int v2, .int v3, .int v4] [] (ex (227, 0, [.int v4], [], mm I J D)) := (ex_itr 2 _).trans rfl
set_option maxRecDepth 100000 in
theorem e_235_8 (I : Nat → Nat → Int32) (J : Nat → Nat → Int64) (D : Nat → Nat → UInt64) (v2 : Int32) (v3 : Int32) (v4 : Int32) (s0 : Int32) : ex (235, 8, [.ref 316, dv, .int v2, .int v3, .int v4], [.int s0], mm I J D) = bif decide (s0 = 0) then ex (235, 33, [dv, dv, dv, dv, dv], [], mm I J D) else ex (235, 11, [.ref 316, dv, .int v2, .int v3, .int v4], [], mm I J D) := (ex_itr 1 _).trans rfl
set_option maxRecDepth 100000 in
theorem e_235_11 (I : Nat → Nat → Int32) (J : Nat → Nat → Int64) (D : Nat → Nat → UInt64) (v2 : Int32) (v3 : Int32) (v4 : Int32) : ex (235, 11, [.ref 316, dv, .int v2, .int v3, .int v4], [], mm I J D) = cal 235 18 [.ref 316, dv, .int v2, .int v3, .int v4] [] (ex (230, 0, [.ref 316, .int v4, .int v2], [], mm I J D)) := (ex_itr 4 _).trans rfl
set_option maxRecDepth 100000 in
theorem e_235_18 (I : Nat → Nat → Int32) (J : Nat → Nat → Int64) (D : Nat → Nat → UInt64) (v2 : Int32) (v3 : Int32) (v4 : Int32) (s0 : Int32) : ex (235, 18, [.ref 316, dv, .int v2, .int v3, .int v4], [.int s0], mm I J D) = bif decide (s0 = 0) then ex (235, 24, [.ref 316, dv, .int v2, .int v3, .int v4], [], mm I J D) else ex (235, 21, [dv, dv, dv, dv, .int v4], [], mm I J D) := (ex_itr 1 _).trans rfl
set_option maxRecDepth 100000 in
theorem e_235_21 (I : Nat → Nat → Int32) (J : Nat → Nat → Int64) (D : Nat → Nat → UInt64) (v4 : Int32) : ex (235, 21, [dv, dv, dv, dv, .int v4], [], mm I J D) = some (.inl (some (.int v4)), mm I J D) := (ex_itr 2 _).trans rfl
set_option maxRecDepth 100000 in
theorem e_235_24 (I : Nat → Nat → Int32) (J : Nat → Nat → Int64) (D : Nat → Nat → UInt64) (v2 : Int32) (v3 : Int32) (v4 : Int32) : ex (235, 24, [.ref 316, dv, .int v2, .int v3, .int v4], [], mm I J D) = ex (235, 3, [.ref 316, dv, .int v2, .int v3, .int (v4 + v3)], [], mm I J D) := (ex_itr 5 _).trans rfl
set_option maxRecDepth 100000 in
theorem e_235_33 (I : Nat → Nat → Int32) (J : Nat → Nat → Int64) (D : Nat → Nat → UInt64)  : ex (235, 33, [dv, dv, dv, dv, dv], [], mm I J D) = some (.inl (some (.int (-1))), mm I J D) := (ex_itr 2 _).trans rfl
/-! GlacierBookModel.reading(II)I -/
set_option maxRecDepth 100000 in
theorem e_236_0 (I : Nat → Nat → Int32) (J : Nat → Nat → Int64) (D : Nat → Nat → UInt64) (v1 : Int32) (v2 : Int32) : ex (236, 0, [.ref 316, .int v1, .int v2], [], mm I J D) = cal 236 12 [dv, dv, dv] [.int 720, .ref 317] (ex (229, 0, [.int v1, .int v2], [], mm I J D)) := (ex_itr 6 _).trans rfl
set_option maxRecDepth 100000 in
theorem e_236_12 (I : Nat → Nat → Int32) (J : Nat → Nat → Int64) (D : Nat → Nat → UInt64) (s0 : Int32) (s1 : Int32) : ex (236, 12, [dv, dv, dv], [.int s0, .int s1, .ref 317], mm I J D) = bif inb (s1 + s0) 850 then (some (.inl (some (.int (I 317 (s1 + s0).toNatClampNeg))), mm I J D)) else none := (ex_itr 3 _).trans rfl
/-! GlacierBookModel.filled(II)I -/
set_option maxRecDepth 100000 in
theorem e_237_0 (I : Nat → Nat → Int32) (J : Nat → Nat → Int64) (D : Nat → Nat → UInt64) (v1 : Int32) (v2 : Int32) : ex (237, 0, [.ref 316, .int v1, .int v2, dv, dv, dv], [], mm I J D) = cal 237 7 [.ref 316, .int v1, .int v2, dv, dv, dv] [] (ex (235, 0, [.ref 316, .int v1, .int v2, .int (-1), dv], [], mm I J D)) := (ex_itr 5 _).trans rfl
set_option maxRecDepth 100000 in
theorem e_237_7 (I : Nat → Nat → Int32) (J : Nat → Nat → Int64) (D : Nat → Nat → UInt64) (v1 : Int32) (v2 : Int32) (s0 : Int32) : ex (237, 7, [.ref 316, .int v1, .int v2, dv, dv, dv], [.int s0], mm I J D) = cal 237 15 [.ref 316, .int v1, .int v2, .int s0, dv, dv] [] (ex (235, 0, [.ref 316, .int v1, .int v2, .int 1, dv], [], mm I J D)) := (ex_itr 6 _).trans rfl
set_option maxRecDepth 100000 in
theorem e_237_15 (I : Nat → Nat → Int32) (J : Nat → Nat → Int64) (D : Nat → Nat → UInt64) (v1 : Int32) (v2 : Int32) (v3 : Int32) (s0 : Int32) : ex (237, 15, [.ref 316, .int v1, .int v2, .int v3, dv, dv], [.int s0], mm I J D) = bif decide (v3 = (-1)) then ex (237, 28, [.ref 316, dv, .int v2, .int v3, .int s0, dv], [], mm I J D) else ex (237, 22, [.ref 316, .int v1, .int v2, .int v3, .int s0, dv], [], mm I J D) := (ex_itr 4 _).trans rfl
set_option maxRecDepth 100000 in
theorem e_237_22 (I : Nat → Nat → Int32) (J : Nat → Nat → Int64) (D : Nat → Nat → UInt64) (v1 : Int32) (v2 : Int32) (v3 : Int32) (v4 : Int32) : ex (237, 22, [.ref 316, .int v1, .int v2, .int v3, .int v4, dv], [], mm I J D) = bif decide (v4 ≠ (-1)) then ex (237, 45, [.ref 316, .int v1, .int v2, .int v3, .int v4, dv], [], mm I J D) else ex (237, 28, [.ref 316, dv, .int v2, .int v3, .int v4, dv], [], mm I J D) := (ex_itr 3 _).trans rfl
set_option maxRecDepth 100000 in
theorem e_237_28 (I : Nat → Nat → Int32) (J : Nat → Nat → Int64) (D : Nat → Nat → UInt64) (v2 : Int32) (v3 : Int32) (v4 : Int32) : ex (237, 28, [.ref 316, dv, .int v2, .int v3, .int v4, dv], [], mm I J D) = bif decide (v3 ≠ (-1)) then ex (237, 39, [dv, dv, .int v2, .int v3, dv, dv], [.ref 316], mm I J D) else ex (237, 34, [dv, dv, .int v2, dv, .int v4, dv], [.ref 316], mm I J D) := (ex_itr 4 _).trans rfl
set_option maxRecDepth 100000 in
theorem e_237_34 (I : Nat → Nat → Int32) (J : Nat → Nat → Int64) (D : Nat → Nat → UInt64) (v2 : Int32) (v4 : Int32) : ex (237, 34, [dv, dv, .int v2, dv, .int v4, dv], [.ref 316], mm I J D) = ex (237, 40, [dv, dv, .int v2, dv, dv, dv], [.int v4, .ref 316], mm I J D) := (ex_itr 2 _).trans rfl
set_option maxRecDepth 100000 in
theorem e_237_39 (I : Nat → Nat → Int32) (J : Nat → Nat → Int64) (D : Nat → Nat → UInt64) (v2 : Int32) (v3 : Int32) : ex (237, 39, [dv, dv, .int v2, .int v3, dv, dv], [.ref 316], mm I J D) = ex (237, 40, [dv, dv, .int v2, dv, dv, dv], [.int v3, .ref 316], mm I J D) := (ex_itr 1 _).trans rfl
set_option maxRecDepth 100000 in
theorem e_237_40 (I : Nat → Nat → Int32) (J : Nat → Nat → Int64) (D : Nat → Nat → UInt64) (v2 : Int32) (s0 : Int32) : ex (237, 40, [dv, dv, .int v2, dv, dv, dv], [.int s0, .ref 316], mm I J D) = cal 237 44 [dv, dv, dv, dv, dv, dv] [] (ex (236, 0, [.ref 316, .int s0, .int v2], [], mm I J D)) := (ex_itr 2 _).trans rfl
set_option maxRecDepth 100000 in
theorem e_237_44 (I : Nat → Nat → Int32) (J : Nat → Nat → Int64) (D : Nat → Nat → UInt64) (s0 : Int32) : ex (237, 44, [dv, dv, dv, dv, dv, dv], [.int s0], mm I J D) = some (.inl (some (.int s0)), mm I J D) := (ex_itr 1 _).trans rfl
set_option maxRecDepth 100000 in
theorem e_237_45 (I : Nat → Nat → Int32) (J : Nat → Nat → Int64) (D : Nat → Nat → UInt64) (v1 : Int32) (v2 : Int32) (v3 : Int32) (v4 : Int32) : ex (237, 45, [.ref 316, .int v1, .int v2, .int v3, .int v4, dv], [], mm I J D) = cal 237 51 [.ref 316, .int v1, .int v2, .int v3, .int v4, dv] [] (ex (236, 0, [.ref 316, .int v3, .int v2], [], mm I J D)) := (ex_itr 4 _).trans rfl
set_option maxRecDepth 100000 in
theorem e_237_51 (I : Nat → Nat → Int32) (J : Nat → Nat → Int64) (D : Nat → Nat → UInt64) (v1 : Int32) (v2 : Int32) (v3 : Int32) (v4 : Int32) (s0 : Int32) : ex (237, 51, [.ref 316, .int v1, .int v2, .int v3, .int v4, dv], [.int s0], mm I J D) = bif decide (v3 ≠ v4) then ex (237, 64, [.ref 316, .int v1, .int v2, .int v3, .int v4, .int s0], [], mm I J D) else ex (237, 59, [dv, dv, dv, dv, dv, .int s0], [], mm I J D) := (ex_itr 4 _).trans rfl
set_option maxRecDepth 100000 in
theorem e_237_59 (I : Nat → Nat → Int32) (J : Nat → Nat → Int64) (D : Nat → Nat → UInt64) (v5 : Int32) : ex (237, 59, [dv, dv, dv, dv, dv, .int v5], [], mm I J D) = ex (237, 88, [dv, dv, dv, dv, dv, dv], [.int v5], mm I J D) := (ex_itr 2 _).trans rfl
set_option maxRecDepth 100000 in
theorem e_237_64 (I : Nat → Nat → Int32) (J : Nat → Nat → Int64) (D : Nat → Nat → UInt64) (v1 : Int32) (v2 : Int32) (v3 : Int32) (v4 : Int32) (v5 : Int32) : ex (237, 64, [.ref 316, .int v1, .int v2, .int v3, .int v4, .int v5], [], mm I J D) = cal 237 73 [dv, .int v1, dv, .int v3, .int v4, .int v5] [.int v5] (ex (236, 0, [.ref 316, .int v4, .int v2], [], mm I J D)) := (ex_itr 5 _).trans rfl
set_option maxRecDepth 100000 in
theorem e_237_73 (I : Nat → Nat → Int32) (J : Nat → Nat → Int64) (D : Nat → Nat → UInt64) (v1 : Int32) (v3 : Int32) (v4 : Int32) (v5 : Int32) (s0 : Int32) (s1 : Int32) : ex (237, 73, [dv, .int v1, dv, .int v3, .int v4, .int v5], [.int s0, .int s1], mm I J D) = cal 237 87 [dv, dv, dv, dv, dv, dv] [.int s1] (ex (159, 0, [.int ((s0 - v5) * (v1 - v3)), .int (v4 - v3)], [], mm I J D)) := (ex_itr 10 _).trans rfl
set_option maxRecDepth 100000 in
theorem e_237_87 (I : Nat → Nat → Int32) (J : Nat → Nat → Int64) (D : Nat → Nat → UInt64) (s0 : Int32) (s1 : Int32) : ex (237, 87, [dv, dv, dv, dv, dv, dv], [.int s0, .int s1], mm I J D) = ex (237, 88, [dv, dv, dv, dv, dv, dv], [.int (s1 + s0)], mm I J D) := (ex_itr 1 _).trans rfl
set_option maxRecDepth 100000 in
theorem e_237_88 (I : Nat → Nat → Int32) (J : Nat → Nat → Int64) (D : Nat → Nat → UInt64) (s0 : Int32) : ex (237, 88, [dv, dv, dv, dv, dv, dv], [.int s0], mm I J D) = some (.inl (some (.int s0)), mm I J D) := (ex_itr 1 _).trans rfl
/-! GlacierBookModel.isRead(II)Z -/
set_option maxRecDepth 100000 in
theorem e_238_0 (I : Nat → Nat → Int32) (J : Nat → Nat → Int64) (D : Nat → Nat → UInt64) (v1 : Int32) (v2 : Int32) : ex (238, 0, [.ref 316, .int v1, .int v2], [], mm I J D) = cal 238 5 [.ref 316, dv, .int v2] [.ref 316] (ex (227, 0, [.int v1], [], mm I J D)) := (ex_itr 3 _).trans rfl
set_option maxRecDepth 100000 in
theorem e_238_5 (I : Nat → Nat → Int32) (J : Nat → Nat → Int64) (D : Nat → Nat → UInt64) (v2 : Int32) (s0 : Int32) : ex (238, 5, [.ref 316, dv, .int v2], [.int s0, .ref 316], mm I J D) = bif decide (s0 = 0) then ex (238, 19, [.ref 316, dv, .int v2], [.ref 316], mm I J D) else ex (238, 8, [.ref 316, dv, .int v2], [.ref 316], mm I J D) := (ex_itr 1 _).trans rfl
set_option maxRecDepth 100000 in
theorem e_238_8 (I : Nat → Nat → Int32) (J : Nat → Nat → Int64) (D : Nat → Nat → UInt64) (v2 : Int32) : ex (238, 8, [.ref 316, dv, .int v2], [.ref 316], mm I J D) = cal 238 12 [.ref 316, dv, .int v2] [.ref 316] (ex (228, 0, [.int v2], [], mm I J D)) := (ex_itr 2 _).trans rfl
set_option maxRecDepth 100000 in
theorem e_238_12 (I : Nat → Nat → Int32) (J : Nat → Nat → Int64) (D : Nat → Nat → UInt64) (v2 : Int32) (s0 : Int32) : ex (238, 12, [.ref 316, dv, .int v2], [.int s0, .ref 316], mm I J D) = bif decide (s0 = 0) then ex (238, 19, [.ref 316, dv, .int v2], [.ref 316], mm I J D) else ex (238, 15, [.ref 316, dv, .int v2], [.ref 316], mm I J D) := (ex_itr 1 _).trans rfl
set_option maxRecDepth 100000 in
theorem e_238_15 (I : Nat → Nat → Int32) (J : Nat → Nat → Int64) (D : Nat → Nat → UInt64) (v2 : Int32) : ex (238, 15, [.ref 316, dv, .int v2], [.ref 316], mm I J D) = ex (238, 20, [.ref 316, dv, .int v2], [.int 1, .ref 316], mm I J D) := (ex_itr 2 _).trans rfl
set_option maxRecDepth 100000 in
theorem e_238_19 (I : Nat → Nat → Int32) (J : Nat → Nat → Int64) (D : Nat → Nat → UInt64) (v2 : Int32) : ex (238, 19, [.ref 316, dv, .int v2], [.ref 316], mm I J D) = ex (238, 20, [.ref 316, dv, .int v2], [.int 0, .ref 316], mm I J D) := (ex_itr 1 _).trans rfl
set_option maxRecDepth 100000 in
theorem e_238_20 (I : Nat → Nat → Int32) (J : Nat → Nat → Int64) (D : Nat → Nat → UInt64) (v2 : Int32) (s0 : Int32) : ex (238, 20, [.ref 316, dv, .int v2], [.int s0, .ref 316], mm I J D) = cal 238 24 [.ref 316, dv, .int v2] [] (ex (156, 0, [.ref 316, .int s0, .int 1], [], mm I J D)) := (ex_itr 2 _).trans rfl
set_option maxRecDepth 100000 in
theorem e_238_24 (I : Nat → Nat → Int32) (J : Nat → Nat → Int64) (D : Nat → Nat → UInt64) (v2 : Int32) (s0 : Int32) : ex (238, 24, [.ref 316, dv, .int v2], [.int s0], mm I J D) = bif decide (s0 = 0) then ex (238, 52, [dv, dv, dv], [], mm I J D) else ex (238, 27, [.ref 316, dv, .int v2], [], mm I J D) := (ex_itr 1 _).trans rfl
set_option maxRecDepth 100000 in
theorem e_238_27 (I : Nat → Nat → Int32) (J : Nat → Nat → Int64) (D : Nat → Nat → UInt64) (v2 : Int32) : ex (238, 27, [.ref 316, dv, .int v2], [], mm I J D) = cal 238 33 [dv, dv, dv] [.ref 316] (ex (231, 0, [.ref 316, .int v2, dv, dv], [], mm I J D)) := (ex_itr 4 _).trans rfl
set_option maxRecDepth 100000 in
theorem e_238_33 (I : Nat → Nat → Int32) (J : Nat → Nat → Int64) (D : Nat → Nat → UInt64) (s0 : Int32) : ex (238, 33, [dv, dv, dv], [.int s0, .ref 316], mm I J D) = bif decide (s0 ≤ 0) then ex (238, 40, [dv, dv, dv], [.ref 316], mm I J D) else ex (238, 36, [dv, dv, dv], [.ref 316], mm I J D) := (ex_itr 1 _).trans rfl
set_option maxRecDepth 100000 in
theorem e_238_36 (I : Nat → Nat → Int32) (J : Nat → Nat → Int64) (D : Nat → Nat → UInt64)  : ex (238, 36, [dv, dv, dv], [.ref 316], mm I J D) = ex (238, 41, [dv, dv, dv], [.int 1, .ref 316], mm I J D) := (ex_itr 2 _).trans rfl
set_option maxRecDepth 100000 in
theorem e_238_40 (I : Nat → Nat → Int32) (J : Nat → Nat → Int64) (D : Nat → Nat → UInt64)  : ex (238, 40, [dv, dv, dv], [.ref 316], mm I J D) = ex (238, 41, [dv, dv, dv], [.int 0, .ref 316], mm I J D) := (ex_itr 1 _).trans rfl
set_option maxRecDepth 100000 in
theorem e_238_41 (I : Nat → Nat → Int32) (J : Nat → Nat → Int64) (D : Nat → Nat → UInt64) (s0 : Int32) : ex (238, 41, [dv, dv, dv], [.int s0, .ref 316], mm I J D) = cal 238 45 [dv, dv, dv] [] (ex (156, 0, [.ref 316, .int s0, .int 2], [], mm I J D)) := (ex_itr 2 _).trans rfl
set_option maxRecDepth 100000 in
theorem e_238_45 (I : Nat → Nat → Int32) (J : Nat → Nat → Int64) (D : Nat → Nat → UInt64) (s0 : Int32) : ex (238, 45, [dv, dv, dv], [.int s0], mm I J D) = bif decide (s0 = 0) then ex (238, 52, [dv, dv, dv], [], mm I J D) else ex (238, 48, [dv, dv, dv], [], mm I J D) := (ex_itr 1 _).trans rfl
set_option maxRecDepth 100000 in
theorem e_238_48 (I : Nat → Nat → Int32) (J : Nat → Nat → Int64) (D : Nat → Nat → UInt64)  : ex (238, 48, [dv, dv, dv], [], mm I J D) = ex (238, 53, [dv, dv, dv], [.int 1], mm I J D) := (ex_itr 2 _).trans rfl
set_option maxRecDepth 100000 in
theorem e_238_52 (I : Nat → Nat → Int32) (J : Nat → Nat → Int64) (D : Nat → Nat → UInt64)  : ex (238, 52, [dv, dv, dv], [], mm I J D) = ex (238, 53, [dv, dv, dv], [.int 0], mm I J D) := (ex_itr 1 _).trans rfl
set_option maxRecDepth 100000 in
theorem e_238_53 (I : Nat → Nat → Int32) (J : Nat → Nat → Int64) (D : Nat → Nat → UInt64) (s0 : Int32) : ex (238, 53, [dv, dv, dv], [.int s0], mm I J D) = bif decide (s0 = 0 ∨ s0 = 1) then (some (.inl (some (.int s0)), mm I J D)) else none := (ex_itr 1 _).trans rfl
/-! GlacierBookModel.valueOf(II)I -/
set_option maxRecDepth 100000 in
theorem e_239_0 (I : Nat → Nat → Int32) (J : Nat → Nat → Int64) (D : Nat → Nat → UInt64) (v1 : Int32) (v2 : Int32) : ex (239, 0, [.ref 316, .int v1, .int v2], [], mm I J D) = cal 239 6 [.ref 316, .int v1, .int v2] [] (ex (238, 0, [.ref 316, .int v1, .int v2], [], mm I J D)) := (ex_itr 4 _).trans rfl
set_option maxRecDepth 100000 in
theorem e_239_6 (I : Nat → Nat → Int32) (J : Nat → Nat → Int64) (D : Nat → Nat → UInt64) (v1 : Int32) (v2 : Int32) (s0 : Int32) : ex (239, 6, [.ref 316, .int v1, .int v2], [.int s0], mm I J D) = bif decide (s0 = 0) then ex (239, 18, [dv, dv, dv], [], mm I J D) else ex (239, 9, [.ref 316, .int v1, .int v2], [], mm I J D) := (ex_itr 1 _).trans rfl
set_option maxRecDepth 100000 in
theorem e_239_9 (I : Nat → Nat → Int32) (J : Nat → Nat → Int64) (D : Nat → Nat → UInt64) (v1 : Int32) (v2 : Int32) : ex (239, 9, [.ref 316, .int v1, .int v2], [], mm I J D) = cal 239 15 [dv, dv, dv] [] (ex (237, 0, [.ref 316, .int v1, .int v2, dv, dv, dv], [], mm I J D)) := (ex_itr 4 _).trans rfl
set_option maxRecDepth 100000 in
theorem e_239_15 (I : Nat → Nat → Int32) (J : Nat → Nat → Int64) (D : Nat → Nat → UInt64) (s0 : Int32) : ex (239, 15, [dv, dv, dv], [.int s0], mm I J D) = ex (239, 19, [dv, dv, dv], [.int s0], mm I J D) := (ex_itr 1 _).trans rfl
set_option maxRecDepth 100000 in
theorem e_239_18 (I : Nat → Nat → Int32) (J : Nat → Nat → Int64) (D : Nat → Nat → UInt64)  : ex (239, 18, [dv, dv, dv], [], mm I J D) = ex (239, 19, [dv, dv, dv], [.int 0], mm I J D) := (ex_itr 1 _).trans rfl
set_option maxRecDepth 100000 in
theorem e_239_19 (I : Nat → Nat → Int32) (J : Nat → Nat → Int64) (D : Nat → Nat → UInt64) (s0 : Int32) : ex (239, 19, [dv, dv, dv], [.int s0], mm I J D) = some (.inl (some (.int s0)), mm I J D) := (ex_itr 1 _).trans rfl
/-! GlacierBookModel.reason(II)I -/
set_option maxRecDepth 100000 in
theorem e_240_0 (I : Nat → Nat → Int32) (J : Nat → Nat → Int64) (D : Nat → Nat → UInt64) (v1 : Int32) (v2 : Int32) : ex (240, 0, [.ref 316, .int v1, .int v2, dv, dv], [], mm I J D) = cal 240 6 [.ref 316, .int v1, .int v2, dv, dv] [] (ex (238, 0, [.ref 316, .int v1, .int v2], [], mm I J D)) := (ex_itr 4 _).trans rfl
set_option maxRecDepth 100000 in
theorem e_240_6 (I : Nat → Nat → Int32) (J : Nat → Nat → Int64) (D : Nat → Nat → UInt64) (v1 : Int32) (v2 : Int32) (s0 : Int32) : ex (240, 6, [.ref 316, .int v1, .int v2, dv, dv], [.int s0], mm I J D) = bif decide (s0 ≠ 0) then ex (240, 11, [.ref 316, .int v1, .int v2, dv, dv], [], mm I J D) else ex (240, 9, [dv, dv, dv, dv, dv], [], mm I J D) := (ex_itr 1 _).trans rfl
set_option maxRecDepth 100000 in
theorem e_240_9 (I : Nat → Nat → Int32) (J : Nat → Nat → Int64) (D : Nat → Nat → UInt64)  : ex (240, 9, [dv, dv, dv, dv, dv], [], mm I J D) = some (.inl (some (.int 0)), mm I J D) := (ex_itr 2 _).trans rfl
set_option maxRecDepth 100000 in
theorem e_240_11 (I : Nat → Nat → Int32) (J : Nat → Nat → Int64) (D : Nat → Nat → UInt64) (v1 : Int32) (v2 : Int32) : ex (240, 11, [.ref 316, .int v1, .int v2, dv, dv], [], mm I J D) = cal 240 18 [.ref 316, .int v1, .int v2, dv, dv] [] (ex (235, 0, [.ref 316, .int v1, .int v2, .int (-1), dv], [], mm I J D)) := (ex_itr 5 _).trans rfl
set_option maxRecDepth 100000 in
theorem e_240_18 (I : Nat → Nat → Int32) (J : Nat → Nat → Int64) (D : Nat → Nat → UInt64) (v1 : Int32) (v2 : Int32) (s0 : Int32) : ex (240, 18, [.ref 316, .int v1, .int v2, dv, dv], [.int s0], mm I J D) = bif decide (s0 = (-1)) then ex (240, 26, [.ref 316, .int v1, .int v2, dv, dv], [], mm I J D) else ex (240, 22, [.ref 316, .int v1, .int v2, dv, dv], [], mm I J D) := (ex_itr 2 _).trans rfl
set_option maxRecDepth 100000 in
theorem e_240_22 (I : Nat → Nat → Int32) (J : Nat → Nat → Int64) (D : Nat → Nat → UInt64) (v1 : Int32) (v2 : Int32) : ex (240, 22, [.ref 316, .int v1, .int v2, dv, dv], [], mm I J D) = ex (240, 27, [.ref 316, .int v1, .int v2, dv, dv], [.int 1], mm I J D) := (ex_itr 2 _).trans rfl
set_option maxRecDepth 100000 in
theorem e_240_26 (I : Nat → Nat → Int32) (J : Nat → Nat → Int64) (D : Nat → Nat → UInt64) (v1 : Int32) (v2 : Int32) : ex (240, 26, [.ref 316, .int v1, .int v2, dv, dv], [], mm I J D) = ex (240, 27, [.ref 316, .int v1, .int v2, dv, dv], [.int 0], mm I J D) := (ex_itr 1 _).trans rfl
set_option maxRecDepth 100000 in
theorem e_240_27 (I : Nat → Nat → Int32) (J : Nat → Nat → Int64) (D : Nat → Nat → UInt64) (v1 : Int32) (v2 : Int32) (s0 : Int32) : ex (240, 27, [.ref 316, .int v1, .int v2, dv, dv], [.int s0], mm I J D) = cal 240 35 [.ref 316, .int v1, .int v2, .int s0, dv] [] (ex (235, 0, [.ref 316, .int v1, .int v2, .int 1, dv], [], mm I J D)) := (ex_itr 6 _).trans rfl
set_option maxRecDepth 100000 in
theorem e_240_35 (I : Nat → Nat → Int32) (J : Nat → Nat → Int64) (D : Nat → Nat → UInt64) (v1 : Int32) (v2 : Int32) (v3 : Int32) (s0 : Int32) : ex (240, 35, [.ref 316, .int v1, .int v2, .int v3, dv], [.int s0], mm I J D) = bif decide (s0 = (-1)) then ex (240, 43, [.ref 316, .int v1, .int v2, .int v3, dv], [], mm I J D) else ex (240, 39, [.ref 316, .int v1, .int v2, .int v3, dv], [], mm I J D) := (ex_itr 2 _).trans rfl
set_option maxRecDepth 100000 in
theorem e_240_39 (I : Nat → Nat → Int32) (J : Nat → Nat → Int64) (D : Nat → Nat → UInt64) (v1 : Int32) (v2 : Int32) (v3 : Int32) : ex (240, 39, [.ref 316, .int v1, .int v2, .int v3, dv], [], mm I J D) = ex (240, 44, [.ref 316, .int v1, .int v2, .int v3, dv], [.int 1], mm I J D) := (ex_itr 2 _).trans rfl
set_option maxRecDepth 100000 in
theorem e_240_43 (I : Nat → Nat → Int32) (J : Nat → Nat → Int64) (D : Nat → Nat → UInt64) (v1 : Int32) (v2 : Int32) (v3 : Int32) : ex (240, 43, [.ref 316, .int v1, .int v2, .int v3, dv], [], mm I J D) = ex (240, 44, [.ref 316, .int v1, .int v2, .int v3, dv], [.int 0], mm I J D) := (ex_itr 1 _).trans rfl
set_option maxRecDepth 100000 in
theorem e_240_44 (I : Nat → Nat → Int32) (J : Nat → Nat → Int64) (D : Nat → Nat → UInt64) (v1 : Int32) (v2 : Int32) (v3 : Int32) (s0 : Int32) : ex (240, 44, [.ref 316, .int v1, .int v2, .int v3, dv], [.int s0], mm I J D) = cal 240 52 [dv, dv, dv, .int v3, .int s0] [] (ex (230, 0, [.ref 316, .int v1, .int v2], [], mm I J D)) := (ex_itr 5 _).trans rfl
set_option maxRecDepth 100000 in
theorem e_240_52 (I : Nat → Nat → Int32) (J : Nat → Nat → Int64) (D : Nat → Nat → UInt64) (v3 : Int32) (v4 : Int32) (s0 : Int32) : ex (240, 52, [dv, dv, dv, .int v3, .int v4], [.int s0], mm I J D) = bif decide (s0 = 0) then ex (240, 59, [dv, dv, dv, .int v3, .int v4], [], mm I J D) else ex (240, 55, [dv, dv, dv, dv, dv], [], mm I J D) := (ex_itr 1 _).trans rfl
set_option maxRecDepth 100000 in
theorem e_240_55 (I : Nat → Nat → Int32) (J : Nat → Nat → Int64) (D : Nat → Nat → UInt64)  : ex (240, 55, [dv, dv, dv, dv, dv], [], mm I J D) = ex (240, 81, [dv, dv, dv, dv, dv], [.int 0], mm I J D) := (ex_itr 2 _).trans rfl
set_option maxRecDepth 100000 in
theorem e_240_59 (I : Nat → Nat → Int32) (J : Nat → Nat → Int64) (D : Nat → Nat → UInt64) (v3 : Int32) (v4 : Int32) : ex (240, 59, [dv, dv, dv, .int v3, .int v4], [], mm I J D) = bif decide (v3 = 0) then ex (240, 72, [dv, dv, dv, .int v3, dv], [], mm I J D) else ex (240, 63, [dv, dv, dv, .int v3, .int v4], [], mm I J D) := (ex_itr 2 _).trans rfl
set_option maxRecDepth 100000 in
theorem e_240_63 (I : Nat → Nat → Int32) (J : Nat → Nat → Int64) (D : Nat → Nat → UInt64) (v3 : Int32) (v4 : Int32) : ex (240, 63, [dv, dv, dv, .int v3, .int v4], [], mm I J D) = bif decide (v4 = 0) then ex (240, 72, [dv, dv, dv, .int v3, dv], [], mm I J D) else ex (240, 68, [dv, dv, dv, dv, dv], [], mm I J D) := (ex_itr 2 _).trans rfl
set_option maxRecDepth 100000 in
theorem e_240_68 (I : Nat → Nat → Int32) (J : Nat → Nat → Int64) (D : Nat → Nat → UInt64)  : ex (240, 68, [dv, dv, dv, dv, dv], [], mm I J D) = ex (240, 81, [dv, dv, dv, dv, dv], [.int 1], mm I J D) := (ex_itr 2 _).trans rfl
set_option maxRecDepth 100000 in
theorem e_240_72 (I : Nat → Nat → Int32) (J : Nat → Nat → Int64) (D : Nat → Nat → UInt64) (v3 : Int32) : ex (240, 72, [dv, dv, dv, .int v3, dv], [], mm I J D) = bif decide (v3 = 0) then ex (240, 80, [dv, dv, dv, dv, dv], [], mm I J D) else ex (240, 76, [dv, dv, dv, dv, dv], [], mm I J D) := (ex_itr 2 _).trans rfl
set_option maxRecDepth 100000 in
theorem e_240_76 (I : Nat → Nat → Int32) (J : Nat → Nat → Int64) (D : Nat → Nat → UInt64)  : ex (240, 76, [dv, dv, dv, dv, dv], [], mm I J D) = ex (240, 81, [dv, dv, dv, dv, dv], [.int 2], mm I J D) := (ex_itr 2 _).trans rfl
set_option maxRecDepth 100000 in
theorem e_240_80 (I : Nat → Nat → Int32) (J : Nat → Nat → Int64) (D : Nat → Nat → UInt64)  : ex (240, 80, [dv, dv, dv, dv, dv], [], mm I J D) = ex (240, 81, [dv, dv, dv, dv, dv], [.int 3], mm I J D) := (ex_itr 1 _).trans rfl
set_option maxRecDepth 100000 in
theorem e_240_81 (I : Nat → Nat → Int32) (J : Nat → Nat → Int64) (D : Nat → Nat → UInt64) (s0 : Int32) : ex (240, 81, [dv, dv, dv, dv, dv], [.int s0], mm I J D) = some (.inl (some (.int s0)), mm I J D) := (ex_itr 1 _).trans rfl
/-! GlacierBookModel.balanceOf(II)I -/
set_option maxRecDepth 100000 in
theorem e_241_0 (I : Nat → Nat → Int32) (J : Nat → Nat → Int64) (D : Nat → Nat → UInt64) (v1 : Int32) (v2 : Int32) : ex (241, 0, [.ref 316, .int v1, .int v2, dv, dv], [], mm I J D) = ex (241, 5, [.ref 316, .int v1, .int v2, .int 0, .int 0], [], mm I J D) := (ex_itr 4 _).trans rfl
set_option maxRecDepth 100000 in
theorem e_241_5 (I : Nat → Nat → Int32) (J : Nat → Nat → Int64) (D : Nat → Nat → UInt64) (v1 : Int32) (v2 : Int32) (v3 : Int32) (v4 : Int32) : ex (241, 5, [.ref 316, .int v1, .int v2, .int v3, .int v4], [], mm I J D) = bif decide (8 ≤ v4) then ex (241, 64, [dv, dv, dv, .int v3, dv], [], mm I J D) else ex (241, 12, [.ref 316, .int v1, .int v2, .int v3, .int v4], [], mm I J D) := (ex_itr 3 _).trans rfl
set_option maxRecDepth 100000 in
theorem e_241_12 (I : Nat → Nat → Int32) (J : Nat → Nat → Int64) (D : Nat → Nat → UInt64) (v1 : Int32) (v2 : Int32) (v3 : Int32) (v4 : Int32) : ex (241, 12, [.ref 316, .int v1, .int v2, .int v3, .int v4], [], mm I J D) = bif decide (v1 = (-1)) then ex (241, 33, [.ref 316, .int v1, .int v2, dv, .int v4], [.int v3], mm I J D) else ex (241, 18, [.ref 316, .int v1, .int v2, dv, .int v4], [.int v3], mm I J D) := (ex_itr 4 _).trans rfl
set_option maxRecDepth 100000 in
theorem e_241_18 (I : Nat → Nat → Int32) (J : Nat → Nat → Int64) (D : Nat → Nat → UInt64) (v1 : Int32) (v2 : Int32) (v4 : Int32) (s0 : Int32) : ex (241, 18, [.ref 316, .int v1, .int v2, dv, .int v4], [.int s0], mm I J D) = bif inb ((632 : Int32) + v4) 850 then (bif decide ((I 317 ((632 : Int32) + v4).toNatClampNeg) ≠ v1) then ex (241, 55, [.ref 316, .int v1, .int v2, dv, .int v4], [.int s0], mm I J D) else ex (241, 33, [.ref 316, .int v1, .int v2, dv, .int v4], [.int s0], mm I J D)) else none := (ex_itr 8 _).trans rfl
set_option maxRecDepth 100000 in
theorem e_241_33 (I : Nat → Nat → Int32) (J : Nat → Nat → Int64) (D : Nat → Nat → UInt64) (v1 : Int32) (v2 : Int32) (v4 : Int32) (s0 : Int32) : ex (241, 33, [.ref 316, .int v1, .int v2, dv, .int v4], [.int s0], mm I J D) = bif inb ((624 : Int32) + v4) 850 then (cal 241 51 [.ref 316, .int v1, .int v2, dv, .int v4] [.int (I 317 ((624 : Int32) + v4).toNatClampNeg), .int s0] (ex (237, 0, [.ref 316, .int v4, .int v2, dv, dv, dv], [], mm I J D))) else none := (ex_itr 10 _).trans rfl
set_option maxRecDepth 100000 in
theorem e_241_51 (I : Nat → Nat → Int32) (J : Nat → Nat → Int64) (D : Nat → Nat → UInt64) (v1 : Int32) (v2 : Int32) (v4 : Int32) (s0 : Int32) (s1 : Int32) (s2 : Int32) : ex (241, 51, [.ref 316, .int v1, .int v2, dv, .int v4], [.int s0, .int s1, .int s2], mm I J D) = ex (241, 56, [.ref 316, .int v1, .int v2, dv, .int v4], [.int (s1 * s0), .int s2], mm I J D) := (ex_itr 2 _).trans rfl
set_option maxRecDepth 100000 in
theorem e_241_55 (I : Nat → Nat → Int32) (J : Nat → Nat → Int64) (D : Nat → Nat → UInt64) (v1 : Int32) (v2 : Int32) (v4 : Int32) (s0 : Int32) : ex (241, 55, [.ref 316, .int v1, .int v2, dv, .int v4], [.int s0], mm I J D) = ex (241, 56, [.ref 316, .int v1, .int v2, dv, .int v4], [.int 0, .int s0], mm I J D) := (ex_itr 1 _).trans rfl
set_option maxRecDepth 100000 in
theorem e_241_56 (I : Nat → Nat → Int32) (J : Nat → Nat → Int64) (D : Nat → Nat → UInt64) (v1 : Int32) (v2 : Int32) (v4 : Int32) (s0 : Int32) (s1 : Int32) : ex (241, 56, [.ref 316, .int v1, .int v2, dv, .int v4], [.int s0, .int s1], mm I J D) = ex (241, 5, [.ref 316, .int v1, .int v2, .int (s1 + s0), .int (v4 + 1)], [], mm I J D) := (ex_itr 4 _).trans rfl
set_option maxRecDepth 100000 in
theorem e_241_64 (I : Nat → Nat → Int32) (J : Nat → Nat → Int64) (D : Nat → Nat → UInt64) (v3 : Int32) : ex (241, 64, [dv, dv, dv, .int v3, dv], [], mm I J D) = some (.inl (some (.int v3)), mm I J D) := (ex_itr 2 _).trans rfl
/-! GlacierBookModel.balance(I)I -/
set_option maxRecDepth 100000 in
theorem e_242_0 (I : Nat → Nat → Int32) (J : Nat → Nat → Int64) (D : Nat → Nat → UInt64) (v1 : Int32) : ex (242, 0, [.ref 316, .int v1], [], mm I J D) = cal 242 6 [.ref 316, .int v1] [] (ex (238, 0, [.ref 316, .int 0, .int v1], [], mm I J D)) := (ex_itr 4 _).trans rfl
set_option maxRecDepth 100000 in
theorem e_242_6 (I : Nat → Nat → Int32) (J : Nat → Nat → Int64) (D : Nat → Nat → UInt64) (v1 : Int32) (s0 : Int32) : ex (242, 6, [.ref 316, .int v1], [.int s0], mm I J D) = bif decide (s0 = 0) then ex (242, 18, [dv, dv], [], mm I J D) else ex (242, 9, [.ref 316, .int v1], [], mm I J D) := (ex_itr 1 _).trans rfl
set_option maxRecDepth 100000 in
theorem e_242_9 (I : Nat → Nat → Int32) (J : Nat → Nat → Int64) (D : Nat → Nat → UInt64) (v1 : Int32) : ex (242, 9, [.ref 316, .int v1], [], mm I J D) = cal 242 15 [dv, dv] [] (ex (241, 0, [.ref 316, .int (-1), .int v1, dv, dv], [], mm I J D)) := (ex_itr 4 _).trans rfl
set_option maxRecDepth 100000 in
theorem e_242_15 (I : Nat → Nat → Int32) (J : Nat → Nat → Int64) (D : Nat → Nat → UInt64) (s0 : Int32) : ex (242, 15, [dv, dv], [.int s0], mm I J D) = ex (242, 19, [dv, dv], [.int s0], mm I J D) := (ex_itr 1 _).trans rfl
set_option maxRecDepth 100000 in
theorem e_242_18 (I : Nat → Nat → Int32) (J : Nat → Nat → Int64) (D : Nat → Nat → UInt64)  : ex (242, 18, [dv, dv], [], mm I J D) = ex (242, 19, [dv, dv], [.int 0], mm I J D) := (ex_itr 1 _).trans rfl
set_option maxRecDepth 100000 in
theorem e_242_19 (I : Nat → Nat → Int32) (J : Nat → Nat → Int64) (D : Nat → Nat → UInt64) (s0 : Int32) : ex (242, 19, [dv, dv], [.int s0], mm I J D) = some (.inl (some (.int s0)), mm I J D) := (ex_itr 1 _).trans rfl
/-! GlacierBookModel.partBalance(II)I -/
set_option maxRecDepth 100000 in
theorem e_243_0 (I : Nat → Nat → Int32) (J : Nat → Nat → Int64) (D : Nat → Nat → UInt64) (v1 : Int32) (v2 : Int32) : ex (243, 0, [.ref 316, .int v1, .int v2], [], mm I J D) = cal 243 7 [.ref 316, .int v1, .int v2] [.ref 316] (ex (157, 0, [.int v1, .int 0, .int 3], [], mm I J D)) := (ex_itr 5 _).trans rfl
set_option maxRecDepth 100000 in
theorem e_243_7 (I : Nat → Nat → Int32) (J : Nat → Nat → Int64) (D : Nat → Nat → UInt64) (v1 : Int32) (v2 : Int32) (s0 : Int32) : ex (243, 7, [.ref 316, .int v1, .int v2], [.int s0, .ref 316], mm I J D) = cal 243 11 [.ref 316, .int v1, .int v2] [] (ex (156, 0, [.ref 316, .int s0, .int 1], [], mm I J D)) := (ex_itr 2 _).trans rfl
set_option maxRecDepth 100000 in
theorem e_243_11 (I : Nat → Nat → Int32) (J : Nat → Nat → Int64) (D : Nat → Nat → UInt64) (v1 : Int32) (v2 : Int32) (s0 : Int32) : ex (243, 11, [.ref 316, .int v1, .int v2], [.int s0], mm I J D) = bif decide (s0 = 0) then ex (243, 32, [dv, dv, dv], [], mm I J D) else ex (243, 14, [.ref 316, .int v1, .int v2], [], mm I J D) := (ex_itr 1 _).trans rfl
set_option maxRecDepth 100000 in
theorem e_243_14 (I : Nat → Nat → Int32) (J : Nat → Nat → Int64) (D : Nat → Nat → UInt64) (v1 : Int32) (v2 : Int32) : ex (243, 14, [.ref 316, .int v1, .int v2], [], mm I J D) = cal 243 20 [.ref 316, .int v1, .int v2] [] (ex (238, 0, [.ref 316, .int 0, .int v2], [], mm I J D)) := (ex_itr 4 _).trans rfl
set_option maxRecDepth 100000 in
theorem e_243_20 (I : Nat → Nat → Int32) (J : Nat → Nat → Int64) (D : Nat → Nat → UInt64) (v1 : Int32) (v2 : Int32) (s0 : Int32) : ex (243, 20, [.ref 316, .int v1, .int v2], [.int s0], mm I J D) = bif decide (s0 = 0) then ex (243, 32, [dv, dv, dv], [], mm I J D) else ex (243, 23, [.ref 316, .int v1, .int v2], [], mm I J D) := (ex_itr 1 _).trans rfl
set_option maxRecDepth 100000 in
theorem e_243_23 (I : Nat → Nat → Int32) (J : Nat → Nat → Int64) (D : Nat → Nat → UInt64) (v1 : Int32) (v2 : Int32) : ex (243, 23, [.ref 316, .int v1, .int v2], [], mm I J D) = cal 243 29 [dv, dv, dv] [] (ex (241, 0, [.ref 316, .int v1, .int v2, dv, dv], [], mm I J D)) := (ex_itr 4 _).trans rfl
set_option maxRecDepth 100000 in
theorem e_243_29 (I : Nat → Nat → Int32) (J : Nat → Nat → Int64) (D : Nat → Nat → UInt64) (s0 : Int32) : ex (243, 29, [dv, dv, dv], [.int s0], mm I J D) = ex (243, 33, [dv, dv, dv], [.int s0], mm I J D) := (ex_itr 1 _).trans rfl
set_option maxRecDepth 100000 in
theorem e_243_32 (I : Nat → Nat → Int32) (J : Nat → Nat → Int64) (D : Nat → Nat → UInt64)  : ex (243, 32, [dv, dv, dv], [], mm I J D) = ex (243, 33, [dv, dv, dv], [.int 0], mm I J D) := (ex_itr 1 _).trans rfl
set_option maxRecDepth 100000 in
theorem e_243_33 (I : Nat → Nat → Int32) (J : Nat → Nat → Int64) (D : Nat → Nat → UInt64) (s0 : Int32) : ex (243, 33, [dv, dv, dv], [.int s0], mm I J D) = some (.inl (some (.int s0)), mm I J D) := (ex_itr 1 _).trans rfl
/-! GlacierBookModel.lineOf(I)I -/
set_option maxRecDepth 100000 in
theorem e_244_0 (I : Nat → Nat → Int32) (J : Nat → Nat → Int64) (D : Nat → Nat → UInt64) (v1 : Int32) : ex (244, 0, [.ref 316, .int v1, dv], [], mm I J D) = cal 244 6 [.ref 316, .int v1, dv] [] (ex (238, 0, [.ref 316, .int 0, .int v1], [], mm I J D)) := (ex_itr 4 _).trans rfl
set_option maxRecDepth 100000 in
theorem e_244_6 (I : Nat → Nat → Int32) (J : Nat → Nat → Int64) (D : Nat → Nat → UInt64) (v1 : Int32) (s0 : Int32) : ex (244, 6, [.ref 316, .int v1, dv], [.int s0], mm I J D) = bif decide (s0 ≠ 0) then ex (244, 11, [.ref 316, .int v1, dv], [], mm I J D) else ex (244, 9, [dv, dv, dv], [], mm I J D) := (ex_itr 1 _).trans rfl
set_option maxRecDepth 100000 in
theorem e_244_9 (I : Nat → Nat → Int32) (J : Nat → Nat → Int64) (D : Nat → Nat → UInt64)  : ex (244, 9, [dv, dv, dv], [], mm I J D) = some (.inl (some (.int 0)), mm I J D) := (ex_itr 2 _).trans rfl
set_option maxRecDepth 100000 in
theorem e_244_11 (I : Nat → Nat → Int32) (J : Nat → Nat → Int64) (D : Nat → Nat → UInt64) (v1 : Int32) : ex (244, 11, [.ref 316, .int v1, dv], [], mm I J D) = ex (244, 14, [.ref 316, .int v1, .int 8], [], mm I J D) := (ex_itr 2 _).trans rfl
set_option maxRecDepth 100000 in
theorem e_244_14 (I : Nat → Nat → Int32) (J : Nat → Nat → Int64) (D : Nat → Nat → UInt64) (v1 : Int32) (v2 : Int32) : ex (244, 14, [.ref 316, .int v1, .int v2], [], mm I J D) = bif decide (v2 ≤ 0) then ex (244, 35, [dv, dv, .int v2], [], mm I J D) else ex (244, 18, [.ref 316, .int v1, .int v2], [], mm I J D) := (ex_itr 2 _).trans rfl
set_option maxRecDepth 100000 in
theorem e_244_18 (I : Nat → Nat → Int32) (J : Nat → Nat → Int64) (D : Nat → Nat → UInt64) (v1 : Int32) (v2 : Int32) : ex (244, 18, [.ref 316, .int v1, .int v2], [], mm I J D) = cal 244 26 [.ref 316, .int v1, .int v2] [] (ex (237, 0, [.ref 316, .int (v2 - 1), .int v1, dv, dv, dv], [], mm I J D)) := (ex_itr 6 _).trans rfl
set_option maxRecDepth 100000 in
theorem e_244_26 (I : Nat → Nat → Int32) (J : Nat → Nat → Int64) (D : Nat → Nat → UInt64) (v1 : Int32) (v2 : Int32) (s0 : Int32) : ex (244, 26, [.ref 316, .int v1, .int v2], [.int s0], mm I J D) = bif decide (s0 < 0) then ex (244, 35, [dv, dv, .int v2], [], mm I J D) else ex (244, 29, [.ref 316, .int v1, .int v2], [], mm I J D) := (ex_itr 1 _).trans rfl
set_option maxRecDepth 100000 in
theorem e_244_29 (I : Nat → Nat → Int32) (J : Nat → Nat → Int64) (D : Nat → Nat → UInt64) (v1 : Int32) (v2 : Int32) : ex (244, 29, [.ref 316, .int v1, .int v2], [], mm I J D) = ex (244, 14, [.ref 316, .int v1, .int (v2 + (-1))], [], mm I J D) := (ex_itr 2 _).trans rfl
set_option maxRecDepth 100000 in
theorem e_244_35 (I : Nat → Nat → Int32) (J : Nat → Nat → Int64) (D : Nat → Nat → UInt64) (v2 : Int32) : ex (244, 35, [dv, dv, .int v2], [], mm I J D) = some (.inl (some (.int v2)), mm I J D) := (ex_itr 2 _).trans rfl
/-! GlacierBookModel.setCell(III)I -/
set_option maxRecDepth 100000 in
theorem e_245_0 (I : Nat → Nat → Int32) (J : Nat → Nat → Int64) (D : Nat → Nat → UInt64) (v1 : Int32) (v2 : Int32) (v3 : Int32) : ex (245, 0, [.ref 316, .int v1, .int v2, .int v3, dv], [], mm I J D) = cal 245 8 [.ref 316, .int v1, .int v2, .int v3, dv] [.ref 316] (ex (157, 0, [.int v1, .int 0, .int 11], [], mm I J D)) := (ex_itr 5 _).trans rfl
set_option maxRecDepth 100000 in
theorem e_245_8 (I : Nat → Nat → Int32) (J : Nat → Nat → Int64) (D : Nat → Nat → UInt64) (v1 : Int32) (v2 : Int32) (v3 : Int32) (s0 : Int32) : ex (245, 8, [.ref 316, .int v1, .int v2, .int v3, dv], [.int s0, .ref 316], mm I J D) = cal 245 12 [.ref 316, .int v1, .int v2, .int v3, dv] [] (ex (156, 0, [.ref 316, .int s0, .int 1], [], mm I J D)) := (ex_itr 2 _).trans rfl
set_option maxRecDepth 100000 in
theorem e_245_12 (I : Nat → Nat → Int32) (J : Nat → Nat → Int64) (D : Nat → Nat → UInt64) (v1 : Int32) (v2 : Int32) (v3 : Int32) (s0 : Int32) : ex (245, 12, [.ref 316, .int v1, .int v2, .int v3, dv], [.int s0], mm I J D) = bif decide (s0 = 0) then ex (245, 50, [dv, dv, dv, dv, dv], [], mm I J D) else ex (245, 15, [.ref 316, .int v1, .int v2, .int v3, dv], [], mm I J D) := (ex_itr 1 _).trans rfl
set_option maxRecDepth 100000 in
theorem e_245_15 (I : Nat → Nat → Int32) (J : Nat → Nat → Int64) (D : Nat → Nat → UInt64) (v1 : Int32) (v2 : Int32) (v3 : Int32) : ex (245, 15, [.ref 316, .int v1, .int v2, .int v3, dv], [], mm I J D) = cal 245 24 [.ref 316, .int v1, .int v2, .int v3, dv] [.ref 316] (ex (157, 0, [.int v2, .int 0, .int 999], [], mm I J D)) := (ex_itr 5 _).trans rfl
set_option maxRecDepth 100000 in
theorem e_245_24 (I : Nat → Nat → Int32) (J : Nat → Nat → Int64) (D : Nat → Nat → UInt64) (v1 : Int32) (v2 : Int32) (v3 : Int32) (s0 : Int32) : ex (245, 24, [.ref 316, .int v1, .int v2, .int v3, dv], [.int s0, .ref 316], mm I J D) = bif decide (s0 = 0) then ex (245, 42, [.ref 316, .int v1, .int v2, .int v3, dv], [.ref 316], mm I J D) else ex (245, 27, [.ref 316, .int v1, .int v2, .int v3, dv], [.ref 316], mm I J D) := (ex_itr 1 _).trans rfl
set_option maxRecDepth 100000 in
theorem e_245_27 (I : Nat → Nat → Int32) (J : Nat → Nat → Int64) (D : Nat → Nat → UInt64) (v1 : Int32) (v2 : Int32) (v3 : Int32) : ex (245, 27, [.ref 316, .int v1, .int v2, .int v3, dv], [.ref 316], mm I J D) = cal 245 35 [.ref 316, .int v1, .int v2, .int v3, dv] [.ref 316] (ex (157, 0, [.int v3, .int 0, .int 999], [], mm I J D)) := (ex_itr 4 _).trans rfl
set_option maxRecDepth 100000 in
theorem e_245_35 (I : Nat → Nat → Int32) (J : Nat → Nat → Int64) (D : Nat → Nat → UInt64) (v1 : Int32) (v2 : Int32) (v3 : Int32) (s0 : Int32) : ex (245, 35, [.ref 316, .int v1, .int v2, .int v3, dv], [.int s0, .ref 316], mm I J D) = bif decide (s0 = 0) then ex (245, 42, [.ref 316, .int v1, .int v2, .int v3, dv], [.ref 316], mm I J D) else ex (245, 38, [.ref 316, .int v1, .int v2, .int v3, dv], [.ref 316], mm I J D) := (ex_itr 1 _).trans rfl
set_option maxRecDepth 100000 in
theorem e_245_38 (I : Nat → Nat → Int32) (J : Nat → Nat → Int64) (D : Nat → Nat → UInt64) (v1 : Int32) (v2 : Int32) (v3 : Int32) : ex (245, 38, [.ref 316, .int v1, .int v2, .int v3, dv], [.ref 316], mm I J D) = ex (245, 43, [.ref 316, .int v1, .int v2, .int v3, dv], [.int 1, .ref 316], mm I J D) := (ex_itr 2 _).trans rfl
set_option maxRecDepth 100000 in
theorem e_245_42 (I : Nat → Nat → Int32) (J : Nat → Nat → Int64) (D : Nat → Nat → UInt64) (v1 : Int32) (v2 : Int32) (v3 : Int32) : ex (245, 42, [.ref 316, .int v1, .int v2, .int v3, dv], [.ref 316], mm I J D) = ex (245, 43, [.ref 316, .int v1, .int v2, .int v3, dv], [.int 0, .ref 316], mm I J D) := (ex_itr 1 _).trans rfl
set_option maxRecDepth 100000 in
theorem e_245_43 (I : Nat → Nat → Int32) (J : Nat → Nat → Int64) (D : Nat → Nat → UInt64) (v1 : Int32) (v2 : Int32) (v3 : Int32) (s0 : Int32) : ex (245, 43, [.ref 316, .int v1, .int v2, .int v3, dv], [.int s0, .ref 316], mm I J D) = cal 245 47 [.ref 316, .int v1, .int v2, .int v3, dv] [] (ex (156, 0, [.ref 316, .int s0, .int 2], [], mm I J D)) := (ex_itr 2 _).trans rfl
set_option maxRecDepth 100000 in
theorem e_245_47 (I : Nat → Nat → Int32) (J : Nat → Nat → Int64) (D : Nat → Nat → UInt64) (v1 : Int32) (v2 : Int32) (v3 : Int32) (s0 : Int32) : ex (245, 47, [.ref 316, .int v1, .int v2, .int v3, dv], [.int s0], mm I J D) = bif decide (s0 ≠ 0) then ex (245, 52, [.ref 316, .int v1, .int v2, .int v3, dv], [], mm I J D) else ex (245, 50, [dv, dv, dv, dv, dv], [], mm I J D) := (ex_itr 1 _).trans rfl
set_option maxRecDepth 100000 in
theorem e_245_50 (I : Nat → Nat → Int32) (J : Nat → Nat → Int64) (D : Nat → Nat → UInt64)  : ex (245, 50, [dv, dv, dv, dv, dv], [], mm I J D) = some (.inl (some (.int 0)), mm I J D) := (ex_itr 2 _).trans rfl
set_option maxRecDepth 100000 in
theorem e_245_52 (I : Nat → Nat → Int32) (J : Nat → Nat → Int64) (D : Nat → Nat → UInt64) (v1 : Int32) (v2 : Int32) (v3 : Int32) : ex (245, 52, [.ref 316, .int v1, .int v2, .int v3, dv], [], mm I J D) = cal 245 56 [.ref 316, .int v1, .int v2, .int v3, dv] [] (ex (161, 0, [.ref 316, dv, dv], [], mm I J D)) := (ex_itr 2 _).trans rfl
set_option maxRecDepth 100000 in
theorem e_245_56 (I : Nat → Nat → Int32) (J : Nat → Nat → Int64) (D : Nat → Nat → UInt64) (v1 : Int32) (v2 : Int32) (v3 : Int32) : ex (245, 56, [.ref 316, .int v1, .int v2, .int v3, dv], [], mm I J D) = bif inb ((812 : Int32) + v1) 850 then (bif inb ((800 : Int32) + v1) 850 then (bif inb ((812 : Int32) + v1) 850 then (some (.inl (some (.int (I 317 ((812 : Int32) + v1).toNatClampNeg))), mm (ups (ups I 317 (((800 : Int32) + v1).toNatClampNeg) v2) 317 (((812 : Int32) + v1).toNatClampNeg) v3) J D)) else none) else none) else none := (ex_itr 23 _).trans rfl
/-! GlacierBookModel.goes(II)V -/
set_option maxRecDepth 100000 in
theorem e_246_0 (I : Nat → Nat → Int32) (J : Nat → Nat → Int64) (D : Nat → Nat → UInt64) (v1 : Int32) (v2 : Int32) : ex (246, 0, [.ref 316, .int v1, .int v2, dv, dv, dv], [], mm I J D) = cal 246 7 [.ref 316, .int v1, .int v2, dv, dv, dv] [] (ex (157, 0, [.int v2, .int 0, .int 11], [], mm I J D)) := (ex_itr 4 _).trans rfl
set_option maxRecDepth 100000 in
theorem e_246_7 (I : Nat → Nat → Int32) (J : Nat → Nat → Int64) (D : Nat → Nat → UInt64) (v1 : Int32) (v2 : Int32) (s0 : Int32) : ex (246, 7, [.ref 316, .int v1, .int v2, dv, dv, dv], [.int s0], mm I J D) = bif decide (s0 = 0) then ex (246, 25, [dv, dv, dv, dv, dv, dv], [], mm I J D) else ex (246, 10, [.ref 316, .int v1, .int v2, dv, dv, dv], [], mm I J D) := (ex_itr 1 _).trans rfl
set_option maxRecDepth 100000 in
theorem e_246_10 (I : Nat → Nat → Int32) (J : Nat → Nat → Int64) (D : Nat → Nat → UInt64) (v1 : Int32) (v2 : Int32) : ex (246, 10, [.ref 316, .int v1, .int v2, dv, dv, dv], [], mm I J D) = bif inb v2 12 then (bif inb v1 12 then (bif decide ((I 331 v2.toNatClampNeg) < (I 331 v1.toNatClampNeg)) then ex (246, 26, [.ref 316, .int v1, .int v2, dv, dv, dv], [], mm I J D) else ex (246, 25, [dv, dv, dv, dv, dv, dv], [], mm I J D)) else none) else none := (ex_itr 9 _).trans rfl
set_option maxRecDepth 100000 in
theorem e_246_25 (I : Nat → Nat → Int32) (J : Nat → Nat → Int64) (D : Nat → Nat → UInt64)  : ex (246, 25, [dv, dv, dv, dv, dv, dv], [], mm I J D) = some (.inl none, mm I J D) := (ex_itr 1 _).trans rfl
set_option maxRecDepth 100000 in
theorem e_246_26 (I : Nat → Nat → Int32) (J : Nat → Nat → Int64) (D : Nat → Nat → UInt64) (v1 : Int32) (v2 : Int32) : ex (246, 26, [.ref 316, .int v1, .int v2, dv, dv, dv], [], mm I J D) = bif inb v1 12 then (bif inb v2 12 then (bif inb ((812 : Int32) + v1) 850 then (bif decide (((I 317 ((812 : Int32) + v1).toNatClampNeg) / 2) ≤ (((I 331 v1.toNatClampNeg) - (I 331 v2.toNatClampNeg)) / 4)) then ex (246, 66, [.ref 316, .int v1, .int v2, dv, .int ((I 317 ((812 : Int32) + v1).toNatClampNeg) / 2), dv], [], mm I J D) else ex (246, 62, [.ref 316, .int v1, .int v2, .int (((I 331 v1.toNatClampNeg) - (I 331 v2.toNatClampNeg)) / 4), dv, dv], [], mm I J D)) else none) else none) else none := (ex_itr 24 _).trans rfl
set_option maxRecDepth 100000 in
theorem e_246_62 (I : Nat → Nat → Int32) (J : Nat → Nat → Int64) (D : Nat → Nat → UInt64) (v1 : Int32) (v2 : Int32) (v3 : Int32) : ex (246, 62, [.ref 316, .int v1, .int v2, .int v3, dv, dv], [], mm I J D) = ex (246, 68, [.ref 316, .int v1, .int v2, dv, dv, dv], [.int v3], mm I J D) := (ex_itr 2 _).trans rfl
set_option maxRecDepth 100000 in
theorem e_246_66 (I : Nat → Nat → Int32) (J : Nat → Nat → Int64) (D : Nat → Nat → UInt64) (v1 : Int32) (v2 : Int32) (v4 : Int32) : ex (246, 66, [.ref 316, .int v1, .int v2, dv, .int v4, dv], [], mm I J D) = ex (246, 68, [.ref 316, .int v1, .int v2, dv, dv, dv], [.int v4], mm I J D) := (ex_itr 1 _).trans rfl
set_option maxRecDepth 100000 in
theorem e_246_68 (I : Nat → Nat → Int32) (J : Nat → Nat → Int64) (D : Nat → Nat → UInt64) (v1 : Int32) (v2 : Int32) (s0 : Int32) : ex (246, 68, [.ref 316, .int v1, .int v2, dv, dv, dv], [.int s0], mm I J D) = bif inb v1 12 then (bif inb v1 12 then (bif inb v2 12 then (bif inb v2 12 then (some (.inl none, mm (ups (ups I 332 v1.toNatClampNeg ((I 332 v1.toNatClampNeg) - s0)) 332 v2.toNatClampNeg (((ups I 332 v1.toNatClampNeg ((I 332 v1.toNatClampNeg) - s0)) 332 v2.toNatClampNeg) + s0)) J D)) else none) else none) else none) else none := (ex_itr 18 _).trans rfl
/-! GlacierBookModel.steps(III)V -/
set_option maxRecDepth 100000 in
theorem e_247_0 (I : Nat → Nat → Int32) (J : Nat → Nat → Int64) (D : Nat → Nat → UInt64) (v1 : Int32) (v2 : Int32) (v3 : Int32) : ex (247, 0, [.ref 316, .int v1, .int v2, .int v3, dv, dv, dv], [], mm I J D) = ex (247, 3, [.ref 316, .int v1, .int v2, .int v3, .int 0, dv, dv], [], mm I J D) := (ex_itr 2 _).trans rfl
set_option maxRecDepth 100000 in
theorem e_247_3 (I : Nat → Nat → Int32) (J : Nat → Nat → Int64) (D : Nat → Nat → UInt64) (v1 : Int32) (v2 : Int32) (v3 : Int32) (v4 : Int32) : ex (247, 3, [.ref 316, .int v1, .int v2, .int v3, .int v4, dv, dv], [], mm I J D) = bif decide (12 ≤ v4) then ex (247, 54, [.ref 316, .int v1, .int v2, .int v3, dv, dv, dv], [], mm I J D) else ex (247, 10, [.ref 316, .int v1, .int v2, .int v3, .int v4, dv, dv], [], mm I J D) := (ex_itr 3 _).trans rfl
set_option maxRecDepth 100000 in
theorem e_247_10 (I : Nat → Nat → Int32) (J : Nat → Nat → Int64) (D : Nat → Nat → UInt64) (v1 : Int32) (v2 : Int32) (v3 : Int32) (v4 : Int32) : ex (247, 10, [.ref 316, .int v1, .int v2, .int v3, .int v4, dv, dv], [], mm I J D) = bif inb ((800 : Int32) + v4) 850 then (bif inb ((812 : Int32) + v4) 850 then (bif inb v4 12 then (bif inb v4 12 then (ex (247, 3, [.ref 316, .int v1, .int v2, .int v3, .int (v4 + 1), dv, dv], [], mm (ups (ups I 331 v4.toNatClampNeg ((I 317 ((800 : Int32) + v4).toNatClampNeg) + (I 317 ((812 : Int32) + v4).toNatClampNeg))) 332 v4.toNatClampNeg 0) J D)) else none) else none) else none) else none := (ex_itr 24 _).trans rfl
set_option maxRecDepth 100000 in
theorem e_247_54 (I : Nat → Nat → Int32) (J : Nat → Nat → Int64) (D : Nat → Nat → UInt64) (v1 : Int32) (v2 : Int32) (v3 : Int32) : ex (247, 54, [.ref 316, .int v1, .int v2, .int v3, dv, dv, dv], [], mm I J D) = ex (247, 57, [.ref 316, .int v1, .int v2, .int v3, .int 0, dv, dv], [], mm I J D) := (ex_itr 2 _).trans rfl
set_option maxRecDepth 100000 in
theorem e_247_57 (I : Nat → Nat → Int32) (J : Nat → Nat → Int64) (D : Nat → Nat → UInt64) (v1 : Int32) (v2 : Int32) (v3 : Int32) (v4 : Int32) : ex (247, 57, [.ref 316, .int v1, .int v2, .int v3, .int v4, dv, dv], [], mm I J D) = bif decide (12 ≤ v4) then ex (247, 90, [.ref 316, .int v1, .int v2, .int v3, dv, dv, dv], [], mm I J D) else ex (247, 64, [.ref 316, .int v1, .int v2, .int v3, .int v4, dv, dv], [], mm I J D) := (ex_itr 3 _).trans rfl
set_option maxRecDepth 100000 in
theorem e_247_64 (I : Nat → Nat → Int32) (J : Nat → Nat → Int64) (D : Nat → Nat → UInt64) (v1 : Int32) (v2 : Int32) (v3 : Int32) (v4 : Int32) : ex (247, 64, [.ref 316, .int v1, .int v2, .int v3, .int v4, dv, dv], [], mm I J D) = cal 247 74 [.ref 316, .int v1, .int v2, .int v3, .int v4, dv, dv] [] (ex (246, 0, [.ref 316, .int v4, .int (v4 - 1), dv, dv, dv], [], mm I J D)) := (ex_itr 6 _).trans rfl
set_option maxRecDepth 100000 in
theorem e_247_74 (I : Nat → Nat → Int32) (J : Nat → Nat → Int64) (D : Nat → Nat → UInt64) (v1 : Int32) (v2 : Int32) (v3 : Int32) (v4 : Int32) : ex (247, 74, [.ref 316, .int v1, .int v2, .int v3, .int v4, dv, dv], [], mm I J D) = cal 247 84 [.ref 316, .int v1, .int v2, .int v3, .int v4, dv, dv] [] (ex (246, 0, [.ref 316, .int v4, .int (v4 + 1), dv, dv, dv], [], mm I J D)) := (ex_itr 6 _).trans rfl
set_option maxRecDepth 100000 in
theorem e_247_84 (I : Nat → Nat → Int32) (J : Nat → Nat → Int64) (D : Nat → Nat → UInt64) (v1 : Int32) (v2 : Int32) (v3 : Int32) (v4 : Int32) : ex (247, 84, [.ref 316, .int v1, .int v2, .int v3, .int v4, dv, dv], [], mm I J D) = ex (247, 57, [.ref 316, .int v1, .int v2, .int v3, .int (v4 + 1), dv, dv], [], mm I J D) := (ex_itr 2 _).trans rfl
set_option maxRecDepth 100000 in
theorem e_247_90 (I : Nat → Nat → Int32) (J : Nat → Nat → Int64) (D : Nat → Nat → UInt64) (v1 : Int32) (v2 : Int32) (v3 : Int32) : ex (247, 90, [.ref 316, .int v1, .int v2, .int v3, dv, dv, dv], [], mm I J D) = ex (247, 93, [.ref 316, .int v1, .int v2, .int v3, .int 0, dv, dv], [], mm I J D) := (ex_itr 2 _).trans rfl
set_option maxRecDepth 100000 in
theorem e_247_93 (I : Nat → Nat → Int32) (J : Nat → Nat → Int64) (D : Nat → Nat → UInt64) (v1 : Int32) (v2 : Int32) (v3 : Int32) (v4 : Int32) : ex (247, 93, [.ref 316, .int v1, .int v2, .int v3, .int v4, dv, dv], [], mm I J D) = bif decide (12 ≤ v4) then ex (247, 224, [dv, dv, dv, dv, dv, dv, dv], [], mm I J D) else ex (247, 100, [.ref 316, .int v1, .int v2, .int v3, .int v4, dv, dv], [], mm I J D) := (ex_itr 3 _).trans rfl
set_option maxRecDepth 100000 in
theorem e_247_100 (I : Nat → Nat → Int32) (J : Nat → Nat → Int64) (D : Nat → Nat → UInt64) (v1 : Int32) (v2 : Int32) (v3 : Int32) (v4 : Int32) : ex (247, 100, [.ref 316, .int v1, .int v2, .int v3, .int v4, dv, dv], [], mm I J D) = bif inb ((812 : Int32) + v4) 850 then (bif inb v4 12 then (bif inb ((812 : Int32) + v4) 850 then (bif inb ((812 : Int32) + v4) 850 then (bif decide (((ups I 317 (((812 : Int32) + v4).toNatClampNeg) ((I 317 ((812 : Int32) + v4).toNatClampNeg) + (I 332 v4.toNatClampNeg))) 317 ((812 : Int32) + v4).toNatClampNeg) ≤ v3) then ex (247, 140, [.ref 316, .int v1, .int v2, .int v3, .int v4, dv, dv], [], mm (ups I 317 (((812 : Int32) + v4).toNatClampNeg) ((I 317 ((812 : Int32) + v4).toNatClampNeg) + (I 332 v4.toNatClampNeg))) J D) else ex (247, 136, [.ref 316, .int v1, .int v2, .int v3, .int v4, dv, dv], [], mm (ups I 317 (((812 : Int32) + v4).toNatClampNeg) ((I 317 ((812 : Int32) + v4).toNatClampNeg) + (I 332 v4.toNatClampNeg))) J D)) else none) else none) else none) else none := (ex_itr 21 _).trans rfl
set_option maxRecDepth 100000 in
theorem e_247_136 (I : Nat → Nat → Int32) (J : Nat → Nat → Int64) (D : Nat → Nat → UInt64) (v1 : Int32) (v2 : Int32) (v3 : Int32) (v4 : Int32) : ex (247, 136, [.ref 316, .int v1, .int v2, .int v3, .int v4, dv, dv], [], mm I J D) = ex (247, 151, [.ref 316, .int v1, .int v2, .int v3, .int v4, dv, dv], [.int v3], mm I J D) := (ex_itr 2 _).trans rfl
set_option maxRecDepth 100000 in
theorem e_247_140 (I : Nat → Nat → Int32) (J : Nat → Nat → Int64) (D : Nat → Nat → UInt64) (v1 : Int32) (v2 : Int32) (v3 : Int32) (v4 : Int32) : ex (247, 140, [.ref 316, .int v1, .int v2, .int v3, .int v4, dv, dv], [], mm I J D) = bif inb ((812 : Int32) + v4) 850 then (ex (247, 151, [.ref 316, .int v1, .int v2, .int v3, .int v4, dv, dv], [.int (I 317 ((812 : Int32) + v4).toNatClampNeg)], mm I J D)) else none := (ex_itr 6 _).trans rfl
set_option maxRecDepth 100000 in
theorem e_247_151 (I : Nat → Nat → Int32) (J : Nat → Nat → Int64) (D : Nat → Nat → UInt64) (v1 : Int32) (v2 : Int32) (v3 : Int32) (v4 : Int32) (s0 : Int32) : ex (247, 151, [.ref 316, .int v1, .int v2, .int v3, .int v4, dv, dv], [.int s0], mm I J D) = bif inb ((800 : Int32) + v4) 850 then (bif inb ((812 : Int32) + v4) 850 then (bif decide (((I 317 ((800 : Int32) + v4).toNatClampNeg) + (I 317 ((812 : Int32) + v4).toNatClampNeg)) < v1) then ex (247, 184, [.ref 316, .int v1, .int v2, .int v3, .int v4, .int s0, dv], [], mm I J D) else ex (247, 180, [.ref 316, .int v1, .int v2, .int v3, .int v4, dv, dv], [], mm I J D)) else none) else none := (ex_itr 16 _).trans rfl
set_option maxRecDepth 100000 in
theorem e_247_180 (I : Nat → Nat → Int32) (J : Nat → Nat → Int64) (D : Nat → Nat → UInt64) (v1 : Int32) (v2 : Int32) (v3 : Int32) (v4 : Int32) : ex (247, 180, [.ref 316, .int v1, .int v2, .int v3, .int v4, dv, dv], [], mm I J D) = ex (247, 187, [.ref 316, .int v1, .int v2, .int v3, .int v4, dv, dv], [.int v2], mm I J D) := (ex_itr 2 _).trans rfl
set_option maxRecDepth 100000 in
theorem e_247_184 (I : Nat → Nat → Int32) (J : Nat → Nat → Int64) (D : Nat → Nat → UInt64) (v1 : Int32) (v2 : Int32) (v3 : Int32) (v4 : Int32) (v5 : Int32) : ex (247, 184, [.ref 316, .int v1, .int v2, .int v3, .int v4, .int v5, dv], [], mm I J D) = ex (247, 187, [.ref 316, .int v1, .int v2, .int v3, .int v4, dv, dv], [.int (-v5)], mm I J D) := (ex_itr 2 _).trans rfl
set_option maxRecDepth 100000 in
theorem e_247_187 (I : Nat → Nat → Int32) (J : Nat → Nat → Int64) (D : Nat → Nat → UInt64) (v1 : Int32) (v2 : Int32) (v3 : Int32) (v4 : Int32) (s0 : Int32) : ex (247, 187, [.ref 316, .int v1, .int v2, .int v3, .int v4, dv, dv], [.int s0], mm I J D) = bif inb ((812 : Int32) + v4) 850 then (bif inb ((812 : Int32) + v4) 850 then (ex (247, 93, [.ref 316, .int v1, .int v2, .int v3, .int (v4 + 1), dv, dv], [], mm (ups (ups I 317 (((812 : Int32) + v4).toNatClampNeg) ((I 317 ((812 : Int32) + v4).toNatClampNeg) + s0)) 317 824 (((ups I 317 (((812 : Int32) + v4).toNatClampNeg) ((I 317 ((812 : Int32) + v4).toNatClampNeg) + s0)) 317 824) + s0)) J D)) else none) else none := (ex_itr 21 _).trans rfl
set_option maxRecDepth 100000 in
theorem e_247_224 (I : Nat → Nat → Int32) (J : Nat → Nat → Int64) (D : Nat → Nat → UInt64)  : ex (247, 224, [dv, dv, dv, dv, dv, dv, dv], [], mm I J D) = some (.inl none, mm I J D) := (ex_itr 1 _).trans rfl
/-! GlacierBookModel.flow(IIII)I -/
set_option maxRecDepth 100000 in
theorem e_248_0 (I : Nat → Nat → Int32) (J : Nat → Nat → Int64) (D : Nat → Nat → UInt64) (v1 : Int32) (v2 : Int32) (v3 : Int32) (v4 : Int32) : ex (248, 0, [.ref 316, .int v1, .int v2, .int v3, .int v4, dv, dv], [], mm I J D) = cal 248 8 [.ref 316, .int v1, .int v2, .int v3, .int v4, dv, dv] [.ref 316] (ex (157, 0, [.int v1, .int 1, .int 50], [], mm I J D)) := (ex_itr 5 _).trans rfl
set_option maxRecDepth 100000 in
theorem e_248_8 (I : Nat → Nat → Int32) (J : Nat → Nat → Int64) (D : Nat → Nat → UInt64) (v1 : Int32) (v2 : Int32) (v3 : Int32) (v4 : Int32) (s0 : Int32) : ex (248, 8, [.ref 316, .int v1, .int v2, .int v3, .int v4, dv, dv], [.int s0, .ref 316], mm I J D) = bif decide (s0 = 0) then ex (248, 47, [.ref 316, .int v1, .int v2, .int v3, .int v4, dv, dv], [.ref 316], mm I J D) else ex (248, 11, [.ref 316, .int v1, .int v2, .int v3, .int v4, dv, dv], [.ref 316], mm I J D) := (ex_itr 1 _).trans rfl
set_option maxRecDepth 100000 in
theorem e_248_11 (I : Nat → Nat → Int32) (J : Nat → Nat → Int64) (D : Nat → Nat → UInt64) (v1 : Int32) (v2 : Int32) (v3 : Int32) (v4 : Int32) : ex (248, 11, [.ref 316, .int v1, .int v2, .int v3, .int v4, dv, dv], [.ref 316], mm I J D) = cal 248 19 [.ref 316, .int v1, .int v2, .int v3, .int v4, dv, dv] [.ref 316] (ex (157, 0, [.int v2, .int 0, .int 2000], [], mm I J D)) := (ex_itr 4 _).trans rfl
set_option maxRecDepth 100000 in
theorem e_248_19 (I : Nat → Nat → Int32) (J : Nat → Nat → Int64) (D : Nat → Nat → UInt64) (v1 : Int32) (v2 : Int32) (v3 : Int32) (v4 : Int32) (s0 : Int32) : ex (248, 19, [.ref 316, .int v1, .int v2, .int v3, .int v4, dv, dv], [.int s0, .ref 316], mm I J D) = bif decide (s0 = 0) then ex (248, 47, [.ref 316, .int v1, .int v2, .int v3, .int v4, dv, dv], [.ref 316], mm I J D) else ex (248, 22, [.ref 316, .int v1, .int v2, .int v3, .int v4, dv, dv], [.ref 316], mm I J D) := (ex_itr 1 _).trans rfl
set_option maxRecDepth 100000 in
theorem e_248_22 (I : Nat → Nat → Int32) (J : Nat → Nat → Int64) (D : Nat → Nat → UInt64) (v1 : Int32) (v2 : Int32) (v3 : Int32) (v4 : Int32) : ex (248, 22, [.ref 316, .int v1, .int v2, .int v3, .int v4, dv, dv], [.ref 316], mm I J D) = cal 248 29 [.ref 316, .int v1, .int v2, .int v3, .int v4, dv, dv] [.ref 316] (ex (157, 0, [.int v3, .int 0, .int 20], [], mm I J D)) := (ex_itr 4 _).trans rfl
set_option maxRecDepth 100000 in
theorem e_248_29 (I : Nat → Nat → Int32) (J : Nat → Nat → Int64) (D : Nat → Nat → UInt64) (v1 : Int32) (v2 : Int32) (v3 : Int32) (v4 : Int32) (s0 : Int32) : ex (248, 29, [.ref 316, .int v1, .int v2, .int v3, .int v4, dv, dv], [.int s0, .ref 316], mm I J D) = bif decide (s0 = 0) then ex (248, 47, [.ref 316, .int v1, .int v2, .int v3, .int v4, dv, dv], [.ref 316], mm I J D) else ex (248, 32, [.ref 316, .int v1, .int v2, .int v3, .int v4, dv, dv], [.ref 316], mm I J D) := (ex_itr 1 _).trans rfl
set_option maxRecDepth 100000 in
theorem e_248_32 (I : Nat → Nat → Int32) (J : Nat → Nat → Int64) (D : Nat → Nat → UInt64) (v1 : Int32) (v2 : Int32) (v3 : Int32) (v4 : Int32) : ex (248, 32, [.ref 316, .int v1, .int v2, .int v3, .int v4, dv, dv], [.ref 316], mm I J D) = cal 248 40 [.ref 316, .int v1, .int v2, .int v3, .int v4, dv, dv] [.ref 316] (ex (157, 0, [.int v4, .int 0, .int 20], [], mm I J D)) := (ex_itr 4 _).trans rfl
set_option maxRecDepth 100000 in
theorem e_248_40 (I : Nat → Nat → Int32) (J : Nat → Nat → Int64) (D : Nat → Nat → UInt64) (v1 : Int32) (v2 : Int32) (v3 : Int32) (v4 : Int32) (s0 : Int32) : ex (248, 40, [.ref 316, .int v1, .int v2, .int v3, .int v4, dv, dv], [.int s0, .ref 316], mm I J D) = bif decide (s0 = 0) then ex (248, 47, [.ref 316, .int v1, .int v2, .int v3, .int v4, dv, dv], [.ref 316], mm I J D) else ex (248, 43, [.ref 316, .int v1, .int v2, .int v3, .int v4, dv, dv], [.ref 316], mm I J D) := (ex_itr 1 _).trans rfl
set_option maxRecDepth 100000 in
theorem e_248_43 (I : Nat → Nat → Int32) (J : Nat → Nat → Int64) (D : Nat → Nat → UInt64) (v1 : Int32) (v2 : Int32) (v3 : Int32) (v4 : Int32) : ex (248, 43, [.ref 316, .int v1, .int v2, .int v3, .int v4, dv, dv], [.ref 316], mm I J D) = ex (248, 48, [.ref 316, .int v1, .int v2, .int v3, .int v4, dv, dv], [.int 1, .ref 316], mm I J D) := (ex_itr 2 _).trans rfl
set_option maxRecDepth 100000 in
theorem e_248_47 (I : Nat → Nat → Int32) (J : Nat → Nat → Int64) (D : Nat → Nat → UInt64) (v1 : Int32) (v2 : Int32) (v3 : Int32) (v4 : Int32) : ex (248, 47, [.ref 316, .int v1, .int v2, .int v3, .int v4, dv, dv], [.ref 316], mm I J D) = ex (248, 48, [.ref 316, .int v1, .int v2, .int v3, .int v4, dv, dv], [.int 0, .ref 316], mm I J D) := (ex_itr 1 _).trans rfl
set_option maxRecDepth 100000 in
theorem e_248_48 (I : Nat → Nat → Int32) (J : Nat → Nat → Int64) (D : Nat → Nat → UInt64) (v1 : Int32) (v2 : Int32) (v3 : Int32) (v4 : Int32) (s0 : Int32) : ex (248, 48, [.ref 316, .int v1, .int v2, .int v3, .int v4, dv, dv], [.int s0, .ref 316], mm I J D) = cal 248 52 [.ref 316, .int v1, .int v2, .int v3, .int v4, dv, dv] [] (ex (156, 0, [.ref 316, .int s0, .int 1], [], mm I J D)) := (ex_itr 2 _).trans rfl
set_option maxRecDepth 100000 in
theorem e_248_52 (I : Nat → Nat → Int32) (J : Nat → Nat → Int64) (D : Nat → Nat → UInt64) (v1 : Int32) (v2 : Int32) (v3 : Int32) (v4 : Int32) (s0 : Int32) : ex (248, 52, [.ref 316, .int v1, .int v2, .int v3, .int v4, dv, dv], [.int s0], mm I J D) = bif decide (s0 ≠ 0) then ex (248, 57, [.ref 316, .int v1, .int v2, .int v3, .int v4, dv, dv], [], mm I J D) else ex (248, 55, [dv, dv, dv, dv, dv, dv, dv], [], mm I J D) := (ex_itr 1 _).trans rfl
set_option maxRecDepth 100000 in
theorem e_248_55 (I : Nat → Nat → Int32) (J : Nat → Nat → Int64) (D : Nat → Nat → UInt64)  : ex (248, 55, [dv, dv, dv, dv, dv, dv, dv], [], mm I J D) = some (.inl (some (.int 0)), mm I J D) := (ex_itr 2 _).trans rfl
set_option maxRecDepth 100000 in
theorem e_248_57 (I : Nat → Nat → Int32) (J : Nat → Nat → Int64) (D : Nat → Nat → UInt64) (v1 : Int32) (v2 : Int32) (v3 : Int32) (v4 : Int32) : ex (248, 57, [.ref 316, .int v1, .int v2, .int v3, .int v4, dv, dv], [], mm I J D) = cal 248 61 [.ref 316, .int v1, .int v2, .int v3, .int v4, dv, dv] [] (ex (161, 0, [.ref 316, dv, dv], [], mm I J D)) := (ex_itr 2 _).trans rfl
set_option maxRecDepth 100000 in
theorem e_248_61 (I : Nat → Nat → Int32) (J : Nat → Nat → Int64) (D : Nat → Nat → UInt64) (v1 : Int32) (v2 : Int32) (v3 : Int32) (v4 : Int32) : ex (248, 61, [.ref 316, .int v1, .int v2, .int v3, .int v4, dv, dv], [], mm I J D) = ex (248, 64, [.ref 316, .int v1, .int v2, .int v3, .int v4, .int 0, dv], [], mm I J D) := (ex_itr 2 _).trans rfl
set_option maxRecDepth 100000 in
theorem e_248_64 (I : Nat → Nat → Int32) (J : Nat → Nat → Int64) (D : Nat → Nat → UInt64) (v1 : Int32) (v2 : Int32) (v3 : Int32) (v4 : Int32) (v5 : Int32) : ex (248, 64, [.ref 316, .int v1, .int v2, .int v3, .int v4, .int v5, dv], [], mm I J D) = bif decide (v1 ≤ v5) then ex (248, 84, [.ref 316, dv, dv, dv, dv, dv, dv], [], mm I J D) else ex (248, 70, [.ref 316, .int v1, .int v2, .int v3, .int v4, .int v5, dv], [], mm I J D) := (ex_itr 3 _).trans rfl
set_option maxRecDepth 100000 in
theorem e_248_70 (I : Nat → Nat → Int32) (J : Nat → Nat → Int64) (D : Nat → Nat → UInt64) (v1 : Int32) (v2 : Int32) (v3 : Int32) (v4 : Int32) (v5 : Int32) : ex (248, 70, [.ref 316, .int v1, .int v2, .int v3, .int v4, .int v5, dv], [], mm I J D) = cal 248 78 [.ref 316, .int v1, .int v2, .int v3, .int v4, .int v5, dv] [] (ex (247, 0, [.ref 316, .int v2, .int v3, .int v4, dv, dv, dv], [], mm I J D)) := (ex_itr 5 _).trans rfl
set_option maxRecDepth 100000 in
theorem e_248_78 (I : Nat → Nat → Int32) (J : Nat → Nat → Int64) (D : Nat → Nat → UInt64) (v1 : Int32) (v2 : Int32) (v3 : Int32) (v4 : Int32) (v5 : Int32) : ex (248, 78, [.ref 316, .int v1, .int v2, .int v3, .int v4, .int v5, dv], [], mm I J D) = ex (248, 64, [.ref 316, .int v1, .int v2, .int v3, .int v4, .int (v5 + 1), dv], [], mm I J D) := (ex_itr 2 _).trans rfl
set_option maxRecDepth 100000 in
theorem e_248_84 (I : Nat → Nat → Int32) (J : Nat → Nat → Int64) (D : Nat → Nat → UInt64)  : ex (248, 84, [.ref 316, dv, dv, dv, dv, dv, dv], [], mm I J D) = ex (248, 90, [.ref 316, dv, dv, dv, dv, .int 0, .int 0], [], mm I J D) := (ex_itr 4 _).trans rfl
set_option maxRecDepth 100000 in
theorem e_248_90 (I : Nat → Nat → Int32) (J : Nat → Nat → Int64) (D : Nat → Nat → UInt64) (v5 : Int32) (v6 : Int32) : ex (248, 90, [.ref 316, dv, dv, dv, dv, .int v5, .int v6], [], mm I J D) = bif decide (12 ≤ v6) then ex (248, 119, [dv, dv, dv, dv, dv, .int v5, dv], [], mm I J D) else ex (248, 97, [.ref 316, dv, dv, dv, dv, .int v5, .int v6], [], mm I J D) := (ex_itr 3 _).trans rfl
set_option maxRecDepth 100000 in
theorem e_248_97 (I : Nat → Nat → Int32) (J : Nat → Nat → Int64) (D : Nat → Nat → UInt64) (v5 : Int32) (v6 : Int32) : ex (248, 97, [.ref 316, dv, dv, dv, dv, .int v5, .int v6], [], mm I J D) = bif inb ((812 : Int32) + v6) 850 then (ex (248, 90, [.ref 316, dv, dv, dv, dv, .int (v5 + (I 317 ((812 : Int32) + v6).toNatClampNeg)), .int (v6 + 1)], [], mm I J D)) else none := (ex_itr 11 _).trans rfl
set_option maxRecDepth 100000 in
theorem e_248_119 (I : Nat → Nat → Int32) (J : Nat → Nat → Int64) (D : Nat → Nat → UInt64) (v5 : Int32) : ex (248, 119, [dv, dv, dv, dv, dv, .int v5, dv], [], mm I J D) = some (.inl (some (.int v5)), mm I J D) := (ex_itr 2 _).trans rfl
/-! GlacierBookModel.iceOf(I)I -/
set_option maxRecDepth 100000 in
theorem e_249_0 (I : Nat → Nat → Int32) (J : Nat → Nat → Int64) (D : Nat → Nat → UInt64) (v1 : Int32) : ex (249, 0, [.ref 316, .int v1], [], mm I J D) = cal 249 8 [.ref 316, .int v1] [.ref 316] (ex (157, 0, [.int v1, .int 0, .int 11], [], mm I J D)) := (ex_itr 5 _).trans rfl
set_option maxRecDepth 100000 in
theorem e_249_8 (I : Nat → Nat → Int32) (J : Nat → Nat → Int64) (D : Nat → Nat → UInt64) (v1 : Int32) (s0 : Int32) : ex (249, 8, [.ref 316, .int v1], [.int s0, .ref 316], mm I J D) = cal 249 12 [.ref 316, .int v1] [] (ex (156, 0, [.ref 316, .int s0, .int 1], [], mm I J D)) := (ex_itr 2 _).trans rfl
set_option maxRecDepth 100000 in
theorem e_249_12 (I : Nat → Nat → Int32) (J : Nat → Nat → Int64) (D : Nat → Nat → UInt64) (v1 : Int32) (s0 : Int32) : ex (249, 12, [.ref 316, .int v1], [.int s0], mm I J D) = bif decide (s0 = 0) then ex (249, 28, [dv, dv], [], mm I J D) else ex (249, 15, [.ref 316, .int v1], [], mm I J D) := (ex_itr 1 _).trans rfl
set_option maxRecDepth 100000 in
theorem e_249_15 (I : Nat → Nat → Int32) (J : Nat → Nat → Int64) (D : Nat → Nat → UInt64) (v1 : Int32) : ex (249, 15, [.ref 316, .int v1], [], mm I J D) = bif inb ((812 : Int32) + v1) 850 then (ex (249, 29, [dv, dv], [.int (I 317 ((812 : Int32) + v1).toNatClampNeg)], mm I J D)) else none := (ex_itr 7 _).trans rfl
set_option maxRecDepth 100000 in
theorem e_249_28 (I : Nat → Nat → Int32) (J : Nat → Nat → Int64) (D : Nat → Nat → UInt64)  : ex (249, 28, [dv, dv], [], mm I J D) = ex (249, 29, [dv, dv], [.int 0], mm I J D) := (ex_itr 1 _).trans rfl
set_option maxRecDepth 100000 in
theorem e_249_29 (I : Nat → Nat → Int32) (J : Nat → Nat → Int64) (D : Nat → Nat → UInt64) (s0 : Int32) : ex (249, 29, [dv, dv], [.int s0], mm I J D) = some (.inl (some (.int s0)), mm I J D) := (ex_itr 1 _).trans rfl
/-! GlacierBookModel.won()I -/
set_option maxRecDepth 100000 in
theorem e_250_0 (I : Nat → Nat → Int32) (J : Nat → Nat → Int64) (D : Nat → Nat → UInt64)  : ex (250, 0, [.ref 316], [], mm I J D) = some (.inl (some (.int ((ups I 316 0 0) 317 824))), mm (ups I 316 0 0) J D) := (ex_itr 8 _).trans rfl
/-! GlacierBookModel.type(J)I -/
set_option maxRecDepth 100000 in
theorem e_251_0 (I : Nat → Nat → Int32) (J : Nat → Nat → Int64) (D : Nat → Nat → UInt64) (v1 : Int64) : ex (251, 0, [.ref 316, .long v1, dv, dv, dv, dv, dv], [], mm I J D) = ex (251, 9, [.ref 316, .long v1, dv, .int 0, .int 1, .int 56, dv], [], mm I J D) := (ex_itr 6 _).trans rfl
set_option maxRecDepth 100000 in
theorem e_251_9 (I : Nat → Nat → Int32) (J : Nat → Nat → Int64) (D : Nat → Nat → UInt64) (v1 : Int64) (v3 : Int32) (v4 : Int32) (v5 : Int32) : ex (251, 9, [.ref 316, .long v1, dv, .int v3, .int v4, .int v5, dv], [], mm I J D) = bif decide (v5 < 0) then ex (251, 73, [.ref 316, .long v1, dv, .int v3, .int v4, dv, dv], [], mm I J D) else ex (251, 14, [.ref 316, .long v1, dv, .int v3, .int v4, .int v5, dv], [], mm I J D) := (ex_itr 2 _).trans rfl
set_option maxRecDepth 100000 in
theorem e_251_14 (I : Nat → Nat → Int32) (J : Nat → Nat → Int64) (D : Nat → Nat → UInt64) (v1 : Int64) (v3 : Int32) (v4 : Int32) (v5 : Int32) : ex (251, 14, [.ref 316, .long v1, dv, .int v3, .int v4, .int v5, dv], [], mm I J D) = bif decide (v4 = 0) then ex (251, 51, [.ref 316, .long v1, dv, .int v3, dv, .int v5, .int (((v1 >>> (v5.toInt64 &&& 63)) &&& 255).toInt32)], [], mm I J D) else ex (251, 30, [.ref 316, .long v1, dv, .int v3, dv, .int v5, .int (((v1 >>> (v5.toInt64 &&& 63)) &&& 255).toInt32)], [], mm I J D) := (ex_itr 9 _).trans rfl
set_option maxRecDepth 100000 in
theorem e_251_30 (I : Nat → Nat → Int32) (J : Nat → Nat → Int64) (D : Nat → Nat → UInt64) (v1 : Int64) (v3 : Int32) (v5 : Int32) (v6 : Int32) : ex (251, 30, [.ref 316, .long v1, dv, .int v3, dv, .int v5, .int v6], [], mm I J D) = bif decide (v6 = 0) then ex (251, 47, [.ref 316, .long v1, dv, .int v3, dv, .int v5, .int v6], [], mm I J D) else ex (251, 35, [.ref 316, .long v1, dv, .int v3, dv, .int v5, .int v6], [], mm I J D) := (ex_itr 2 _).trans rfl
set_option maxRecDepth 100000 in
theorem e_251_35 (I : Nat → Nat → Int32) (J : Nat → Nat → Int64) (D : Nat → Nat → UInt64) (v1 : Int64) (v3 : Int32) (v5 : Int32) (v6 : Int32) : ex (251, 35, [.ref 316, .long v1, dv, .int v3, dv, .int v5, .int v6], [], mm I J D) = cal 251 44 [.ref 316, .long v1, dv, .int v3, dv, .int v5, .int v6] [] (ex (157, 0, [.int v6, .int 32, .int 126], [], mm I J D)) := (ex_itr 4 _).trans rfl
set_option maxRecDepth 100000 in
theorem e_251_44 (I : Nat → Nat → Int32) (J : Nat → Nat → Int64) (D : Nat → Nat → UInt64) (v1 : Int64) (v3 : Int32) (v5 : Int32) (v6 : Int32) (s0 : Int32) : ex (251, 44, [.ref 316, .long v1, dv, .int v3, dv, .int v5, .int v6], [.int s0], mm I J D) = bif decide (s0 = 0) then ex (251, 51, [.ref 316, .long v1, dv, .int v3, dv, .int v5, .int v6], [], mm I J D) else ex (251, 47, [.ref 316, .long v1, dv, .int v3, dv, .int v5, .int v6], [], mm I J D) := (ex_itr 1 _).trans rfl
set_option maxRecDepth 100000 in
theorem e_251_47 (I : Nat → Nat → Int32) (J : Nat → Nat → Int64) (D : Nat → Nat → UInt64) (v1 : Int64) (v3 : Int32) (v5 : Int32) (v6 : Int32) : ex (251, 47, [.ref 316, .long v1, dv, .int v3, dv, .int v5, .int v6], [], mm I J D) = ex (251, 52, [.ref 316, .long v1, dv, .int v3, dv, .int v5, .int v6], [.int 1], mm I J D) := (ex_itr 2 _).trans rfl
set_option maxRecDepth 100000 in
theorem e_251_51 (I : Nat → Nat → Int32) (J : Nat → Nat → Int64) (D : Nat → Nat → UInt64) (v1 : Int64) (v3 : Int32) (v5 : Int32) (v6 : Int32) : ex (251, 51, [.ref 316, .long v1, dv, .int v3, dv, .int v5, .int v6], [], mm I J D) = ex (251, 52, [.ref 316, .long v1, dv, .int v3, dv, .int v5, .int v6], [.int 0], mm I J D) := (ex_itr 1 _).trans rfl
set_option maxRecDepth 100000 in
theorem e_251_52 (I : Nat → Nat → Int32) (J : Nat → Nat → Int64) (D : Nat → Nat → UInt64) (v1 : Int64) (v3 : Int32) (v5 : Int32) (v6 : Int32) (s0 : Int32) : ex (251, 52, [.ref 316, .long v1, dv, .int v3, dv, .int v5, .int v6], [.int s0], mm I J D) = bif decide (v6 ≠ 0) then ex (251, 64, [.ref 316, .long v1, dv, dv, .int s0, .int v5, dv], [.int v3], mm I J D) else ex (251, 60, [.ref 316, .long v1, dv, dv, .int s0, .int v5, dv], [.int v3], mm I J D) := (ex_itr 4 _).trans rfl
set_option maxRecDepth 100000 in
theorem e_251_60 (I : Nat → Nat → Int32) (J : Nat → Nat → Int64) (D : Nat → Nat → UInt64) (v1 : Int64) (v4 : Int32) (v5 : Int32) (s0 : Int32) : ex (251, 60, [.ref 316, .long v1, dv, dv, .int v4, .int v5, dv], [.int s0], mm I J D) = ex (251, 65, [.ref 316, .long v1, dv, dv, .int v4, .int v5, dv], [.int 0, .int s0], mm I J D) := (ex_itr 2 _).trans rfl
set_option maxRecDepth 100000 in
theorem e_251_64 (I : Nat → Nat → Int32) (J : Nat → Nat → Int64) (D : Nat → Nat → UInt64) (v1 : Int64) (v4 : Int32) (v5 : Int32) (s0 : Int32) : ex (251, 64, [.ref 316, .long v1, dv, dv, .int v4, .int v5, dv], [.int s0], mm I J D) = ex (251, 65, [.ref 316, .long v1, dv, dv, .int v4, .int v5, dv], [.int 1, .int s0], mm I J D) := (ex_itr 1 _).trans rfl
set_option maxRecDepth 100000 in
theorem e_251_65 (I : Nat → Nat → Int32) (J : Nat → Nat → Int64) (D : Nat → Nat → UInt64) (v1 : Int64) (v4 : Int32) (v5 : Int32) (s0 : Int32) (s1 : Int32) : ex (251, 65, [.ref 316, .long v1, dv, dv, .int v4, .int v5, dv], [.int s0, .int s1], mm I J D) = ex (251, 9, [.ref 316, .long v1, dv, .int (s1 + s0), .int v4, .int (v5 + (-8)), dv], [], mm I J D) := (ex_itr 4 _).trans rfl
set_option maxRecDepth 100000 in
theorem e_251_73 (I : Nat → Nat → Int32) (J : Nat → Nat → Int64) (D : Nat → Nat → UInt64) (v1 : Int64) (v3 : Int32) (v4 : Int32) : ex (251, 73, [.ref 316, .long v1, dv, .int v3, .int v4, dv, dv], [], mm I J D) = cal 251 80 [.ref 316, .long v1, dv, .int v3, dv, dv, dv] [] (ex (156, 0, [.ref 316, .int v4, .int 1], [], mm I J D)) := (ex_itr 4 _).trans rfl
set_option maxRecDepth 100000 in
theorem e_251_80 (I : Nat → Nat → Int32) (J : Nat → Nat → Int64) (D : Nat → Nat → UInt64) (v1 : Int64) (v3 : Int32) (s0 : Int32) : ex (251, 80, [.ref 316, .long v1, dv, .int v3, dv, dv, dv], [.int s0], mm I J D) = bif decide (s0 = 0) then ex (251, 107, [dv, dv, dv, dv, dv, dv, dv], [], mm I J D) else ex (251, 83, [.ref 316, .long v1, dv, .int v3, dv, dv, dv], [], mm I J D) := (ex_itr 1 _).trans rfl
set_option maxRecDepth 100000 in
theorem e_251_83 (I : Nat → Nat → Int32) (J : Nat → Nat → Int64) (D : Nat → Nat → UInt64) (v1 : Int64) (v3 : Int32) : ex (251, 83, [.ref 316, .long v1, dv, .int v3, dv, dv, dv], [], mm I J D) = bif decide (80 < ((I 316 8) + v3)) then ex (251, 99, [.ref 316, .long v1, dv, dv, dv, dv, dv], [.ref 316], mm I J D) else ex (251, 95, [.ref 316, .long v1, dv, dv, dv, dv, dv], [.ref 316], mm I J D) := (ex_itr 7 _).trans rfl
set_option maxRecDepth 100000 in
theorem e_251_95 (I : Nat → Nat → Int32) (J : Nat → Nat → Int64) (D : Nat → Nat → UInt64) (v1 : Int64) : ex (251, 95, [.ref 316, .long v1, dv, dv, dv, dv, dv], [.ref 316], mm I J D) = ex (251, 100, [.ref 316, .long v1, dv, dv, dv, dv, dv], [.int 1, .ref 316], mm I J D) := (ex_itr 2 _).trans rfl
set_option maxRecDepth 100000 in
theorem e_251_99 (I : Nat → Nat → Int32) (J : Nat → Nat → Int64) (D : Nat → Nat → UInt64) (v1 : Int64) : ex (251, 99, [.ref 316, .long v1, dv, dv, dv, dv, dv], [.ref 316], mm I J D) = ex (251, 100, [.ref 316, .long v1, dv, dv, dv, dv, dv], [.int 0, .ref 316], mm I J D) := (ex_itr 1 _).trans rfl
set_option maxRecDepth 100000 in
theorem e_251_100 (I : Nat → Nat → Int32) (J : Nat → Nat → Int64) (D : Nat → Nat → UInt64) (v1 : Int64) (s0 : Int32) : ex (251, 100, [.ref 316, .long v1, dv, dv, dv, dv, dv], [.int s0, .ref 316], mm I J D) = cal 251 104 [.ref 316, .long v1, dv, dv, dv, dv, dv] [] (ex (156, 0, [.ref 316, .int s0, .int 2], [], mm I J D)) := (ex_itr 2 _).trans rfl
set_option maxRecDepth 100000 in
theorem e_251_104 (I : Nat → Nat → Int32) (J : Nat → Nat → Int64) (D : Nat → Nat → UInt64) (v1 : Int64) (s0 : Int32) : ex (251, 104, [.ref 316, .long v1, dv, dv, dv, dv, dv], [.int s0], mm I J D) = bif decide (s0 ≠ 0) then ex (251, 109, [.ref 316, .long v1, dv, dv, dv, dv, dv], [], mm I J D) else ex (251, 107, [dv, dv, dv, dv, dv, dv, dv], [], mm I J D) := (ex_itr 1 _).trans rfl
set_option maxRecDepth 100000 in
theorem e_251_107 (I : Nat → Nat → Int32) (J : Nat → Nat → Int64) (D : Nat → Nat → UInt64)  : ex (251, 107, [dv, dv, dv, dv, dv, dv, dv], [], mm I J D) = some (.inl (some (.int 0)), mm I J D) := (ex_itr 2 _).trans rfl
set_option maxRecDepth 100000 in
theorem e_251_109 (I : Nat → Nat → Int32) (J : Nat → Nat → Int64) (D : Nat → Nat → UInt64) (v1 : Int64) : ex (251, 109, [.ref 316, .long v1, dv, dv, dv, dv, dv], [], mm I J D) = ex (251, 113, [.ref 316, .long v1, dv, dv, dv, .int 56, dv], [], mm I J D) := (ex_itr 2 _).trans rfl
set_option maxRecDepth 100000 in
theorem e_251_113 (I : Nat → Nat → Int32) (J : Nat → Nat → Int64) (D : Nat → Nat → UInt64) (v1 : Int64) (v5 : Int32) : ex (251, 113, [.ref 316, .long v1, dv, dv, dv, .int v5, dv], [], mm I J D) = bif decide (v5 < 0) then ex (251, 161, [.ref 316, dv, dv, dv, dv, dv, dv], [], mm I J D) else ex (251, 118, [.ref 316, .long v1, dv, dv, dv, .int v5, dv], [], mm I J D) := (ex_itr 2 _).trans rfl
set_option maxRecDepth 100000 in
theorem e_251_118 (I : Nat → Nat → Int32) (J : Nat → Nat → Int64) (D : Nat → Nat → UInt64) (v1 : Int64) (v5 : Int32) : ex (251, 118, [.ref 316, .long v1, dv, dv, dv, .int v5, dv], [], mm I J D) = bif decide ((((v1 >>> (v5.toInt64 &&& 63)) &&& 255).toInt32) = 0) then ex (251, 155, [.ref 316, .long v1, dv, dv, dv, .int v5, dv], [], mm I J D) else ex (251, 134, [.ref 316, .long v1, dv, dv, dv, .int v5, .int (((v1 >>> (v5.toInt64 &&& 63)) &&& 255).toInt32)], [], mm I J D) := (ex_itr 9 _).trans rfl
set_option maxRecDepth 100000 in
theorem e_251_134 (I : Nat → Nat → Int32) (J : Nat → Nat → Int64) (D : Nat → Nat → UInt64) (v1 : Int64) (v5 : Int32) (v6 : Int32) : ex (251, 134, [.ref 316, .long v1, dv, dv, dv, .int v5, .int v6], [], mm I J D) = bif inb (I 316 8) 80 then (ex (251, 155, [.ref 316, .long v1, dv, dv, dv, .int v5, dv], [], mm (ups (ups I 320 ((I 316 8).toNatClampNeg) v6) 316 8 (((ups I 320 ((I 316 8).toNatClampNeg) v6) 316 8) + 1)) J D)) else none := (ex_itr 12 _).trans rfl
set_option maxRecDepth 100000 in
theorem e_251_155 (I : Nat → Nat → Int32) (J : Nat → Nat → Int64) (D : Nat → Nat → UInt64) (v1 : Int64) (v5 : Int32) : ex (251, 155, [.ref 316, .long v1, dv, dv, dv, .int v5, dv], [], mm I J D) = ex (251, 113, [.ref 316, .long v1, dv, dv, dv, .int (v5 + (-8)), dv], [], mm I J D) := (ex_itr 2 _).trans rfl
set_option maxRecDepth 100000 in
theorem e_251_161 (I : Nat → Nat → Int32) (J : Nat → Nat → Int64) (D : Nat → Nat → UInt64)  : ex (251, 161, [.ref 316, dv, dv, dv, dv, dv, dv], [], mm I J D) = some (.inl (some (.int (I 316 8))), mm I J D) := (ex_itr 3 _).trans rfl
/-! GlacierBookModel.laysWords()V -/
set_option maxRecDepth 100000 in
theorem e_252_0 (I : Nat → Nat → Int32) (J : Nat → Nat → Int64) (D : Nat → Nat → UInt64)  : ex (252, 0, [.ref 316, dv], [], mm I J D) = ex (252, 7, [.ref 316, .int 0], [], mm (ups I 316 23 0) J D) := (ex_itr 5 _).trans rfl
set_option maxRecDepth 100000 in
theorem e_252_7 (I : Nat → Nat → Int32) (J : Nat → Nat → Int64) (D : Nat → Nat → UInt64) (v1 : Int32) : ex (252, 7, [.ref 316, .int v1], [], mm I J D) = bif decide ((I 316 8) ≤ v1) then ex (252, 90, [dv, dv], [], mm I J D) else ex (252, 15, [.ref 316, .int v1], [], mm I J D) := (ex_itr 4 _).trans rfl
set_option maxRecDepth 100000 in
theorem e_252_15 (I : Nat → Nat → Int32) (J : Nat → Nat → Int64) (D : Nat → Nat → UInt64) (v1 : Int32) : ex (252, 15, [.ref 316, .int v1], [], mm I J D) = bif inb v1 80 then (bif decide ((I 320 v1.toNatClampNeg) ≠ 32) then ex (252, 32, [.ref 316, .int v1], [], mm I J D) else ex (252, 26, [.ref 316, .int v1], [], mm I J D)) else none := (ex_itr 6 _).trans rfl
set_option maxRecDepth 100000 in
theorem e_252_26 (I : Nat → Nat → Int32) (J : Nat → Nat → Int64) (D : Nat → Nat → UInt64) (v1 : Int32) : ex (252, 26, [.ref 316, .int v1], [], mm I J D) = ex (252, 7, [.ref 316, .int (v1 + 1)], [], mm I J D) := (ex_itr 2 _).trans rfl
set_option maxRecDepth 100000 in
theorem e_252_32 (I : Nat → Nat → Int32) (J : Nat → Nat → Int64) (D : Nat → Nat → UInt64) (v1 : Int32) : ex (252, 32, [.ref 316, .int v1], [], mm I J D) = bif inb (I 316 23) 80 then (ex (252, 42, [.ref 316, .int v1], [], mm (ups I 333 ((I 316 23).toNatClampNeg) v1) J D)) else none := (ex_itr 6 _).trans rfl
set_option maxRecDepth 100000 in
theorem e_252_42 (I : Nat → Nat → Int32) (J : Nat → Nat → Int64) (D : Nat → Nat → UInt64) (v1 : Int32) : ex (252, 42, [.ref 316, .int v1], [], mm I J D) = bif decide ((I 316 8) ≤ v1) then ex (252, 67, [.ref 316, .int v1], [], mm I J D) else ex (252, 50, [.ref 316, .int v1], [], mm I J D) := (ex_itr 4 _).trans rfl
set_option maxRecDepth 100000 in
theorem e_252_50 (I : Nat → Nat → Int32) (J : Nat → Nat → Int64) (D : Nat → Nat → UInt64) (v1 : Int32) : ex (252, 50, [.ref 316, .int v1], [], mm I J D) = bif inb v1 80 then (bif decide ((I 320 v1.toNatClampNeg) = 32) then ex (252, 67, [.ref 316, .int v1], [], mm I J D) else ex (252, 61, [.ref 316, .int v1], [], mm I J D)) else none := (ex_itr 6 _).trans rfl
set_option maxRecDepth 100000 in
theorem e_252_61 (I : Nat → Nat → Int32) (J : Nat → Nat → Int64) (D : Nat → Nat → UInt64) (v1 : Int32) : ex (252, 61, [.ref 316, .int v1], [], mm I J D) = ex (252, 42, [.ref 316, .int (v1 + 1)], [], mm I J D) := (ex_itr 2 _).trans rfl
set_option maxRecDepth 100000 in
theorem e_252_67 (I : Nat → Nat → Int32) (J : Nat → Nat → Int64) (D : Nat → Nat → UInt64) (v1 : Int32) : ex (252, 67, [.ref 316, .int v1], [], mm I J D) = bif inb (I 316 23) 80 then (ex (252, 7, [.ref 316, .int v1], [], mm (ups (ups I 334 ((I 316 23).toNatClampNeg) v1) 316 23 (((ups I 334 ((I 316 23).toNatClampNeg) v1) 316 23) + 1)) J D)) else none := (ex_itr 13 _).trans rfl
set_option maxRecDepth 100000 in
theorem e_252_90 (I : Nat → Nat → Int32) (J : Nat → Nat → Int64) (D : Nat → Nat → UInt64)  : ex (252, 90, [dv, dv], [], mm I J D) = some (.inl none, mm I J D) := (ex_itr 1 _).trans rfl
/-! GlacierBookModel.isWord(IJ)Z -/
set_option maxRecDepth 100000 in
theorem e_253_0 (I : Nat → Nat → Int32) (J : Nat → Nat → Int64) (D : Nat → Nat → UInt64) (v1 : Int32) (v2 : Int64) : ex (253, 0, [.ref 316, .int v1, .long v2, dv, dv, dv, dv], [], mm I J D) = bif inb v1 80 then (ex (253, 11, [.ref 316, .int v1, .long v2, dv, .long 0, dv, .int (I 333 v1.toNatClampNeg)], [], mm I J D)) else none := (ex_itr 7 _).trans rfl
set_option maxRecDepth 100000 in
theorem e_253_11 (I : Nat → Nat → Int32) (J : Nat → Nat → Int64) (D : Nat → Nat → UInt64) (v1 : Int32) (v2 : Int64) (v4 : Int64) (v6 : Int32) : ex (253, 11, [.ref 316, .int v1, .long v2, dv, .long v4, dv, .int v6], [], mm I J D) = bif inb v1 80 then (bif decide ((I 334 v1.toNatClampNeg) ≤ v6) then ex (253, 65, [dv, dv, .long v2, dv, .long v4, dv, dv], [], mm I J D) else ex (253, 22, [.ref 316, .int v1, .long v2, dv, .long v4, dv, .int v6], [], mm I J D)) else none := (ex_itr 6 _).trans rfl
set_option maxRecDepth 100000 in
theorem e_253_22 (I : Nat → Nat → Int32) (J : Nat → Nat → Int64) (D : Nat → Nat → UInt64) (v1 : Int32) (v2 : Int64) (v4 : Int64) (v6 : Int32) : ex (253, 22, [.ref 316, .int v1, .long v2, dv, .long v4, dv, .int v6], [], mm I J D) = bif inb v1 80 then (bif inb v1 80 then (bif decide (((I 334 v1.toNatClampNeg) - (I 333 v1.toNatClampNeg)) ≤ 5) then ex (253, 43, [.ref 316, .int v1, .long v2, dv, .long v4, dv, .int v6], [], mm I J D) else ex (253, 39, [.ref 316, .int v1, .long v2, dv, dv, dv, .int v6], [], mm I J D)) else none) else none := (ex_itr 11 _).trans rfl
set_option maxRecDepth 100000 in
theorem e_253_39 (I : Nat → Nat → Int32) (J : Nat → Nat → Int64) (D : Nat → Nat → UInt64) (v1 : Int32) (v2 : Int64) (v6 : Int32) : ex (253, 39, [.ref 316, .int v1, .long v2, dv, dv, dv, .int v6], [], mm I J D) = ex (253, 57, [.ref 316, .int v1, .long v2, dv, dv, dv, .int v6], [.long 0], mm I J D) := (ex_itr 2 _).trans rfl
set_option maxRecDepth 100000 in
theorem e_253_43 (I : Nat → Nat → Int32) (J : Nat → Nat → Int64) (D : Nat → Nat → UInt64) (v1 : Int32) (v2 : Int64) (v4 : Int64) (v6 : Int32) : ex (253, 43, [.ref 316, .int v1, .long v2, dv, .long v4, dv, .int v6], [], mm I J D) = bif inb v6 80 then (ex (253, 57, [.ref 316, .int v1, .long v2, dv, dv, dv, .int v6], [.long ((v4 <<< ((8 : Int32).toInt64 &&& 63)) ||| ((I 320 v6.toNatClampNeg).toInt64))], mm I J D)) else none := (ex_itr 9 _).trans rfl
set_option maxRecDepth 100000 in
theorem e_253_57 (I : Nat → Nat → Int32) (J : Nat → Nat → Int64) (D : Nat → Nat → UInt64) (v1 : Int32) (v2 : Int64) (v6 : Int32) (s0 : Int64) : ex (253, 57, [.ref 316, .int v1, .long v2, dv, dv, dv, .int v6], [.long s0], mm I J D) = ex (253, 11, [.ref 316, .int v1, .long v2, dv, .long s0, dv, .int (v6 + 1)], [], mm I J D) := (ex_itr 3 _).trans rfl
set_option maxRecDepth 100000 in
theorem e_253_65 (I : Nat → Nat → Int32) (J : Nat → Nat → Int64) (D : Nat → Nat → UInt64) (v2 : Int64) (v4 : Int64) : ex (253, 65, [dv, dv, .long v2, dv, .long v4, dv, dv], [], mm I J D) = bif decide ((lg_cmp v4 v2) ≠ 0) then ex (253, 76, [dv, dv, dv, dv, dv, dv, dv], [], mm I J D) else ex (253, 72, [dv, dv, dv, dv, dv, dv, dv], [], mm I J D) := (ex_itr 4 _).trans rfl
set_option maxRecDepth 100000 in
theorem e_253_72 (I : Nat → Nat → Int32) (J : Nat → Nat → Int64) (D : Nat → Nat → UInt64)  : ex (253, 72, [dv, dv, dv, dv, dv, dv, dv], [], mm I J D) = ex (253, 77, [dv, dv, dv, dv, dv, dv, dv], [.int 1], mm I J D) := (ex_itr 2 _).trans rfl
set_option maxRecDepth 100000 in
theorem e_253_76 (I : Nat → Nat → Int32) (J : Nat → Nat → Int64) (D : Nat → Nat → UInt64)  : ex (253, 76, [dv, dv, dv, dv, dv, dv, dv], [], mm I J D) = ex (253, 77, [dv, dv, dv, dv, dv, dv, dv], [.int 0], mm I J D) := (ex_itr 1 _).trans rfl
set_option maxRecDepth 100000 in
theorem e_253_77 (I : Nat → Nat → Int32) (J : Nat → Nat → Int64) (D : Nat → Nat → UInt64) (s0 : Int32) : ex (253, 77, [dv, dv, dv, dv, dv, dv, dv], [.int s0], mm I J D) = bif decide (s0 = 0 ∨ s0 = 1) then (some (.inl (some (.int s0)), mm I J D)) else none := (ex_itr 1 _).trans rfl
/-! GlacierBookModel.isMinus(I)Z -/
set_option maxRecDepth 100000 in
theorem e_254_0 (I : Nat → Nat → Int32) (J : Nat → Nat → Int64) (D : Nat → Nat → UInt64) (v1 : Int32) : ex (254, 0, [.ref 316, .int v1], [], mm I J D) = bif inb v1 80 then (bif inb (I 333 v1.toNatClampNeg) 80 then (bif decide ((I 320 (I 333 v1.toNatClampNeg).toNatClampNeg) ≠ 45) then ex (254, 20, [dv, dv], [], mm I J D) else ex (254, 16, [dv, dv], [], mm I J D)) else none) else none := (ex_itr 9 _).trans rfl
set_option maxRecDepth 100000 in
theorem e_254_16 (I : Nat → Nat → Int32) (J : Nat → Nat → Int64) (D : Nat → Nat → UInt64)  : ex (254, 16, [dv, dv], [], mm I J D) = ex (254, 21, [dv, dv], [.int 1], mm I J D) := (ex_itr 2 _).trans rfl
set_option maxRecDepth 100000 in
theorem e_254_20 (I : Nat → Nat → Int32) (J : Nat → Nat → Int64) (D : Nat → Nat → UInt64)  : ex (254, 20, [dv, dv], [], mm I J D) = ex (254, 21, [dv, dv], [.int 0], mm I J D) := (ex_itr 1 _).trans rfl
set_option maxRecDepth 100000 in
theorem e_254_21 (I : Nat → Nat → Int32) (J : Nat → Nat → Int64) (D : Nat → Nat → UInt64) (s0 : Int32) : ex (254, 21, [dv, dv], [.int s0], mm I J D) = bif decide (s0 = 0 ∨ s0 = 1) then (some (.inl (some (.int s0)), mm I J D)) else none := (ex_itr 1 _).trans rfl
/-! GlacierBookModel.digitsFrom(I)I -/
set_option maxRecDepth 100000 in
theorem e_255_0 (I : Nat → Nat → Int32) (J : Nat → Nat → Int64) (D : Nat → Nat → UInt64) (v1 : Int32) : ex (255, 0, [.ref 316, .int v1, dv], [], mm I J D) = cal 255 5 [.ref 316, .int v1, dv] [] (ex (254, 0, [.ref 316, .int v1], [], mm I J D)) := (ex_itr 3 _).trans rfl
set_option maxRecDepth 100000 in
theorem e_255_5 (I : Nat → Nat → Int32) (J : Nat → Nat → Int64) (D : Nat → Nat → UInt64) (v1 : Int32) (s0 : Int32) : ex (255, 5, [.ref 316, .int v1, dv], [.int s0], mm I J D) = bif decide (s0 ≠ 0) then ex (255, 24, [.ref 316, .int v1, dv], [], mm I J D) else ex (255, 8, [.ref 316, .int v1, dv], [], mm I J D) := (ex_itr 1 _).trans rfl
set_option maxRecDepth 100000 in
theorem e_255_8 (I : Nat → Nat → Int32) (J : Nat → Nat → Int64) (D : Nat → Nat → UInt64) (v1 : Int32) : ex (255, 8, [.ref 316, .int v1, dv], [], mm I J D) = bif inb v1 80 then (bif inb (I 333 v1.toNatClampNeg) 80 then (bif decide ((I 320 (I 333 v1.toNatClampNeg).toNatClampNeg) ≠ 43) then ex (255, 28, [.ref 316, .int v1, dv], [], mm I J D) else ex (255, 24, [.ref 316, .int v1, dv], [], mm I J D)) else none) else none := (ex_itr 9 _).trans rfl
set_option maxRecDepth 100000 in
theorem e_255_24 (I : Nat → Nat → Int32) (J : Nat → Nat → Int64) (D : Nat → Nat → UInt64) (v1 : Int32) : ex (255, 24, [.ref 316, .int v1, dv], [], mm I J D) = ex (255, 29, [.ref 316, .int v1, dv], [.int 1], mm I J D) := (ex_itr 2 _).trans rfl
set_option maxRecDepth 100000 in
theorem e_255_28 (I : Nat → Nat → Int32) (J : Nat → Nat → Int64) (D : Nat → Nat → UInt64) (v1 : Int32) : ex (255, 28, [.ref 316, .int v1, dv], [], mm I J D) = ex (255, 29, [.ref 316, .int v1, dv], [.int 0], mm I J D) := (ex_itr 1 _).trans rfl
set_option maxRecDepth 100000 in
theorem e_255_29 (I : Nat → Nat → Int32) (J : Nat → Nat → Int64) (D : Nat → Nat → UInt64) (v1 : Int32) (s0 : Int32) : ex (255, 29, [.ref 316, .int v1, dv], [.int s0], mm I J D) = bif inb v1 80 then (bif decide (s0 = 0) then ex (255, 44, [dv, dv, dv], [.int (I 333 v1.toNatClampNeg)], mm I J D) else ex (255, 40, [dv, dv, dv], [.int (I 333 v1.toNatClampNeg)], mm I J D)) else none := (ex_itr 7 _).trans rfl
set_option maxRecDepth 100000 in
theorem e_255_40 (I : Nat → Nat → Int32) (J : Nat → Nat → Int64) (D : Nat → Nat → UInt64) (s0 : Int32) : ex (255, 40, [dv, dv, dv], [.int s0], mm I J D) = ex (255, 45, [dv, dv, dv], [.int 1, .int s0], mm I J D) := (ex_itr 2 _).trans rfl
set_option maxRecDepth 100000 in
theorem e_255_44 (I : Nat → Nat → Int32) (J : Nat → Nat → Int64) (D : Nat → Nat → UInt64) (s0 : Int32) : ex (255, 44, [dv, dv, dv], [.int s0], mm I J D) = ex (255, 45, [dv, dv, dv], [.int 0, .int s0], mm I J D) := (ex_itr 1 _).trans rfl
set_option maxRecDepth 100000 in
theorem e_255_45 (I : Nat → Nat → Int32) (J : Nat → Nat → Int64) (D : Nat → Nat → UInt64) (s0 : Int32) (s1 : Int32) : ex (255, 45, [dv, dv, dv], [.int s0, .int s1], mm I J D) = some (.inl (some (.int (s1 + s0))), mm I J D) := (ex_itr 2 _).trans rfl
/-! GlacierBookModel.amount(I)J -/
set_option maxRecDepth 100000 in
theorem e_256_0 (I : Nat → Nat → Int32) (J : Nat → Nat → Int64) (D : Nat → Nat → UInt64) (v1 : Int32) : ex (256, 0, [.ref 316, .int v1, dv, dv, dv], [], mm I J D) = cal 256 7 [.ref 316, .int v1, .long 0, dv, dv] [] (ex (255, 0, [.ref 316, .int v1, dv], [], mm I J D)) := (ex_itr 5 _).trans rfl
set_option maxRecDepth 100000 in
theorem e_256_7 (I : Nat → Nat → Int32) (J : Nat → Nat → Int64) (D : Nat → Nat → UInt64) (v1 : Int32) (v2 : Int64) (s0 : Int32) : ex (256, 7, [.ref 316, .int v1, .long v2, dv, dv], [.int s0], mm I J D) = ex (256, 9, [.ref 316, .int v1, .long v2, dv, .int s0], [], mm I J D) := (ex_itr 1 _).trans rfl
set_option maxRecDepth 100000 in
theorem e_256_9 (I : Nat → Nat → Int32) (J : Nat → Nat → Int64) (D : Nat → Nat → UInt64) (v1 : Int32) (v2 : Int64) (v4 : Int32) : ex (256, 9, [.ref 316, .int v1, .long v2, dv, .int v4], [], mm I J D) = bif inb v1 80 then (bif decide ((I 334 v1.toNatClampNeg) ≤ v4) then ex (256, 57, [dv, dv, .long v2, dv, dv], [], mm I J D) else ex (256, 20, [.ref 316, .int v1, .long v2, dv, .int v4], [], mm I J D)) else none := (ex_itr 6 _).trans rfl
set_option maxRecDepth 100000 in
theorem e_256_20 (I : Nat → Nat → Int32) (J : Nat → Nat → Int64) (D : Nat → Nat → UInt64) (v1 : Int32) (v2 : Int64) (v4 : Int32) : ex (256, 20, [.ref 316, .int v1, .long v2, dv, .int v4], [], mm I J D) = bif decide ((lg_cmp v2 99999999999) ≤ 0) then ex (256, 32, [.ref 316, .int v1, .long v2, dv, .int v4], [], mm I J D) else ex (256, 28, [.ref 316, .int v1, .long v2, dv, .int v4], [], mm I J D) := (ex_itr 4 _).trans rfl
set_option maxRecDepth 100000 in
theorem e_256_28 (I : Nat → Nat → Int32) (J : Nat → Nat → Int64) (D : Nat → Nat → UInt64) (v1 : Int32) (v2 : Int64) (v4 : Int32) : ex (256, 28, [.ref 316, .int v1, .long v2, dv, .int v4], [], mm I J D) = ex (256, 50, [.ref 316, .int v1, dv, dv, .int v4], [.long v2], mm I J D) := (ex_itr 2 _).trans rfl
set_option maxRecDepth 100000 in
theorem e_256_32 (I : Nat → Nat → Int32) (J : Nat → Nat → Int64) (D : Nat → Nat → UInt64) (v1 : Int32) (v2 : Int64) (v4 : Int32) : ex (256, 32, [.ref 316, .int v1, .long v2, dv, .int v4], [], mm I J D) = bif inb v4 80 then (ex (256, 50, [.ref 316, .int v1, dv, dv, .int v4], [.long (((10 * v2) + ((I 320 v4.toNatClampNeg).toInt64)) - 48)], mm I J D)) else none := (ex_itr 11 _).trans rfl
set_option maxRecDepth 100000 in
theorem e_256_50 (I : Nat → Nat → Int32) (J : Nat → Nat → Int64) (D : Nat → Nat → UInt64) (v1 : Int32) (v4 : Int32) (s0 : Int64) : ex (256, 50, [.ref 316, .int v1, dv, dv, .int v4], [.long s0], mm I J D) = ex (256, 9, [.ref 316, .int v1, .long s0, dv, .int (v4 + 1)], [], mm I J D) := (ex_itr 3 _).trans rfl
set_option maxRecDepth 100000 in
theorem e_256_57 (I : Nat → Nat → Int32) (J : Nat → Nat → Int64) (D : Nat → Nat → UInt64) (v2 : Int64) : ex (256, 57, [dv, dv, .long v2, dv, dv], [], mm I J D) = some (.inl (some (.long v2)), mm I J D) := (ex_itr 2 _).trans rfl
/-! GlacierBookModel.isNumber(I)Z -/
set_option maxRecDepth 100000 in
theorem e_257_0 (I : Nat → Nat → Int32) (J : Nat → Nat → Int64) (D : Nat → Nat → UInt64) (v1 : Int32) : ex (257, 0, [.ref 316, .int v1, dv], [], mm I J D) = cal 257 5 [.ref 316, .int v1, dv] [] (ex (255, 0, [.ref 316, .int v1, dv], [], mm I J D)) := (ex_itr 3 _).trans rfl
set_option maxRecDepth 100000 in
theorem e_257_5 (I : Nat → Nat → Int32) (J : Nat → Nat → Int64) (D : Nat → Nat → UInt64) (v1 : Int32) (s0 : Int32) : ex (257, 5, [.ref 316, .int v1, dv], [.int s0], mm I J D) = bif inb v1 80 then (bif decide (s0 ≠ (I 334 v1.toNatClampNeg)) then ex (257, 16, [.ref 316, .int v1, dv], [], mm I J D) else ex (257, 14, [dv, dv, dv], [], mm I J D)) else none := (ex_itr 5 _).trans rfl
set_option maxRecDepth 100000 in
theorem e_257_14 (I : Nat → Nat → Int32) (J : Nat → Nat → Int64) (D : Nat → Nat → UInt64)  : ex (257, 14, [dv, dv, dv], [], mm I J D) = some (.inl (some (.int 0)), mm I J D) := (ex_itr 2 _).trans rfl
set_option maxRecDepth 100000 in
theorem e_257_16 (I : Nat → Nat → Int32) (J : Nat → Nat → Int64) (D : Nat → Nat → UInt64) (v1 : Int32) : ex (257, 16, [.ref 316, .int v1, dv], [], mm I J D) = cal 257 21 [.ref 316, .int v1, dv] [] (ex (255, 0, [.ref 316, .int v1, dv], [], mm I J D)) := (ex_itr 3 _).trans rfl
set_option maxRecDepth 100000 in
theorem e_257_21 (I : Nat → Nat → Int32) (J : Nat → Nat → Int64) (D : Nat → Nat → UInt64) (v1 : Int32) (s0 : Int32) : ex (257, 21, [.ref 316, .int v1, dv], [.int s0], mm I J D) = ex (257, 22, [.ref 316, .int v1, .int s0], [], mm I J D) := (ex_itr 1 _).trans rfl
set_option maxRecDepth 100000 in
theorem e_257_22 (I : Nat → Nat → Int32) (J : Nat → Nat → Int64) (D : Nat → Nat → UInt64) (v1 : Int32) (v2 : Int32) : ex (257, 22, [.ref 316, .int v1, .int v2], [], mm I J D) = bif inb v1 80 then (bif decide ((I 334 v1.toNatClampNeg) ≤ v2) then ex (257, 56, [.ref 316, .int v1, dv], [], mm I J D) else ex (257, 32, [.ref 316, .int v1, .int v2], [], mm I J D)) else none := (ex_itr 6 _).trans rfl
set_option maxRecDepth 100000 in
theorem e_257_32 (I : Nat → Nat → Int32) (J : Nat → Nat → Int64) (D : Nat → Nat → UInt64) (v1 : Int32) (v2 : Int32) : ex (257, 32, [.ref 316, .int v1, .int v2], [], mm I J D) = bif inb v2 80 then (cal 257 45 [.ref 316, .int v1, .int v2] [] (ex (157, 0, [.int (I 320 v2.toNatClampNeg), .int 48, .int 57], [], mm I J D))) else none := (ex_itr 7 _).trans rfl
set_option maxRecDepth 100000 in
theorem e_257_45 (I : Nat → Nat → Int32) (J : Nat → Nat → Int64) (D : Nat → Nat → UInt64) (v1 : Int32) (v2 : Int32) (s0 : Int32) : ex (257, 45, [.ref 316, .int v1, .int v2], [.int s0], mm I J D) = bif decide (s0 ≠ 0) then ex (257, 50, [.ref 316, .int v1, .int v2], [], mm I J D) else ex (257, 48, [dv, dv, dv], [], mm I J D) := (ex_itr 1 _).trans rfl
set_option maxRecDepth 100000 in
theorem e_257_48 (I : Nat → Nat → Int32) (J : Nat → Nat → Int64) (D : Nat → Nat → UInt64)  : ex (257, 48, [dv, dv, dv], [], mm I J D) = some (.inl (some (.int 0)), mm I J D) := (ex_itr 2 _).trans rfl
set_option maxRecDepth 100000 in
theorem e_257_50 (I : Nat → Nat → Int32) (J : Nat → Nat → Int64) (D : Nat → Nat → UInt64) (v1 : Int32) (v2 : Int32) : ex (257, 50, [.ref 316, .int v1, .int v2], [], mm I J D) = ex (257, 22, [.ref 316, .int v1, .int (v2 + 1)], [], mm I J D) := (ex_itr 2 _).trans rfl
set_option maxRecDepth 100000 in
theorem e_257_56 (I : Nat → Nat → Int32) (J : Nat → Nat → Int64) (D : Nat → Nat → UInt64) (v1 : Int32) : ex (257, 56, [.ref 316, .int v1, dv], [], mm I J D) = cal 257 61 [.ref 316, .int v1, dv] [] (ex (256, 0, [.ref 316, .int v1, dv, dv, dv], [], mm I J D)) := (ex_itr 3 _).trans rfl
set_option maxRecDepth 100000 in
theorem e_257_61 (I : Nat → Nat → Int32) (J : Nat → Nat → Int64) (D : Nat → Nat → UInt64) (v1 : Int32) (s0 : Int64) : ex (257, 61, [.ref 316, .int v1, dv], [.long s0], mm I J D) = cal 257 66 [dv, dv, dv] [.long s0] (ex (254, 0, [.ref 316, .int v1], [], mm I J D)) := (ex_itr 3 _).trans rfl
set_option maxRecDepth 100000 in
theorem e_257_66 (I : Nat → Nat → Int32) (J : Nat → Nat → Int64) (D : Nat → Nat → UInt64) (s0 : Int32) (s1 : Int64) : ex (257, 66, [dv, dv, dv], [.int s0, .long s1], mm I J D) = bif decide (s0 = 0) then ex (257, 75, [dv, dv, dv], [.long s1], mm I J D) else ex (257, 69, [dv, dv, dv], [.long s1], mm I J D) := (ex_itr 1 _).trans rfl
set_option maxRecDepth 100000 in
theorem e_257_69 (I : Nat → Nat → Int32) (J : Nat → Nat → Int64) (D : Nat → Nat → UInt64) (s0 : Int64) : ex (257, 69, [dv, dv, dv], [.long s0], mm I J D) = ex (257, 78, [dv, dv, dv], [.long 2147483648, .long s0], mm I J D) := (ex_itr 2 _).trans rfl
set_option maxRecDepth 100000 in
theorem e_257_75 (I : Nat → Nat → Int32) (J : Nat → Nat → Int64) (D : Nat → Nat → UInt64) (s0 : Int64) : ex (257, 75, [dv, dv, dv], [.long s0], mm I J D) = ex (257, 78, [dv, dv, dv], [.long 2147483647, .long s0], mm I J D) := (ex_itr 1 _).trans rfl
set_option maxRecDepth 100000 in
theorem e_257_78 (I : Nat → Nat → Int32) (J : Nat → Nat → Int64) (D : Nat → Nat → UInt64) (s0 : Int64) (s1 : Int64) : ex (257, 78, [dv, dv, dv], [.long s0, .long s1], mm I J D) = bif decide (0 < (lg_cmp s1 s0)) then ex (257, 86, [dv, dv, dv], [], mm I J D) else ex (257, 82, [dv, dv, dv], [], mm I J D) := (ex_itr 2 _).trans rfl
set_option maxRecDepth 100000 in
theorem e_257_82 (I : Nat → Nat → Int32) (J : Nat → Nat → Int64) (D : Nat → Nat → UInt64)  : ex (257, 82, [dv, dv, dv], [], mm I J D) = ex (257, 87, [dv, dv, dv], [.int 1], mm I J D) := (ex_itr 2 _).trans rfl
set_option maxRecDepth 100000 in
theorem e_257_86 (I : Nat → Nat → Int32) (J : Nat → Nat → Int64) (D : Nat → Nat → UInt64)  : ex (257, 86, [dv, dv, dv], [], mm I J D) = ex (257, 87, [dv, dv, dv], [.int 0], mm I J D) := (ex_itr 1 _).trans rfl
set_option maxRecDepth 100000 in
theorem e_257_87 (I : Nat → Nat → Int32) (J : Nat → Nat → Int64) (D : Nat → Nat → UInt64) (s0 : Int32) : ex (257, 87, [dv, dv, dv], [.int s0], mm I J D) = bif decide (s0 = 0 ∨ s0 = 1) then (some (.inl (some (.int s0)), mm I J D)) else none := (ex_itr 1 _).trans rfl
/-! GlacierBookModel.numberOf(I)I -/
set_option maxRecDepth 100000 in
theorem e_258_0 (I : Nat → Nat → Int32) (J : Nat → Nat → Int64) (D : Nat → Nat → UInt64) (v1 : Int32) : ex (258, 0, [.ref 316, .int v1], [], mm I J D) = cal 258 5 [.ref 316, .int v1] [] (ex (254, 0, [.ref 316, .int v1], [], mm I J D)) := (ex_itr 3 _).trans rfl
set_option maxRecDepth 100000 in
theorem e_258_5 (I : Nat → Nat → Int32) (J : Nat → Nat → Int64) (D : Nat → Nat → UInt64) (v1 : Int32) (s0 : Int32) : ex (258, 5, [.ref 316, .int v1], [.int s0], mm I J D) = bif decide (s0 = 0) then ex (258, 17, [.ref 316, .int v1], [], mm I J D) else ex (258, 8, [.ref 316, .int v1], [], mm I J D) := (ex_itr 1 _).trans rfl
set_option maxRecDepth 100000 in
theorem e_258_8 (I : Nat → Nat → Int32) (J : Nat → Nat → Int64) (D : Nat → Nat → UInt64) (v1 : Int32) : ex (258, 8, [.ref 316, .int v1], [], mm I J D) = cal 258 13 [dv, dv] [] (ex (256, 0, [.ref 316, .int v1, dv, dv, dv], [], mm I J D)) := (ex_itr 3 _).trans rfl
set_option maxRecDepth 100000 in
theorem e_258_13 (I : Nat → Nat → Int32) (J : Nat → Nat → Int64) (D : Nat → Nat → UInt64) (s0 : Int64) : ex (258, 13, [dv, dv], [.long s0], mm I J D) = ex (258, 22, [dv, dv], [.long (-s0)], mm I J D) := (ex_itr 2 _).trans rfl
set_option maxRecDepth 100000 in
theorem e_258_17 (I : Nat → Nat → Int32) (J : Nat → Nat → Int64) (D : Nat → Nat → UInt64) (v1 : Int32) : ex (258, 17, [.ref 316, .int v1], [], mm I J D) = cal 258 22 [dv, dv] [] (ex (256, 0, [.ref 316, .int v1, dv, dv, dv], [], mm I J D)) := (ex_itr 3 _).trans rfl
set_option maxRecDepth 100000 in
theorem e_258_22 (I : Nat → Nat → Int32) (J : Nat → Nat → Int64) (D : Nat → Nat → UInt64) (s0 : Int64) : ex (258, 22, [dv, dv], [.long s0], mm I J D) = some (.inl (some (.int s0.toInt32)), mm I J D) := (ex_itr 2 _).trans rfl
/-! GlacierBookModel.wordOf(IIIII)J -/
set_option maxRecDepth 100000 in
theorem e_259_0 (I : Nat → Nat → Int32) (J : Nat → Nat → Int64) (D : Nat → Nat → UInt64) (v0 : Int32) (v1 : Int32) (v2 : Int32) (v3 : Int32) (v4 : Int32) : ex (259, 0, [.int v0, .int v1, .int v2, .int v3, .int v4, dv, dv], [], mm I J D) = bif decide (v1 ≠ 0) then ex (259, 13, [dv, .int v1, .int v2, .int v3, .int v4, .long v0.toInt64, dv], [], mm I J D) else ex (259, 8, [dv, dv, .int v2, .int v3, .int v4, .long v0.toInt64, dv], [], mm I J D) := (ex_itr 5 _).trans rfl
set_option maxRecDepth 100000 in
theorem e_259_8 (I : Nat → Nat → Int32) (J : Nat → Nat → Int64) (D : Nat → Nat → UInt64) (v2 : Int32) (v3 : Int32) (v4 : Int32) (v5 : Int64) : ex (259, 8, [dv, dv, .int v2, .int v3, .int v4, .long v5, dv], [], mm I J D) = ex (259, 21, [dv, dv, .int v2, .int v3, .int v4, dv, dv], [.long v5], mm I J D) := (ex_itr 2 _).trans rfl
set_option maxRecDepth 100000 in
theorem e_259_13 (I : Nat → Nat → Int32) (J : Nat → Nat → Int64) (D : Nat → Nat → UInt64) (v1 : Int32) (v2 : Int32) (v3 : Int32) (v4 : Int32) (v5 : Int64) : ex (259, 13, [dv, .int v1, .int v2, .int v3, .int v4, .long v5, dv], [], mm I J D) = ex (259, 21, [dv, dv, .int v2, .int v3, .int v4, dv, dv], [.long ((v5 <<< ((8 : Int32).toInt64 &&& 63)) ||| v1.toInt64)], mm I J D) := (ex_itr 6 _).trans rfl
set_option maxRecDepth 100000 in
theorem e_259_21 (I : Nat → Nat → Int32) (J : Nat → Nat → Int64) (D : Nat → Nat → UInt64) (v2 : Int32) (v3 : Int32) (v4 : Int32) (s0 : Int64) : ex (259, 21, [dv, dv, .int v2, .int v3, .int v4, dv, dv], [.long s0], mm I J D) = bif decide (v2 ≠ 0) then ex (259, 32, [dv, dv, .int v2, .int v3, .int v4, .long s0, dv], [], mm I J D) else ex (259, 27, [dv, dv, dv, .int v3, .int v4, .long s0, dv], [], mm I J D) := (ex_itr 3 _).trans rfl
set_option maxRecDepth 100000 in
theorem e_259_27 (I : Nat → Nat → Int32) (J : Nat → Nat → Int64) (D : Nat → Nat → UInt64) (v3 : Int32) (v4 : Int32) (v5 : Int64) : ex (259, 27, [dv, dv, dv, .int v3, .int v4, .long v5, dv], [], mm I J D) = ex (259, 40, [dv, dv, dv, .int v3, .int v4, dv, dv], [.long v5], mm I J D) := (ex_itr 2 _).trans rfl
set_option maxRecDepth 100000 in
theorem e_259_32 (I : Nat → Nat → Int32) (J : Nat → Nat → Int64) (D : Nat → Nat → UInt64) (v2 : Int32) (v3 : Int32) (v4 : Int32) (v5 : Int64) : ex (259, 32, [dv, dv, .int v2, .int v3, .int v4, .long v5, dv], [], mm I J D) = ex (259, 40, [dv, dv, dv, .int v3, .int v4, dv, dv], [.long ((v5 <<< ((8 : Int32).toInt64 &&& 63)) ||| v2.toInt64)], mm I J D) := (ex_itr 6 _).trans rfl
set_option maxRecDepth 100000 in
theorem e_259_40 (I : Nat → Nat → Int32) (J : Nat → Nat → Int64) (D : Nat → Nat → UInt64) (v3 : Int32) (v4 : Int32) (s0 : Int64) : ex (259, 40, [dv, dv, dv, .int v3, .int v4, dv, dv], [.long s0], mm I J D) = bif decide (v3 ≠ 0) then ex (259, 51, [dv, dv, dv, .int v3, .int v4, .long s0, dv], [], mm I J D) else ex (259, 46, [dv, dv, dv, dv, .int v4, .long s0, dv], [], mm I J D) := (ex_itr 3 _).trans rfl
set_option maxRecDepth 100000 in
theorem e_259_46 (I : Nat → Nat → Int32) (J : Nat → Nat → Int64) (D : Nat → Nat → UInt64) (v4 : Int32) (v5 : Int64) : ex (259, 46, [dv, dv, dv, dv, .int v4, .long v5, dv], [], mm I J D) = ex (259, 59, [dv, dv, dv, dv, .int v4, dv, dv], [.long v5], mm I J D) := (ex_itr 2 _).trans rfl
set_option maxRecDepth 100000 in
theorem e_259_51 (I : Nat → Nat → Int32) (J : Nat → Nat → Int64) (D : Nat → Nat → UInt64) (v3 : Int32) (v4 : Int32) (v5 : Int64) : ex (259, 51, [dv, dv, dv, .int v3, .int v4, .long v5, dv], [], mm I J D) = ex (259, 59, [dv, dv, dv, dv, .int v4, dv, dv], [.long ((v5 <<< ((8 : Int32).toInt64 &&& 63)) ||| v3.toInt64)], mm I J D) := (ex_itr 6 _).trans rfl
set_option maxRecDepth 100000 in
theorem e_259_59 (I : Nat → Nat → Int32) (J : Nat → Nat → Int64) (D : Nat → Nat → UInt64) (v4 : Int32) (s0 : Int64) : ex (259, 59, [dv, dv, dv, dv, .int v4, dv, dv], [.long s0], mm I J D) = bif decide (v4 ≠ 0) then ex (259, 71, [dv, dv, dv, dv, .int v4, .long s0, dv], [], mm I J D) else ex (259, 66, [dv, dv, dv, dv, dv, .long s0, dv], [], mm I J D) := (ex_itr 3 _).trans rfl
set_option maxRecDepth 100000 in
theorem e_259_66 (I : Nat → Nat → Int32) (J : Nat → Nat → Int64) (D : Nat → Nat → UInt64) (v5 : Int64) : ex (259, 66, [dv, dv, dv, dv, dv, .long v5, dv], [], mm I J D) = ex (259, 80, [dv, dv, dv, dv, dv, dv, dv], [.long v5], mm I J D) := (ex_itr 2 _).trans rfl
set_option maxRecDepth 100000 in
theorem e_259_71 (I : Nat → Nat → Int32) (J : Nat → Nat → Int64) (D : Nat → Nat → UInt64) (v4 : Int32) (v5 : Int64) : ex (259, 71, [dv, dv, dv, dv, .int v4, .long v5, dv], [], mm I J D) = ex (259, 80, [dv, dv, dv, dv, dv, dv, dv], [.long ((v5 <<< ((8 : Int32).toInt64 &&& 63)) ||| v4.toInt64)], mm I J D) := (ex_itr 6 _).trans rfl
set_option maxRecDepth 100000 in
theorem e_259_80 (I : Nat → Nat → Int32) (J : Nat → Nat → Int64) (D : Nat → Nat → UInt64) (s0 : Int64) : ex (259, 80, [dv, dv, dv, dv, dv, dv, dv], [.long s0], mm I J D) = some (.inl (some (.long s0)), mm I J D) := (ex_itr 1 _).trans rfl
/-! GlacierBookModel.isFirst(IIIII)Z -/
set_option maxRecDepth 100000 in
theorem e_260_0 (I : Nat → Nat → Int32) (J : Nat → Nat → Int64) (D : Nat → Nat → UInt64) (v1 : Int32) (v2 : Int32) (v3 : Int32) (v4 : Int32) (v5 : Int32) : ex (260, 0, [.ref 316, .int v1, .int v2, .int v3, .int v4, .int v5], [], mm I J D) = cal 260 12 [dv, dv, dv, dv, dv, dv] [.int 0, .ref 316] (ex (259, 0, [.int v1, .int v2, .int v3, .int v4, .int v5, dv, dv], [], mm I J D)) := (ex_itr 8 _).trans rfl
set_option maxRecDepth 100000 in
theorem e_260_12 (I : Nat → Nat → Int32) (J : Nat → Nat → Int64) (D : Nat → Nat → UInt64) (s0 : Int64) (s1 : Int32) : ex (260, 12, [dv, dv, dv, dv, dv, dv], [.long s0, .int s1, .ref 316], mm I J D) = cal 260 15 [dv, dv, dv, dv, dv, dv] [] (ex (253, 0, [.ref 316, .int s1, .long s0, dv, dv, dv, dv], [], mm I J D)) := (ex_itr 1 _).trans rfl
set_option maxRecDepth 100000 in
theorem e_260_15 (I : Nat → Nat → Int32) (J : Nat → Nat → Int64) (D : Nat → Nat → UInt64) (s0 : Int32) : ex (260, 15, [dv, dv, dv, dv, dv, dv], [.int s0], mm I J D) = bif decide (s0 = 0 ∨ s0 = 1) then (some (.inl (some (.int s0)), mm I J D)) else none := (ex_itr 1 _).trans rfl
/-! GlacierBookModel.kindOf()I -/
set_option maxRecDepth 100000 in
theorem e_261_0 (I : Nat → Nat → Int32) (J : Nat → Nat → Int64) (D : Nat → Nat → UInt64)  : ex (261, 0, [.ref 316], [], mm I J D) = bif decide ((I 316 23) ≠ 0) then ex (261, 11, [.ref 316], [], mm I J D) else ex (261, 7, [dv], [], mm I J D) := (ex_itr 3 _).trans rfl
set_option maxRecDepth 100000 in
theorem e_261_7 (I : Nat → Nat → Int32) (J : Nat → Nat → Int64) (D : Nat → Nat → UInt64)  : ex (261, 7, [dv], [], mm I J D) = ex (261, 132, [dv], [.int (-1)], mm I J D) := (ex_itr 2 _).trans rfl
set_option maxRecDepth 100000 in
theorem e_261_11 (I : Nat → Nat → Int32) (J : Nat → Nat → Int64) (D : Nat → Nat → UInt64)  : ex (261, 11, [.ref 316], [], mm I J D) = cal 261 25 [.ref 316] [] (ex (260, 0, [.ref 316, .int 108, .int 101, .int 97, .int 115, .int 116], [], mm I J D)) := (ex_itr 7 _).trans rfl
set_option maxRecDepth 100000 in
theorem e_261_25 (I : Nat → Nat → Int32) (J : Nat → Nat → Int64) (D : Nat → Nat → UInt64) (s0 : Int32) : ex (261, 25, [.ref 316], [.int s0], mm I J D) = bif decide (s0 = 0) then ex (261, 32, [.ref 316], [], mm I J D) else ex (261, 28, [dv], [], mm I J D) := (ex_itr 1 _).trans rfl
set_option maxRecDepth 100000 in
theorem e_261_28 (I : Nat → Nat → Int32) (J : Nat → Nat → Int64) (D : Nat → Nat → UInt64)  : ex (261, 28, [dv], [], mm I J D) = ex (261, 132, [dv], [.int 0], mm I J D) := (ex_itr 2 _).trans rfl
set_option maxRecDepth 100000 in
theorem e_261_32 (I : Nat → Nat → Int32) (J : Nat → Nat → Int64) (D : Nat → Nat → UInt64)  : ex (261, 32, [.ref 316], [], mm I J D) = cal 261 45 [.ref 316] [] (ex (260, 0, [.ref 316, .int 109, .int 111, .int 115, .int 116, .int 0], [], mm I J D)) := (ex_itr 7 _).trans rfl
set_option maxRecDepth 100000 in
theorem e_261_45 (I : Nat → Nat → Int32) (J : Nat → Nat → Int64) (D : Nat → Nat → UInt64) (s0 : Int32) : ex (261, 45, [.ref 316], [.int s0], mm I J D) = bif decide (s0 = 0) then ex (261, 52, [.ref 316], [], mm I J D) else ex (261, 48, [dv], [], mm I J D) := (ex_itr 1 _).trans rfl
set_option maxRecDepth 100000 in
theorem e_261_48 (I : Nat → Nat → Int32) (J : Nat → Nat → Int64) (D : Nat → Nat → UInt64)  : ex (261, 48, [dv], [], mm I J D) = ex (261, 132, [dv], [.int 1], mm I J D) := (ex_itr 2 _).trans rfl
set_option maxRecDepth 100000 in
theorem e_261_52 (I : Nat → Nat → Int32) (J : Nat → Nat → Int64) (D : Nat → Nat → UInt64)  : ex (261, 52, [.ref 316], [], mm I J D) = cal 261 63 [.ref 316] [] (ex (260, 0, [.ref 316, .int 111, .int 110, .int 0, .int 0, .int 0], [], mm I J D)) := (ex_itr 7 _).trans rfl
set_option maxRecDepth 100000 in
theorem e_261_63 (I : Nat → Nat → Int32) (J : Nat → Nat → Int64) (D : Nat → Nat → UInt64) (s0 : Int32) : ex (261, 63, [.ref 316], [.int s0], mm I J D) = bif decide (s0 = 0) then ex (261, 70, [.ref 316], [], mm I J D) else ex (261, 66, [dv], [], mm I J D) := (ex_itr 1 _).trans rfl
set_option maxRecDepth 100000 in
theorem e_261_66 (I : Nat → Nat → Int32) (J : Nat → Nat → Int64) (D : Nat → Nat → UInt64)  : ex (261, 66, [dv], [], mm I J D) = ex (261, 132, [dv], [.int 2], mm I J D) := (ex_itr 2 _).trans rfl
set_option maxRecDepth 100000 in
theorem e_261_70 (I : Nat → Nat → Int32) (J : Nat → Nat → Int64) (D : Nat → Nat → UInt64)  : ex (261, 70, [.ref 316], [], mm I J D) = cal 261 83 [.ref 316] [] (ex (260, 0, [.ref 316, .int 98, .int 97, .int 110, .int 100, .int 0], [], mm I J D)) := (ex_itr 7 _).trans rfl
set_option maxRecDepth 100000 in
theorem e_261_83 (I : Nat → Nat → Int32) (J : Nat → Nat → Int64) (D : Nat → Nat → UInt64) (s0 : Int32) : ex (261, 83, [.ref 316], [.int s0], mm I J D) = bif decide (s0 = 0) then ex (261, 90, [.ref 316], [], mm I J D) else ex (261, 86, [dv], [], mm I J D) := (ex_itr 1 _).trans rfl
set_option maxRecDepth 100000 in
theorem e_261_86 (I : Nat → Nat → Int32) (J : Nat → Nat → Int64) (D : Nat → Nat → UInt64)  : ex (261, 86, [dv], [], mm I J D) = ex (261, 132, [dv], [.int 3], mm I J D) := (ex_itr 2 _).trans rfl
set_option maxRecDepth 100000 in
theorem e_261_90 (I : Nat → Nat → Int32) (J : Nat → Nat → Int64) (D : Nat → Nat → UInt64)  : ex (261, 90, [.ref 316], [], mm I J D) = cal 261 103 [.ref 316] [] (ex (260, 0, [.ref 316, .int 100, .int 97, .int 116, .int 101, .int 0], [], mm I J D)) := (ex_itr 7 _).trans rfl
set_option maxRecDepth 100000 in
theorem e_261_103 (I : Nat → Nat → Int32) (J : Nat → Nat → Int64) (D : Nat → Nat → UInt64) (s0 : Int32) : ex (261, 103, [.ref 316], [.int s0], mm I J D) = bif decide (s0 = 0) then ex (261, 110, [.ref 316], [], mm I J D) else ex (261, 106, [dv], [], mm I J D) := (ex_itr 1 _).trans rfl
set_option maxRecDepth 100000 in
theorem e_261_106 (I : Nat → Nat → Int32) (J : Nat → Nat → Int64) (D : Nat → Nat → UInt64)  : ex (261, 106, [dv], [], mm I J D) = ex (261, 132, [dv], [.int 4], mm I J D) := (ex_itr 2 _).trans rfl
set_option maxRecDepth 100000 in
theorem e_261_110 (I : Nat → Nat → Int32) (J : Nat → Nat → Int64) (D : Nat → Nat → UInt64)  : ex (261, 110, [.ref 316], [], mm I J D) = cal 261 124 [dv] [] (ex (260, 0, [.ref 316, .int 108, .int 97, .int 121, .int 101, .int 114], [], mm I J D)) := (ex_itr 7 _).trans rfl
set_option maxRecDepth 100000 in
theorem e_261_124 (I : Nat → Nat → Int32) (J : Nat → Nat → Int64) (D : Nat → Nat → UInt64) (s0 : Int32) : ex (261, 124, [dv], [.int s0], mm I J D) = bif decide (s0 = 0) then ex (261, 131, [dv], [], mm I J D) else ex (261, 127, [dv], [], mm I J D) := (ex_itr 1 _).trans rfl
set_option maxRecDepth 100000 in
theorem e_261_127 (I : Nat → Nat → Int32) (J : Nat → Nat → Int64) (D : Nat → Nat → UInt64)  : ex (261, 127, [dv], [], mm I J D) = ex (261, 132, [dv], [.int 5], mm I J D) := (ex_itr 2 _).trans rfl
set_option maxRecDepth 100000 in
theorem e_261_131 (I : Nat → Nat → Int32) (J : Nat → Nat → Int64) (D : Nat → Nat → UInt64)  : ex (261, 131, [dv], [], mm I J D) = ex (261, 132, [dv], [.int (-1)], mm I J D) := (ex_itr 1 _).trans rfl
set_option maxRecDepth 100000 in
theorem e_261_132 (I : Nat → Nat → Int32) (J : Nat → Nat → Int64) (D : Nat → Nat → UInt64) (s0 : Int32) : ex (261, 132, [dv], [.int s0], mm I J D) = some (.inl (some (.int s0)), mm I J D) := (ex_itr 1 _).trans rfl
/-! GlacierBookModel.faultNow()I -/
set_option maxRecDepth 100000 in
theorem e_262_0 (I : Nat → Nat → Int32) (J : Nat → Nat → Int64) (D : Nat → Nat → UInt64)  : ex (262, 0, [.ref 316, dv, dv, dv], [], mm I J D) = cal 262 4 [.ref 316, dv, dv, dv] [] (ex (252, 0, [.ref 316, dv], [], mm I J D)) := (ex_itr 2 _).trans rfl
set_option maxRecDepth 100000 in
theorem e_262_4 (I : Nat → Nat → Int32) (J : Nat → Nat → Int64) (D : Nat → Nat → UInt64)  : ex (262, 4, [.ref 316, dv, dv, dv], [], mm I J D) = cal 262 8 [.ref 316, dv, dv, dv] [] (ex (261, 0, [.ref 316], [], mm I J D)) := (ex_itr 2 _).trans rfl
set_option maxRecDepth 100000 in
theorem e_262_8 (I : Nat → Nat → Int32) (J : Nat → Nat → Int64) (D : Nat → Nat → UInt64) (s0 : Int32) : ex (262, 8, [.ref 316, dv, dv, dv], [.int s0], mm I J D) = bif decide (s0 ≠ (-1)) then ex (262, 16, [.ref 316, .int s0, dv, dv], [], mm I J D) else ex (262, 14, [dv, dv, dv, dv], [], mm I J D) := (ex_itr 4 _).trans rfl
set_option maxRecDepth 100000 in
theorem e_262_14 (I : Nat → Nat → Int32) (J : Nat → Nat → Int64) (D : Nat → Nat → UInt64)  : ex (262, 14, [dv, dv, dv, dv], [], mm I J D) = some (.inl (some (.int 0)), mm I J D) := (ex_itr 2 _).trans rfl
set_option maxRecDepth 100000 in
theorem e_262_16 (I : Nat → Nat → Int32) (J : Nat → Nat → Int64) (D : Nat → Nat → UInt64) (v1 : Int32) : ex (262, 16, [.ref 316, .int v1, dv, dv], [], mm I J D) = bif decide (v1 ≠ 5) then ex (262, 25, [.ref 316, .int v1, dv, dv], [], mm I J D) else ex (262, 21, [.ref 316, dv, dv, dv], [], mm I J D) := (ex_itr 3 _).trans rfl
set_option maxRecDepth 100000 in
theorem e_262_21 (I : Nat → Nat → Int32) (J : Nat → Nat → Int64) (D : Nat → Nat → UInt64)  : ex (262, 21, [.ref 316, dv, dv, dv], [], mm I J D) = ex (262, 35, [.ref 316, dv, dv, dv], [.int 0], mm I J D) := (ex_itr 2 _).trans rfl
set_option maxRecDepth 100000 in
theorem e_262_25 (I : Nat → Nat → Int32) (J : Nat → Nat → Int64) (D : Nat → Nat → UInt64) (v1 : Int32) : ex (262, 25, [.ref 316, .int v1, dv, dv], [], mm I J D) = bif decide (v1 ≠ 2) then ex (262, 34, [.ref 316, dv, dv, dv], [], mm I J D) else ex (262, 30, [.ref 316, dv, dv, dv], [], mm I J D) := (ex_itr 3 _).trans rfl
set_option maxRecDepth 100000 in
theorem e_262_30 (I : Nat → Nat → Int32) (J : Nat → Nat → Int64) (D : Nat → Nat → UInt64)  : ex (262, 30, [.ref 316, dv, dv, dv], [], mm I J D) = ex (262, 35, [.ref 316, dv, dv, dv], [.int 2], mm I J D) := (ex_itr 2 _).trans rfl
set_option maxRecDepth 100000 in
theorem e_262_34 (I : Nat → Nat → Int32) (J : Nat → Nat → Int64) (D : Nat → Nat → UInt64)  : ex (262, 34, [.ref 316, dv, dv, dv], [], mm I J D) = ex (262, 35, [.ref 316, dv, dv, dv], [.int 3], mm I J D) := (ex_itr 1 _).trans rfl
set_option maxRecDepth 100000 in
theorem e_262_35 (I : Nat → Nat → Int32) (J : Nat → Nat → Int64) (D : Nat → Nat → UInt64) (s0 : Int32) : ex (262, 35, [.ref 316, dv, dv, dv], [.int s0], mm I J D) = ex (262, 38, [.ref 316, dv, .int s0, .int 1], [], mm I J D) := (ex_itr 3 _).trans rfl
set_option maxRecDepth 100000 in
theorem e_262_38 (I : Nat → Nat → Int32) (J : Nat → Nat → Int64) (D : Nat → Nat → UInt64) (v2 : Int32) (v3 : Int32) : ex (262, 38, [.ref 316, dv, .int v2, .int v3], [], mm I J D) = bif decide (v2 < v3) then ex (262, 67, [.ref 316, dv, .int v2, dv], [], mm I J D) else ex (262, 43, [.ref 316, dv, .int v2, .int v3], [], mm I J D) := (ex_itr 3 _).trans rfl
set_option maxRecDepth 100000 in
theorem e_262_43 (I : Nat → Nat → Int32) (J : Nat → Nat → Int64) (D : Nat → Nat → UInt64) (v2 : Int32) (v3 : Int32) : ex (262, 43, [.ref 316, dv, .int v2, .int v3], [], mm I J D) = bif decide ((I 316 23) ≤ v3) then ex (262, 59, [dv, dv, dv, .int v3], [], mm I J D) else ex (262, 51, [.ref 316, dv, .int v2, .int v3], [], mm I J D) := (ex_itr 4 _).trans rfl
set_option maxRecDepth 100000 in
theorem e_262_51 (I : Nat → Nat → Int32) (J : Nat → Nat → Int64) (D : Nat → Nat → UInt64) (v2 : Int32) (v3 : Int32) : ex (262, 51, [.ref 316, dv, .int v2, .int v3], [], mm I J D) = cal 262 56 [.ref 316, dv, .int v2, .int v3] [] (ex (257, 0, [.ref 316, .int v3, dv], [], mm I J D)) := (ex_itr 3 _).trans rfl
set_option maxRecDepth 100000 in
theorem e_262_56 (I : Nat → Nat → Int32) (J : Nat → Nat → Int64) (D : Nat → Nat → UInt64) (v2 : Int32) (v3 : Int32) (s0 : Int32) : ex (262, 56, [.ref 316, dv, .int v2, .int v3], [.int s0], mm I J D) = bif decide (s0 ≠ 0) then ex (262, 61, [.ref 316, dv, .int v2, .int v3], [], mm I J D) else ex (262, 59, [dv, dv, dv, .int v3], [], mm I J D) := (ex_itr 1 _).trans rfl
set_option maxRecDepth 100000 in
theorem e_262_59 (I : Nat → Nat → Int32) (J : Nat → Nat → Int64) (D : Nat → Nat → UInt64) (v3 : Int32) : ex (262, 59, [dv, dv, dv, .int v3], [], mm I J D) = some (.inl (some (.int v3)), mm I J D) := (ex_itr 2 _).trans rfl
set_option maxRecDepth 100000 in
theorem e_262_61 (I : Nat → Nat → Int32) (J : Nat → Nat → Int64) (D : Nat → Nat → UInt64) (v2 : Int32) (v3 : Int32) : ex (262, 61, [.ref 316, dv, .int v2, .int v3], [], mm I J D) = ex (262, 38, [.ref 316, dv, .int v2, .int (v3 + 1)], [], mm I J D) := (ex_itr 2 _).trans rfl
set_option maxRecDepth 100000 in
theorem e_262_67 (I : Nat → Nat → Int32) (J : Nat → Nat → Int64) (D : Nat → Nat → UInt64) (v2 : Int32) : ex (262, 67, [.ref 316, dv, .int v2, dv], [], mm I J D) = bif decide ((I 316 23) ≤ (v2 + 1)) then ex (262, 83, [dv, dv, dv, dv], [], mm I J D) else ex (262, 77, [dv, dv, .int v2, dv], [], mm I J D) := (ex_itr 6 _).trans rfl
set_option maxRecDepth 100000 in
theorem e_262_77 (I : Nat → Nat → Int32) (J : Nat → Nat → Int64) (D : Nat → Nat → UInt64) (v2 : Int32) : ex (262, 77, [dv, dv, .int v2, dv], [], mm I J D) = ex (262, 84, [dv, dv, dv, dv], [.int (v2 + 1)], mm I J D) := (ex_itr 4 _).trans rfl
set_option maxRecDepth 100000 in
theorem e_262_83 (I : Nat → Nat → Int32) (J : Nat → Nat → Int64) (D : Nat → Nat → UInt64)  : ex (262, 83, [dv, dv, dv, dv], [], mm I J D) = ex (262, 84, [dv, dv, dv, dv], [.int (-1)], mm I J D) := (ex_itr 1 _).trans rfl
set_option maxRecDepth 100000 in
theorem e_262_84 (I : Nat → Nat → Int32) (J : Nat → Nat → Int64) (D : Nat → Nat → UInt64) (s0 : Int32) : ex (262, 84, [dv, dv, dv, dv], [.int s0], mm I J D) = some (.inl (some (.int s0)), mm I J D) := (ex_itr 1 _).trans rfl
/-! GlacierBookModel.fault()I -/
set_option maxRecDepth 100000 in
theorem e_263_0 (I : Nat → Nat → Int32) (J : Nat → Nat → Int64) (D : Nat → Nat → UInt64)  : ex (263, 0, [.ref 316], [], mm I J D) = cal 263 9 [dv] [] (ex (262, 0, [.ref 316, dv, dv, dv], [], mm (ups I 316 0 0) J D)) := (ex_itr 5 _).trans rfl
set_option maxRecDepth 100000 in
theorem e_263_9 (I : Nat → Nat → Int32) (J : Nat → Nat → Int64) (D : Nat → Nat → UInt64) (s0 : Int32) : ex (263, 9, [dv], [.int s0], mm I J D) = some (.inl (some (.int s0)), mm I J D) := (ex_itr 1 _).trans rfl
/-! GlacierBookModel.does(I)I -/
set_option maxRecDepth 100000 in
theorem e_264_0 (I : Nat → Nat → Int32) (J : Nat → Nat → Int64) (D : Nat → Nat → UInt64) (v1 : Int32) : ex (264, 0, [.ref 316, .int v1, dv, dv, dv], [], mm I J D) = bif decide (v1 ≠ 5) then ex (264, 9, [.ref 316, .int v1, dv, dv, dv], [], mm I J D) else ex (264, 5, [.ref 316, .int v1, dv, dv, dv], [], mm I J D) := (ex_itr 3 _).trans rfl
set_option maxRecDepth 100000 in
theorem e_264_5 (I : Nat → Nat → Int32) (J : Nat → Nat → Int64) (D : Nat → Nat → UInt64) (v1 : Int32) : ex (264, 5, [.ref 316, .int v1, dv, dv, dv], [], mm I J D) = ex (264, 14, [.ref 316, .int v1, dv, dv, dv], [.int 0], mm I J D) := (ex_itr 2 _).trans rfl
set_option maxRecDepth 100000 in
theorem e_264_9 (I : Nat → Nat → Int32) (J : Nat → Nat → Int64) (D : Nat → Nat → UInt64) (v1 : Int32) : ex (264, 9, [.ref 316, .int v1, dv, dv, dv], [], mm I J D) = cal 264 14 [.ref 316, .int v1, dv, dv, dv] [] (ex (258, 0, [.ref 316, .int 1], [], mm I J D)) := (ex_itr 3 _).trans rfl
set_option maxRecDepth 100000 in
theorem e_264_14 (I : Nat → Nat → Int32) (J : Nat → Nat → Int64) (D : Nat → Nat → UInt64) (v1 : Int32) (s0 : Int32) : ex (264, 14, [.ref 316, .int v1, dv, dv, dv], [.int s0], mm I J D) = bif decide (v1 ≠ 5) then ex (264, 24, [.ref 316, .int v1, .int s0, dv, dv], [], mm I J D) else ex (264, 20, [.ref 316, .int v1, .int s0, dv, dv], [], mm I J D) := (ex_itr 4 _).trans rfl
set_option maxRecDepth 100000 in
theorem e_264_20 (I : Nat → Nat → Int32) (J : Nat → Nat → Int64) (D : Nat → Nat → UInt64) (v1 : Int32) (v2 : Int32) : ex (264, 20, [.ref 316, .int v1, .int v2, dv, dv], [], mm I J D) = ex (264, 29, [.ref 316, .int v1, .int v2, dv, dv], [.int 0], mm I J D) := (ex_itr 2 _).trans rfl
set_option maxRecDepth 100000 in
theorem e_264_24 (I : Nat → Nat → Int32) (J : Nat → Nat → Int64) (D : Nat → Nat → UInt64) (v1 : Int32) (v2 : Int32) : ex (264, 24, [.ref 316, .int v1, .int v2, dv, dv], [], mm I J D) = cal 264 29 [.ref 316, .int v1, .int v2, dv, dv] [] (ex (258, 0, [.ref 316, .int 2], [], mm I J D)) := (ex_itr 3 _).trans rfl
set_option maxRecDepth 100000 in
theorem e_264_29 (I : Nat → Nat → Int32) (J : Nat → Nat → Int64) (D : Nat → Nat → UInt64) (v1 : Int32) (v2 : Int32) (s0 : Int32) : ex (264, 29, [.ref 316, .int v1, .int v2, dv, dv], [.int s0], mm I J D) = bif decide (v1 = 5) then ex (264, 40, [.ref 316, .int v1, .int v2, .int s0, dv], [], mm I J D) else ex (264, 35, [.ref 316, .int v1, .int v2, .int s0, dv], [], mm I J D) := (ex_itr 4 _).trans rfl
set_option maxRecDepth 100000 in
theorem e_264_35 (I : Nat → Nat → Int32) (J : Nat → Nat → Int64) (D : Nat → Nat → UInt64) (v1 : Int32) (v2 : Int32) (v3 : Int32) : ex (264, 35, [.ref 316, .int v1, .int v2, .int v3, dv], [], mm I J D) = bif decide (v1 ≠ 2) then ex (264, 44, [.ref 316, .int v1, .int v2, .int v3, dv], [], mm I J D) else ex (264, 40, [.ref 316, .int v1, .int v2, .int v3, dv], [], mm I J D) := (ex_itr 3 _).trans rfl
set_option maxRecDepth 100000 in
theorem e_264_40 (I : Nat → Nat → Int32) (J : Nat → Nat → Int64) (D : Nat → Nat → UInt64) (v1 : Int32) (v2 : Int32) (v3 : Int32) : ex (264, 40, [.ref 316, .int v1, .int v2, .int v3, dv], [], mm I J D) = ex (264, 49, [.ref 316, .int v1, .int v2, .int v3, dv], [.int 0], mm I J D) := (ex_itr 2 _).trans rfl
set_option maxRecDepth 100000 in
theorem e_264_44 (I : Nat → Nat → Int32) (J : Nat → Nat → Int64) (D : Nat → Nat → UInt64) (v1 : Int32) (v2 : Int32) (v3 : Int32) : ex (264, 44, [.ref 316, .int v1, .int v2, .int v3, dv], [], mm I J D) = cal 264 49 [.ref 316, .int v1, .int v2, .int v3, dv] [] (ex (258, 0, [.ref 316, .int 3], [], mm I J D)) := (ex_itr 3 _).trans rfl
set_option maxRecDepth 100000 in
theorem e_264_49 (I : Nat → Nat → Int32) (J : Nat → Nat → Int64) (D : Nat → Nat → UInt64) (v1 : Int32) (v2 : Int32) (v3 : Int32) (s0 : Int32) : ex (264, 49, [.ref 316, .int v1, .int v2, .int v3, dv], [.int s0], mm I J D) = ex (264, 52, [.ref 316, .int v1, .int v2, .int v3, .int s0], [.int v1], mm I J D) := (ex_itr 2 _).trans rfl
set_option maxRecDepth 100000 in
theorem e_264_88 (I : Nat → Nat → Int32) (J : Nat → Nat → Int64) (D : Nat → Nat → UInt64) (v2 : Int32) (v3 : Int32) (v4 : Int32) : ex (264, 88, [.ref 316, dv, .int v2, .int v3, .int v4], [], mm I J D) = cal 264 96 [dv, dv, dv, dv, dv] [] (ex (172, 0, [.ref 316, .int v2, .int v3, .int v4], [], mm I J D)) := (ex_itr 5 _).trans rfl
set_option maxRecDepth 100000 in
theorem e_264_96 (I : Nat → Nat → Int32) (J : Nat → Nat → Int64) (D : Nat → Nat → UInt64) (s0 : Int32) : ex (264, 96, [dv, dv, dv, dv, dv], [.int s0], mm I J D) = some (.inl (some (.int s0)), mm I J D) := (ex_itr 1 _).trans rfl
set_option maxRecDepth 100000 in
theorem e_264_97 (I : Nat → Nat → Int32) (J : Nat → Nat → Int64) (D : Nat → Nat → UInt64) (v2 : Int32) (v3 : Int32) (v4 : Int32) : ex (264, 97, [.ref 316, dv, .int v2, .int v3, .int v4], [], mm I J D) = cal 264 105 [dv, dv, dv, dv, dv] [] (ex (173, 0, [.ref 316, .int v2, .int v3, .int v4], [], mm I J D)) := (ex_itr 5 _).trans rfl
set_option maxRecDepth 100000 in
theorem e_264_105 (I : Nat → Nat → Int32) (J : Nat → Nat → Int64) (D : Nat → Nat → UInt64) (s0 : Int32) : ex (264, 105, [dv, dv, dv, dv, dv], [.int s0], mm I J D) = some (.inl (some (.int s0)), mm I J D) := (ex_itr 1 _).trans rfl
set_option maxRecDepth 100000 in
theorem e_264_106 (I : Nat → Nat → Int32) (J : Nat → Nat → Int64) (D : Nat → Nat → UInt64) (v2 : Int32) (v3 : Int32) (v4 : Int32) : ex (264, 106, [.ref 316, dv, .int v2, .int v3, .int v4], [], mm I J D) = cal 264 112 [dv, dv, dv, dv, dv] [] (ex (189, 0, [.ref 316, .int v2, .int v3], [], mm I J D)) := (ex_itr 4 _).trans rfl
set_option maxRecDepth 100000 in
theorem e_264_112 (I : Nat → Nat → Int32) (J : Nat → Nat → Int64) (D : Nat → Nat → UInt64) (s0 : Int32) : ex (264, 112, [dv, dv, dv, dv, dv], [.int s0], mm I J D) = some (.inl (some (.int s0)), mm I J D) := (ex_itr 1 _).trans rfl
set_option maxRecDepth 100000 in
theorem e_264_113 (I : Nat → Nat → Int32) (J : Nat → Nat → Int64) (D : Nat → Nat → UInt64) (v2 : Int32) (v3 : Int32) (v4 : Int32) : ex (264, 113, [.ref 316, dv, .int v2, .int v3, .int v4], [], mm I J D) = cal 264 121 [dv, dv, dv, dv, dv] [] (ex (200, 0, [.ref 316, .int v2, .int v3, .int v4, dv], [], mm I J D)) := (ex_itr 5 _).trans rfl
set_option maxRecDepth 100000 in
theorem e_264_121 (I : Nat → Nat → Int32) (J : Nat → Nat → Int64) (D : Nat → Nat → UInt64) (s0 : Int32) : ex (264, 121, [dv, dv, dv, dv, dv], [.int s0], mm I J D) = some (.inl (some (.int s0)), mm I J D) := (ex_itr 1 _).trans rfl
set_option maxRecDepth 100000 in
theorem e_264_122 (I : Nat → Nat → Int32) (J : Nat → Nat → Int64) (D : Nat → Nat → UInt64) (v2 : Int32) (v3 : Int32) (v4 : Int32) : ex (264, 122, [.ref 316, dv, .int v2, .int v3, .int v4], [], mm I J D) = cal 264 130 [dv, dv, dv, dv, dv] [] (ex (224, 0, [.ref 316, .int v2, .int v3, .int v4, dv], [], mm I J D)) := (ex_itr 5 _).trans rfl
set_option maxRecDepth 100000 in
theorem e_264_130 (I : Nat → Nat → Int32) (J : Nat → Nat → Int64) (D : Nat → Nat → UInt64) (s0 : Int32) : ex (264, 130, [dv, dv, dv, dv, dv], [.int s0], mm I J D) = some (.inl (some (.int s0)), mm I J D) := (ex_itr 1 _).trans rfl
set_option maxRecDepth 100000 in
theorem e_264_131 (I : Nat → Nat → Int32) (J : Nat → Nat → Int64) (D : Nat → Nat → UInt64) (v2 : Int32) (v3 : Int32) (v4 : Int32) : ex (264, 131, [.ref 316, dv, .int v2, .int v3, .int v4], [], mm I J D) = cal 264 135 [dv, dv, dv, dv, dv] [] (ex (164, 0, [.ref 316], [], mm I J D)) := (ex_itr 2 _).trans rfl
set_option maxRecDepth 100000 in
theorem e_264_135 (I : Nat → Nat → Int32) (J : Nat → Nat → Int64) (D : Nat → Nat → UInt64) (s0 : Int32) : ex (264, 135, [dv, dv, dv, dv, dv], [.int s0], mm I J D) = some (.inl (some (.int s0)), mm I J D) := (ex_itr 1 _).trans rfl
/-! GlacierBookModel.doLine()I -/
set_option maxRecDepth 100000 in
theorem e_265_0 (I : Nat → Nat → Int32) (J : Nat → Nat → Int64) (D : Nat → Nat → UInt64)  : ex (265, 0, [.ref 316, dv, dv, dv], [], mm I J D) = cal 265 4 [.ref 316, dv, dv, dv] [] (ex (262, 0, [.ref 316, dv, dv, dv], [], mm I J D)) := (ex_itr 2 _).trans rfl
set_option maxRecDepth 100000 in
theorem e_265_4 (I : Nat → Nat → Int32) (J : Nat → Nat → Int64) (D : Nat → Nat → UInt64) (s0 : Int32) : ex (265, 4, [.ref 316, dv, dv, dv], [.int s0], mm I J D) = bif decide (s0 ≠ (-1)) then ex (265, 12, [.ref 316, dv, dv, dv], [], mm I J D) else ex (265, 8, [.ref 316, dv, dv, dv], [], mm I J D) := (ex_itr 2 _).trans rfl
set_option maxRecDepth 100000 in
theorem e_265_8 (I : Nat → Nat → Int32) (J : Nat → Nat → Int64) (D : Nat → Nat → UInt64)  : ex (265, 8, [.ref 316, dv, dv, dv], [], mm I J D) = ex (265, 13, [.ref 316, dv, dv, dv], [.int 1], mm I J D) := (ex_itr 2 _).trans rfl
set_option maxRecDepth 100000 in
theorem e_265_12 (I : Nat → Nat → Int32) (J : Nat → Nat → Int64) (D : Nat → Nat → UInt64)  : ex (265, 12, [.ref 316, dv, dv, dv], [], mm I J D) = ex (265, 13, [.ref 316, dv, dv, dv], [.int 0], mm I J D) := (ex_itr 1 _).trans rfl
set_option maxRecDepth 100000 in
theorem e_265_13 (I : Nat → Nat → Int32) (J : Nat → Nat → Int64) (D : Nat → Nat → UInt64) (s0 : Int32) : ex (265, 13, [.ref 316, dv, dv, dv], [.int s0], mm I J D) = cal 265 18 [.ref 316, .int s0, dv, dv] [] (ex (261, 0, [.ref 316], [], mm I J D)) := (ex_itr 3 _).trans rfl
set_option maxRecDepth 100000 in
theorem e_265_18 (I : Nat → Nat → Int32) (J : Nat → Nat → Int64) (D : Nat → Nat → UInt64) (v1 : Int32) (s0 : Int32) : ex (265, 18, [.ref 316, .int v1, dv, dv], [.int s0], mm I J D) = cal 265 25 [.ref 316, dv, .int s0, dv] [] (ex (156, 0, [.ref 316, .int v1, .int 1], [], mm I J D)) := (ex_itr 5 _).trans rfl
set_option maxRecDepth 100000 in
theorem e_265_25 (I : Nat → Nat → Int32) (J : Nat → Nat → Int64) (D : Nat → Nat → UInt64) (v2 : Int32) (s0 : Int32) : ex (265, 25, [.ref 316, dv, .int v2, dv], [.int s0], mm I J D) = bif decide (s0 ≠ 0) then ex (265, 35, [.ref 316, dv, .int v2, dv], [], mm I J D) else ex (265, 28, [.ref 316, dv, dv, dv], [], mm I J D) := (ex_itr 1 _).trans rfl
set_option maxRecDepth 100000 in
theorem e_265_28 (I : Nat → Nat → Int32) (J : Nat → Nat → Int64) (D : Nat → Nat → UInt64)  : ex (265, 28, [.ref 316, dv, dv, dv], [], mm I J D) = some (.inl (some (.int 0)), mm (ups I 316 8 0) J D) := (ex_itr 5 _).trans rfl
set_option maxRecDepth 100000 in
theorem e_265_35 (I : Nat → Nat → Int32) (J : Nat → Nat → Int64) (D : Nat → Nat → UInt64) (v2 : Int32) : ex (265, 35, [.ref 316, dv, .int v2, dv], [], mm I J D) = cal 265 40 [.ref 316, dv, .int v2, dv] [] (ex (264, 0, [.ref 316, .int v2, dv, dv, dv], [], mm I J D)) := (ex_itr 3 _).trans rfl
set_option maxRecDepth 100000 in
theorem e_265_40 (I : Nat → Nat → Int32) (J : Nat → Nat → Int64) (D : Nat → Nat → UInt64) (v2 : Int32) (s0 : Int32) : ex (265, 40, [.ref 316, dv, .int v2, dv], [.int s0], mm I J D) = bif decide (v2 ≠ 5) then ex (265, 64, [.ref 316, dv, dv, .int s0], [.ref 316], mm (ups I 316 8 0) J D) else ex (265, 52, [.ref 316, dv, dv, .int s0], [.ref 316], mm (ups I 316 8 0) J D) := (ex_itr 8 _).trans rfl
set_option maxRecDepth 100000 in
theorem e_265_52 (I : Nat → Nat → Int32) (J : Nat → Nat → Int64) (D : Nat → Nat → UInt64) (v3 : Int32) : ex (265, 52, [.ref 316, dv, dv, .int v3], [.ref 316], mm I J D) = bif decide ((I 316 0) ≠ 1) then ex (265, 64, [.ref 316, dv, dv, .int v3], [.ref 316], mm I J D) else ex (265, 60, [dv, dv, dv, .int v3], [.ref 316], mm I J D) := (ex_itr 4 _).trans rfl
set_option maxRecDepth 100000 in
theorem e_265_60 (I : Nat → Nat → Int32) (J : Nat → Nat → Int64) (D : Nat → Nat → UInt64) (v3 : Int32) : ex (265, 60, [dv, dv, dv, .int v3], [.ref 316], mm I J D) = ex (265, 92, [dv, dv, dv, .int v3], [.int 3, .ref 316], mm I J D) := (ex_itr 2 _).trans rfl
set_option maxRecDepth 100000 in
theorem e_265_64 (I : Nat → Nat → Int32) (J : Nat → Nat → Int64) (D : Nat → Nat → UInt64) (v3 : Int32) : ex (265, 64, [.ref 316, dv, dv, .int v3], [.ref 316], mm I J D) = bif decide ((I 316 0) ≠ 1) then ex (265, 76, [.ref 316, dv, dv, .int v3], [.ref 316], mm I J D) else ex (265, 72, [dv, dv, dv, .int v3], [.ref 316], mm I J D) := (ex_itr 4 _).trans rfl
set_option maxRecDepth 100000 in
theorem e_265_72 (I : Nat → Nat → Int32) (J : Nat → Nat → Int64) (D : Nat → Nat → UInt64) (v3 : Int32) : ex (265, 72, [dv, dv, dv, .int v3], [.ref 316], mm I J D) = ex (265, 92, [dv, dv, dv, .int v3], [.int 2, .ref 316], mm I J D) := (ex_itr 2 _).trans rfl
set_option maxRecDepth 100000 in
theorem e_265_76 (I : Nat → Nat → Int32) (J : Nat → Nat → Int64) (D : Nat → Nat → UInt64) (v3 : Int32) : ex (265, 76, [.ref 316, dv, dv, .int v3], [.ref 316], mm I J D) = bif decide ((I 316 0) ≠ 2) then ex (265, 88, [.ref 316, dv, dv, .int v3], [.ref 316], mm I J D) else ex (265, 84, [dv, dv, dv, .int v3], [.ref 316], mm I J D) := (ex_itr 4 _).trans rfl
set_option maxRecDepth 100000 in
theorem e_265_84 (I : Nat → Nat → Int32) (J : Nat → Nat → Int64) (D : Nat → Nat → UInt64) (v3 : Int32) : ex (265, 84, [dv, dv, dv, .int v3], [.ref 316], mm I J D) = ex (265, 92, [dv, dv, dv, .int v3], [.int 1, .ref 316], mm I J D) := (ex_itr 2 _).trans rfl
set_option maxRecDepth 100000 in
theorem e_265_88 (I : Nat → Nat → Int32) (J : Nat → Nat → Int64) (D : Nat → Nat → UInt64) (v3 : Int32) : ex (265, 88, [.ref 316, dv, dv, .int v3], [.ref 316], mm I J D) = ex (265, 92, [dv, dv, dv, .int v3], [.int (I 316 0), .ref 316], mm I J D) := (ex_itr 2 _).trans rfl
set_option maxRecDepth 100000 in
theorem e_265_92 (I : Nat → Nat → Int32) (J : Nat → Nat → Int64) (D : Nat → Nat → UInt64) (v3 : Int32) (s0 : Int32) : ex (265, 92, [dv, dv, dv, .int v3], [.int s0, .ref 316], mm I J D) = some (.inl (some (.int v3)), mm (ups I 316 0 s0) J D) := (ex_itr 3 _).trans rfl
/-! GlacierBookModel.meanValue(I)D -/
set_option maxRecDepth 100000 in
theorem e_266_0 (I : Nat → Nat → Int32) (J : Nat → Nat → Int64) (D : Nat → Nat → UInt64) (v1 : Int32) : ex (266, 0, [.ref 316, .int v1, dv, dv, dv, dv], [], mm I J D) = cal 266 6 [.ref 316, .int v1, dv, dv, dv, dv] [] (ex (238, 0, [.ref 316, .int 0, .int v1], [], mm I J D)) := (ex_itr 4 _).trans rfl
set_option maxRecDepth 100000 in
theorem e_266_6 (I : Nat → Nat → Int32) (J : Nat → Nat → Int64) (D : Nat → Nat → UInt64) (v1 : Int32) (s0 : Int32) : ex (266, 6, [.ref 316, .int v1, dv, dv, dv, dv], [.int s0], mm I J D) = bif decide (s0 = 0) then ex (266, 20, [.ref 316, dv, dv, dv, dv, dv], [], mm I J D) else ex (266, 11, [.ref 316, .int v1, dv, dv, dv, dv], [], mm I J D) := (ex_itr 3 _).trans rfl
set_option maxRecDepth 100000 in
theorem e_266_11 (I : Nat → Nat → Int32) (J : Nat → Nat → Int64) (D : Nat → Nat → UInt64) (v1 : Int32) : ex (266, 11, [.ref 316, .int v1, dv, dv, dv, dv], [], mm I J D) = cal 266 17 [.ref 316, dv, dv, dv, dv, dv] [] (ex (241, 0, [.ref 316, .int (-1), .int v1, dv, dv], [], mm I J D)) := (ex_itr 4 _).trans rfl
set_option maxRecDepth 100000 in
theorem e_266_17 (I : Nat → Nat → Int32) (J : Nat → Nat → Int64) (D : Nat → Nat → UInt64) (s0 : Int32) : ex (266, 17, [.ref 316, dv, dv, dv, dv, dv], [.int s0], mm I J D) = ex (266, 21, [.ref 316, dv, dv, dv, dv, dv], [.int s0], mm I J D) := (ex_itr 1 _).trans rfl
set_option maxRecDepth 100000 in
theorem e_266_20 (I : Nat → Nat → Int32) (J : Nat → Nat → Int64) (D : Nat → Nat → UInt64)  : ex (266, 20, [.ref 316, dv, dv, dv, dv, dv], [], mm I J D) = ex (266, 21, [.ref 316, dv, dv, dv, dv, dv], [.int 0], mm I J D) := (ex_itr 1 _).trans rfl
set_option maxRecDepth 100000 in
theorem e_266_21 (I : Nat → Nat → Int32) (J : Nat → Nat → Int64) (D : Nat → Nat → UInt64) (s0 : Int32) : ex (266, 21, [.ref 316, dv, dv, dv, dv, dv], [.int s0], mm I J D) = ex (266, 28, [.ref 316, dv, dv, .int s0, .int 0, .int 0], [], mm I J D) := (ex_itr 5 _).trans rfl
set_option maxRecDepth 100000 in
theorem e_266_28 (I : Nat → Nat → Int32) (J : Nat → Nat → Int64) (D : Nat → Nat → UInt64) (v3 : Int32) (v4 : Int32) (v5 : Int32) : ex (266, 28, [.ref 316, dv, dv, .int v3, .int v4, .int v5], [], mm I J D) = bif decide (8 ≤ v5) then ex (266, 57, [dv, dv, dv, .int v3, .int v4, dv], [], mm I J D) else ex (266, 35, [.ref 316, dv, dv, .int v3, .int v4, .int v5], [], mm I J D) := (ex_itr 3 _).trans rfl
set_option maxRecDepth 100000 in
theorem e_266_35 (I : Nat → Nat → Int32) (J : Nat → Nat → Int64) (D : Nat → Nat → UInt64) (v3 : Int32) (v4 : Int32) (v5 : Int32) : ex (266, 35, [.ref 316, dv, dv, .int v3, .int v4, .int v5], [], mm I J D) = bif inb ((624 : Int32) + v5) 850 then (ex (266, 28, [.ref 316, dv, dv, .int v3, .int (v4 + (I 317 ((624 : Int32) + v5).toNatClampNeg)), .int (v5 + 1)], [], mm I J D)) else none := (ex_itr 11 _).trans rfl
set_option maxRecDepth 100000 in
theorem e_266_57 (I : Nat → Nat → Int32) (J : Nat → Nat → Int64) (D : Nat → Nat → UInt64) (v3 : Int32) (v4 : Int32) : ex (266, 57, [dv, dv, dv, .int v3, .int v4, dv], [], mm I J D) = bif ok64 (FP.ddiv (FP.i2d v3) (FP.i2d v4)) then (some (.inl (some (.double (FP.ddiv (FP.i2d v3) (FP.i2d v4)))), mm I J D)) else none := (ex_itr 6 _).trans rfl
/-! GlacierBookModel.aboveShare()F -/
set_option maxRecDepth 100000 in
theorem e_267_0 (I : Nat → Nat → Int32) (J : Nat → Nat → Int64) (D : Nat → Nat → UInt64)  : ex (267, 0, [.ref 316, dv, dv], [], mm I J D) = cal 267 9 [.ref 316, dv, dv] [] (ex (185, 0, [.ref 316, dv, dv, dv], [], mm (ups I 316 0 0) J D)) := (ex_itr 5 _).trans rfl
set_option maxRecDepth 100000 in
theorem e_267_9 (I : Nat → Nat → Int32) (J : Nat → Nat → Int64) (D : Nat → Nat → UInt64)  : ex (267, 9, [.ref 316, dv, dv], [], mm I J D) = ex (267, 13, [.ref 316, .int 0, .int 0], [], mm I J D) := (ex_itr 4 _).trans rfl
set_option maxRecDepth 100000 in
theorem e_267_13 (I : Nat → Nat → Int32) (J : Nat → Nat → Int64) (D : Nat → Nat → UInt64) (v1 : Int32) (v2 : Int32) : ex (267, 13, [.ref 316, .int v1, .int v2], [], mm I J D) = bif decide (289 ≤ v2) then ex (267, 43, [.ref 316, .int v1, dv], [], mm I J D) else ex (267, 20, [.ref 316, .int v1, .int v2], [], mm I J D) := (ex_itr 3 _).trans rfl
set_option maxRecDepth 100000 in
theorem e_267_20 (I : Nat → Nat → Int32) (J : Nat → Nat → Int64) (D : Nat → Nat → UInt64) (v1 : Int32) (v2 : Int32) : ex (267, 20, [.ref 316, .int v1, .int v2], [], mm I J D) = bif inb v2 289 then (bif decide ((I 324 v2.toNatClampNeg) = 0) then ex (267, 34, [.ref 316, dv, .int v2], [.int v1], mm I J D) else ex (267, 30, [.ref 316, dv, .int v2], [.int v1], mm I J D)) else none := (ex_itr 6 _).trans rfl
set_option maxRecDepth 100000 in
theorem e_267_30 (I : Nat → Nat → Int32) (J : Nat → Nat → Int64) (D : Nat → Nat → UInt64) (v2 : Int32) (s0 : Int32) : ex (267, 30, [.ref 316, dv, .int v2], [.int s0], mm I J D) = ex (267, 35, [.ref 316, dv, .int v2], [.int 1, .int s0], mm I J D) := (ex_itr 2 _).trans rfl
set_option maxRecDepth 100000 in
theorem e_267_34 (I : Nat → Nat → Int32) (J : Nat → Nat → Int64) (D : Nat → Nat → UInt64) (v2 : Int32) (s0 : Int32) : ex (267, 34, [.ref 316, dv, .int v2], [.int s0], mm I J D) = ex (267, 35, [.ref 316, dv, .int v2], [.int 0, .int s0], mm I J D) := (ex_itr 1 _).trans rfl
set_option maxRecDepth 100000 in
theorem e_267_35 (I : Nat → Nat → Int32) (J : Nat → Nat → Int64) (D : Nat → Nat → UInt64) (v2 : Int32) (s0 : Int32) (s1 : Int32) : ex (267, 35, [.ref 316, dv, .int v2], [.int s0, .int s1], mm I J D) = ex (267, 13, [.ref 316, .int (s1 + s0), .int (v2 + 1)], [], mm I J D) := (ex_itr 4 _).trans rfl
set_option maxRecDepth 100000 in
theorem e_267_43 (I : Nat → Nat → Int32) (J : Nat → Nat → Int64) (D : Nat → Nat → UInt64) (v1 : Int32) : ex (267, 43, [.ref 316, .int v1, dv], [], mm I J D) = bif decide ((((I 317 0) * ((I 317 0) - 1)) / 2) ≠ 0) then ex (267, 69, [dv, .int v1, .int (((I 317 0) * ((I 317 0) - 1)) / 2)], [], mm I J D) else ex (267, 65, [dv, dv, dv], [], mm I J D) := (ex_itr 16 _).trans rfl
set_option maxRecDepth 100000 in
theorem e_267_65 (I : Nat → Nat → Int32) (J : Nat → Nat → Int64) (D : Nat → Nat → UInt64)  : ex (267, 65, [dv, dv, dv], [], mm I J D) = ex (267, 74, [dv, dv, dv], [.float FP.fconst0], mm I J D) := (ex_itr 2 _).trans rfl
set_option maxRecDepth 100000 in
theorem e_267_69 (I : Nat → Nat → Int32) (J : Nat → Nat → Int64) (D : Nat → Nat → UInt64) (v1 : Int32) (v2 : Int32) : ex (267, 69, [dv, .int v1, .int v2], [], mm I J D) = bif ok32 (FP.fdiv (FP.i2f v1) (FP.i2f v2)) then (ex (267, 74, [dv, dv, dv], [.float (FP.fdiv (FP.i2f v1) (FP.i2f v2))], mm I J D)) else none := (ex_itr 5 _).trans rfl
set_option maxRecDepth 100000 in
theorem e_267_74 (I : Nat → Nat → Int32) (J : Nat → Nat → Int64) (D : Nat → Nat → UInt64) (s0 : UInt32) : ex (267, 74, [dv, dv, dv], [.float s0], mm I J D) = some (.inl (some (.float s0)), mm I J D) := (ex_itr 1 _).trans rfl
/-! GlacierBookModel.errors()I -/
set_option maxRecDepth 100000 in
theorem e_268_0 (I : Nat → Nat → Int32) (J : Nat → Nat → Int64) (D : Nat → Nat → UInt64)  : ex (268, 0, [.ref 316], [], mm I J D) = some (.inl (some (.int 0)), mm (ups I 316 0 0) J D) := (ex_itr 5 _).trans rfl
