/-! equations of runs, a block each, by program -/
/-! java/lang/Integer.bitCount(I)I -/
set_option maxRecDepth 100000 in
theorem e_310_0 (I : Nat → Nat → Int32) (J : Nat → Nat → Int64) (D : Nat → Nat → UInt64) (v0 : Int32) : ex (310, 0, [.int v0], [], mm I J D) = some (.inl (some (.int ((((((((v0 - (((v0.toUInt32 >>> ((1 : Int32).toUInt32 &&& Int32.toUInt32 31)).toInt32) &&& 1431655765)) &&& 858993459) + ((((v0 - (((v0.toUInt32 >>> ((1 : Int32).toUInt32 &&& Int32.toUInt32 31)).toInt32) &&& 1431655765)).toUInt32 >>> ((2 : Int32).toUInt32 &&& Int32.toUInt32 31)).toInt32) &&& 858993459)) + (((((v0 - (((v0.toUInt32 >>> ((1 : Int32).toUInt32 &&& Int32.toUInt32 31)).toInt32) &&& 1431655765)) &&& 858993459) + ((((v0 - (((v0.toUInt32 >>> ((1 : Int32).toUInt32 &&& Int32.toUInt32 31)).toInt32) &&& 1431655765)).toUInt32 >>> ((2 : Int32).toUInt32 &&& Int32.toUInt32 31)).toInt32) &&& 858993459)).toUInt32 >>> ((4 : Int32).toUInt32 &&& Int32.toUInt32 31)).toInt32)) &&& 252645135) + (((((((v0 - (((v0.toUInt32 >>> ((1 : Int32).toUInt32 &&& Int32.toUInt32 31)).toInt32) &&& 1431655765)) &&& 858993459) + ((((v0 - (((v0.toUInt32 >>> ((1 : Int32).toUInt32 &&& Int32.toUInt32 31)).toInt32) &&& 1431655765)).toUInt32 >>> ((2 : Int32).toUInt32 &&& Int32.toUInt32 31)).toInt32) &&& 858993459)) + (((((v0 - (((v0.toUInt32 >>> ((1 : Int32).toUInt32 &&& Int32.toUInt32 31)).toInt32) &&& 1431655765)) &&& 858993459) + ((((v0 - (((v0.toUInt32 >>> ((1 : Int32).toUInt32 &&& Int32.toUInt32 31)).toInt32) &&& 1431655765)).toUInt32 >>> ((2 : Int32).toUInt32 &&& Int32.toUInt32 31)).toInt32) &&& 858993459)).toUInt32 >>> ((4 : Int32).toUInt32 &&& Int32.toUInt32 31)).toInt32)) &&& 252645135).toUInt32 >>> ((8 : Int32).toUInt32 &&& Int32.toUInt32 31)).toInt32)) + ((((((((v0 - (((v0.toUInt32 >>> ((1 : Int32).toUInt32 &&& Int32.toUInt32 31)).toInt32) &&& 1431655765)) &&& 858993459) + ((((v0 - (((v0.toUInt32 >>> ((1 : Int32).toUInt32 &&& Int32.toUInt32 31)).toInt32) &&& 1431655765)).toUInt32 >>> ((2 : Int32).toUInt32 &&& Int32.toUInt32 31)).toInt32) &&& 858993459)) + (((((v0 - (((v0.toUInt32 >>> ((1 : Int32).toUInt32 &&& Int32.toUInt32 31)).toInt32) &&& 1431655765)) &&& 858993459) + ((((v0 - (((v0.toUInt32 >>> ((1 : Int32).toUInt32 &&& Int32.toUInt32 31)).toInt32) &&& 1431655765)).toUInt32 >>> ((2 : Int32).toUInt32 &&& Int32.toUInt32 31)).toInt32) &&& 858993459)).toUInt32 >>> ((4 : Int32).toUInt32 &&& Int32.toUInt32 31)).toInt32)) &&& 252645135) + (((((((v0 - (((v0.toUInt32 >>> ((1 : Int32).toUInt32 &&& Int32.toUInt32 31)).toInt32) &&& 1431655765)) &&& 858993459) + ((((v0 - (((v0.toUInt32 >>> ((1 : Int32).toUInt32 &&& Int32.toUInt32 31)).toInt32) &&& 1431655765)).toUInt32 >>> ((2 : Int32).toUInt32 &&& Int32.toUInt32 31)).toInt32) &&& 858993459)) + (((((v0 - (((v0.toUInt32 >>> ((1 : Int32).toUInt32 &&& Int32.toUInt32 31)).toInt32) &&& 1431655765)) &&& 858993459) + ((((v0 - (((v0.toUInt32 >>> ((1 : Int32).toUInt32 &&& Int32.toUInt32 31)).toInt32) &&& 1431655765)).toUInt32 >>> ((2 : Int32).toUInt32 &&& Int32.toUInt32 31)).toInt32) &&& 858993459)).toUInt32 >>> ((4 : Int32).toUInt32 &&& Int32.toUInt32 31)).toInt32)) &&& 252645135).toUInt32 >>> ((8 : Int32).toUInt32 &&& Int32.toUInt32 31)).toInt32)).toUInt32 >>> ((16 : Int32).toUInt32 &&& Int32.toUInt32 31)).toInt32)) &&& 63))), mm I J D) := (ex_itr 42 _).trans rfl
/-! java/util/Arrays.fill([II)V -/
set_option maxRecDepth 100000 in
theorem e_311_0 (I : Nat → Nat → Int32) (J : Nat → Nat → Int64) (D : Nat → Nat → UInt64) (v0 : Nat) (Nv0 : Nat) (v1 : Int32) (hv0 : S0 v0 = (20, Nv0)) (kv0 : v0 < 337) : ex (311, 0, [.ref v0, .int v1, dv, dv], [], mm I J D) = ex (311, 5, [.ref v0, .int v1, .int 0, .int (Int32.ofNat Nv0)], [], mm I J D) := Eq.trans (b := ex (311, 3, [.ref v0, .int v1, .int 0, dv], [.ref v0], mm I J D)) ((ex_itr 3 _).trans rfl) (congrArg (fun z => z) ((st_alen rfl (hv0) (by decide) (kv0)).trans ((ex_itr 1 _).trans rfl)))
set_option maxRecDepth 100000 in
theorem e_311_5 (I : Nat → Nat → Int32) (J : Nat → Nat → Int64) (D : Nat → Nat → UInt64) (v0 : Nat) (Nv0 : Nat) (v1 : Int32) (v2 : Int32) (v3 : Int32) (hv0 : S0 v0 = (20, Nv0)) (kv0 : v0 < 337) : ex (311, 5, [.ref v0, .int v1, .int v2, .int v3], [], mm I J D) = bif decide (v3 ≤ v2) then ex (311, 20, [dv, dv, dv, dv], [], mm I J D) else ex (311, 10, [.ref v0, .int v1, .int v2, .int v3], [], mm I J D) := (ex_itr 3 _).trans rfl
set_option maxRecDepth 100000 in
theorem e_311_10 (I : Nat → Nat → Int32) (J : Nat → Nat → Int64) (D : Nat → Nat → UInt64) (v0 : Nat) (Nv0 : Nat) (v1 : Int32) (v2 : Int32) (v3 : Int32) (hv0 : S0 v0 = (20, Nv0)) (kv0 : v0 < 337) : ex (311, 10, [.ref v0, .int v1, .int v2, .int v3], [], mm I J D) = bif inb v2 Nv0 then (ex (311, 5, [.ref v0, .int v1, .int (v2 + 1), .int v3], [], mm (ups I v0 v2.toNatClampNeg v1) J D)) else none := Eq.trans (b := ex (311, 13, [.ref v0, .int v1, .int v2, .int v3], [.int v1, .int v2, .ref v0], mm I J D)) ((ex_itr 3 _).trans rfl) (congrArg (fun z => z) ((st_iast rfl (hv0) (kv0)).trans (bcg fun _ => (ex_itr 2 _).trans rfl)))
set_option maxRecDepth 100000 in
theorem e_311_20 (I : Nat → Nat → Int32) (J : Nat → Nat → Int64) (D : Nat → Nat → UInt64)  : ex (311, 20, [dv, dv, dv, dv], [], mm I J D) = some (.inl none, mm I J D) := (ex_itr 1 _).trans rfl
/-! java/lang/String.length()I -/
set_option maxRecDepth 100000 in
theorem e_312_0_1000020 (I : Nat → Nat → Int32) (J : Nat → Nat → Int64) (D : Nat → Nat → UInt64)  : ex (312, 0, [.ref 1000020], [], mm I J D) = cal 312 9 [dv] [.int 5] (ex (313, 0, [.ref 1000020], [], mm I J D)) := (ex_itr 5 _).trans rfl
set_option maxRecDepth 100000 in
theorem e_312_0_1000021 (I : Nat → Nat → Int32) (J : Nat → Nat → Int64) (D : Nat → Nat → UInt64)  : ex (312, 0, [.ref 1000021], [], mm I J D) = cal 312 9 [dv] [.int 4] (ex (313, 0, [.ref 1000021], [], mm I J D)) := (ex_itr 5 _).trans rfl
set_option maxRecDepth 100000 in
theorem e_312_0_1000022 (I : Nat → Nat → Int32) (J : Nat → Nat → Int64) (D : Nat → Nat → UInt64)  : ex (312, 0, [.ref 1000022], [], mm I J D) = cal 312 9 [dv] [.int 2] (ex (313, 0, [.ref 1000022], [], mm I J D)) := (ex_itr 5 _).trans rfl
set_option maxRecDepth 100000 in
theorem e_312_0_1000023 (I : Nat → Nat → Int32) (J : Nat → Nat → Int64) (D : Nat → Nat → UInt64)  : ex (312, 0, [.ref 1000023], [], mm I J D) = cal 312 9 [dv] [.int 4] (ex (313, 0, [.ref 1000023], [], mm I J D)) := (ex_itr 5 _).trans rfl
set_option maxRecDepth 100000 in
theorem e_312_0_1000024 (I : Nat → Nat → Int32) (J : Nat → Nat → Int64) (D : Nat → Nat → UInt64)  : ex (312, 0, [.ref 1000024], [], mm I J D) = cal 312 9 [dv] [.int 4] (ex (313, 0, [.ref 1000024], [], mm I J D)) := (ex_itr 5 _).trans rfl
set_option maxRecDepth 100000 in
theorem e_312_0_1000025 (I : Nat → Nat → Int32) (J : Nat → Nat → Int64) (D : Nat → Nat → UInt64)  : ex (312, 0, [.ref 1000025], [], mm I J D) = cal 312 9 [dv] [.int 5] (ex (313, 0, [.ref 1000025], [], mm I J D)) := (ex_itr 5 _).trans rfl
set_option maxRecDepth 100000 in
theorem e_312_9 (I : Nat → Nat → Int32) (J : Nat → Nat → Int64) (D : Nat → Nat → UInt64) (s0 : Int32) (s1 : Int32) : ex (312, 9, [dv], [.int s0, .int s1], mm I J D) = some (.inl (some (.int (s1 >>> (s0 &&& 31)))), mm I J D) := (ex_itr 2 _).trans rfl
/-! java/lang/String.coder()B -/
set_option maxRecDepth 100000 in
theorem e_313_0_1000020 (I : Nat → Nat → Int32) (J : Nat → Nat → Int64) (D : Nat → Nat → UInt64)  : ex (313, 0, [.ref 1000020], [], mm I J D) = bif decide ((1 : Int32) = 0) then ex (313, 13, [dv], [], mm I J D) else ex (313, 6, [.ref 1000020], [], mm I J D) := (ex_itr 2 _).trans rfl
set_option maxRecDepth 100000 in
theorem e_313_0_1000021 (I : Nat → Nat → Int32) (J : Nat → Nat → Int64) (D : Nat → Nat → UInt64)  : ex (313, 0, [.ref 1000021], [], mm I J D) = bif decide ((1 : Int32) = 0) then ex (313, 13, [dv], [], mm I J D) else ex (313, 6, [.ref 1000021], [], mm I J D) := (ex_itr 2 _).trans rfl
set_option maxRecDepth 100000 in
theorem e_313_0_1000022 (I : Nat → Nat → Int32) (J : Nat → Nat → Int64) (D : Nat → Nat → UInt64)  : ex (313, 0, [.ref 1000022], [], mm I J D) = bif decide ((1 : Int32) = 0) then ex (313, 13, [dv], [], mm I J D) else ex (313, 6, [.ref 1000022], [], mm I J D) := (ex_itr 2 _).trans rfl
set_option maxRecDepth 100000 in
theorem e_313_0_1000023 (I : Nat → Nat → Int32) (J : Nat → Nat → Int64) (D : Nat → Nat → UInt64)  : ex (313, 0, [.ref 1000023], [], mm I J D) = bif decide ((1 : Int32) = 0) then ex (313, 13, [dv], [], mm I J D) else ex (313, 6, [.ref 1000023], [], mm I J D) := (ex_itr 2 _).trans rfl
set_option maxRecDepth 100000 in
theorem e_313_0_1000024 (I : Nat → Nat → Int32) (J : Nat → Nat → Int64) (D : Nat → Nat → UInt64)  : ex (313, 0, [.ref 1000024], [], mm I J D) = bif decide ((1 : Int32) = 0) then ex (313, 13, [dv], [], mm I J D) else ex (313, 6, [.ref 1000024], [], mm I J D) := (ex_itr 2 _).trans rfl
set_option maxRecDepth 100000 in
theorem e_313_0_1000025 (I : Nat → Nat → Int32) (J : Nat → Nat → Int64) (D : Nat → Nat → UInt64)  : ex (313, 0, [.ref 1000025], [], mm I J D) = bif decide ((1 : Int32) = 0) then ex (313, 13, [dv], [], mm I J D) else ex (313, 6, [.ref 1000025], [], mm I J D) := (ex_itr 2 _).trans rfl
set_option maxRecDepth 100000 in
theorem e_313_6_1000020 (I : Nat → Nat → Int32) (J : Nat → Nat → Int64) (D : Nat → Nat → UInt64)  : ex (313, 6, [.ref 1000020], [], mm I J D) = ex (313, 14, [dv], [.int 0], mm I J D) := (ex_itr 3 _).trans rfl
set_option maxRecDepth 100000 in
theorem e_313_6_1000021 (I : Nat → Nat → Int32) (J : Nat → Nat → Int64) (D : Nat → Nat → UInt64)  : ex (313, 6, [.ref 1000021], [], mm I J D) = ex (313, 14, [dv], [.int 0], mm I J D) := (ex_itr 3 _).trans rfl
set_option maxRecDepth 100000 in
theorem e_313_6_1000022 (I : Nat → Nat → Int32) (J : Nat → Nat → Int64) (D : Nat → Nat → UInt64)  : ex (313, 6, [.ref 1000022], [], mm I J D) = ex (313, 14, [dv], [.int 0], mm I J D) := (ex_itr 3 _).trans rfl
set_option maxRecDepth 100000 in
theorem e_313_6_1000023 (I : Nat → Nat → Int32) (J : Nat → Nat → Int64) (D : Nat → Nat → UInt64)  : ex (313, 6, [.ref 1000023], [], mm I J D) = ex (313, 14, [dv], [.int 0], mm I J D) := (ex_itr 3 _).trans rfl
set_option maxRecDepth 100000 in
theorem e_313_6_1000024 (I : Nat → Nat → Int32) (J : Nat → Nat → Int64) (D : Nat → Nat → UInt64)  : ex (313, 6, [.ref 1000024], [], mm I J D) = ex (313, 14, [dv], [.int 0], mm I J D) := (ex_itr 3 _).trans rfl
set_option maxRecDepth 100000 in
theorem e_313_6_1000025 (I : Nat → Nat → Int32) (J : Nat → Nat → Int64) (D : Nat → Nat → UInt64)  : ex (313, 6, [.ref 1000025], [], mm I J D) = ex (313, 14, [dv], [.int 0], mm I J D) := (ex_itr 3 _).trans rfl
set_option maxRecDepth 100000 in
theorem e_313_13 (I : Nat → Nat → Int32) (J : Nat → Nat → Int64) (D : Nat → Nat → UInt64)  : ex (313, 13, [dv], [], mm I J D) = ex (313, 14, [dv], [.int 1], mm I J D) := (ex_itr 1 _).trans rfl
set_option maxRecDepth 100000 in
theorem e_313_14 (I : Nat → Nat → Int32) (J : Nat → Nat → Int64) (D : Nat → Nat → UInt64) (s0 : Int32) : ex (313, 14, [dv], [.int s0], mm I J D) = bif decide (-128 ≤ s0 ∧ s0 ≤ 127) then (some (.inl (some (.int s0)), mm I J D)) else none := (ex_itr 1 _).trans rfl
/-! java/lang/String.isLatin1()Z -/
set_option maxRecDepth 100000 in
theorem e_314_0_1000020 (I : Nat → Nat → Int32) (J : Nat → Nat → Int64) (D : Nat → Nat → UInt64)  : ex (314, 0, [.ref 1000020], [], mm I J D) = bif decide ((1 : Int32) = 0) then ex (314, 17, [dv], [], mm I J D) else ex (314, 6, [.ref 1000020], [], mm I J D) := (ex_itr 2 _).trans rfl
set_option maxRecDepth 100000 in
theorem e_314_0_1000021 (I : Nat → Nat → Int32) (J : Nat → Nat → Int64) (D : Nat → Nat → UInt64)  : ex (314, 0, [.ref 1000021], [], mm I J D) = bif decide ((1 : Int32) = 0) then ex (314, 17, [dv], [], mm I J D) else ex (314, 6, [.ref 1000021], [], mm I J D) := (ex_itr 2 _).trans rfl
set_option maxRecDepth 100000 in
theorem e_314_0_1000022 (I : Nat → Nat → Int32) (J : Nat → Nat → Int64) (D : Nat → Nat → UInt64)  : ex (314, 0, [.ref 1000022], [], mm I J D) = bif decide ((1 : Int32) = 0) then ex (314, 17, [dv], [], mm I J D) else ex (314, 6, [.ref 1000022], [], mm I J D) := (ex_itr 2 _).trans rfl
set_option maxRecDepth 100000 in
theorem e_314_0_1000023 (I : Nat → Nat → Int32) (J : Nat → Nat → Int64) (D : Nat → Nat → UInt64)  : ex (314, 0, [.ref 1000023], [], mm I J D) = bif decide ((1 : Int32) = 0) then ex (314, 17, [dv], [], mm I J D) else ex (314, 6, [.ref 1000023], [], mm I J D) := (ex_itr 2 _).trans rfl
set_option maxRecDepth 100000 in
theorem e_314_0_1000024 (I : Nat → Nat → Int32) (J : Nat → Nat → Int64) (D : Nat → Nat → UInt64)  : ex (314, 0, [.ref 1000024], [], mm I J D) = bif decide ((1 : Int32) = 0) then ex (314, 17, [dv], [], mm I J D) else ex (314, 6, [.ref 1000024], [], mm I J D) := (ex_itr 2 _).trans rfl
set_option maxRecDepth 100000 in
theorem e_314_0_1000025 (I : Nat → Nat → Int32) (J : Nat → Nat → Int64) (D : Nat → Nat → UInt64)  : ex (314, 0, [.ref 1000025], [], mm I J D) = bif decide ((1 : Int32) = 0) then ex (314, 17, [dv], [], mm I J D) else ex (314, 6, [.ref 1000025], [], mm I J D) := (ex_itr 2 _).trans rfl
set_option maxRecDepth 100000 in
theorem e_314_6_1000020 (I : Nat → Nat → Int32) (J : Nat → Nat → Int64) (D : Nat → Nat → UInt64)  : ex (314, 6, [.ref 1000020], [], mm I J D) = bif decide ((0 : Int32) ≠ 0) then ex (314, 17, [dv], [], mm I J D) else ex (314, 13, [dv], [], mm I J D) := (ex_itr 3 _).trans rfl
set_option maxRecDepth 100000 in
theorem e_314_6_1000021 (I : Nat → Nat → Int32) (J : Nat → Nat → Int64) (D : Nat → Nat → UInt64)  : ex (314, 6, [.ref 1000021], [], mm I J D) = bif decide ((0 : Int32) ≠ 0) then ex (314, 17, [dv], [], mm I J D) else ex (314, 13, [dv], [], mm I J D) := (ex_itr 3 _).trans rfl
set_option maxRecDepth 100000 in
theorem e_314_6_1000022 (I : Nat → Nat → Int32) (J : Nat → Nat → Int64) (D : Nat → Nat → UInt64)  : ex (314, 6, [.ref 1000022], [], mm I J D) = bif decide ((0 : Int32) ≠ 0) then ex (314, 17, [dv], [], mm I J D) else ex (314, 13, [dv], [], mm I J D) := (ex_itr 3 _).trans rfl
set_option maxRecDepth 100000 in
theorem e_314_6_1000023 (I : Nat → Nat → Int32) (J : Nat → Nat → Int64) (D : Nat → Nat → UInt64)  : ex (314, 6, [.ref 1000023], [], mm I J D) = bif decide ((0 : Int32) ≠ 0) then ex (314, 17, [dv], [], mm I J D) else ex (314, 13, [dv], [], mm I J D) := (ex_itr 3 _).trans rfl
set_option maxRecDepth 100000 in
theorem e_314_6_1000024 (I : Nat → Nat → Int32) (J : Nat → Nat → Int64) (D : Nat → Nat → UInt64)  : ex (314, 6, [.ref 1000024], [], mm I J D) = bif decide ((0 : Int32) ≠ 0) then ex (314, 17, [dv], [], mm I J D) else ex (314, 13, [dv], [], mm I J D) := (ex_itr 3 _).trans rfl
set_option maxRecDepth 100000 in
theorem e_314_6_1000025 (I : Nat → Nat → Int32) (J : Nat → Nat → Int64) (D : Nat → Nat → UInt64)  : ex (314, 6, [.ref 1000025], [], mm I J D) = bif decide ((0 : Int32) ≠ 0) then ex (314, 17, [dv], [], mm I J D) else ex (314, 13, [dv], [], mm I J D) := (ex_itr 3 _).trans rfl
set_option maxRecDepth 100000 in
theorem e_314_13 (I : Nat → Nat → Int32) (J : Nat → Nat → Int64) (D : Nat → Nat → UInt64)  : ex (314, 13, [dv], [], mm I J D) = ex (314, 18, [dv], [.int 1], mm I J D) := (ex_itr 2 _).trans rfl
set_option maxRecDepth 100000 in
theorem e_314_17 (I : Nat → Nat → Int32) (J : Nat → Nat → Int64) (D : Nat → Nat → UInt64)  : ex (314, 17, [dv], [], mm I J D) = ex (314, 18, [dv], [.int 0], mm I J D) := (ex_itr 1 _).trans rfl
set_option maxRecDepth 100000 in
theorem e_314_18 (I : Nat → Nat → Int32) (J : Nat → Nat → Int64) (D : Nat → Nat → UInt64) (s0 : Int32) : ex (314, 18, [dv], [.int s0], mm I J D) = bif decide (s0 = 0 ∨ s0 = 1) then (some (.inl (some (.int s0)), mm I J D)) else none := (ex_itr 1 _).trans rfl
/-! java/lang/String.charAt(I)C -/
set_option maxRecDepth 100000 in
theorem e_315_0_1000020 (I : Nat → Nat → Int32) (J : Nat → Nat → Int64) (D : Nat → Nat → UInt64) (v1 : Int32) : ex (315, 0, [.ref 1000020, .int v1], [], mm I J D) = cal 315 4 [.ref 1000020, .int v1] [] (ex (314, 0, [.ref 1000020], [], mm I J D)) := (ex_itr 2 _).trans rfl
set_option maxRecDepth 100000 in
theorem e_315_0_1000021 (I : Nat → Nat → Int32) (J : Nat → Nat → Int64) (D : Nat → Nat → UInt64) (v1 : Int32) : ex (315, 0, [.ref 1000021, .int v1], [], mm I J D) = cal 315 4 [.ref 1000021, .int v1] [] (ex (314, 0, [.ref 1000021], [], mm I J D)) := (ex_itr 2 _).trans rfl
set_option maxRecDepth 100000 in
theorem e_315_0_1000022 (I : Nat → Nat → Int32) (J : Nat → Nat → Int64) (D : Nat → Nat → UInt64) (v1 : Int32) : ex (315, 0, [.ref 1000022, .int v1], [], mm I J D) = cal 315 4 [.ref 1000022, .int v1] [] (ex (314, 0, [.ref 1000022], [], mm I J D)) := (ex_itr 2 _).trans rfl
set_option maxRecDepth 100000 in
theorem e_315_0_1000023 (I : Nat → Nat → Int32) (J : Nat → Nat → Int64) (D : Nat → Nat → UInt64) (v1 : Int32) : ex (315, 0, [.ref 1000023, .int v1], [], mm I J D) = cal 315 4 [.ref 1000023, .int v1] [] (ex (314, 0, [.ref 1000023], [], mm I J D)) := (ex_itr 2 _).trans rfl
set_option maxRecDepth 100000 in
theorem e_315_0_1000024 (I : Nat → Nat → Int32) (J : Nat → Nat → Int64) (D : Nat → Nat → UInt64) (v1 : Int32) : ex (315, 0, [.ref 1000024, .int v1], [], mm I J D) = cal 315 4 [.ref 1000024, .int v1] [] (ex (314, 0, [.ref 1000024], [], mm I J D)) := (ex_itr 2 _).trans rfl
set_option maxRecDepth 100000 in
theorem e_315_0_1000025 (I : Nat → Nat → Int32) (J : Nat → Nat → Int64) (D : Nat → Nat → UInt64) (v1 : Int32) : ex (315, 0, [.ref 1000025, .int v1], [], mm I J D) = cal 315 4 [.ref 1000025, .int v1] [] (ex (314, 0, [.ref 1000025], [], mm I J D)) := (ex_itr 2 _).trans rfl
set_option maxRecDepth 100000 in
theorem e_315_4_1000020 (I : Nat → Nat → Int32) (J : Nat → Nat → Int64) (D : Nat → Nat → UInt64) (v1 : Int32) (s0 : Int32) : ex (315, 4, [.ref 1000020, .int v1], [.int s0], mm I J D) = bif decide (s0 = 0) then ex (315, 16, [.ref 1000020, .int v1], [], mm I J D) else ex (315, 7, [.ref 1000020, .int v1], [], mm I J D) := (ex_itr 1 _).trans rfl
set_option maxRecDepth 100000 in
theorem e_315_4_1000021 (I : Nat → Nat → Int32) (J : Nat → Nat → Int64) (D : Nat → Nat → UInt64) (v1 : Int32) (s0 : Int32) : ex (315, 4, [.ref 1000021, .int v1], [.int s0], mm I J D) = bif decide (s0 = 0) then ex (315, 16, [.ref 1000021, .int v1], [], mm I J D) else ex (315, 7, [.ref 1000021, .int v1], [], mm I J D) := (ex_itr 1 _).trans rfl
set_option maxRecDepth 100000 in
theorem e_315_4_1000022 (I : Nat → Nat → Int32) (J : Nat → Nat → Int64) (D : Nat → Nat → UInt64) (v1 : Int32) (s0 : Int32) : ex (315, 4, [.ref 1000022, .int v1], [.int s0], mm I J D) = bif decide (s0 = 0) then ex (315, 16, [.ref 1000022, .int v1], [], mm I J D) else ex (315, 7, [.ref 1000022, .int v1], [], mm I J D) := (ex_itr 1 _).trans rfl
set_option maxRecDepth 100000 in
theorem e_315_4_1000023 (I : Nat → Nat → Int32) (J : Nat → Nat → Int64) (D : Nat → Nat → UInt64) (v1 : Int32) (s0 : Int32) : ex (315, 4, [.ref 1000023, .int v1], [.int s0], mm I J D) = bif decide (s0 = 0) then ex (315, 16, [.ref 1000023, .int v1], [], mm I J D) else ex (315, 7, [.ref 1000023, .int v1], [], mm I J D) := (ex_itr 1 _).trans rfl
set_option maxRecDepth 100000 in
theorem e_315_4_1000024 (I : Nat → Nat → Int32) (J : Nat → Nat → Int64) (D : Nat → Nat → UInt64) (v1 : Int32) (s0 : Int32) : ex (315, 4, [.ref 1000024, .int v1], [.int s0], mm I J D) = bif decide (s0 = 0) then ex (315, 16, [.ref 1000024, .int v1], [], mm I J D) else ex (315, 7, [.ref 1000024, .int v1], [], mm I J D) := (ex_itr 1 _).trans rfl
set_option maxRecDepth 100000 in
theorem e_315_4_1000025 (I : Nat → Nat → Int32) (J : Nat → Nat → Int64) (D : Nat → Nat → UInt64) (v1 : Int32) (s0 : Int32) : ex (315, 4, [.ref 1000025, .int v1], [.int s0], mm I J D) = bif decide (s0 = 0) then ex (315, 16, [.ref 1000025, .int v1], [], mm I J D) else ex (315, 7, [.ref 1000025, .int v1], [], mm I J D) := (ex_itr 1 _).trans rfl
set_option maxRecDepth 100000 in
theorem e_315_7_1000020 (I : Nat → Nat → Int32) (J : Nat → Nat → Int64) (D : Nat → Nat → UInt64) (v1 : Int32) : ex (315, 7, [.ref 1000020, .int v1], [], mm I J D) = cal 315 15 [dv, dv] [] (ex (316, 0, [.ref 1000030, .int v1], [], mm I J D)) := (ex_itr 4 _).trans rfl
set_option maxRecDepth 100000 in
theorem e_315_7_1000021 (I : Nat → Nat → Int32) (J : Nat → Nat → Int64) (D : Nat → Nat → UInt64) (v1 : Int32) : ex (315, 7, [.ref 1000021, .int v1], [], mm I J D) = cal 315 15 [dv, dv] [] (ex (316, 0, [.ref 1000031, .int v1], [], mm I J D)) := (ex_itr 4 _).trans rfl
set_option maxRecDepth 100000 in
theorem e_315_7_1000022 (I : Nat → Nat → Int32) (J : Nat → Nat → Int64) (D : Nat → Nat → UInt64) (v1 : Int32) : ex (315, 7, [.ref 1000022, .int v1], [], mm I J D) = cal 315 15 [dv, dv] [] (ex (316, 0, [.ref 1000032, .int v1], [], mm I J D)) := (ex_itr 4 _).trans rfl
set_option maxRecDepth 100000 in
theorem e_315_7_1000023 (I : Nat → Nat → Int32) (J : Nat → Nat → Int64) (D : Nat → Nat → UInt64) (v1 : Int32) : ex (315, 7, [.ref 1000023, .int v1], [], mm I J D) = cal 315 15 [dv, dv] [] (ex (316, 0, [.ref 1000033, .int v1], [], mm I J D)) := (ex_itr 4 _).trans rfl
set_option maxRecDepth 100000 in
theorem e_315_7_1000024 (I : Nat → Nat → Int32) (J : Nat → Nat → Int64) (D : Nat → Nat → UInt64) (v1 : Int32) : ex (315, 7, [.ref 1000024, .int v1], [], mm I J D) = cal 315 15 [dv, dv] [] (ex (316, 0, [.ref 1000034, .int v1], [], mm I J D)) := (ex_itr 4 _).trans rfl
set_option maxRecDepth 100000 in
theorem e_315_7_1000025 (I : Nat → Nat → Int32) (J : Nat → Nat → Int64) (D : Nat → Nat → UInt64) (v1 : Int32) : ex (315, 7, [.ref 1000025, .int v1], [], mm I J D) = cal 315 15 [dv, dv] [] (ex (316, 0, [.ref 1000035, .int v1], [], mm I J D)) := (ex_itr 4 _).trans rfl
set_option maxRecDepth 100000 in
theorem e_315_15 (I : Nat → Nat → Int32) (J : Nat → Nat → Int64) (D : Nat → Nat → UInt64) (s0 : Int32) : ex (315, 15, [dv, dv], [.int s0], mm I J D) = bif decide (0 ≤ s0 ∧ s0 ≤ 65535) then (some (.inl (some (.int s0)), mm I J D)) else none := (ex_itr 1 _).trans rfl
set_option maxRecDepth 100000 in
theorem e_315_16_1000020 (I : Nat → Nat → Int32) (J : Nat → Nat → Int64) (D : Nat → Nat → UInt64) (v1 : Int32) : ex (315, 16, [.ref 1000020, .int v1], [], mm I J D) = ex (315, 21, [.ref 1000020, .int v1], [.int v1, .ref 1000030], mm I J D) := (ex_itr 3 _).trans rfl
set_option maxRecDepth 100000 in
theorem e_315_16_1000021 (I : Nat → Nat → Int32) (J : Nat → Nat → Int64) (D : Nat → Nat → UInt64) (v1 : Int32) : ex (315, 16, [.ref 1000021, .int v1], [], mm I J D) = ex (315, 21, [.ref 1000021, .int v1], [.int v1, .ref 1000031], mm I J D) := (ex_itr 3 _).trans rfl
set_option maxRecDepth 100000 in
theorem e_315_16_1000022 (I : Nat → Nat → Int32) (J : Nat → Nat → Int64) (D : Nat → Nat → UInt64) (v1 : Int32) : ex (315, 16, [.ref 1000022, .int v1], [], mm I J D) = ex (315, 21, [.ref 1000022, .int v1], [.int v1, .ref 1000032], mm I J D) := (ex_itr 3 _).trans rfl
set_option maxRecDepth 100000 in
theorem e_315_16_1000023 (I : Nat → Nat → Int32) (J : Nat → Nat → Int64) (D : Nat → Nat → UInt64) (v1 : Int32) : ex (315, 16, [.ref 1000023, .int v1], [], mm I J D) = ex (315, 21, [.ref 1000023, .int v1], [.int v1, .ref 1000033], mm I J D) := (ex_itr 3 _).trans rfl
set_option maxRecDepth 100000 in
theorem e_315_16_1000024 (I : Nat → Nat → Int32) (J : Nat → Nat → Int64) (D : Nat → Nat → UInt64) (v1 : Int32) : ex (315, 16, [.ref 1000024, .int v1], [], mm I J D) = ex (315, 21, [.ref 1000024, .int v1], [.int v1, .ref 1000034], mm I J D) := (ex_itr 3 _).trans rfl
set_option maxRecDepth 100000 in
theorem e_315_16_1000025 (I : Nat → Nat → Int32) (J : Nat → Nat → Int64) (D : Nat → Nat → UInt64) (v1 : Int32) : ex (315, 16, [.ref 1000025, .int v1], [], mm I J D) = ex (315, 21, [.ref 1000025, .int v1], [.int v1, .ref 1000035], mm I J D) := (ex_itr 3 _).trans rfl
/-! java/lang/StringLatin1.charAt([BI)C -/
set_option maxRecDepth 100000 in
theorem e_316_0_1000030 (I : Nat → Nat → Int32) (J : Nat → Nat → Int64) (D : Nat → Nat → UInt64) (v1 : Int32) : ex (316, 0, [.ref 1000030, .int v1], [], mm I J D) = bif decide (0 ≤ v1) && decide (v1 < 5) then (bif inb v1 5 then (bif decide (0 ≤ ((((sta 1000030 v1.toNatClampNeg) &&& 255).toUInt32 % 65536).toInt32) ∧ ((((sta 1000030 v1.toNatClampNeg) &&& 255).toUInt32 % 65536).toInt32) ≤ 65535) then (some (.inl (some (.int ((((sta 1000030 v1.toNatClampNeg) &&& 255).toUInt32 % 65536).toInt32))), mm I J D)) else none) else none) else none := (ex_itr 11 _).trans rfl
set_option maxRecDepth 100000 in
theorem e_316_0_1000031 (I : Nat → Nat → Int32) (J : Nat → Nat → Int64) (D : Nat → Nat → UInt64) (v1 : Int32) : ex (316, 0, [.ref 1000031, .int v1], [], mm I J D) = bif decide (0 ≤ v1) && decide (v1 < 4) then (bif inb v1 4 then (bif decide (0 ≤ ((((sta 1000031 v1.toNatClampNeg) &&& 255).toUInt32 % 65536).toInt32) ∧ ((((sta 1000031 v1.toNatClampNeg) &&& 255).toUInt32 % 65536).toInt32) ≤ 65535) then (some (.inl (some (.int ((((sta 1000031 v1.toNatClampNeg) &&& 255).toUInt32 % 65536).toInt32))), mm I J D)) else none) else none) else none := (ex_itr 11 _).trans rfl
set_option maxRecDepth 100000 in
theorem e_316_0_1000032 (I : Nat → Nat → Int32) (J : Nat → Nat → Int64) (D : Nat → Nat → UInt64) (v1 : Int32) : ex (316, 0, [.ref 1000032, .int v1], [], mm I J D) = bif decide (0 ≤ v1) && decide (v1 < 2) then (bif inb v1 2 then (bif decide (0 ≤ ((((sta 1000032 v1.toNatClampNeg) &&& 255).toUInt32 % 65536).toInt32) ∧ ((((sta 1000032 v1.toNatClampNeg) &&& 255).toUInt32 % 65536).toInt32) ≤ 65535) then (some (.inl (some (.int ((((sta 1000032 v1.toNatClampNeg) &&& 255).toUInt32 % 65536).toInt32))), mm I J D)) else none) else none) else none := (ex_itr 11 _).trans rfl
set_option maxRecDepth 100000 in
theorem e_316_0_1000033 (I : Nat → Nat → Int32) (J : Nat → Nat → Int64) (D : Nat → Nat → UInt64) (v1 : Int32) : ex (316, 0, [.ref 1000033, .int v1], [], mm I J D) = bif decide (0 ≤ v1) && decide (v1 < 4) then (bif inb v1 4 then (bif decide (0 ≤ ((((sta 1000033 v1.toNatClampNeg) &&& 255).toUInt32 % 65536).toInt32) ∧ ((((sta 1000033 v1.toNatClampNeg) &&& 255).toUInt32 % 65536).toInt32) ≤ 65535) then (some (.inl (some (.int ((((sta 1000033 v1.toNatClampNeg) &&& 255).toUInt32 % 65536).toInt32))), mm I J D)) else none) else none) else none := (ex_itr 11 _).trans rfl
set_option maxRecDepth 100000 in
theorem e_316_0_1000034 (I : Nat → Nat → Int32) (J : Nat → Nat → Int64) (D : Nat → Nat → UInt64) (v1 : Int32) : ex (316, 0, [.ref 1000034, .int v1], [], mm I J D) = bif decide (0 ≤ v1) && decide (v1 < 4) then (bif inb v1 4 then (bif decide (0 ≤ ((((sta 1000034 v1.toNatClampNeg) &&& 255).toUInt32 % 65536).toInt32) ∧ ((((sta 1000034 v1.toNatClampNeg) &&& 255).toUInt32 % 65536).toInt32) ≤ 65535) then (some (.inl (some (.int ((((sta 1000034 v1.toNatClampNeg) &&& 255).toUInt32 % 65536).toInt32))), mm I J D)) else none) else none) else none := (ex_itr 11 _).trans rfl
set_option maxRecDepth 100000 in
theorem e_316_0_1000035 (I : Nat → Nat → Int32) (J : Nat → Nat → Int64) (D : Nat → Nat → UInt64) (v1 : Int32) : ex (316, 0, [.ref 1000035, .int v1], [], mm I J D) = bif decide (0 ≤ v1) && decide (v1 < 5) then (bif inb v1 5 then (bif decide (0 ≤ ((((sta 1000035 v1.toNatClampNeg) &&& 255).toUInt32 % 65536).toInt32) ∧ ((((sta 1000035 v1.toNatClampNeg) &&& 255).toUInt32 % 65536).toInt32) ≤ 65535) then (some (.inl (some (.int ((((sta 1000035 v1.toNatClampNeg) &&& 255).toUInt32 % 65536).toInt32))), mm I J D)) else none) else none) else none := (ex_itr 11 _).trans rfl
/-! java/util/Arrays.fill([JJ)V -/
set_option maxRecDepth 100000 in
theorem e_317_0 (I : Nat → Nat → Int32) (J : Nat → Nat → Int64) (D : Nat → Nat → UInt64) (v1 : Int64) : ex (317, 0, [.ref 272, .long v1, dv, dv, dv], [], mm I J D) = ex (317, 6, [.ref 272, .long v1, dv, .int 0, .int 16384], [], mm I J D) := (ex_itr 5 _).trans rfl
set_option maxRecDepth 100000 in
theorem e_317_6 (I : Nat → Nat → Int32) (J : Nat → Nat → Int64) (D : Nat → Nat → UInt64) (v1 : Int64) (v3 : Int32) (v4 : Int32) : ex (317, 6, [.ref 272, .long v1, dv, .int v3, .int v4], [], mm I J D) = bif decide (v4 ≤ v3) then ex (317, 22, [dv, dv, dv, dv, dv], [], mm I J D) else ex (317, 12, [.ref 272, .long v1, dv, .int v3, .int v4], [], mm I J D) := (ex_itr 3 _).trans rfl
set_option maxRecDepth 100000 in
theorem e_317_12 (I : Nat → Nat → Int32) (J : Nat → Nat → Int64) (D : Nat → Nat → UInt64) (v1 : Int64) (v3 : Int32) (v4 : Int32) : ex (317, 12, [.ref 272, .long v1, dv, .int v3, .int v4], [], mm I J D) = bif inb v3 16384 then (ex (317, 6, [.ref 272, .long v1, dv, .int (v3 + 1), .int v4], [], mm I (upsL J 272 v3.toNatClampNeg v1) D)) else none := (ex_itr 6 _).trans rfl
set_option maxRecDepth 100000 in
theorem e_317_22 (I : Nat → Nat → Int32) (J : Nat → Nat → Int64) (D : Nat → Nat → UInt64)  : ex (317, 22, [dv, dv, dv, dv, dv], [], mm I J D) = some (.inl none, mm I J D) := (ex_itr 1 _).trans rfl
