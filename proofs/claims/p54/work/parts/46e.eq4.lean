/-! equations of runs of the law's own, a block each: the rest -/
/-! L_isLaid, C -/
set_option maxRecDepth 100000 in
theorem eC_348_0 (I : Nat → Nat → Int32) (J : Nat → Nat → Int64) (D : Nat → Nat → UInt64)  : ex (348, 0, [.ref 0, dv, dv, dv], [], mC I J D) = ex (348, 2, [.ref 0, .int 0, dv, dv], [], mC I J D) := (ex_itr 2 _).trans rfl
set_option maxRecDepth 100000 in
theorem eC_348_2 (I : Nat → Nat → Int32) (J : Nat → Nat → Int64) (D : Nat → Nat → UInt64) (v1 : Int32) : ex (348, 2, [.ref 0, .int v1, dv, dv], [], mC I J D) = bif decide (2 ≤ v1) then ex (348, 111, [.ref 0, dv, dv, dv], [], mC I J D) else ex (348, 7, [.ref 0, .int v1, dv, dv], [], mC I J D) := (ex_itr 3 _).trans rfl
set_option maxRecDepth 100000 in
theorem eC_348_7 (I : Nat → Nat → Int32) (J : Nat → Nat → Int64) (D : Nat → Nat → UInt64) (v1 : Int32) : ex (348, 7, [.ref 0, .int v1, dv, dv], [], mC I J D) = bif cG 348 319 I then (calK 348 21 [.ref 0, .int v1, dv, dv] [.int v1, .ref 326] (mC (cI 348 319 I) J D) (ex (319, 0, [.ref 328, .int 6], [], cIn 319 (mC (cI 348 319 I) J D)))) else none := (ex_itr 7 _).trans rfl
set_option maxRecDepth 100000 in
theorem eC_348_21 (I : Nat → Nat → Int32) (J : Nat → Nat → Int64) (D : Nat → Nat → UInt64) (v1 : Int32) (s0 : Int32) (s1 : Int32) : ex (348, 21, [.ref 0, .int v1, dv, dv], [.int s0, .int s1, .ref 326], mC I J D) = bif inb s1 2 then (ex (348, 24, [.ref 0, .int v1, .int 0, dv], [], mC (ups I 326 s1.toNatClampNeg s0) J D)) else none := (ex_itr 3 _).trans rfl
set_option maxRecDepth 100000 in
theorem eC_348_24 (I : Nat → Nat → Int32) (J : Nat → Nat → Int64) (D : Nat → Nat → UInt64) (v1 : Int32) (v2 : Int32) : ex (348, 24, [.ref 0, .int v1, .int v2, dv], [], mC I J D) = bif inb v1 2 then (bif decide ((I 326 v1.toNatClampNeg) ≤ v2) then ex (348, 105, [.ref 0, .int v1, dv, dv], [], mC I J D) else ex (348, 34, [.ref 0, .int v1, .int v2, dv], [], mC I J D)) else none := (ex_itr 6 _).trans rfl
set_option maxRecDepth 100000 in
theorem eC_348_34 (I : Nat → Nat → Int32) (J : Nat → Nat → Int64) (D : Nat → Nat → UInt64) (v1 : Int32) (v2 : Int32) : ex (348, 34, [.ref 0, .int v1, .int v2, dv], [], mC I J D) = bif inb v1 5 then (bif cG 348 319 I then (calK 348 51 [.ref 0, .int v1, .int v2, dv] [.int 1, .int v2, .ref (321 + v1.toNatClampNeg)] (mC (cI 348 319 I) J D) (ex (319, 0, [.ref 328, .int 9], [], cIn 319 (mC (cI 348 319 I) J D)))) else none) else none := Eq.trans (b := ex (348, 39, [.ref 0, .int v1, .int v2, dv], [.int v1, .ref 320], mC I J D)) ((ex_itr 3 _).trans rfl) (congrArg (fun z => z) ((st_aald rfl rsC_320 (by rfl) rlC_320 rRC_320).trans (bcg fun hj0 => (ex_itr 6 _).trans rfl)))
set_option maxRecDepth 100000 in
theorem eC_348_51 (I : Nat → Nat → Int32) (J : Nat → Nat → Int64) (D : Nat → Nat → UInt64) (v1 : Int32) (v2 : Int32) (s0 : Int32) (s1 : Int32) (s2 : Int32) (s3 : Nat) (hs3 : SC s3 = (20, 5)) (ks3 : s3 < 348) : ex (348, 51, [.ref 0, .int v1, .int v2, dv], [.int s0, .int s1, .int s2, .ref s3], mC I J D) = bif inb s2 5 then (bif inb v1 5 then (bif cG 348 319 (ups I s3 s2.toNatClampNeg (s1 + s0)) then (calK 348 68 [.ref 0, .int v1, .int v2, dv] [.int v2, .ref (324 + v1.toNatClampNeg)] (mC (cI 348 319 (ups I s3 s2.toNatClampNeg (s1 + s0))) J D) (ex (319, 0, [.ref 328, .int 3], [], cIn 319 (mC (cI 348 319 (ups I s3 s2.toNatClampNeg (s1 + s0))) J D)))) else none) else none) else none := Eq.trans (b := ex (348, 52, [.ref 0, .int v1, .int v2, dv], [.int (s1 + s0), .int s2, .ref s3], mC I J D)) ((ex_itr 1 _).trans rfl) (congrArg (fun z => z) ((st_iast rfl (hs3) (ks3)).trans (bcg fun _ => Eq.trans (b := ex (348, 58, [.ref 0, .int v1, .int v2, dv], [.int v1, .ref 323], mC (ups I s3 s2.toNatClampNeg (s1 + s0)) J D)) ((ex_itr 3 _).trans rfl) (congrArg (fun z => z) ((st_aald rfl rsC_323 (by rfl) rlC_323 rRC_323).trans (bcg fun hj0 => (ex_itr 5 _).trans rfl))))))
set_option maxRecDepth 100000 in
theorem eC_348_68 (I : Nat → Nat → Int32) (J : Nat → Nat → Int64) (D : Nat → Nat → UInt64) (v1 : Int32) (v2 : Int32) (s0 : Int32) (s1 : Int32) (s2 : Nat) (hs2 : SC s2 = (20, 5)) (ks2 : s2 < 348) : ex (348, 68, [.ref 0, .int v1, .int v2, dv], [.int s0, .int s1, .ref s2], mC I J D) = bif inb s1 5 then (bif inb v1 5 then (bif inb v2 5 then (bif inb v1 5 then (bif inb v2 5 then (bif cG 348 109 (ups I s2 s1.toNatClampNeg s0) then (calK 348 93 [.ref 0, .int v1, .int v2, dv] [] (mC (cI 348 109 (ups I s2 s1.toNatClampNeg s0)) J D) (ex (109, 0, [.ref 1, .int v1, .int ((ups I s2 s1.toNatClampNeg s0) (321 + v1.toNatClampNeg) v2.toNatClampNeg), .int ((ups I s2 s1.toNatClampNeg s0) (324 + v1.toNatClampNeg) v2.toNatClampNeg)], [], mC (cI 348 109 (ups I s2 s1.toNatClampNeg s0)) J D))) else none) else none) else none) else none) else none) else none := (st_iast rfl (hs2) (ks2)).trans (bcg fun _ => Eq.trans (b := ex (348, 79, [.ref 0, .int v1, .int v2, dv], [.int v1, .ref 320, .int v1, .ref 1], mC (ups I s2 s1.toNatClampNeg s0) J D)) ((ex_itr 6 _).trans rfl) (congrArg (fun z => z) ((st_aald rfl rsC_320 (by rfl) rlC_320 rRC_320).trans (bcg fun hj0 => Eq.trans (b := ex (348, 81, [.ref 0, .int v1, .int v2, dv], [.int v2, .ref (321 + v1.toNatClampNeg), .int v1, .ref 1], mC (ups I s2 s1.toNatClampNeg s0) J D)) ((ex_itr 1 _).trans rfl) (congrArg (fun z => z) ((st_iald rfl (rSC_320 hj0) (rLC_320 hj0)).trans (bcg fun _ => Eq.trans (b := ex (348, 87, [.ref 0, .int v1, .int v2, dv], [.int v1, .ref 323, .int ((ups I s2 s1.toNatClampNeg s0) (321 + v1.toNatClampNeg) v2.toNatClampNeg), .int v1, .ref 1], mC (ups I s2 s1.toNatClampNeg s0) J D)) ((ex_itr 3 _).trans rfl) (congrArg (fun z => z) ((st_aald rfl rsC_323 (by rfl) rlC_323 rRC_323).trans (bcg fun hj1 => Eq.trans (b := ex (348, 89, [.ref 0, .int v1, .int v2, dv], [.int v2, .ref (324 + v1.toNatClampNeg), .int ((ups I s2 s1.toNatClampNeg s0) (321 + v1.toNatClampNeg) v2.toNatClampNeg), .int v1, .ref 1], mC (ups I s2 s1.toNatClampNeg s0) J D)) ((ex_itr 1 _).trans rfl) (congrArg (fun z => z) ((st_iald rfl (rSC_323 hj1) (rLC_323 hj1)).trans (bcg fun _ => (ex_itr 1 _).trans rfl)))))))))))))
set_option maxRecDepth 100000 in
theorem eC_348_93 (I : Nat → Nat → Int32) (J : Nat → Nat → Int64) (D : Nat → Nat → UInt64) (v1 : Int32) (v2 : Int32) (s0 : Int32) : ex (348, 93, [.ref 0, .int v1, .int v2, dv], [.int s0], mC I J D) = bif decide (s0 = v2) then ex (348, 99, [.ref 0, .int v1, .int v2, dv], [], mC I J D) else ex (348, 97, [dv, dv, dv, dv], [], mC I J D) := (ex_itr 2 _).trans rfl
set_option maxRecDepth 100000 in
theorem eC_348_97 (I : Nat → Nat → Int32) (J : Nat → Nat → Int64) (D : Nat → Nat → UInt64)  : ex (348, 97, [dv, dv, dv, dv], [], mC I J D) = some (.inl (some (.int 0)), mC I J D) := (ex_itr 2 _).trans rfl
set_option maxRecDepth 100000 in
theorem eC_348_99 (I : Nat → Nat → Int32) (J : Nat → Nat → Int64) (D : Nat → Nat → UInt64) (v1 : Int32) (v2 : Int32) : ex (348, 99, [.ref 0, .int v1, .int v2, dv], [], mC I J D) = ex (348, 24, [.ref 0, .int v1, .int (v2 + 1), dv], [], mC I J D) := (ex_itr 2 _).trans rfl
set_option maxRecDepth 100000 in
theorem eC_348_105 (I : Nat → Nat → Int32) (J : Nat → Nat → Int64) (D : Nat → Nat → UInt64) (v1 : Int32) : ex (348, 105, [.ref 0, .int v1, dv, dv], [], mC I J D) = ex (348, 2, [.ref 0, .int (v1 + 1), dv, dv], [], mC I J D) := (ex_itr 2 _).trans rfl
set_option maxRecDepth 100000 in
theorem eC_348_111 (I : Nat → Nat → Int32) (J : Nat → Nat → Int64) (D : Nat → Nat → UInt64)  : ex (348, 111, [.ref 0, dv, dv, dv], [], mC I J D) = bif cG 348 319 I then (calK 348 119 [.ref 0, dv, dv, dv] [] (mC (cI 348 319 I) J D) (ex (319, 0, [.ref 328, .int 3], [], cIn 319 (mC (cI 348 319 I) J D)))) else none := (ex_itr 4 _).trans rfl
set_option maxRecDepth 100000 in
theorem eC_348_119 (I : Nat → Nat → Int32) (J : Nat → Nat → Int64) (D : Nat → Nat → UInt64) (s0 : Int32) : ex (348, 119, [.ref 0, dv, dv, dv], [.int s0], mC I J D) = ex (348, 120, [.ref 0, .int s0, dv, dv], [], mC I J D) := (ex_itr 1 _).trans rfl
set_option maxRecDepth 100000 in
theorem eC_348_120 (I : Nat → Nat → Int32) (J : Nat → Nat → Int64) (D : Nat → Nat → UInt64) (v1 : Int32) : ex (348, 120, [.ref 0, .int v1, dv, dv], [], mC I J D) = bif decide (v1 ≤ 0) then ex (348, 196, [.ref 0, dv, dv, dv], [], mC I J D) else ex (348, 124, [.ref 0, .int v1, dv, dv], [], mC I J D) := (ex_itr 2 _).trans rfl
set_option maxRecDepth 100000 in
theorem eC_348_124 (I : Nat → Nat → Int32) (J : Nat → Nat → Int64) (D : Nat → Nat → UInt64) (v1 : Int32) : ex (348, 124, [.ref 0, .int v1, dv, dv], [], mC I J D) = bif decide ((I 326 0) ≤ 0) then ex (348, 196, [.ref 0, dv, dv, dv], [], mC I J D) else ex (348, 133, [.ref 0, .int v1, dv, dv], [], mC I J D) := (ex_itr 5 _).trans rfl
set_option maxRecDepth 100000 in
theorem eC_348_133 (I : Nat → Nat → Int32) (J : Nat → Nat → Int64) (D : Nat → Nat → UInt64) (v1 : Int32) : ex (348, 133, [.ref 0, .int v1, dv, dv], [], mC I J D) = bif decide ((I 326 1) ≤ 0) then ex (348, 196, [.ref 0, dv, dv, dv], [], mC I J D) else ex (348, 142, [.ref 0, .int v1, dv, dv], [], mC I J D) := (ex_itr 5 _).trans rfl
set_option maxRecDepth 100000 in
theorem eC_348_142 (I : Nat → Nat → Int32) (J : Nat → Nat → Int64) (D : Nat → Nat → UInt64) (v1 : Int32) : ex (348, 142, [.ref 0, .int v1, dv, dv], [], mC I J D) = bif cG 348 319 I then (calK 348 155 [.ref 0, .int v1, dv, dv] [] (mC (cI 348 319 I) J D) (ex (319, 0, [.ref 328, .int (I 326 0)], [], cIn 319 (mC (cI 348 319 I) J D)))) else none := (ex_itr 7 _).trans rfl
set_option maxRecDepth 100000 in
theorem eC_348_155 (I : Nat → Nat → Int32) (J : Nat → Nat → Int64) (D : Nat → Nat → UInt64) (v1 : Int32) (s0 : Int32) : ex (348, 155, [.ref 0, .int v1, dv, dv], [.int s0], mC I J D) = bif cG 348 319 I then (calK 348 169 [.ref 0, .int v1, .int s0, dv] [] (mC (cI 348 319 I) J D) (ex (319, 0, [.ref 328, .int (I 326 1)], [], cIn 319 (mC (cI 348 319 I) J D)))) else none := (ex_itr 8 _).trans rfl
set_option maxRecDepth 100000 in
theorem eC_348_169 (I : Nat → Nat → Int32) (J : Nat → Nat → Int64) (D : Nat → Nat → UInt64) (v1 : Int32) (v2 : Int32) (s0 : Int32) : ex (348, 169, [.ref 0, .int v1, .int v2, dv], [.int s0], mC I J D) = bif cG 348 347 I then (calK 348 179 [.ref 0, .int v1, .int v2, .int s0] [] (mC (cI 348 347 I) J D) (ex (347, 0, [.ref 1, .int v2, .int s0, dv], [], cIn 347 (mC (cI 348 347 I) J D)))) else none := (ex_itr 6 _).trans rfl
set_option maxRecDepth 100000 in
theorem eC_348_179 (I : Nat → Nat → Int32) (J : Nat → Nat → Int64) (D : Nat → Nat → UInt64) (v1 : Int32) (v2 : Int32) (v3 : Int32) (s0 : Int32) : ex (348, 179, [.ref 0, .int v1, .int v2, .int v3], [.int s0], mC I J D) = bif decide (s0 = (-1)) then ex (348, 190, [.ref 0, .int v1, dv, dv], [], mC I J D) else ex (348, 183, [.ref 0, .int v1, .int v2, .int v3], [], mC I J D) := (ex_itr 2 _).trans rfl
set_option maxRecDepth 100000 in
theorem eC_348_183 (I : Nat → Nat → Int32) (J : Nat → Nat → Int64) (D : Nat → Nat → UInt64) (v1 : Int32) (v2 : Int32) (v3 : Int32) : ex (348, 183, [.ref 0, .int v1, .int v2, .int v3], [], mC I J D) = bif inb v2 5 then (ex (348, 190, [.ref 0, .int v1, dv, dv], [], mC (ups I 327 v2.toNatClampNeg v3) J D)) else none := (ex_itr 5 _).trans rfl
set_option maxRecDepth 100000 in
theorem eC_348_190 (I : Nat → Nat → Int32) (J : Nat → Nat → Int64) (D : Nat → Nat → UInt64) (v1 : Int32) : ex (348, 190, [.ref 0, .int v1, dv, dv], [], mC I J D) = ex (348, 120, [.ref 0, .int (v1 + (-1)), dv, dv], [], mC I J D) := (ex_itr 2 _).trans rfl
set_option maxRecDepth 100000 in
theorem eC_348_196 (I : Nat → Nat → Int32) (J : Nat → Nat → Int64) (D : Nat → Nat → UInt64)  : ex (348, 196, [.ref 0, dv, dv, dv], [], mC I J D) = bif cG 348 335 (ups I 0 11 2147483647) then (calK 348 209 [.ref 0, dv, dv, dv] [] (mC (cI 348 335 (ups I 0 11 2147483647)) J D) (ex (335, 0, [.ref 0, .int 0, .int 0, .int 0, dv, dv, dv], [], cIn 335 (mC (cI 348 335 (ups I 0 11 2147483647)) J D)))) else none := (ex_itr 8 _).trans rfl
set_option maxRecDepth 100000 in
theorem eC_348_209 (I : Nat → Nat → Int32) (J : Nat → Nat → Int64) (D : Nat → Nat → UInt64)  : ex (348, 209, [.ref 0, dv, dv, dv], [], mC I J D) = bif cG 348 114 I then (calK 348 216 [.ref 0, dv, dv, dv] [] (mC (cI 348 114 I) J D) (ex (114, 0, [.ref 1], [], mC (cI 348 114 I) J D))) else none := (ex_itr 3 _).trans rfl
set_option maxRecDepth 100000 in
theorem eC_348_216 (I : Nat → Nat → Int32) (J : Nat → Nat → Int64) (D : Nat → Nat → UInt64) (s0 : Int32) : ex (348, 216, [.ref 0, dv, dv, dv], [.int s0], mC I J D) = bif decide (s0 ≠ (I 0 11)) then ex (348, 238, [dv, dv, dv, dv], [], mC I J D) else ex (348, 223, [.ref 0, dv, dv, dv], [], mC I J D) := (ex_itr 3 _).trans rfl
set_option maxRecDepth 100000 in
theorem eC_348_223 (I : Nat → Nat → Int32) (J : Nat → Nat → Int64) (D : Nat → Nat → UInt64)  : ex (348, 223, [.ref 0, dv, dv, dv], [], mC I J D) = bif cG 348 115 I then (calK 348 230 [.ref 0, dv, dv, dv] [] (mC (cI 348 115 I) J D) (ex (115, 0, [.ref 1], [], mC (cI 348 115 I) J D))) else none := (ex_itr 3 _).trans rfl
set_option maxRecDepth 100000 in
theorem eC_348_230 (I : Nat → Nat → Int32) (J : Nat → Nat → Int64) (D : Nat → Nat → UInt64) (s0 : Int64) : ex (348, 230, [.ref 0, dv, dv, dv], [.long s0], mC I J D) = bif decide ((lg_cmp s0 (J 0 12)) = 0) then ex (348, 240, [.ref 0, dv, dv, dv], [], mC I J D) else ex (348, 238, [dv, dv, dv, dv], [], mC I J D) := (ex_itr 4 _).trans rfl
set_option maxRecDepth 100000 in
theorem eC_348_238 (I : Nat → Nat → Int32) (J : Nat → Nat → Int64) (D : Nat → Nat → UInt64)  : ex (348, 238, [dv, dv, dv, dv], [], mC I J D) = some (.inl (some (.int 0)), mC I J D) := (ex_itr 2 _).trans rfl
set_option maxRecDepth 100000 in
theorem eC_348_240 (I : Nat → Nat → Int32) (J : Nat → Nat → Int64) (D : Nat → Nat → UInt64)  : ex (348, 240, [.ref 0, dv, dv, dv], [], mC I J D) = ex (348, 242, [.ref 0, .int 0, dv, dv], [], mC I J D) := (ex_itr 2 _).trans rfl
set_option maxRecDepth 100000 in
theorem eC_348_242 (I : Nat → Nat → Int32) (J : Nat → Nat → Int64) (D : Nat → Nat → UInt64) (v1 : Int32) : ex (348, 242, [.ref 0, .int v1, dv, dv], [], mC I J D) = bif decide ((I 326 0) ≤ v1) then ex (348, 333, [dv, dv, dv, dv], [], mC I J D) else ex (348, 252, [.ref 0, .int v1, dv, dv], [], mC I J D) := (ex_itr 6 _).trans rfl
set_option maxRecDepth 100000 in
theorem eC_348_252 (I : Nat → Nat → Int32) (J : Nat → Nat → Int64) (D : Nat → Nat → UInt64) (v1 : Int32) : ex (348, 252, [.ref 0, .int v1, dv, dv], [], mC I J D) = bif cG 348 116 I then (calK 348 261 [.ref 0, .int v1, dv, dv] [] (mC (cI 348 116 I) J D) (ex (116, 0, [.ref 1, .int 0, .int v1], [], mC (cI 348 116 I) J D))) else none := (ex_itr 5 _).trans rfl
set_option maxRecDepth 100000 in
theorem eC_348_261 (I : Nat → Nat → Int32) (J : Nat → Nat → Int64) (D : Nat → Nat → UInt64) (v1 : Int32) (s0 : Int32) : ex (348, 261, [.ref 0, .int v1, dv, dv], [.int s0], mC I J D) = bif inb v1 5 then (bif decide ((I 327 v1.toNatClampNeg) < 0) then ex (348, 295, [.ref 0, .int v1, .int s0, dv], [], mC I J D) else ex (348, 271, [.ref 0, .int v1, .int s0, dv], [], mC I J D)) else none := (ex_itr 6 _).trans rfl
set_option maxRecDepth 100000 in
theorem eC_348_271 (I : Nat → Nat → Int32) (J : Nat → Nat → Int64) (D : Nat → Nat → UInt64) (v1 : Int32) (v2 : Int32) : ex (348, 271, [.ref 0, .int v1, .int v2, dv], [], mC I J D) = bif inb v1 5 then (bif decide (v2 ≠ (I 327 v1.toNatClampNeg)) then ex (348, 293, [dv, dv, dv, dv], [], mC I J D) else ex (348, 281, [.ref 0, .int v1, .int v2, dv], [], mC I J D)) else none := (ex_itr 6 _).trans rfl
set_option maxRecDepth 100000 in
theorem eC_348_281 (I : Nat → Nat → Int32) (J : Nat → Nat → Int64) (D : Nat → Nat → UInt64) (v1 : Int32) (v2 : Int32) : ex (348, 281, [.ref 0, .int v1, .int v2, dv], [], mC I J D) = bif cG 348 117 I then (calK 348 290 [.ref 0, .int v1, .int v2, dv] [] (mC (cI 348 117 I) J D) (ex (117, 0, [.ref 1, .int v1, .int v2, dv], [], mC (cI 348 117 I) J D))) else none := (ex_itr 5 _).trans rfl
set_option maxRecDepth 100000 in
theorem eC_348_290 (I : Nat → Nat → Int32) (J : Nat → Nat → Int64) (D : Nat → Nat → UInt64) (v1 : Int32) (v2 : Int32) (s0 : Int32) : ex (348, 290, [.ref 0, .int v1, .int v2, dv], [.int s0], mC I J D) = bif decide (s0 ≠ 0) then ex (348, 295, [.ref 0, .int v1, .int v2, dv], [], mC I J D) else ex (348, 293, [dv, dv, dv, dv], [], mC I J D) := (ex_itr 1 _).trans rfl
set_option maxRecDepth 100000 in
theorem eC_348_293 (I : Nat → Nat → Int32) (J : Nat → Nat → Int64) (D : Nat → Nat → UInt64)  : ex (348, 293, [dv, dv, dv, dv], [], mC I J D) = some (.inl (some (.int 0)), mC I J D) := (ex_itr 2 _).trans rfl
set_option maxRecDepth 100000 in
theorem eC_348_295 (I : Nat → Nat → Int32) (J : Nat → Nat → Int64) (D : Nat → Nat → UInt64) (v1 : Int32) (v2 : Int32) : ex (348, 295, [.ref 0, .int v1, .int v2, dv], [], mC I J D) = bif decide (v2 ≠ (-1)) then ex (348, 303, [.ref 0, .int v1, .int v2, dv], [], mC I J D) else ex (348, 300, [.ref 0, .int v1, dv, dv], [], mC I J D) := (ex_itr 3 _).trans rfl
set_option maxRecDepth 100000 in
theorem eC_348_300 (I : Nat → Nat → Int32) (J : Nat → Nat → Int64) (D : Nat → Nat → UInt64) (v1 : Int32) : ex (348, 300, [.ref 0, .int v1, dv, dv], [], mC I J D) = ex (348, 327, [.ref 0, .int v1, dv, dv], [], mC I J D) := (ex_itr 1 _).trans rfl
set_option maxRecDepth 100000 in
theorem eC_348_303 (I : Nat → Nat → Int32) (J : Nat → Nat → Int64) (D : Nat → Nat → UInt64) (v1 : Int32) (v2 : Int32) : ex (348, 303, [.ref 0, .int v1, .int v2, dv], [], mC I J D) = bif cG 348 116 I then (calK 348 312 [.ref 0, .int v1, dv, dv] [] (mC (cI 348 116 I) J D) (ex (116, 0, [.ref 1, .int 1, .int v2], [], mC (cI 348 116 I) J D))) else none := (ex_itr 5 _).trans rfl
set_option maxRecDepth 100000 in
theorem eC_348_312 (I : Nat → Nat → Int32) (J : Nat → Nat → Int64) (D : Nat → Nat → UInt64) (v1 : Int32) (s0 : Int32) : ex (348, 312, [.ref 0, .int v1, dv, dv], [.int s0], mC I J D) = bif decide (s0 = v1) then ex (348, 327, [.ref 0, .int v1, dv, dv], [], mC I J D) else ex (348, 318, [.ref 0, .int v1, dv, .int s0], [], mC I J D) := (ex_itr 4 _).trans rfl
set_option maxRecDepth 100000 in
theorem eC_348_318 (I : Nat → Nat → Int32) (J : Nat → Nat → Int64) (D : Nat → Nat → UInt64) (v1 : Int32) (v3 : Int32) : ex (348, 318, [.ref 0, .int v1, dv, .int v3], [], mC I J D) = bif decide (v3 = (v1 - 1)) then ex (348, 327, [.ref 0, .int v1, dv, dv], [], mC I J D) else ex (348, 325, [dv, dv, dv, dv], [], mC I J D) := (ex_itr 5 _).trans rfl
set_option maxRecDepth 100000 in
theorem eC_348_325 (I : Nat → Nat → Int32) (J : Nat → Nat → Int64) (D : Nat → Nat → UInt64)  : ex (348, 325, [dv, dv, dv, dv], [], mC I J D) = some (.inl (some (.int 0)), mC I J D) := (ex_itr 2 _).trans rfl
set_option maxRecDepth 100000 in
theorem eC_348_327 (I : Nat → Nat → Int32) (J : Nat → Nat → Int64) (D : Nat → Nat → UInt64) (v1 : Int32) : ex (348, 327, [.ref 0, .int v1, dv, dv], [], mC I J D) = ex (348, 242, [.ref 0, .int (v1 + 1), dv, dv], [], mC I J D) := (ex_itr 2 _).trans rfl
set_option maxRecDepth 100000 in
theorem eC_348_333 (I : Nat → Nat → Int32) (J : Nat → Nat → Int64) (D : Nat → Nat → UInt64)  : ex (348, 333, [dv, dv, dv, dv], [], mC I J D) = some (.inl (some (.int 1)), mC I J D) := (ex_itr 2 _).trans rfl
/-! L_date, C -/
set_option maxRecDepth 100000 in
theorem eC_349_0 (I : Nat → Nat → Int32) (J : Nat → Nat → Int64) (D : Nat → Nat → UInt64) (v1 : Int32) (v2 : Int32) (v3 : Int32) : ex (349, 0, [.ref 1, .int v1, .int v2, .int v3, dv], [], mC I J D) = bif cG 349 118 I then (calM 349 4 [dv, dv, dv, dv, dv] 7 [dv, dv, dv, dv, dv] [] (mC (cI 349 118 I) J D) (ex (118, 0, [.ref 1, .int v1, .int v2, .int v3], [], mC (cI 349 118 I) J D))) else none := (ex_itr 5 _).trans rfl
set_option maxRecDepth 100000 in
theorem eC_349_7 (I : Nat → Nat → Int32) (J : Nat → Nat → Int64) (D : Nat → Nat → UInt64) (s0 : Int32) : ex (349, 7, [dv, dv, dv, dv, dv], [.int s0], mC I J D) = some (.inl (some (.int s0)), mC I J D) := (ex_itr 1 _).trans rfl
set_option maxRecDepth 100000 in
theorem eC_349_8 (I : Nat → Nat → Int32) (J : Nat → Nat → Int64) (D : Nat → Nat → UInt64)  : ex (349, 8, [dv, dv, dv, dv, dv], [.ref 1000000], mC I J D) = some (.inl (some (.int (-2))), mC I J D) := (ex_itr 3 _).trans rfl
/-! L_age, C -/
set_option maxRecDepth 100000 in
theorem eC_350_0 (I : Nat → Nat → Int32) (J : Nat → Nat → Int64) (D : Nat → Nat → UInt64) (v1 : Int32) (v2 : Int32) : ex (350, 0, [.ref 1, .int v1, .int v2, dv], [], mC I J D) = bif cG 350 120 I then (calM 350 3 [dv, dv, dv, dv] 6 [dv, dv, dv, dv] [] (mC (cI 350 120 I) J D) (ex (120, 0, [.ref 1, .int v1, .int v2, dv], [], mC (cI 350 120 I) J D))) else none := (ex_itr 4 _).trans rfl
set_option maxRecDepth 100000 in
theorem eC_350_6 (I : Nat → Nat → Int32) (J : Nat → Nat → Int64) (D : Nat → Nat → UInt64) (s0 : Int32) : ex (350, 6, [dv, dv, dv, dv], [.int s0], mC I J D) = some (.inl (some (.int s0)), mC I J D) := (ex_itr 1 _).trans rfl
set_option maxRecDepth 100000 in
theorem eC_350_7 (I : Nat → Nat → Int32) (J : Nat → Nat → Int64) (D : Nat → Nat → UInt64)  : ex (350, 7, [dv, dv, dv, dv], [.ref 1000000], mC I J D) = some (.inl (some (.int (-1))), mC I J D) := (ex_itr 3 _).trans rfl
/-! L_areDated, C -/
set_option maxRecDepth 100000 in
theorem eC_351_0 (I : Nat → Nat → Int32) (J : Nat → Nat → Int64) (D : Nat → Nat → UInt64)  : ex (351, 0, [.ref 0, dv, dv, dv, dv], [], mC I J D) = bif cG 351 319 I then (calK 351 8 [.ref 0, dv, dv, dv, dv] [] (mC (cI 351 319 I) J D) (ex (319, 0, [.ref 328, .int 2], [], cIn 319 (mC (cI 351 319 I) J D)))) else none := (ex_itr 4 _).trans rfl
set_option maxRecDepth 100000 in
theorem eC_351_8 (I : Nat → Nat → Int32) (J : Nat → Nat → Int64) (D : Nat → Nat → UInt64) (s0 : Int32) : ex (351, 8, [.ref 0, dv, dv, dv, dv], [.int s0], mC I J D) = ex (351, 11, [.ref 0, .int s0, .int 3, dv, dv], [], mC I J D) := (ex_itr 3 _).trans rfl
set_option maxRecDepth 100000 in
theorem eC_351_11 (I : Nat → Nat → Int32) (J : Nat → Nat → Int64) (D : Nat → Nat → UInt64) (v1 : Int32) (v2 : Int32) : ex (351, 11, [.ref 0, .int v1, .int v2, dv, dv], [], mC I J D) = bif decide (v2 ≤ 0) then ex (351, 61, [.ref 0, .int v1, dv, dv, dv], [], mC I J D) else ex (351, 15, [.ref 0, .int v1, .int v2, dv, dv], [], mC I J D) := (ex_itr 2 _).trans rfl
set_option maxRecDepth 100000 in
theorem eC_351_15 (I : Nat → Nat → Int32) (J : Nat → Nat → Int64) (D : Nat → Nat → UInt64) (v1 : Int32) (v2 : Int32) : ex (351, 15, [.ref 0, .int v1, .int v2, dv, dv], [], mC I J D) = bif inb v1 2 then (bif decide ((I 326 v1.toNatClampNeg) ≤ 0) then ex (351, 61, [.ref 0, .int v1, dv, dv, dv], [], mC I J D) else ex (351, 24, [.ref 0, .int v1, .int v2, dv, dv], [], mC I J D)) else none := (ex_itr 5 _).trans rfl
set_option maxRecDepth 100000 in
theorem eC_351_24 (I : Nat → Nat → Int32) (J : Nat → Nat → Int64) (D : Nat → Nat → UInt64) (v1 : Int32) (v2 : Int32) : ex (351, 24, [.ref 0, .int v1, .int v2, dv, dv], [], mC I J D) = bif inb v1 2 then (bif cG 351 319 I then (calK 351 42 [.ref 0, .int v1, .int v2, dv, dv] [.int v1, .ref 1] (mC (cI 351 319 I) J D) (ex (319, 0, [.ref 328, .int (I 326 v1.toNatClampNeg)], [], cIn 319 (mC (cI 351 319 I) J D)))) else none) else none := (ex_itr 10 _).trans rfl
set_option maxRecDepth 100000 in
theorem eC_351_42 (I : Nat → Nat → Int32) (J : Nat → Nat → Int64) (D : Nat → Nat → UInt64) (v1 : Int32) (v2 : Int32) (s0 : Int32) (s1 : Int32) : ex (351, 42, [.ref 0, .int v1, .int v2, dv, dv], [.int s0, .int s1, .ref 1], mC I J D) = bif cG 351 319 I then (calK 351 51 [.ref 0, .int v1, .int v2, dv, dv] [.int s0, .int s1, .ref 1] (mC (cI 351 319 I) J D) (ex (319, 0, [.ref 328, .int 100], [], cIn 319 (mC (cI 351 319 I) J D)))) else none := (ex_itr 4 _).trans rfl
set_option maxRecDepth 100000 in
theorem eC_351_51 (I : Nat → Nat → Int32) (J : Nat → Nat → Int64) (D : Nat → Nat → UInt64) (v1 : Int32) (v2 : Int32) (s0 : Int32) (s1 : Int32) (s2 : Int32) : ex (351, 51, [.ref 0, .int v1, .int v2, dv, dv], [.int s0, .int s1, .int s2, .ref 1], mC I J D) = bif cG 351 349 I then (calK 351 54 [.ref 0, .int v1, .int v2, dv, dv] [] (mC (cI 351 349 I) J D) (ex (349, 0, [.ref 1, .int s2, .int s1, .int s0, dv], [], cIn 349 (mC (cI 351 349 I) J D)))) else none := (ex_itr 1 _).trans rfl
set_option maxRecDepth 100000 in
theorem eC_351_54 (I : Nat → Nat → Int32) (J : Nat → Nat → Int64) (D : Nat → Nat → UInt64) (v1 : Int32) (v2 : Int32) (s0 : Int32) : ex (351, 54, [.ref 0, .int v1, .int v2, dv, dv], [.int s0], mC I J D) = ex (351, 11, [.ref 0, .int v1, .int (v2 + (-1)), dv, dv], [], mC I J D) := (ex_itr 3 _).trans rfl
set_option maxRecDepth 100000 in
theorem eC_351_61 (I : Nat → Nat → Int32) (J : Nat → Nat → Int64) (D : Nat → Nat → UInt64) (v1 : Int32) : ex (351, 61, [.ref 0, .int v1, dv, dv, dv], [], mC I J D) = ex (351, 65, [.ref 0, .int v1, .int (-1), .int 0, dv], [], mC I J D) := (ex_itr 4 _).trans rfl
set_option maxRecDepth 100000 in
theorem eC_351_65 (I : Nat → Nat → Int32) (J : Nat → Nat → Int64) (D : Nat → Nat → UInt64) (v1 : Int32) (v2 : Int32) (v3 : Int32) : ex (351, 65, [.ref 0, .int v1, .int v2, .int v3, dv], [], mC I J D) = bif inb v1 2 then (bif decide ((I 326 v1.toNatClampNeg) ≤ v3) then ex (351, 112, [dv, dv, dv, dv, dv], [], mC I J D) else ex (351, 75, [.ref 0, .int v1, .int v2, .int v3, dv], [], mC I J D)) else none := (ex_itr 6 _).trans rfl
set_option maxRecDepth 100000 in
theorem eC_351_75 (I : Nat → Nat → Int32) (J : Nat → Nat → Int64) (D : Nat → Nat → UInt64) (v1 : Int32) (v2 : Int32) (v3 : Int32) : ex (351, 75, [.ref 0, .int v1, .int v2, .int v3, dv], [], mC I J D) = bif cG 351 350 I then (calK 351 84 [.ref 0, .int v1, .int v2, .int v3, dv] [] (mC (cI 351 350 I) J D) (ex (350, 0, [.ref 1, .int v1, .int v3, dv], [], cIn 350 (mC (cI 351 350 I) J D)))) else none := (ex_itr 5 _).trans rfl
set_option maxRecDepth 100000 in
theorem eC_351_84 (I : Nat → Nat → Int32) (J : Nat → Nat → Int64) (D : Nat → Nat → UInt64) (v1 : Int32) (v2 : Int32) (v3 : Int32) (s0 : Int32) : ex (351, 84, [.ref 0, .int v1, .int v2, .int v3, dv], [.int s0], mC I J D) = bif decide (s0 ≠ (-1)) then ex (351, 95, [.ref 0, .int v1, .int v2, .int v3, .int s0], [], mC I J D) else ex (351, 92, [.ref 0, .int v1, .int v2, .int v3, dv], [], mC I J D) := (ex_itr 4 _).trans rfl
set_option maxRecDepth 100000 in
theorem eC_351_92 (I : Nat → Nat → Int32) (J : Nat → Nat → Int64) (D : Nat → Nat → UInt64) (v1 : Int32) (v2 : Int32) (v3 : Int32) : ex (351, 92, [.ref 0, .int v1, .int v2, .int v3, dv], [], mC I J D) = ex (351, 106, [.ref 0, .int v1, .int v2, .int v3, dv], [], mC I J D) := (ex_itr 1 _).trans rfl
set_option maxRecDepth 100000 in
theorem eC_351_95 (I : Nat → Nat → Int32) (J : Nat → Nat → Int64) (D : Nat → Nat → UInt64) (v1 : Int32) (v2 : Int32) (v3 : Int32) (v4 : Int32) : ex (351, 95, [.ref 0, .int v1, .int v2, .int v3, .int v4], [], mC I J D) = bif decide (v2 ≤ v4) then ex (351, 103, [.ref 0, .int v1, dv, .int v3, .int v4], [], mC I J D) else ex (351, 101, [dv, dv, dv, dv, dv], [], mC I J D) := (ex_itr 3 _).trans rfl
set_option maxRecDepth 100000 in
theorem eC_351_101 (I : Nat → Nat → Int32) (J : Nat → Nat → Int64) (D : Nat → Nat → UInt64)  : ex (351, 101, [dv, dv, dv, dv, dv], [], mC I J D) = some (.inl (some (.int 0)), mC I J D) := (ex_itr 2 _).trans rfl
set_option maxRecDepth 100000 in
theorem eC_351_103 (I : Nat → Nat → Int32) (J : Nat → Nat → Int64) (D : Nat → Nat → UInt64) (v1 : Int32) (v3 : Int32) (v4 : Int32) : ex (351, 103, [.ref 0, .int v1, dv, .int v3, .int v4], [], mC I J D) = ex (351, 106, [.ref 0, .int v1, .int v4, .int v3, dv], [], mC I J D) := (ex_itr 2 _).trans rfl
set_option maxRecDepth 100000 in
theorem eC_351_106 (I : Nat → Nat → Int32) (J : Nat → Nat → Int64) (D : Nat → Nat → UInt64) (v1 : Int32) (v2 : Int32) (v3 : Int32) : ex (351, 106, [.ref 0, .int v1, .int v2, .int v3, dv], [], mC I J D) = ex (351, 65, [.ref 0, .int v1, .int v2, .int (v3 + 1), dv], [], mC I J D) := (ex_itr 2 _).trans rfl
set_option maxRecDepth 100000 in
theorem eC_351_112 (I : Nat → Nat → Int32) (J : Nat → Nat → Int64) (D : Nat → Nat → UInt64)  : ex (351, 112, [dv, dv, dv, dv, dv], [], mC I J D) = some (.inl (some (.int 1)), mC I J D) := (ex_itr 2 _).trans rfl
/-! L_isBalanced, C -/
set_option maxRecDepth 100000 in
theorem eC_352_0 (I : Nat → Nat → Int32) (J : Nat → Nat → Int64) (D : Nat → Nat → UInt64)  : ex (352, 0, [.ref 0, dv, dv, dv, dv], [], mC I J D) = bif cG 352 319 I then (calK 352 9 [.ref 0, dv, dv, dv, dv] [] (mC (cI 352 319 I) J D) (ex (319, 0, [.ref 328, .int 10], [], cIn 319 (mC (cI 352 319 I) J D)))) else none := (ex_itr 4 _).trans rfl
set_option maxRecDepth 100000 in
theorem eC_352_9 (I : Nat → Nat → Int32) (J : Nat → Nat → Int64) (D : Nat → Nat → UInt64) (s0 : Int32) : ex (352, 9, [.ref 0, dv, dv, dv, dv], [.int s0], mC I J D) = bif cG 352 319 I then (calK 352 19 [.ref 0, .int s0, dv, dv, dv] [.int 1] (mC (cI 352 319 I) J D) (ex (319, 0, [.ref 328, .int 5], [], cIn 319 (mC (cI 352 319 I) J D)))) else none := (ex_itr 6 _).trans rfl
set_option maxRecDepth 100000 in
theorem eC_352_19 (I : Nat → Nat → Int32) (J : Nat → Nat → Int64) (D : Nat → Nat → UInt64) (v1 : Int32) (s0 : Int32) (s1 : Int32) : ex (352, 19, [.ref 0, .int v1, dv, dv, dv], [.int s0, .int s1], mC I J D) = ex (352, 21, [.ref 0, .int v1, .int (s1 + s0), dv, dv], [], mC I J D) := (ex_itr 2 _).trans rfl
set_option maxRecDepth 100000 in
theorem eC_352_21 (I : Nat → Nat → Int32) (J : Nat → Nat → Int64) (D : Nat → Nat → UInt64) (v1 : Int32) (v2 : Int32) : ex (352, 21, [.ref 0, .int v1, .int v2, dv, dv], [], mC I J D) = bif decide (v2 ≤ 0) then ex (352, 68, [.ref 0, .int v1, dv, dv, dv], [], mC I J D) else ex (352, 25, [.ref 0, .int v1, .int v2, dv, dv], [], mC I J D) := (ex_itr 2 _).trans rfl
set_option maxRecDepth 100000 in
theorem eC_352_25 (I : Nat → Nat → Int32) (J : Nat → Nat → Int64) (D : Nat → Nat → UInt64) (v1 : Int32) (v2 : Int32) : ex (352, 25, [.ref 0, .int v1, .int v2, dv, dv], [], mC I J D) = bif cG 352 319 I then (calK 352 38 [.ref 0, .int v1, .int v2, dv, dv] [.ref 1] (mC (cI 352 319 I) J D) (ex (319, 0, [.ref 328, .int 8], [], cIn 319 (mC (cI 352 319 I) J D)))) else none := (ex_itr 6 _).trans rfl
set_option maxRecDepth 100000 in
theorem eC_352_38 (I : Nat → Nat → Int32) (J : Nat → Nat → Int64) (D : Nat → Nat → UInt64) (v1 : Int32) (v2 : Int32) (s0 : Int32) : ex (352, 38, [.ref 0, .int v1, .int v2, dv, dv], [.int s0, .ref 1], mC I J D) = bif cG 352 319 I then (calK 352 49 [.ref 0, .int v1, .int v2, dv, dv] [.int v1, .int s0, .ref 1] (mC (cI 352 319 I) J D) (ex (319, 0, [.ref 328, .int 400], [], cIn 319 (mC (cI 352 319 I) J D)))) else none := (ex_itr 5 _).trans rfl
set_option maxRecDepth 100000 in
theorem eC_352_49 (I : Nat → Nat → Int32) (J : Nat → Nat → Int64) (D : Nat → Nat → UInt64) (v1 : Int32) (v2 : Int32) (s0 : Int32) (s1 : Int32) (s2 : Int32) : ex (352, 49, [.ref 0, .int v1, .int v2, dv, dv], [.int s0, .int s1, .int s2, .ref 1], mC I J D) = bif cG 352 122 I then (calK 352 56 [.ref 0, .int v1, .int v2, dv, dv] [] (mC (cI 352 122 I) J D) (ex (122, 0, [.ref 1, .int s2, .int s1, .int (s0 - 200)], [], mC (cI 352 122 I) J D))) else none := (ex_itr 3 _).trans rfl
set_option maxRecDepth 100000 in
theorem eC_352_56 (I : Nat → Nat → Int32) (J : Nat → Nat → Int64) (D : Nat → Nat → UInt64) (v1 : Int32) (v2 : Int32) (s0 : Int32) : ex (352, 56, [.ref 0, .int v1, .int v2, dv, dv], [.int s0], mC I J D) = bif decide (1 ≤ s0) then ex (352, 62, [.ref 0, .int v1, .int v2, dv, dv], [], mC I J D) else ex (352, 60, [dv, dv, dv, dv, dv], [], mC I J D) := (ex_itr 2 _).trans rfl
set_option maxRecDepth 100000 in
theorem eC_352_60 (I : Nat → Nat → Int32) (J : Nat → Nat → Int64) (D : Nat → Nat → UInt64)  : ex (352, 60, [dv, dv, dv, dv, dv], [], mC I J D) = some (.inl (some (.int 0)), mC I J D) := (ex_itr 2 _).trans rfl
set_option maxRecDepth 100000 in
theorem eC_352_62 (I : Nat → Nat → Int32) (J : Nat → Nat → Int64) (D : Nat → Nat → UInt64) (v1 : Int32) (v2 : Int32) : ex (352, 62, [.ref 0, .int v1, .int v2, dv, dv], [], mC I J D) = ex (352, 21, [.ref 0, .int v1, .int (v2 + (-1)), dv, dv], [], mC I J D) := (ex_itr 2 _).trans rfl
set_option maxRecDepth 100000 in
theorem eC_352_68 (I : Nat → Nat → Int32) (J : Nat → Nat → Int64) (D : Nat → Nat → UInt64) (v1 : Int32) : ex (352, 68, [.ref 0, .int v1, dv, dv, dv], [], mC I J D) = bif cG 352 319 I then (calK 352 77 [.ref 0, .int v1, dv, dv, dv] [] (mC (cI 352 319 I) J D) (ex (319, 0, [.ref 328, .int 6], [], cIn 319 (mC (cI 352 319 I) J D)))) else none := (ex_itr 4 _).trans rfl
set_option maxRecDepth 100000 in
theorem eC_352_77 (I : Nat → Nat → Int32) (J : Nat → Nat → Int64) (D : Nat → Nat → UInt64) (v1 : Int32) (s0 : Int32) : ex (352, 77, [.ref 0, .int v1, dv, dv, dv], [.int s0], mC I J D) = ex (352, 78, [.ref 0, .int v1, .int s0, dv, dv], [], mC I J D) := (ex_itr 1 _).trans rfl
set_option maxRecDepth 100000 in
theorem eC_352_78 (I : Nat → Nat → Int32) (J : Nat → Nat → Int64) (D : Nat → Nat → UInt64) (v1 : Int32) (v2 : Int32) : ex (352, 78, [.ref 0, .int v1, .int v2, dv, dv], [], mC I J D) = bif decide (v2 ≤ 0) then ex (352, 129, [.ref 0, .int v1, dv, dv, dv], [], mC I J D) else ex (352, 82, [.ref 0, .int v1, .int v2, dv, dv], [], mC I J D) := (ex_itr 2 _).trans rfl
set_option maxRecDepth 100000 in
theorem eC_352_82 (I : Nat → Nat → Int32) (J : Nat → Nat → Int64) (D : Nat → Nat → UInt64) (v1 : Int32) (v2 : Int32) : ex (352, 82, [.ref 0, .int v1, .int v2, dv, dv], [], mC I J D) = bif cG 352 319 I then (calK 352 95 [.ref 0, .int v1, .int v2, dv, dv] [.ref 1] (mC (cI 352 319 I) J D) (ex (319, 0, [.ref 328, .int 8], [], cIn 319 (mC (cI 352 319 I) J D)))) else none := (ex_itr 6 _).trans rfl
set_option maxRecDepth 100000 in
theorem eC_352_95 (I : Nat → Nat → Int32) (J : Nat → Nat → Int64) (D : Nat → Nat → UInt64) (v1 : Int32) (v2 : Int32) (s0 : Int32) : ex (352, 95, [.ref 0, .int v1, .int v2, dv, dv], [.int s0, .ref 1], mC I J D) = bif cG 352 319 I then (calK 352 105 [.ref 0, .int v1, .int v2, dv, dv] [.int 1, .int s0, .ref 1] (mC (cI 352 319 I) J D) (ex (319, 0, [.ref 328, .int 99], [], cIn 319 (mC (cI 352 319 I) J D)))) else none := (ex_itr 5 _).trans rfl
set_option maxRecDepth 100000 in
theorem eC_352_105 (I : Nat → Nat → Int32) (J : Nat → Nat → Int64) (D : Nat → Nat → UInt64) (v1 : Int32) (v2 : Int32) (s0 : Int32) (s1 : Int32) (s2 : Int32) : ex (352, 105, [.ref 0, .int v1, .int v2, dv, dv], [.int s0, .int s1, .int s2, .ref 1], mC I J D) = bif cG 352 319 I then (calK 352 114 [.ref 0, .int v1, .int v2, dv, dv] [.int (s1 + s0), .int s2, .ref 1] (mC (cI 352 319 I) J D) (ex (319, 0, [.ref 328, .int 4], [], cIn 319 (mC (cI 352 319 I) J D)))) else none := (ex_itr 5 _).trans rfl
set_option maxRecDepth 100000 in
theorem eC_352_114 (I : Nat → Nat → Int32) (J : Nat → Nat → Int64) (D : Nat → Nat → UInt64) (v1 : Int32) (v2 : Int32) (s0 : Int32) (s1 : Int32) (s2 : Int32) : ex (352, 114, [.ref 0, .int v1, .int v2, dv, dv], [.int s0, .int s1, .int s2, .ref 1], mC I J D) = bif cG 352 121 I then (calK 352 117 [.ref 0, .int v1, .int v2, dv, dv] [] (mC (cI 352 121 I) J D) (ex (121, 0, [.ref 1, .int s2, .int s1, .int s0, dv], [], mC (cI 352 121 I) J D))) else none := (ex_itr 1 _).trans rfl
set_option maxRecDepth 100000 in
theorem eC_352_117 (I : Nat → Nat → Int32) (J : Nat → Nat → Int64) (D : Nat → Nat → UInt64) (v1 : Int32) (v2 : Int32) (s0 : Int32) : ex (352, 117, [.ref 0, .int v1, .int v2, dv, dv], [.int s0], mC I J D) = bif decide (1 ≤ s0) then ex (352, 123, [.ref 0, .int v1, .int v2, dv, dv], [], mC I J D) else ex (352, 121, [dv, dv, dv, dv, dv], [], mC I J D) := (ex_itr 2 _).trans rfl
set_option maxRecDepth 100000 in
theorem eC_352_121 (I : Nat → Nat → Int32) (J : Nat → Nat → Int64) (D : Nat → Nat → UInt64)  : ex (352, 121, [dv, dv, dv, dv, dv], [], mC I J D) = some (.inl (some (.int 0)), mC I J D) := (ex_itr 2 _).trans rfl
set_option maxRecDepth 100000 in
theorem eC_352_123 (I : Nat → Nat → Int32) (J : Nat → Nat → Int64) (D : Nat → Nat → UInt64) (v1 : Int32) (v2 : Int32) : ex (352, 123, [.ref 0, .int v1, .int v2, dv, dv], [], mC I J D) = ex (352, 78, [.ref 0, .int v1, .int (v2 + (-1)), dv, dv], [], mC I J D) := (ex_itr 2 _).trans rfl
set_option maxRecDepth 100000 in
theorem eC_352_129 (I : Nat → Nat → Int32) (J : Nat → Nat → Int64) (D : Nat → Nat → UInt64) (v1 : Int32) : ex (352, 129, [.ref 0, .int v1, dv, dv, dv], [], mC I J D) = ex (352, 133, [.ref 0, .int v1, .int 0, .int 0, dv], [], mC I J D) := (ex_itr 4 _).trans rfl
set_option maxRecDepth 100000 in
theorem eC_352_133 (I : Nat → Nat → Int32) (J : Nat → Nat → Int64) (D : Nat → Nat → UInt64) (v1 : Int32) (v2 : Int32) (v3 : Int32) : ex (352, 133, [.ref 0, .int v1, .int v2, .int v3, dv], [], mC I J D) = bif decide (4 ≤ v3) then ex (352, 156, [.ref 0, .int v1, .int v2, dv, dv], [], mC I J D) else ex (352, 138, [.ref 0, .int v1, .int v2, .int v3, dv], [], mC I J D) := (ex_itr 3 _).trans rfl
set_option maxRecDepth 100000 in
theorem eC_352_138 (I : Nat → Nat → Int32) (J : Nat → Nat → Int64) (D : Nat → Nat → UInt64) (v1 : Int32) (v2 : Int32) (v3 : Int32) : ex (352, 138, [.ref 0, .int v1, .int v2, .int v3, dv], [], mC I J D) = bif cG 352 127 I then (calK 352 148 [.ref 0, .int v1, dv, .int v3, dv] [.int v2] (mC (cI 352 127 I) J D) (ex (127, 0, [.ref 1, .int v3, .int v1], [], mC (cI 352 127 I) J D))) else none := (ex_itr 6 _).trans rfl
set_option maxRecDepth 100000 in
theorem eC_352_148 (I : Nat → Nat → Int32) (J : Nat → Nat → Int64) (D : Nat → Nat → UInt64) (v1 : Int32) (v3 : Int32) (s0 : Int32) (s1 : Int32) : ex (352, 148, [.ref 0, .int v1, dv, .int v3, dv], [.int s0, .int s1], mC I J D) = ex (352, 133, [.ref 0, .int v1, .int (s1 + s0), .int (v3 + 1), dv], [], mC I J D) := (ex_itr 4 _).trans rfl
set_option maxRecDepth 100000 in
theorem eC_352_156 (I : Nat → Nat → Int32) (J : Nat → Nat → Int64) (D : Nat → Nat → UInt64) (v1 : Int32) (v2 : Int32) : ex (352, 156, [.ref 0, .int v1, .int v2, dv, dv], [], mC I J D) = bif cG 352 128 I then (calK 352 164 [.ref 0, .int v1, .int v2, dv, dv] [] (mC (cI 352 128 I) J D) (ex (128, 0, [.ref 1, .int v1], [], mC (cI 352 128 I) J D))) else none := (ex_itr 4 _).trans rfl
set_option maxRecDepth 100000 in
theorem eC_352_164 (I : Nat → Nat → Int32) (J : Nat → Nat → Int64) (D : Nat → Nat → UInt64) (v1 : Int32) (v2 : Int32) (s0 : Int32) : ex (352, 164, [.ref 0, .int v1, .int v2, dv, dv], [.int s0], mC I J D) = ex (352, 168, [.ref 0, .int v1, .int v2, .int s0, .int s0], [], mC I J D) := (ex_itr 3 _).trans rfl
set_option maxRecDepth 100000 in
theorem eC_352_168 (I : Nat → Nat → Int32) (J : Nat → Nat → Int64) (D : Nat → Nat → UInt64) (v1 : Int32) (v2 : Int32) (v3 : Int32) (v4 : Int32) : ex (352, 168, [.ref 0, .int v1, .int v2, .int v3, .int v4], [], mC I J D) = bif decide (8 ≤ v4) then ex (352, 196, [.ref 0, .int v1, .int v2, .int v3, dv], [], mC I J D) else ex (352, 175, [.ref 0, .int v1, .int v2, .int v3, .int v4], [], mC I J D) := (ex_itr 3 _).trans rfl
set_option maxRecDepth 100000 in
theorem eC_352_175 (I : Nat → Nat → Int32) (J : Nat → Nat → Int64) (D : Nat → Nat → UInt64) (v1 : Int32) (v2 : Int32) (v3 : Int32) (v4 : Int32) : ex (352, 175, [.ref 0, .int v1, .int v2, .int v3, .int v4], [], mC I J D) = bif cG 352 124 I then (calK 352 185 [.ref 0, .int v1, .int v2, .int v3, .int v4] [] (mC (cI 352 124 I) J D) (ex (124, 0, [.ref 1, .int v4, .int v1], [], mC (cI 352 124 I) J D))) else none := (ex_itr 5 _).trans rfl
set_option maxRecDepth 100000 in
theorem eC_352_185 (I : Nat → Nat → Int32) (J : Nat → Nat → Int64) (D : Nat → Nat → UInt64) (v1 : Int32) (v2 : Int32) (v3 : Int32) (v4 : Int32) (s0 : Int32) : ex (352, 185, [.ref 0, .int v1, .int v2, .int v3, .int v4], [.int s0], mC I J D) = bif decide (0 ≤ s0) then ex (352, 190, [.ref 0, .int v1, .int v2, .int v3, .int v4], [], mC I J D) else ex (352, 188, [dv, dv, dv, dv, dv], [], mC I J D) := (ex_itr 1 _).trans rfl
set_option maxRecDepth 100000 in
theorem eC_352_188 (I : Nat → Nat → Int32) (J : Nat → Nat → Int64) (D : Nat → Nat → UInt64)  : ex (352, 188, [dv, dv, dv, dv, dv], [], mC I J D) = some (.inl (some (.int 0)), mC I J D) := (ex_itr 2 _).trans rfl
set_option maxRecDepth 100000 in
theorem eC_352_190 (I : Nat → Nat → Int32) (J : Nat → Nat → Int64) (D : Nat → Nat → UInt64) (v1 : Int32) (v2 : Int32) (v3 : Int32) (v4 : Int32) : ex (352, 190, [.ref 0, .int v1, .int v2, .int v3, .int v4], [], mC I J D) = ex (352, 168, [.ref 0, .int v1, .int v2, .int v3, .int (v4 + 1)], [], mC I J D) := (ex_itr 2 _).trans rfl
set_option maxRecDepth 100000 in
theorem eC_352_196 (I : Nat → Nat → Int32) (J : Nat → Nat → Int64) (D : Nat → Nat → UInt64) (v1 : Int32) (v2 : Int32) (v3 : Int32) : ex (352, 196, [.ref 0, .int v1, .int v2, .int v3, dv], [], mC I J D) = bif cG 352 126 I then (calK 352 205 [.ref 0, .int v1, dv, .int v3, dv] [.int v2] (mC (cI 352 126 I) J D) (ex (126, 0, [.ref 1, .int v1], [], mC (cI 352 126 I) J D))) else none := (ex_itr 5 _).trans rfl
set_option maxRecDepth 100000 in
theorem eC_352_205 (I : Nat → Nat → Int32) (J : Nat → Nat → Int64) (D : Nat → Nat → UInt64) (v1 : Int32) (v3 : Int32) (s0 : Int32) (s1 : Int32) : ex (352, 205, [.ref 0, .int v1, dv, .int v3, dv], [.int s0, .int s1], mC I J D) = bif decide (s1 ≠ s0) then ex (352, 230, [dv, dv, dv, dv, dv], [], mC I J D) else ex (352, 208, [.ref 0, .int v1, dv, .int v3, dv], [], mC I J D) := (ex_itr 1 _).trans rfl
set_option maxRecDepth 100000 in
theorem eC_352_208 (I : Nat → Nat → Int32) (J : Nat → Nat → Int64) (D : Nat → Nat → UInt64) (v1 : Int32) (v3 : Int32) : ex (352, 208, [.ref 0, .int v1, dv, .int v3, dv], [], mC I J D) = bif decide (v3 = 0) then ex (352, 226, [dv, dv, dv, dv, dv], [], mC I J D) else ex (352, 212, [.ref 0, .int v1, dv, .int v3, dv], [], mC I J D) := (ex_itr 2 _).trans rfl
set_option maxRecDepth 100000 in
theorem eC_352_212 (I : Nat → Nat → Int32) (J : Nat → Nat → Int64) (D : Nat → Nat → UInt64) (v1 : Int32) (v3 : Int32) : ex (352, 212, [.ref 0, .int v1, dv, .int v3, dv], [], mC I J D) = bif cG 352 124 I then (calK 352 223 [dv, dv, dv, dv, dv] [] (mC (cI 352 124 I) J D) (ex (124, 0, [.ref 1, .int (v3 - 1), .int v1], [], mC (cI 352 124 I) J D))) else none := (ex_itr 7 _).trans rfl
set_option maxRecDepth 100000 in
theorem eC_352_223 (I : Nat → Nat → Int32) (J : Nat → Nat → Int64) (D : Nat → Nat → UInt64) (s0 : Int32) : ex (352, 223, [dv, dv, dv, dv, dv], [.int s0], mC I J D) = bif decide (0 ≤ s0) then ex (352, 230, [dv, dv, dv, dv, dv], [], mC I J D) else ex (352, 226, [dv, dv, dv, dv, dv], [], mC I J D) := (ex_itr 1 _).trans rfl
set_option maxRecDepth 100000 in
theorem eC_352_226 (I : Nat → Nat → Int32) (J : Nat → Nat → Int64) (D : Nat → Nat → UInt64)  : ex (352, 226, [dv, dv, dv, dv, dv], [], mC I J D) = ex (352, 231, [dv, dv, dv, dv, dv], [.int 1], mC I J D) := (ex_itr 2 _).trans rfl
set_option maxRecDepth 100000 in
theorem eC_352_230 (I : Nat → Nat → Int32) (J : Nat → Nat → Int64) (D : Nat → Nat → UInt64)  : ex (352, 230, [dv, dv, dv, dv, dv], [], mC I J D) = ex (352, 231, [dv, dv, dv, dv, dv], [.int 0], mC I J D) := (ex_itr 1 _).trans rfl
set_option maxRecDepth 100000 in
theorem eC_352_231 (I : Nat → Nat → Int32) (J : Nat → Nat → Int64) (D : Nat → Nat → UInt64) (s0 : Int32) : ex (352, 231, [dv, dv, dv, dv, dv], [.int s0], mC I J D) = bif decide (s0 = 0 ∨ s0 = 1) then (some (.inl (some (.int s0)), mC I J D)) else none := (ex_itr 1 _).trans rfl
/-! L_ice, C -/
set_option maxRecDepth 100000 in
theorem eC_353_0 (I : Nat → Nat → Int32) (J : Nat → Nat → Int64) (D : Nat → Nat → UInt64)  : ex (353, 0, [.ref 0, dv, dv], [], mC I J D) = ex (353, 4, [.ref 0, .int 0, .int 0], [], mC I J D) := (ex_itr 4 _).trans rfl
set_option maxRecDepth 100000 in
theorem eC_353_4 (I : Nat → Nat → Int32) (J : Nat → Nat → Int64) (D : Nat → Nat → UInt64) (v1 : Int32) (v2 : Int32) : ex (353, 4, [.ref 0, .int v1, .int v2], [], mC I J D) = bif decide (12 ≤ v2) then ex (353, 27, [dv, .int v1, dv], [], mC I J D) else ex (353, 10, [.ref 0, .int v1, .int v2], [], mC I J D) := (ex_itr 3 _).trans rfl
set_option maxRecDepth 100000 in
theorem eC_353_10 (I : Nat → Nat → Int32) (J : Nat → Nat → Int64) (D : Nat → Nat → UInt64) (v1 : Int32) (v2 : Int32) : ex (353, 10, [.ref 0, .int v1, .int v2], [], mC I J D) = bif cG 353 131 I then (calK 353 19 [.ref 0, dv, .int v2] [.int v1] (mC (cI 353 131 I) J D) (ex (131, 0, [.ref 1, .int v2], [], mC (cI 353 131 I) J D))) else none := (ex_itr 5 _).trans rfl
set_option maxRecDepth 100000 in
theorem eC_353_19 (I : Nat → Nat → Int32) (J : Nat → Nat → Int64) (D : Nat → Nat → UInt64) (v2 : Int32) (s0 : Int32) (s1 : Int32) : ex (353, 19, [.ref 0, dv, .int v2], [.int s0, .int s1], mC I J D) = ex (353, 4, [.ref 0, .int (s1 + s0), .int (v2 + 1)], [], mC I J D) := (ex_itr 4 _).trans rfl
set_option maxRecDepth 100000 in
theorem eC_353_27 (I : Nat → Nat → Int32) (J : Nat → Nat → Int64) (D : Nat → Nat → UInt64) (v1 : Int32) : ex (353, 27, [dv, .int v1, dv], [], mC I J D) = some (.inl (some (.int v1)), mC I J D) := (ex_itr 2 _).trans rfl
/-! L_isKept, C -/
set_option maxRecDepth 100000 in
theorem eC_354_0 (I : Nat → Nat → Int32) (J : Nat → Nat → Int64) (D : Nat → Nat → UInt64)  : ex (354, 0, [.ref 0, dv, dv, dv, dv], [], mC I J D) = bif cG 354 319 I then (calK 354 10 [.ref 0, dv, dv, dv, dv] [.int 2] (mC (cI 354 319 I) J D) (ex (319, 0, [.ref 328, .int 7], [], cIn 319 (mC (cI 354 319 I) J D)))) else none := (ex_itr 5 _).trans rfl
set_option maxRecDepth 100000 in
theorem eC_354_10 (I : Nat → Nat → Int32) (J : Nat → Nat → Int64) (D : Nat → Nat → UInt64) (s0 : Int32) (s1 : Int32) : ex (354, 10, [.ref 0, dv, dv, dv, dv], [.int s0, .int s1], mC I J D) = ex (354, 12, [.ref 0, .int (s1 + s0), dv, dv, dv], [], mC I J D) := (ex_itr 2 _).trans rfl
set_option maxRecDepth 100000 in
theorem eC_354_12 (I : Nat → Nat → Int32) (J : Nat → Nat → Int64) (D : Nat → Nat → UInt64) (v1 : Int32) : ex (354, 12, [.ref 0, .int v1, dv, dv, dv], [], mC I J D) = bif decide (v1 ≤ 0) then ex (354, 63, [.ref 0, dv, dv, dv, dv], [], mC I J D) else ex (354, 16, [.ref 0, .int v1, dv, dv, dv], [], mC I J D) := (ex_itr 2 _).trans rfl
set_option maxRecDepth 100000 in
theorem eC_354_16 (I : Nat → Nat → Int32) (J : Nat → Nat → Int64) (D : Nat → Nat → UInt64) (v1 : Int32) : ex (354, 16, [.ref 0, .int v1, dv, dv, dv], [], mC I J D) = bif cG 354 319 I then (calK 354 29 [.ref 0, .int v1, dv, dv, dv] [.ref 1] (mC (cI 354 319 I) J D) (ex (319, 0, [.ref 328, .int 12], [], cIn 319 (mC (cI 354 319 I) J D)))) else none := (ex_itr 6 _).trans rfl
set_option maxRecDepth 100000 in
theorem eC_354_29 (I : Nat → Nat → Int32) (J : Nat → Nat → Int64) (D : Nat → Nat → UInt64) (v1 : Int32) (s0 : Int32) : ex (354, 29, [.ref 0, .int v1, dv, dv, dv], [.int s0, .ref 1], mC I J D) = bif cG 354 319 I then (calK 354 39 [.ref 0, .int v1, dv, dv, dv] [.int s0, .ref 1] (mC (cI 354 319 I) J D) (ex (319, 0, [.ref 328, .int 400], [], cIn 319 (mC (cI 354 319 I) J D)))) else none := (ex_itr 4 _).trans rfl
set_option maxRecDepth 100000 in
theorem eC_354_39 (I : Nat → Nat → Int32) (J : Nat → Nat → Int64) (D : Nat → Nat → UInt64) (v1 : Int32) (s0 : Int32) (s1 : Int32) : ex (354, 39, [.ref 0, .int v1, dv, dv, dv], [.int s0, .int s1, .ref 1], mC I J D) = bif cG 354 319 I then (calK 354 49 [.ref 0, .int v1, dv, dv, dv] [.int s0, .int s1, .ref 1] (mC (cI 354 319 I) J D) (ex (319, 0, [.ref 328, .int 300], [], cIn 319 (mC (cI 354 319 I) J D)))) else none := (ex_itr 4 _).trans rfl
set_option maxRecDepth 100000 in
theorem eC_354_49 (I : Nat → Nat → Int32) (J : Nat → Nat → Int64) (D : Nat → Nat → UInt64) (v1 : Int32) (s0 : Int32) (s1 : Int32) (s2 : Int32) : ex (354, 49, [.ref 0, .int v1, dv, dv, dv], [.int s0, .int s1, .int s2, .ref 1], mC I J D) = bif cG 354 129 I then (calK 354 52 [.ref 0, .int v1, dv, dv, dv] [] (mC (cI 354 129 I) J D) (ex (129, 0, [.ref 1, .int s2, .int s1, .int s0, dv], [], mC (cI 354 129 I) J D))) else none := (ex_itr 1 _).trans rfl
set_option maxRecDepth 100000 in
theorem eC_354_52 (I : Nat → Nat → Int32) (J : Nat → Nat → Int64) (D : Nat → Nat → UInt64) (v1 : Int32) (s0 : Int32) : ex (354, 52, [.ref 0, .int v1, dv, dv, dv], [.int s0], mC I J D) = bif decide (0 ≤ s0) then ex (354, 57, [.ref 0, .int v1, dv, dv, dv], [], mC I J D) else ex (354, 55, [dv, dv, dv, dv, dv], [], mC I J D) := (ex_itr 1 _).trans rfl
set_option maxRecDepth 100000 in
theorem eC_354_55 (I : Nat → Nat → Int32) (J : Nat → Nat → Int64) (D : Nat → Nat → UInt64)  : ex (354, 55, [dv, dv, dv, dv, dv], [], mC I J D) = some (.inl (some (.int 0)), mC I J D) := (ex_itr 2 _).trans rfl
set_option maxRecDepth 100000 in
theorem eC_354_57 (I : Nat → Nat → Int32) (J : Nat → Nat → Int64) (D : Nat → Nat → UInt64) (v1 : Int32) : ex (354, 57, [.ref 0, .int v1, dv, dv, dv], [], mC I J D) = ex (354, 12, [.ref 0, .int (v1 + (-1)), dv, dv, dv], [], mC I J D) := (ex_itr 2 _).trans rfl
set_option maxRecDepth 100000 in
theorem eC_354_63 (I : Nat → Nat → Int32) (J : Nat → Nat → Int64) (D : Nat → Nat → UInt64)  : ex (354, 63, [.ref 0, dv, dv, dv, dv], [], mC I J D) = bif cG 354 353 I then (calK 354 67 [.ref 0, dv, dv, dv, dv] [] (mC (cI 354 353 I) J D) (ex (353, 0, [.ref 0, dv, dv], [], cIn 353 (mC (cI 354 353 I) J D)))) else none := (ex_itr 2 _).trans rfl
set_option maxRecDepth 100000 in
theorem eC_354_67 (I : Nat → Nat → Int32) (J : Nat → Nat → Int64) (D : Nat → Nat → UInt64) (s0 : Int32) : ex (354, 67, [.ref 0, dv, dv, dv, dv], [.int s0], mC I J D) = bif cG 354 132 I then (calK 354 75 [.ref 0, .int s0, dv, dv, dv] [] (mC (cI 354 132 I) J D) (ex (132, 0, [.ref 1], [], mC (cI 354 132 I) J D))) else none := (ex_itr 4 _).trans rfl
set_option maxRecDepth 100000 in
theorem eC_354_75 (I : Nat → Nat → Int32) (J : Nat → Nat → Int64) (D : Nat → Nat → UInt64) (v1 : Int32) (s0 : Int32) : ex (354, 75, [.ref 0, .int v1, dv, dv, dv], [.int s0], mC I J D) = bif cG 354 319 I then (calK 354 90 [.ref 0, .int v1, .int s0, dv, dv] [.int 1, .ref 1] (mC (cI 354 319 I) J D) (ex (319, 0, [.ref 328, .int 12], [], cIn 319 (mC (cI 354 319 I) J D)))) else none := (ex_itr 8 _).trans rfl
set_option maxRecDepth 100000 in
theorem eC_354_90 (I : Nat → Nat → Int32) (J : Nat → Nat → Int64) (D : Nat → Nat → UInt64) (v1 : Int32) (v2 : Int32) (s0 : Int32) (s1 : Int32) : ex (354, 90, [.ref 0, .int v1, .int v2, dv, dv], [.int s0, .int s1, .ref 1], mC I J D) = bif cG 354 319 I then (calK 354 103 [.ref 0, .int v1, .int v2, dv, dv] [.int 100, .int (s1 + s0), .ref 1] (mC (cI 354 319 I) J D) (ex (319, 0, [.ref 328, .int 400], [], cIn 319 (mC (cI 354 319 I) J D)))) else none := (ex_itr 6 _).trans rfl
set_option maxRecDepth 100000 in
theorem eC_354_103 (I : Nat → Nat → Int32) (J : Nat → Nat → Int64) (D : Nat → Nat → UInt64) (v1 : Int32) (v2 : Int32) (s0 : Int32) (s1 : Int32) (s2 : Int32) : ex (354, 103, [.ref 0, .int v1, .int v2, dv, dv], [.int s0, .int s1, .int s2, .ref 1], mC I J D) = bif cG 354 319 I then (calK 354 113 [.ref 0, .int v1, .int v2, dv, dv] [.int (s1 + s0), .int s2, .ref 1] (mC (cI 354 319 I) J D) (ex (319, 0, [.ref 328, .int 9], [], cIn 319 (mC (cI 354 319 I) J D)))) else none := (ex_itr 5 _).trans rfl
set_option maxRecDepth 100000 in
theorem eC_354_113 (I : Nat → Nat → Int32) (J : Nat → Nat → Int64) (D : Nat → Nat → UInt64) (v1 : Int32) (v2 : Int32) (s0 : Int32) (s1 : Int32) (s2 : Int32) : ex (354, 113, [.ref 0, .int v1, .int v2, dv, dv], [.int s0, .int s1, .int s2, .ref 1], mC I J D) = bif cG 354 319 I then (calK 354 122 [.ref 0, .int v1, .int v2, dv, dv] [.int s0, .int s1, .int s2, .ref 1] (mC (cI 354 319 I) J D) (ex (319, 0, [.ref 328, .int 9], [], cIn 319 (mC (cI 354 319 I) J D)))) else none := (ex_itr 4 _).trans rfl
set_option maxRecDepth 100000 in
theorem eC_354_122 (I : Nat → Nat → Int32) (J : Nat → Nat → Int64) (D : Nat → Nat → UInt64) (v1 : Int32) (v2 : Int32) (s0 : Int32) (s1 : Int32) (s2 : Int32) (s3 : Int32) : ex (354, 122, [.ref 0, .int v1, .int v2, dv, dv], [.int s0, .int s1, .int s2, .int s3, .ref 1], mC I J D) = bif cG 354 130 I then (calK 354 125 [.ref 0, .int v1, .int v2, dv, dv] [] (mC (cI 354 130 I) J D) (ex (130, 0, [.ref 1, .int s3, .int s2, .int s1, .int s0, dv], [], mC (cI 354 130 I) J D))) else none := (ex_itr 1 _).trans rfl
set_option maxRecDepth 100000 in
theorem eC_354_125 (I : Nat → Nat → Int32) (J : Nat → Nat → Int64) (D : Nat → Nat → UInt64) (v1 : Int32) (v2 : Int32) (s0 : Int32) : ex (354, 125, [.ref 0, .int v1, .int v2, dv, dv], [.int s0], mC I J D) = bif cG 354 353 I then (calK 354 131 [.ref 0, .int v1, .int v2, .int s0, dv] [.int s0] (mC (cI 354 353 I) J D) (ex (353, 0, [.ref 0, dv, dv], [], cIn 353 (mC (cI 354 353 I) J D)))) else none := (ex_itr 4 _).trans rfl
set_option maxRecDepth 100000 in
theorem eC_354_131 (I : Nat → Nat → Int32) (J : Nat → Nat → Int64) (D : Nat → Nat → UInt64) (v1 : Int32) (v2 : Int32) (v3 : Int32) (s0 : Int32) (s1 : Int32) : ex (354, 131, [.ref 0, .int v1, .int v2, .int v3, dv], [.int s0, .int s1], mC I J D) = bif decide (s1 ≠ s0) then ex (354, 149, [dv, dv, dv, dv, dv], [], mC I J D) else ex (354, 134, [.ref 0, .int v1, .int v2, .int v3, dv], [], mC I J D) := (ex_itr 1 _).trans rfl
set_option maxRecDepth 100000 in
theorem eC_354_134 (I : Nat → Nat → Int32) (J : Nat → Nat → Int64) (D : Nat → Nat → UInt64) (v1 : Int32) (v2 : Int32) (v3 : Int32) : ex (354, 134, [.ref 0, .int v1, .int v2, .int v3, dv], [], mC I J D) = bif cG 354 132 I then (calK 354 144 [.ref 0, .int v1, .int v2, dv, dv] [.int (v3 - v1)] (mC (cI 354 132 I) J D) (ex (132, 0, [.ref 1], [], mC (cI 354 132 I) J D))) else none := (ex_itr 6 _).trans rfl
set_option maxRecDepth 100000 in
theorem eC_354_144 (I : Nat → Nat → Int32) (J : Nat → Nat → Int64) (D : Nat → Nat → UInt64) (v1 : Int32) (v2 : Int32) (s0 : Int32) (s1 : Int32) : ex (354, 144, [.ref 0, .int v1, .int v2, dv, dv], [.int s0, .int s1], mC I J D) = bif decide (s1 = (s0 - v2)) then ex (354, 151, [.ref 0, .int v1, .int v2, dv, dv], [], mC I J D) else ex (354, 149, [dv, dv, dv, dv, dv], [], mC I J D) := (ex_itr 3 _).trans rfl
set_option maxRecDepth 100000 in
theorem eC_354_149 (I : Nat → Nat → Int32) (J : Nat → Nat → Int64) (D : Nat → Nat → UInt64)  : ex (354, 149, [dv, dv, dv, dv, dv], [], mC I J D) = some (.inl (some (.int 0)), mC I J D) := (ex_itr 2 _).trans rfl
set_option maxRecDepth 100000 in
theorem eC_354_151 (I : Nat → Nat → Int32) (J : Nat → Nat → Int64) (D : Nat → Nat → UInt64) (v1 : Int32) (v2 : Int32) : ex (354, 151, [.ref 0, .int v1, .int v2, dv, dv], [], mC I J D) = ex (354, 154, [.ref 0, .int v1, .int v2, dv, .int 0], [], mC I J D) := (ex_itr 2 _).trans rfl
set_option maxRecDepth 100000 in
theorem eC_354_154 (I : Nat → Nat → Int32) (J : Nat → Nat → Int64) (D : Nat → Nat → UInt64) (v1 : Int32) (v2 : Int32) (v4 : Int32) : ex (354, 154, [.ref 0, .int v1, .int v2, dv, .int v4], [], mC I J D) = bif decide (12 ≤ v4) then ex (354, 181, [.ref 0, .int v1, .int v2, dv, dv], [], mC I J D) else ex (354, 161, [.ref 0, .int v1, .int v2, dv, .int v4], [], mC I J D) := (ex_itr 3 _).trans rfl
set_option maxRecDepth 100000 in
theorem eC_354_161 (I : Nat → Nat → Int32) (J : Nat → Nat → Int64) (D : Nat → Nat → UInt64) (v1 : Int32) (v2 : Int32) (v4 : Int32) : ex (354, 161, [.ref 0, .int v1, .int v2, dv, .int v4], [], mC I J D) = bif cG 354 131 I then (calK 354 170 [.ref 0, .int v1, .int v2, dv, .int v4] [] (mC (cI 354 131 I) J D) (ex (131, 0, [.ref 1, .int v4], [], mC (cI 354 131 I) J D))) else none := (ex_itr 4 _).trans rfl
set_option maxRecDepth 100000 in
theorem eC_354_170 (I : Nat → Nat → Int32) (J : Nat → Nat → Int64) (D : Nat → Nat → UInt64) (v1 : Int32) (v2 : Int32) (v4 : Int32) (s0 : Int32) : ex (354, 170, [.ref 0, .int v1, .int v2, dv, .int v4], [.int s0], mC I J D) = bif decide (0 ≤ s0) then ex (354, 175, [.ref 0, .int v1, .int v2, dv, .int v4], [], mC I J D) else ex (354, 173, [dv, dv, dv, dv, dv], [], mC I J D) := (ex_itr 1 _).trans rfl
set_option maxRecDepth 100000 in
theorem eC_354_173 (I : Nat → Nat → Int32) (J : Nat → Nat → Int64) (D : Nat → Nat → UInt64)  : ex (354, 173, [dv, dv, dv, dv, dv], [], mC I J D) = some (.inl (some (.int 0)), mC I J D) := (ex_itr 2 _).trans rfl
set_option maxRecDepth 100000 in
theorem eC_354_175 (I : Nat → Nat → Int32) (J : Nat → Nat → Int64) (D : Nat → Nat → UInt64) (v1 : Int32) (v2 : Int32) (v4 : Int32) : ex (354, 175, [.ref 0, .int v1, .int v2, dv, .int v4], [], mC I J D) = ex (354, 154, [.ref 0, .int v1, .int v2, dv, .int (v4 + 1)], [], mC I J D) := (ex_itr 2 _).trans rfl
set_option maxRecDepth 100000 in
theorem eC_354_181 (I : Nat → Nat → Int32) (J : Nat → Nat → Int64) (D : Nat → Nat → UInt64) (v1 : Int32) (v2 : Int32) : ex (354, 181, [.ref 0, .int v1, .int v2, dv, dv], [], mC I J D) = bif cG 354 136 I then (calK 354 188 [.ref 0, .int v1, .int v2, dv, dv] [] (mC (cI 354 136 I) J D) (ex (136, 0, [.ref 1, dv], [], mC (cI 354 136 I) J D))) else none := (ex_itr 3 _).trans rfl
set_option maxRecDepth 100000 in
theorem eC_354_188 (I : Nat → Nat → Int32) (J : Nat → Nat → Int64) (D : Nat → Nat → UInt64) (v1 : Int32) (v2 : Int32) (s0 : Int32) : ex (354, 188, [.ref 0, .int v1, .int v2, dv, dv], [.int s0], mC I J D) = bif decide (s0 < 0) then ex (354, 214, [dv, dv, dv, dv, dv], [], mC I J D) else ex (354, 191, [.ref 0, .int v1, .int v2, dv, dv], [], mC I J D) := (ex_itr 1 _).trans rfl
set_option maxRecDepth 100000 in
theorem eC_354_191 (I : Nat → Nat → Int32) (J : Nat → Nat → Int64) (D : Nat → Nat → UInt64) (v1 : Int32) (v2 : Int32) : ex (354, 191, [.ref 0, .int v1, .int v2, dv, dv], [], mC I J D) = bif cG 354 353 I then (calK 354 195 [.ref 0, .int v1, .int v2, dv, dv] [] (mC (cI 354 353 I) J D) (ex (353, 0, [.ref 0, dv, dv], [], cIn 353 (mC (cI 354 353 I) J D)))) else none := (ex_itr 2 _).trans rfl
set_option maxRecDepth 100000 in
theorem eC_354_195 (I : Nat → Nat → Int32) (J : Nat → Nat → Int64) (D : Nat → Nat → UInt64) (v1 : Int32) (v2 : Int32) (s0 : Int32) : ex (354, 195, [.ref 0, .int v1, .int v2, dv, dv], [.int s0], mC I J D) = bif decide (s0 ≠ v1) then ex (354, 214, [dv, dv, dv, dv, dv], [], mC I J D) else ex (354, 199, [.ref 0, dv, .int v2, dv, dv], [], mC I J D) := (ex_itr 2 _).trans rfl
set_option maxRecDepth 100000 in
theorem eC_354_199 (I : Nat → Nat → Int32) (J : Nat → Nat → Int64) (D : Nat → Nat → UInt64) (v2 : Int32) : ex (354, 199, [.ref 0, dv, .int v2, dv, dv], [], mC I J D) = bif cG 354 132 I then (calK 354 206 [dv, dv, .int v2, dv, dv] [] (mC (cI 354 132 I) J D) (ex (132, 0, [.ref 1], [], mC (cI 354 132 I) J D))) else none := (ex_itr 3 _).trans rfl
set_option maxRecDepth 100000 in
theorem eC_354_206 (I : Nat → Nat → Int32) (J : Nat → Nat → Int64) (D : Nat → Nat → UInt64) (v2 : Int32) (s0 : Int32) : ex (354, 206, [dv, dv, .int v2, dv, dv], [.int s0], mC I J D) = bif decide (s0 ≠ v2) then ex (354, 214, [dv, dv, dv, dv, dv], [], mC I J D) else ex (354, 210, [dv, dv, dv, dv, dv], [], mC I J D) := (ex_itr 2 _).trans rfl
set_option maxRecDepth 100000 in
theorem eC_354_210 (I : Nat → Nat → Int32) (J : Nat → Nat → Int64) (D : Nat → Nat → UInt64)  : ex (354, 210, [dv, dv, dv, dv, dv], [], mC I J D) = ex (354, 215, [dv, dv, dv, dv, dv], [.int 1], mC I J D) := (ex_itr 2 _).trans rfl
set_option maxRecDepth 100000 in
theorem eC_354_214 (I : Nat → Nat → Int32) (J : Nat → Nat → Int64) (D : Nat → Nat → UInt64)  : ex (354, 214, [dv, dv, dv, dv, dv], [], mC I J D) = ex (354, 215, [dv, dv, dv, dv, dv], [.int 0], mC I J D) := (ex_itr 1 _).trans rfl
set_option maxRecDepth 100000 in
theorem eC_354_215 (I : Nat → Nat → Int32) (J : Nat → Nat → Int64) (D : Nat → Nat → UInt64) (s0 : Int32) : ex (354, 215, [dv, dv, dv, dv, dv], [.int s0], mC I J D) = bif decide (s0 = 0 ∨ s0 = 1) then (some (.inl (some (.int s0)), mC I J D)) else none := (ex_itr 1 _).trans rfl
/-! L_holds, A -/
set_option maxRecDepth 100000 in
theorem eA_357_0 (I : Nat → Nat → Int32) (J : Nat → Nat → Int64) (D : Nat → Nat → UInt64)  : ex (357, 0, [.ref 0, dv], [], mA I J D) = bif cG 357 319 I then (calK 357 10 [.ref 0, dv] [.int 2, .ref 0] (mA (cI 357 319 I) J D) (ex (319, 0, [.ref 328, .int 5], [], cIn 319 (mA (cI 357 319 I) J D)))) else none := (ex_itr 6 _).trans rfl
set_option maxRecDepth 100000 in
theorem eA_357_10 (I : Nat → Nat → Int32) (J : Nat → Nat → Int64) (D : Nat → Nat → UInt64) (s0 : Int32) (s1 : Int32) : ex (357, 10, [.ref 0, dv], [.int s0, .int s1, .ref 0], mA I J D) = ex (357, 16, [.ref 0, .int 1], [], mA (ups I 0 6 (s1 + s0)) J D) := (ex_itr 4 _).trans rfl
set_option maxRecDepth 100000 in
theorem eA_357_16 (I : Nat → Nat → Int32) (J : Nat → Nat → Int64) (D : Nat → Nat → UInt64) (v1 : Int32) : ex (357, 16, [.ref 0, .int v1], [], mA I J D) = bif decide ((I 0 6) < v1) then ex (357, 43, [.ref 0, dv], [], mA I J D) else ex (357, 24, [.ref 0, .int v1], [], mA I J D) := (ex_itr 4 _).trans rfl
set_option maxRecDepth 100000 in
theorem eA_357_24 (I : Nat → Nat → Int32) (J : Nat → Nat → Int64) (D : Nat → Nat → UInt64) (v1 : Int32) : ex (357, 24, [.ref 0, .int v1], [], mA I J D) = bif cG 357 90 I then (calK 357 31 [.ref 0, .int v1] [] (mA (cI 357 90 I) J D) (ex (90, 0, [.ref 1], [], mA (cI 357 90 I) J D))) else none := (ex_itr 3 _).trans rfl
set_option maxRecDepth 100000 in
theorem eA_357_31 (I : Nat → Nat → Int32) (J : Nat → Nat → Int64) (D : Nat → Nat → UInt64) (v1 : Int32) (s0 : Int32) : ex (357, 31, [.ref 0, .int v1], [.int s0], mA I J D) = bif decide (s0 = v1) then ex (357, 37, [.ref 0, .int v1], [], mA I J D) else ex (357, 35, [dv, dv], [], mA I J D) := (ex_itr 2 _).trans rfl
set_option maxRecDepth 100000 in
theorem eA_357_35 (I : Nat → Nat → Int32) (J : Nat → Nat → Int64) (D : Nat → Nat → UInt64)  : ex (357, 35, [dv, dv], [], mA I J D) = some (.inl (some (.int 0)), mA I J D) := (ex_itr 2 _).trans rfl
set_option maxRecDepth 100000 in
theorem eA_357_37 (I : Nat → Nat → Int32) (J : Nat → Nat → Int64) (D : Nat → Nat → UInt64) (v1 : Int32) : ex (357, 37, [.ref 0, .int v1], [], mA I J D) = ex (357, 16, [.ref 0, .int (v1 + 1)], [], mA I J D) := (ex_itr 2 _).trans rfl
set_option maxRecDepth 100000 in
theorem eA_357_43 (I : Nat → Nat → Int32) (J : Nat → Nat → Int64) (D : Nat → Nat → UInt64)  : ex (357, 43, [.ref 0, dv], [], mA I J D) = bif cG 357 324 I then (calK 357 47 [.ref 0, dv] [] (mA (cI 357 324 I) J D) (ex (324, 0, [.ref 0, dv, dv, dv, dv, dv, dv, dv, dv, dv, dv], [], cIn 324 (mA (cI 357 324 I) J D)))) else none := (ex_itr 2 _).trans rfl
set_option maxRecDepth 100000 in
theorem eA_357_47 (I : Nat → Nat → Int32) (J : Nat → Nat → Int64) (D : Nat → Nat → UInt64) (s0 : Int32) : ex (357, 47, [.ref 0, dv], [.int s0], mA I J D) = bif decide (s0 ≠ 0) then ex (357, 52, [.ref 0, dv], [], mA I J D) else ex (357, 50, [dv, dv], [], mA I J D) := (ex_itr 1 _).trans rfl
set_option maxRecDepth 100000 in
theorem eA_357_50 (I : Nat → Nat → Int32) (J : Nat → Nat → Int64) (D : Nat → Nat → UInt64)  : ex (357, 50, [dv, dv], [], mA I J D) = some (.inl (some (.int 0)), mA I J D) := (ex_itr 2 _).trans rfl
set_option maxRecDepth 100000 in
theorem eA_357_52 (I : Nat → Nat → Int32) (J : Nat → Nat → Int64) (D : Nat → Nat → UInt64)  : ex (357, 52, [.ref 0, dv], [], mA I J D) = ex (357, 54, [.ref 0, .int 0], [], mA I J D) := (ex_itr 2 _).trans rfl
set_option maxRecDepth 100000 in
theorem eA_357_54 (I : Nat → Nat → Int32) (J : Nat → Nat → Int64) (D : Nat → Nat → UInt64) (v1 : Int32) : ex (357, 54, [.ref 0, .int v1], [], mA I J D) = bif decide (3 ≤ v1) then ex (357, 74, [.ref 0, dv], [], mA I J D) else ex (357, 59, [.ref 0, .int v1], [], mA I J D) := (ex_itr 3 _).trans rfl
set_option maxRecDepth 100000 in
theorem eA_357_59 (I : Nat → Nat → Int32) (J : Nat → Nat → Int64) (D : Nat → Nat → UInt64) (v1 : Int32) : ex (357, 59, [.ref 0, .int v1], [], mA I J D) = bif cG 357 325 I then (calK 357 63 [.ref 0, .int v1] [] (mA (cI 357 325 I) J D) (ex (325, 0, [.ref 0, dv, dv, dv, dv, dv, dv, dv, dv], [], cIn 325 (mA (cI 357 325 I) J D)))) else none := (ex_itr 2 _).trans rfl
set_option maxRecDepth 100000 in
theorem eA_357_63 (I : Nat → Nat → Int32) (J : Nat → Nat → Int64) (D : Nat → Nat → UInt64) (v1 : Int32) (s0 : Int32) : ex (357, 63, [.ref 0, .int v1], [.int s0], mA I J D) = bif decide (s0 ≠ 0) then ex (357, 68, [.ref 0, .int v1], [], mA I J D) else ex (357, 66, [dv, dv], [], mA I J D) := (ex_itr 1 _).trans rfl
set_option maxRecDepth 100000 in
theorem eA_357_66 (I : Nat → Nat → Int32) (J : Nat → Nat → Int64) (D : Nat → Nat → UInt64)  : ex (357, 66, [dv, dv], [], mA I J D) = some (.inl (some (.int 0)), mA I J D) := (ex_itr 2 _).trans rfl
set_option maxRecDepth 100000 in
theorem eA_357_68 (I : Nat → Nat → Int32) (J : Nat → Nat → Int64) (D : Nat → Nat → UInt64) (v1 : Int32) : ex (357, 68, [.ref 0, .int v1], [], mA I J D) = ex (357, 54, [.ref 0, .int (v1 + 1)], [], mA I J D) := (ex_itr 2 _).trans rfl
set_option maxRecDepth 100000 in
theorem eA_357_74 (I : Nat → Nat → Int32) (J : Nat → Nat → Int64) (D : Nat → Nat → UInt64)  : ex (357, 74, [.ref 0, dv], [], mA I J D) = bif cG 357 334 I then (calK 357 78 [.ref 0, dv] [] (mA (cI 357 334 I) J D) (ex (334, 0, [.ref 0, dv, dv, dv, dv, dv, dv, dv, dv], [], cIn 334 (mA (cI 357 334 I) J D)))) else none := (ex_itr 2 _).trans rfl
/-! L_holds, C -/
set_option maxRecDepth 100000 in
theorem eC_357_78 (I : Nat → Nat → Int32) (J : Nat → Nat → Int64) (D : Nat → Nat → UInt64) (s0 : Int32) : ex (357, 78, [.ref 0, dv], [.int s0], mC I J D) = bif decide (s0 = 0) then ex (357, 130, [dv, dv], [], mC I J D) else ex (357, 81, [.ref 0, dv], [], mC I J D) := (ex_itr 1 _).trans rfl
set_option maxRecDepth 100000 in
theorem eC_357_81 (I : Nat → Nat → Int32) (J : Nat → Nat → Int64) (D : Nat → Nat → UInt64)  : ex (357, 81, [.ref 0, dv], [], mC I J D) = bif cG 357 348 I then (calK 357 85 [.ref 0, dv] [] (mC (cI 357 348 I) J D) (ex (348, 0, [.ref 0, dv, dv, dv], [], cIn 348 (mC (cI 357 348 I) J D)))) else none := (ex_itr 2 _).trans rfl
set_option maxRecDepth 100000 in
theorem eC_357_85 (I : Nat → Nat → Int32) (J : Nat → Nat → Int64) (D : Nat → Nat → UInt64) (s0 : Int32) : ex (357, 85, [.ref 0, dv], [.int s0], mC I J D) = bif decide (s0 = 0) then ex (357, 130, [dv, dv], [], mC I J D) else ex (357, 88, [.ref 0, dv], [], mC I J D) := (ex_itr 1 _).trans rfl
set_option maxRecDepth 100000 in
theorem eC_357_88 (I : Nat → Nat → Int32) (J : Nat → Nat → Int64) (D : Nat → Nat → UInt64)  : ex (357, 88, [.ref 0, dv], [], mC I J D) = bif cG 357 351 I then (calK 357 92 [.ref 0, dv] [] (mC (cI 357 351 I) J D) (ex (351, 0, [.ref 0, dv, dv, dv, dv], [], cIn 351 (mC (cI 357 351 I) J D)))) else none := (ex_itr 2 _).trans rfl
set_option maxRecDepth 100000 in
theorem eC_357_92 (I : Nat → Nat → Int32) (J : Nat → Nat → Int64) (D : Nat → Nat → UInt64) (s0 : Int32) : ex (357, 92, [.ref 0, dv], [.int s0], mC I J D) = bif decide (s0 = 0) then ex (357, 130, [dv, dv], [], mC I J D) else ex (357, 95, [.ref 0, dv], [], mC I J D) := (ex_itr 1 _).trans rfl
set_option maxRecDepth 100000 in
theorem eC_357_95 (I : Nat → Nat → Int32) (J : Nat → Nat → Int64) (D : Nat → Nat → UInt64)  : ex (357, 95, [.ref 0, dv], [], mC I J D) = bif cG 357 352 I then (calK 357 99 [.ref 0, dv] [] (mC (cI 357 352 I) J D) (ex (352, 0, [.ref 0, dv, dv, dv, dv], [], cIn 352 (mC (cI 357 352 I) J D)))) else none := (ex_itr 2 _).trans rfl
set_option maxRecDepth 100000 in
theorem eC_357_99 (I : Nat → Nat → Int32) (J : Nat → Nat → Int64) (D : Nat → Nat → UInt64) (s0 : Int32) : ex (357, 99, [.ref 0, dv], [.int s0], mC I J D) = bif decide (s0 = 0) then ex (357, 130, [dv, dv], [], mC I J D) else ex (357, 102, [.ref 0, dv], [], mC I J D) := (ex_itr 1 _).trans rfl
set_option maxRecDepth 100000 in
theorem eC_357_102 (I : Nat → Nat → Int32) (J : Nat → Nat → Int64) (D : Nat → Nat → UInt64)  : ex (357, 102, [.ref 0, dv], [], mC I J D) = bif cG 357 354 I then (calK 357 106 [.ref 0, dv] [] (mC (cI 357 354 I) J D) (ex (354, 0, [.ref 0, dv, dv, dv, dv], [], cIn 354 (mC (cI 357 354 I) J D)))) else none := (ex_itr 2 _).trans rfl
set_option maxRecDepth 100000 in
theorem eC_357_106 (I : Nat → Nat → Int32) (J : Nat → Nat → Int64) (D : Nat → Nat → UInt64) (s0 : Int32) : ex (357, 106, [.ref 0, dv], [.int s0], mC I J D) = bif decide (s0 = 0) then ex (357, 130, [dv, dv], [], mC I J D) else ex (357, 109, [.ref 0, dv], [], mC I J D) := (ex_itr 1 _).trans rfl
set_option maxRecDepth 100000 in
theorem eC_357_109 (I : Nat → Nat → Int32) (J : Nat → Nat → Int64) (D : Nat → Nat → UInt64)  : ex (357, 109, [.ref 0, dv], [], mC I J D) = bif cG 357 356 I then (calK 357 113 [.ref 0, dv] [] (mC (cI 357 356 I) J D) (ex (356, 0, [.ref 0, dv, dv, dv, dv], [], cIn 356 (mC (cI 357 356 I) J D)))) else none := (ex_itr 2 _).trans rfl
set_option maxRecDepth 100000 in
theorem eC_357_113 (I : Nat → Nat → Int32) (J : Nat → Nat → Int64) (D : Nat → Nat → UInt64) (s0 : Int32) : ex (357, 113, [.ref 0, dv], [.int s0], mC I J D) = bif decide (s0 = 0) then ex (357, 130, [dv, dv], [], mC I J D) else ex (357, 116, [.ref 0, dv], [], mC I J D) := (ex_itr 1 _).trans rfl
set_option maxRecDepth 100000 in
theorem eC_357_116 (I : Nat → Nat → Int32) (J : Nat → Nat → Int64) (D : Nat → Nat → UInt64)  : ex (357, 116, [.ref 0, dv], [], mC I J D) = bif cG 357 140 I then (calK 357 123 [dv, dv] [] (mC (cI 357 140 I) J D) (ex (140, 0, [.ref 1], [], mC (cI 357 140 I) J D))) else none := (ex_itr 3 _).trans rfl
set_option maxRecDepth 100000 in
theorem eC_357_123 (I : Nat → Nat → Int32) (J : Nat → Nat → Int64) (D : Nat → Nat → UInt64) (s0 : Int32) : ex (357, 123, [dv, dv], [.int s0], mC I J D) = bif decide (s0 ≠ 0) then ex (357, 130, [dv, dv], [], mC I J D) else ex (357, 126, [dv, dv], [], mC I J D) := (ex_itr 1 _).trans rfl
set_option maxRecDepth 100000 in
theorem eC_357_126 (I : Nat → Nat → Int32) (J : Nat → Nat → Int64) (D : Nat → Nat → UInt64)  : ex (357, 126, [dv, dv], [], mC I J D) = ex (357, 131, [dv, dv], [.int 1], mC I J D) := (ex_itr 2 _).trans rfl
set_option maxRecDepth 100000 in
theorem eC_357_130 (I : Nat → Nat → Int32) (J : Nat → Nat → Int64) (D : Nat → Nat → UInt64)  : ex (357, 130, [dv, dv], [], mC I J D) = ex (357, 131, [dv, dv], [.int 0], mC I J D) := (ex_itr 1 _).trans rfl
set_option maxRecDepth 100000 in
theorem eC_357_131 (I : Nat → Nat → Int32) (J : Nat → Nat → Int64) (D : Nat → Nat → UInt64) (s0 : Int32) : ex (357, 131, [dv, dv], [.int s0], mC I J D) = bif decide (s0 = 0 ∨ s0 = 1) then (some (.inl (some (.int s0)), mC I J D)) else none := (ex_itr 1 _).trans rfl
