/-! a turn of the law, from the two calls -/
theorem tk_0 {L kk : Nat} {I I1 I2 : Nat → Nat → Int32} {J J1 J2 : Nat → Nat → Int64} {D D1 D2 : Nat → Nat → UInt64} {v : Int32} {r : Int32}   (e1 : ex (90, 0, [.ref 0], [], mm I J D) = some (.inl (some (.int r)), mm I1 J1 D1)) (q1 : I1 iSCL 0 = I iSCL 0) (q2 : I1 1000002 = I 1000002) (e2 : ex (164, 0, [.ref 316], [], mm I1 (upsL J1 335 0 r.toInt64) D1) = some (.inl (some (.int r)), mm I2 J2 D2)) (q3 : I2 316 0 = 0) (q4 : J2 335 0 = r.toInt64) (hi : Inv L (kk + 1) I2 J2 D2) : Turn L kk 264 v I J D := by
  refine ⟨I2, J2, D2, (e_309_264 I J D v).trans ?_, hi⟩
  have w : ex (269, 0, [.ref 0, .ref 335, dv], [], mm I J D) = some (.inl (some (.int 0)), mm I1 (upsL J1 335 0 r.toInt64) D1) := by
    rw [e_269_0, e1, calH_v, ka]
    show ex (269, 6, [dv, dv, dv], [.int r, .int 0, .ref 335], mm I1 J1 D1) = _
    rw [e_269_6, show inb 0 1 = true by decide, cond_true, e_269_14]
    rfl
  rw [w, cal_v, ka]
  refine (e_309_269 I1 _ D1 v 0).trans ?_
  rw [e2, cal_v, ka]
  refine (e_309_275 _ _ _ v _ _).trans ?_
  rw [e_155_0, cal_v, ka, q3]
  refine (e_309_281 _ _ _ v _ _ _).trans ?_
  rw [decide_eq_true rfl, cond_true]
  refine (e_309_288 _ _ _ v _ _).trans ?_
  rw [decide_eq_false (by decide), cond_false]
  refine (e_309_293 _ _ _ v _).trans ?_
  rw [q4, decide_eq_true (lgc _), cond_true]
  refine (e_309_305 _ _ _ v).trans ?_
  exact e_309_3111 _ _ _ v
theorem tc_0_0 : ctc 269 3 0 = some 11 := by decide +kernel
theorem te_0_0 {L kk : Nat} {I I1 I2 : Nat → Nat → Int32} {J J1 J2 : Nat → Nat → Int64} {D D1 D2 : Nat → Nat → UInt64} {v : Int32} {s : Int32}   (e1 : ex (90, 0, [.ref 0], [], mm I J D) = some (.inr (.inl 0), mm I1 J1 D1)) (q1 : I1 iSCL 0 = I iSCL 0) (q2 : I1 1000002 = I 1000002) (e2 : ex (164, 0, [.ref 316], [], mm I1 J1 D1) = some (.inl (some (.int s)), mm I2 J2 D2)) (q3 : I2 316 0 = 1) (hi : Inv L (kk + 1) I2 J2 D2) : Turn L kk 264 v I J D := by
  refine ⟨I2, J2, D2, (e_309_264 I J D v).trans ?_, hi⟩
  have w : ex (269, 0, [.ref 0, .ref 335, dv], [], mm I J D) = some (.inl (some (.int 1)), mm I1 J1 D1) := by
    rw [e_269_0, e1, calH_x tc_0_0]
    exact e_269_11 _ _ _
  rw [w, cal_v, ka]
  refine (e_309_269 I1 _ D1 v 1).trans ?_
  rw [e2, cal_v, ka]
  refine (e_309_275 _ _ _ v _ _).trans ?_
  rw [e_155_0, cal_v, ka, q3]
  refine (e_309_281 _ _ _ v _ _ _).trans ?_
  rw [decide_eq_true rfl, cond_true]
  refine (e_309_288 _ _ _ v _ _).trans ?_
  rw [decide_eq_true (by decide), cond_true]
  refine (e_309_305 _ _ _ v).trans ?_
  exact e_309_3111 _ _ _ v
theorem tk_1 {L kk : Nat} {I I1 I2 : Nat → Nat → Int32} {J J1 J2 : Nat → Nat → Int64} {D D1 D2 : Nat → Nat → UInt64} {v : Int32} {r : Int32} {x1 : Int32} {x2 : Int32} {x3 : Int32} (sc : ScOK v I) (hx1 : I 1000002 (v + 1).toNatClampNeg = x1) (hx2 : I 1000002 (v + 2).toNatClampNeg = x2) (hx3 : I 1000002 (v + 3).toNatClampNeg = x3) (e1 : ex (91, 0, [.ref 0, .int x1, .int x2, .int x3], [], mm I J D) = some (.inl (some (.int r)), mm I1 J1 D1)) (q1 : I1 iSCL 0 = I iSCL 0) (q2 : I1 1000002 = I 1000002) (e2 : ex (172, 0, [.ref 316, .int x1, .int x2, .int x3], [], mm I1 (upsL J1 335 0 r.toInt64) D1) = some (.inl (some (.int r)), mm I2 J2 D2)) (q3 : I2 316 0 = 0) (q4 : J2 335 0 = r.toInt64) (hi : Inv L (kk + 1) I2 J2 D2) : Turn L kk 308 v I J D := by
  refine ⟨I2, J2, D2, (e_309_308 I J D v).trans ?_, hi⟩
  have w : ex (270, 0, [.ref 0, .int x1, .int x2, .int x3, .ref 335, dv], [], mm I J D) = some (.inl (some (.int 0)), mm I1 (upsL J1 335 0 r.toInt64) D1) := by
    rw [e_270_0, e1, calH_v, ka]
    show ex (270, 10, [dv, dv, dv, dv, dv, dv], [.int r, .int 0, .ref 335], mm I1 J1 D1) = _
    rw [e_270_10, show inb 0 1 = true by decide, cond_true, e_270_27]
    rfl
  rw [sc1 sc, sc2 sc, sc3 sc, cond_true, cond_true, cond_true, hx1, hx2, hx3, w, cal_v, ka]
  refine (e_309_331 I1 _ D1 v 0).trans ?_
  rw [q1, q2, sc1 sc, sc2 sc, sc3 sc, cond_true, cond_true, cond_true, hx1, hx2, hx3, e2, cal_v, ka]
  refine (e_309_355 _ _ _ v _ _).trans ?_
  rw [e_155_0, cal_v, ka, q3]
  refine (e_309_361 _ _ _ v _ _ _).trans ?_
  rw [decide_eq_true rfl, cond_true]
  refine (e_309_368 _ _ _ v _ _).trans ?_
  rw [decide_eq_false (by decide), cond_false]
  refine (e_309_373 _ _ _ v _).trans ?_
  rw [q4, decide_eq_true (lgc _), cond_true]
  refine (e_309_385 _ _ _ v).trans ?_
  exact e_309_3111 _ _ _ v
theorem tc_1_2 : ctc 270 7 2 = some 15 := by decide +kernel
theorem te_1_2 {L kk : Nat} {I I1 I2 : Nat → Nat → Int32} {J J1 J2 : Nat → Nat → Int64} {D D1 D2 : Nat → Nat → UInt64} {v : Int32} {s : Int32} {x1 : Int32} {x2 : Int32} {x3 : Int32} (sc : ScOK v I) (hx1 : I 1000002 (v + 1).toNatClampNeg = x1) (hx2 : I 1000002 (v + 2).toNatClampNeg = x2) (hx3 : I 1000002 (v + 3).toNatClampNeg = x3) (e1 : ex (91, 0, [.ref 0, .int x1, .int x2, .int x3], [], mm I J D) = some (.inr (.inl 2), mm I1 J1 D1)) (q1 : I1 iSCL 0 = I iSCL 0) (q2 : I1 1000002 = I 1000002) (e2 : ex (172, 0, [.ref 316, .int x1, .int x2, .int x3], [], mm I1 J1 D1) = some (.inl (some (.int s)), mm I2 J2 D2)) (q3 : I2 316 0 = 1) (hi : Inv L (kk + 1) I2 J2 D2) : Turn L kk 308 v I J D := by
  refine ⟨I2, J2, D2, (e_309_308 I J D v).trans ?_, hi⟩
  have w : ex (270, 0, [.ref 0, .int x1, .int x2, .int x3, .ref 335, dv], [], mm I J D) = some (.inl (some (.int 1)), mm I1 J1 D1) := by
    rw [e_270_0, e1, calH_x tc_1_2]
    exact e_270_15 _ _ _
  rw [sc1 sc, sc2 sc, sc3 sc, cond_true, cond_true, cond_true, hx1, hx2, hx3, w, cal_v, ka]
  refine (e_309_331 I1 _ D1 v 1).trans ?_
  rw [q1, q2, sc1 sc, sc2 sc, sc3 sc, cond_true, cond_true, cond_true, hx1, hx2, hx3, e2, cal_v, ka]
  refine (e_309_355 _ _ _ v _ _).trans ?_
  rw [e_155_0, cal_v, ka, q3]
  refine (e_309_361 _ _ _ v _ _ _).trans ?_
  rw [decide_eq_true rfl, cond_true]
  refine (e_309_368 _ _ _ v _ _).trans ?_
  rw [decide_eq_true (by decide), cond_true]
  refine (e_309_385 _ _ _ v).trans ?_
  exact e_309_3111 _ _ _ v
theorem tc_1_1 : ctc 270 7 1 = some 19 := by decide +kernel
theorem te_1_1 {L kk : Nat} {I I1 I2 : Nat → Nat → Int32} {J J1 J2 : Nat → Nat → Int64} {D D1 D2 : Nat → Nat → UInt64} {v : Int32} {s : Int32} {x1 : Int32} {x2 : Int32} {x3 : Int32} (sc : ScOK v I) (hx1 : I 1000002 (v + 1).toNatClampNeg = x1) (hx2 : I 1000002 (v + 2).toNatClampNeg = x2) (hx3 : I 1000002 (v + 3).toNatClampNeg = x3) (e1 : ex (91, 0, [.ref 0, .int x1, .int x2, .int x3], [], mm I J D) = some (.inr (.inl 1), mm I1 J1 D1)) (q1 : I1 iSCL 0 = I iSCL 0) (q2 : I1 1000002 = I 1000002) (e2 : ex (172, 0, [.ref 316, .int x1, .int x2, .int x3], [], mm I1 J1 D1) = some (.inl (some (.int s)), mm I2 J2 D2)) (q3 : I2 316 0 = 2) (hi : Inv L (kk + 1) I2 J2 D2) : Turn L kk 308 v I J D := by
  refine ⟨I2, J2, D2, (e_309_308 I J D v).trans ?_, hi⟩
  have w : ex (270, 0, [.ref 0, .int x1, .int x2, .int x3, .ref 335, dv], [], mm I J D) = some (.inl (some (.int 2)), mm I1 J1 D1) := by
    rw [e_270_0, e1, calH_x tc_1_1]
    exact e_270_19 _ _ _
  rw [sc1 sc, sc2 sc, sc3 sc, cond_true, cond_true, cond_true, hx1, hx2, hx3, w, cal_v, ka]
  refine (e_309_331 I1 _ D1 v 2).trans ?_
  rw [q1, q2, sc1 sc, sc2 sc, sc3 sc, cond_true, cond_true, cond_true, hx1, hx2, hx3, e2, cal_v, ka]
  refine (e_309_355 _ _ _ v _ _).trans ?_
  rw [e_155_0, cal_v, ka, q3]
  refine (e_309_361 _ _ _ v _ _ _).trans ?_
  rw [decide_eq_true rfl, cond_true]
  refine (e_309_368 _ _ _ v _ _).trans ?_
  rw [decide_eq_true (by decide), cond_true]
  refine (e_309_385 _ _ _ v).trans ?_
  exact e_309_3111 _ _ _ v
theorem tc_1_0 : ctc 270 7 0 = some 23 := by decide +kernel
theorem te_1_0 {L kk : Nat} {I I1 I2 : Nat → Nat → Int32} {J J1 J2 : Nat → Nat → Int64} {D D1 D2 : Nat → Nat → UInt64} {v : Int32} {s : Int32} {x1 : Int32} {x2 : Int32} {x3 : Int32} (sc : ScOK v I) (hx1 : I 1000002 (v + 1).toNatClampNeg = x1) (hx2 : I 1000002 (v + 2).toNatClampNeg = x2) (hx3 : I 1000002 (v + 3).toNatClampNeg = x3) (e1 : ex (91, 0, [.ref 0, .int x1, .int x2, .int x3], [], mm I J D) = some (.inr (.inl 0), mm I1 J1 D1)) (q1 : I1 iSCL 0 = I iSCL 0) (q2 : I1 1000002 = I 1000002) (e2 : ex (172, 0, [.ref 316, .int x1, .int x2, .int x3], [], mm I1 J1 D1) = some (.inl (some (.int s)), mm I2 J2 D2)) (q3 : I2 316 0 = 3) (hi : Inv L (kk + 1) I2 J2 D2) : Turn L kk 308 v I J D := by
  refine ⟨I2, J2, D2, (e_309_308 I J D v).trans ?_, hi⟩
  have w : ex (270, 0, [.ref 0, .int x1, .int x2, .int x3, .ref 335, dv], [], mm I J D) = some (.inl (some (.int 3)), mm I1 J1 D1) := by
    rw [e_270_0, e1, calH_x tc_1_0]
    exact e_270_23 _ _ _
  rw [sc1 sc, sc2 sc, sc3 sc, cond_true, cond_true, cond_true, hx1, hx2, hx3, w, cal_v, ka]
  refine (e_309_331 I1 _ D1 v 3).trans ?_
  rw [q1, q2, sc1 sc, sc2 sc, sc3 sc, cond_true, cond_true, cond_true, hx1, hx2, hx3, e2, cal_v, ka]
  refine (e_309_355 _ _ _ v _ _).trans ?_
  rw [e_155_0, cal_v, ka, q3]
  refine (e_309_361 _ _ _ v _ _ _).trans ?_
  rw [decide_eq_true rfl, cond_true]
  refine (e_309_368 _ _ _ v _ _).trans ?_
  rw [decide_eq_true (by decide), cond_true]
  refine (e_309_385 _ _ _ v).trans ?_
  exact e_309_3111 _ _ _ v
theorem tk_2 {L kk : Nat} {I I1 I2 : Nat → Nat → Int32} {J J1 J2 : Nat → Nat → Int64} {D D1 D2 : Nat → Nat → UInt64} {v : Int32} {r : Int32} {x1 : Int32} {x2 : Int32} {x3 : Int32} (sc : ScOK v I) (hx1 : I 1000002 (v + 1).toNatClampNeg = x1) (hx2 : I 1000002 (v + 2).toNatClampNeg = x2) (hx3 : I 1000002 (v + 3).toNatClampNeg = x3) (e1 : ex (92, 0, [.ref 0, .int x1, .int x2, .int x3], [], mm I J D) = some (.inl (some (.int r)), mm I1 J1 D1)) (q1 : I1 iSCL 0 = I iSCL 0) (q2 : I1 1000002 = I 1000002) (e2 : ex (173, 0, [.ref 316, .int x1, .int x2, .int x3], [], mm I1 (upsL J1 335 0 r.toInt64) D1) = some (.inl (some (.int r)), mm I2 J2 D2)) (q3 : I2 316 0 = 0) (q4 : J2 335 0 = r.toInt64) (hi : Inv L (kk + 1) I2 J2 D2) : Turn L kk 388 v I J D := by
  refine ⟨I2, J2, D2, (e_309_388 I J D v).trans ?_, hi⟩
  have w : ex (271, 0, [.ref 0, .int x1, .int x2, .int x3, .ref 335, dv], [], mm I J D) = some (.inl (some (.int 0)), mm I1 (upsL J1 335 0 r.toInt64) D1) := by
    rw [e_271_0, e1, calH_v, ka]
    show ex (271, 10, [dv, dv, dv, dv, dv, dv], [.int r, .int 0, .ref 335], mm I1 J1 D1) = _
    rw [e_271_10, show inb 0 1 = true by decide, cond_true, e_271_27]
    rfl
  rw [sc1 sc, sc2 sc, sc3 sc, cond_true, cond_true, cond_true, hx1, hx2, hx3, w, cal_v, ka]
  refine (e_309_411 I1 _ D1 v 0).trans ?_
  rw [q1, q2, sc1 sc, sc2 sc, sc3 sc, cond_true, cond_true, cond_true, hx1, hx2, hx3, e2, cal_v, ka]
  refine (e_309_435 _ _ _ v _ _).trans ?_
  rw [e_155_0, cal_v, ka, q3]
  refine (e_309_441 _ _ _ v _ _ _).trans ?_
  rw [decide_eq_true rfl, cond_true]
  refine (e_309_448 _ _ _ v _ _).trans ?_
  rw [decide_eq_false (by decide), cond_false]
  refine (e_309_453 _ _ _ v _).trans ?_
  rw [q4, decide_eq_true (lgc _), cond_true]
  refine (e_309_465 _ _ _ v).trans ?_
  exact e_309_3111 _ _ _ v
theorem tc_2_2 : ctc 271 7 2 = some 15 := by decide +kernel
theorem te_2_2 {L kk : Nat} {I I1 I2 : Nat → Nat → Int32} {J J1 J2 : Nat → Nat → Int64} {D D1 D2 : Nat → Nat → UInt64} {v : Int32} {s : Int32} {x1 : Int32} {x2 : Int32} {x3 : Int32} (sc : ScOK v I) (hx1 : I 1000002 (v + 1).toNatClampNeg = x1) (hx2 : I 1000002 (v + 2).toNatClampNeg = x2) (hx3 : I 1000002 (v + 3).toNatClampNeg = x3) (e1 : ex (92, 0, [.ref 0, .int x1, .int x2, .int x3], [], mm I J D) = some (.inr (.inl 2), mm I1 J1 D1)) (q1 : I1 iSCL 0 = I iSCL 0) (q2 : I1 1000002 = I 1000002) (e2 : ex (173, 0, [.ref 316, .int x1, .int x2, .int x3], [], mm I1 J1 D1) = some (.inl (some (.int s)), mm I2 J2 D2)) (q3 : I2 316 0 = 1) (hi : Inv L (kk + 1) I2 J2 D2) : Turn L kk 388 v I J D := by
  refine ⟨I2, J2, D2, (e_309_388 I J D v).trans ?_, hi⟩
  have w : ex (271, 0, [.ref 0, .int x1, .int x2, .int x3, .ref 335, dv], [], mm I J D) = some (.inl (some (.int 1)), mm I1 J1 D1) := by
    rw [e_271_0, e1, calH_x tc_2_2]
    exact e_271_15 _ _ _
  rw [sc1 sc, sc2 sc, sc3 sc, cond_true, cond_true, cond_true, hx1, hx2, hx3, w, cal_v, ka]
  refine (e_309_411 I1 _ D1 v 1).trans ?_
  rw [q1, q2, sc1 sc, sc2 sc, sc3 sc, cond_true, cond_true, cond_true, hx1, hx2, hx3, e2, cal_v, ka]
  refine (e_309_435 _ _ _ v _ _).trans ?_
  rw [e_155_0, cal_v, ka, q3]
  refine (e_309_441 _ _ _ v _ _ _).trans ?_
  rw [decide_eq_true rfl, cond_true]
  refine (e_309_448 _ _ _ v _ _).trans ?_
  rw [decide_eq_true (by decide), cond_true]
  refine (e_309_465 _ _ _ v).trans ?_
  exact e_309_3111 _ _ _ v
theorem tc_2_1 : ctc 271 7 1 = some 19 := by decide +kernel
theorem te_2_1 {L kk : Nat} {I I1 I2 : Nat → Nat → Int32} {J J1 J2 : Nat → Nat → Int64} {D D1 D2 : Nat → Nat → UInt64} {v : Int32} {s : Int32} {x1 : Int32} {x2 : Int32} {x3 : Int32} (sc : ScOK v I) (hx1 : I 1000002 (v + 1).toNatClampNeg = x1) (hx2 : I 1000002 (v + 2).toNatClampNeg = x2) (hx3 : I 1000002 (v + 3).toNatClampNeg = x3) (e1 : ex (92, 0, [.ref 0, .int x1, .int x2, .int x3], [], mm I J D) = some (.inr (.inl 1), mm I1 J1 D1)) (q1 : I1 iSCL 0 = I iSCL 0) (q2 : I1 1000002 = I 1000002) (e2 : ex (173, 0, [.ref 316, .int x1, .int x2, .int x3], [], mm I1 J1 D1) = some (.inl (some (.int s)), mm I2 J2 D2)) (q3 : I2 316 0 = 2) (hi : Inv L (kk + 1) I2 J2 D2) : Turn L kk 388 v I J D := by
  refine ⟨I2, J2, D2, (e_309_388 I J D v).trans ?_, hi⟩
  have w : ex (271, 0, [.ref 0, .int x1, .int x2, .int x3, .ref 335, dv], [], mm I J D) = some (.inl (some (.int 2)), mm I1 J1 D1) := by
    rw [e_271_0, e1, calH_x tc_2_1]
    exact e_271_19 _ _ _
  rw [sc1 sc, sc2 sc, sc3 sc, cond_true, cond_true, cond_true, hx1, hx2, hx3, w, cal_v, ka]
  refine (e_309_411 I1 _ D1 v 2).trans ?_
  rw [q1, q2, sc1 sc, sc2 sc, sc3 sc, cond_true, cond_true, cond_true, hx1, hx2, hx3, e2, cal_v, ka]
  refine (e_309_435 _ _ _ v _ _).trans ?_
  rw [e_155_0, cal_v, ka, q3]
  refine (e_309_441 _ _ _ v _ _ _).trans ?_
  rw [decide_eq_true rfl, cond_true]
  refine (e_309_448 _ _ _ v _ _).trans ?_
  rw [decide_eq_true (by decide), cond_true]
  refine (e_309_465 _ _ _ v).trans ?_
  exact e_309_3111 _ _ _ v
theorem tc_2_0 : ctc 271 7 0 = some 23 := by decide +kernel
theorem te_2_0 {L kk : Nat} {I I1 I2 : Nat → Nat → Int32} {J J1 J2 : Nat → Nat → Int64} {D D1 D2 : Nat → Nat → UInt64} {v : Int32} {s : Int32} {x1 : Int32} {x2 : Int32} {x3 : Int32} (sc : ScOK v I) (hx1 : I 1000002 (v + 1).toNatClampNeg = x1) (hx2 : I 1000002 (v + 2).toNatClampNeg = x2) (hx3 : I 1000002 (v + 3).toNatClampNeg = x3) (e1 : ex (92, 0, [.ref 0, .int x1, .int x2, .int x3], [], mm I J D) = some (.inr (.inl 0), mm I1 J1 D1)) (q1 : I1 iSCL 0 = I iSCL 0) (q2 : I1 1000002 = I 1000002) (e2 : ex (173, 0, [.ref 316, .int x1, .int x2, .int x3], [], mm I1 J1 D1) = some (.inl (some (.int s)), mm I2 J2 D2)) (q3 : I2 316 0 = 3) (hi : Inv L (kk + 1) I2 J2 D2) : Turn L kk 388 v I J D := by
  refine ⟨I2, J2, D2, (e_309_388 I J D v).trans ?_, hi⟩
  have w : ex (271, 0, [.ref 0, .int x1, .int x2, .int x3, .ref 335, dv], [], mm I J D) = some (.inl (some (.int 3)), mm I1 J1 D1) := by
    rw [e_271_0, e1, calH_x tc_2_0]
    exact e_271_23 _ _ _
  rw [sc1 sc, sc2 sc, sc3 sc, cond_true, cond_true, cond_true, hx1, hx2, hx3, w, cal_v, ka]
  refine (e_309_411 I1 _ D1 v 3).trans ?_
  rw [q1, q2, sc1 sc, sc2 sc, sc3 sc, cond_true, cond_true, cond_true, hx1, hx2, hx3, e2, cal_v, ka]
  refine (e_309_435 _ _ _ v _ _).trans ?_
  rw [e_155_0, cal_v, ka, q3]
  refine (e_309_441 _ _ _ v _ _ _).trans ?_
  rw [decide_eq_true rfl, cond_true]
  refine (e_309_448 _ _ _ v _ _).trans ?_
  rw [decide_eq_true (by decide), cond_true]
  refine (e_309_465 _ _ _ v).trans ?_
  exact e_309_3111 _ _ _ v
theorem tk_3 {L kk : Nat} {I I1 I2 : Nat → Nat → Int32} {J J1 J2 : Nat → Nat → Int64} {D D1 D2 : Nat → Nat → UInt64} {v : Int32} {r : Int32} {x1 : Int32} (sc : ScOK v I) (hx1 : I 1000002 (v + 1).toNatClampNeg = x1) (e1 : ex (93, 0, [.ref 0, .int x1], [], mm I J D) = some (.inl (some (.int r)), mm I1 J1 D1)) (q1 : I1 iSCL 0 = I iSCL 0) (q2 : I1 1000002 = I 1000002) (e2 : ex (176, 0, [.ref 316, .int x1], [], mm I1 (upsL J1 335 0 r.toInt64) D1) = some (.inl (some (.int r)), mm I2 J2 D2)) (q3 : I2 316 0 = 0) (q4 : J2 335 0 = r.toInt64) (hi : Inv L (kk + 1) I2 J2 D2) : Turn L kk 468 v I J D := by
  refine ⟨I2, J2, D2, (e_309_468 I J D v).trans ?_, hi⟩
  have w : ex (272, 0, [.ref 0, .int x1, .ref 335, dv], [], mm I J D) = some (.inl (some (.int 0)), mm I1 (upsL J1 335 0 r.toInt64) D1) := by
    rw [e_272_0, e1, calH_v, ka]
    show ex (272, 7, [dv, dv, dv, dv], [.int r, .int 0, .ref 335], mm I1 J1 D1) = _
    rw [e_272_7, show inb 0 1 = true by decide, cond_true, e_272_18]
    rfl
  rw [sc1 sc, cond_true, hx1, w, cal_v, ka]
  refine (e_309_479 I1 _ D1 v 0).trans ?_
  rw [q1, q2, sc1 sc, cond_true, hx1, e2, cal_v, ka]
  refine (e_309_491 _ _ _ v _ _).trans ?_
  rw [e_155_0, cal_v, ka, q3]
  refine (e_309_497 _ _ _ v _ _ _).trans ?_
  rw [decide_eq_true rfl, cond_true]
  refine (e_309_504 _ _ _ v _ _).trans ?_
  rw [decide_eq_false (by decide), cond_false]
  refine (e_309_509 _ _ _ v _).trans ?_
  rw [q4, decide_eq_true (lgc _), cond_true]
  refine (e_309_521 _ _ _ v).trans ?_
  exact e_309_3111 _ _ _ v
theorem tc_3_2 : ctc 272 4 2 = some 12 := by decide +kernel
theorem te_3_2 {L kk : Nat} {I I1 I2 : Nat → Nat → Int32} {J J1 J2 : Nat → Nat → Int64} {D D1 D2 : Nat → Nat → UInt64} {v : Int32} {s : Int32} {x1 : Int32} (sc : ScOK v I) (hx1 : I 1000002 (v + 1).toNatClampNeg = x1) (e1 : ex (93, 0, [.ref 0, .int x1], [], mm I J D) = some (.inr (.inl 2), mm I1 J1 D1)) (q1 : I1 iSCL 0 = I iSCL 0) (q2 : I1 1000002 = I 1000002) (e2 : ex (176, 0, [.ref 316, .int x1], [], mm I1 J1 D1) = some (.inl (some (.int s)), mm I2 J2 D2)) (q3 : I2 316 0 = 1) (hi : Inv L (kk + 1) I2 J2 D2) : Turn L kk 468 v I J D := by
  refine ⟨I2, J2, D2, (e_309_468 I J D v).trans ?_, hi⟩
  have w : ex (272, 0, [.ref 0, .int x1, .ref 335, dv], [], mm I J D) = some (.inl (some (.int 1)), mm I1 J1 D1) := by
    rw [e_272_0, e1, calH_x tc_3_2]
    exact e_272_12 _ _ _
  rw [sc1 sc, cond_true, hx1, w, cal_v, ka]
  refine (e_309_479 I1 _ D1 v 1).trans ?_
  rw [q1, q2, sc1 sc, cond_true, hx1, e2, cal_v, ka]
  refine (e_309_491 _ _ _ v _ _).trans ?_
  rw [e_155_0, cal_v, ka, q3]
  refine (e_309_497 _ _ _ v _ _ _).trans ?_
  rw [decide_eq_true rfl, cond_true]
  refine (e_309_504 _ _ _ v _ _).trans ?_
  rw [decide_eq_true (by decide), cond_true]
  refine (e_309_521 _ _ _ v).trans ?_
  exact e_309_3111 _ _ _ v
theorem tc_3_0 : ctc 272 4 0 = some 15 := by decide +kernel
theorem te_3_0 {L kk : Nat} {I I1 I2 : Nat → Nat → Int32} {J J1 J2 : Nat → Nat → Int64} {D D1 D2 : Nat → Nat → UInt64} {v : Int32} {s : Int32} {x1 : Int32} (sc : ScOK v I) (hx1 : I 1000002 (v + 1).toNatClampNeg = x1) (e1 : ex (93, 0, [.ref 0, .int x1], [], mm I J D) = some (.inr (.inl 0), mm I1 J1 D1)) (q1 : I1 iSCL 0 = I iSCL 0) (q2 : I1 1000002 = I 1000002) (e2 : ex (176, 0, [.ref 316, .int x1], [], mm I1 J1 D1) = some (.inl (some (.int s)), mm I2 J2 D2)) (q3 : I2 316 0 = 2) (hi : Inv L (kk + 1) I2 J2 D2) : Turn L kk 468 v I J D := by
  refine ⟨I2, J2, D2, (e_309_468 I J D v).trans ?_, hi⟩
  have w : ex (272, 0, [.ref 0, .int x1, .ref 335, dv], [], mm I J D) = some (.inl (some (.int 2)), mm I1 J1 D1) := by
    rw [e_272_0, e1, calH_x tc_3_0]
    exact e_272_15 _ _ _
  rw [sc1 sc, cond_true, hx1, w, cal_v, ka]
  refine (e_309_479 I1 _ D1 v 2).trans ?_
  rw [q1, q2, sc1 sc, cond_true, hx1, e2, cal_v, ka]
  refine (e_309_491 _ _ _ v _ _).trans ?_
  rw [e_155_0, cal_v, ka, q3]
  refine (e_309_497 _ _ _ v _ _ _).trans ?_
  rw [decide_eq_true rfl, cond_true]
  refine (e_309_504 _ _ _ v _ _).trans ?_
  rw [decide_eq_true (by decide), cond_true]
  refine (e_309_521 _ _ _ v).trans ?_
  exact e_309_3111 _ _ _ v
theorem tk_4 {L kk : Nat} {I I1 I2 : Nat → Nat → Int32} {J J1 J2 : Nat → Nat → Int64} {D D1 D2 : Nat → Nat → UInt64} {v : Int32} {r : Bool} {x1 : Int32} (sc : ScOK v I) (hx1 : I 1000002 (v + 1).toNatClampNeg = x1) (e1 : ex (94, 0, [.ref 0, .int x1, dv], [], mm I J D) = some (.inl (some (.int (bI r))), mm I1 J1 D1)) (q1 : I1 iSCL 0 = I iSCL 0) (q2 : I1 1000002 = I 1000002) (e2 : ex (177, 0, [.ref 316, .int x1, dv], [], mm I1 (upsL J1 335 0 (bI r).toInt64) D1) = some (.inl (some (.int (bI r))), mm I2 J2 D2)) (q3 : I2 316 0 = 0) (q4 : J2 335 0 = (bI r).toInt64) (hi : Inv L (kk + 1) I2 J2 D2) : Turn L kk 524 v I J D := by
  refine ⟨I2, J2, D2, (e_309_524 I J D v).trans ?_, hi⟩
  have w : ex (273, 0, [.ref 0, .int x1, .ref 335, dv], [], mm I J D) = some (.inl (some (.int 0)), mm I1 (upsL J1 335 0 (bI r).toInt64) D1) := by
    rw [e_273_0, e1, calH_v, ka]
    show ex (273, 7, [dv, dv, dv, dv], [.int (bI r), .int 0, .ref 335], mm I1 J1 D1) = _
    cases r with
    | false =>
      rw [e_273_7, decide_eq_true (show bI false = 0 from rfl), cond_true, e_273_14, e_273_15, show inb 0 1 = true by decide, cond_true, e_273_25]
      rfl
    | true =>
      rw [e_273_7, decide_eq_false (show ¬ bI true = 0 by decide), cond_false, e_273_10, e_273_15, show inb 0 1 = true by decide, cond_true, e_273_25]
      rfl
  rw [sc1 sc, cond_true, hx1, w, cal_v, ka]
  refine (e_309_535 I1 _ D1 v 0).trans ?_
  rw [q1, q2, sc1 sc, cond_true, hx1, e2, cal_v, ka]
  refine (e_309_547 _ _ _ v _ _).trans ?_
  rw [e_155_0, cal_v, ka, q3]
  refine (e_309_553 _ _ _ v _ _ _).trans ?_
  rw [decide_eq_true rfl, cond_true]
  refine (e_309_560 _ _ _ v _ _).trans ?_
  rw [decide_eq_false (by decide), cond_false]
  refine (e_309_565 _ _ _ v _).trans ?_
  rw [q4]
  cases r with
  | false =>
    rw [decide_eq_true (show bI false = 0 from rfl), cond_true]
    refine (e_309_577 _ _ _ v _).trans ?_
    refine (e_309_578 _ _ _ v _ _).trans ?_
    rw [decide_eq_true (by decide), cond_true]
    refine (e_309_584 _ _ _ v).trans ?_
    exact e_309_3111 _ _ _ v
  | true =>
    rw [decide_eq_false (show ¬ bI true = 0 by decide), cond_false]
    refine (e_309_573 _ _ _ v _).trans ?_
    refine (e_309_578 _ _ _ v _ _).trans ?_
    rw [decide_eq_true (by decide), cond_true]
    refine (e_309_584 _ _ _ v).trans ?_
    exact e_309_3111 _ _ _ v
theorem tc_4_2 : ctc 273 4 2 = some 19 := by decide +kernel
theorem te_4_2 {L kk : Nat} {I I1 I2 : Nat → Nat → Int32} {J J1 J2 : Nat → Nat → Int64} {D D1 D2 : Nat → Nat → UInt64} {v : Int32} {s : Int32} {x1 : Int32} (sc : ScOK v I) (hx1 : I 1000002 (v + 1).toNatClampNeg = x1) (e1 : ex (94, 0, [.ref 0, .int x1, dv], [], mm I J D) = some (.inr (.inl 2), mm I1 J1 D1)) (q1 : I1 iSCL 0 = I iSCL 0) (q2 : I1 1000002 = I 1000002) (e2 : ex (177, 0, [.ref 316, .int x1, dv], [], mm I1 J1 D1) = some (.inl (some (.int s)), mm I2 J2 D2)) (q3 : I2 316 0 = 1) (hi : Inv L (kk + 1) I2 J2 D2) : Turn L kk 524 v I J D := by
  refine ⟨I2, J2, D2, (e_309_524 I J D v).trans ?_, hi⟩
  have w : ex (273, 0, [.ref 0, .int x1, .ref 335, dv], [], mm I J D) = some (.inl (some (.int 1)), mm I1 J1 D1) := by
    rw [e_273_0, e1, calH_x tc_4_2]
    exact e_273_19 _ _ _
  rw [sc1 sc, cond_true, hx1, w, cal_v, ka]
  refine (e_309_535 I1 _ D1 v 1).trans ?_
  rw [q1, q2, sc1 sc, cond_true, hx1, e2, cal_v, ka]
  refine (e_309_547 _ _ _ v _ _).trans ?_
  rw [e_155_0, cal_v, ka, q3]
  refine (e_309_553 _ _ _ v _ _ _).trans ?_
  rw [decide_eq_true rfl, cond_true]
  refine (e_309_560 _ _ _ v _ _).trans ?_
  rw [decide_eq_true (by decide), cond_true]
  refine (e_309_584 _ _ _ v).trans ?_
  exact e_309_3111 _ _ _ v
theorem tc_4_0 : ctc 273 4 0 = some 22 := by decide +kernel
theorem te_4_0 {L kk : Nat} {I I1 I2 : Nat → Nat → Int32} {J J1 J2 : Nat → Nat → Int64} {D D1 D2 : Nat → Nat → UInt64} {v : Int32} {s : Int32} {x1 : Int32} (sc : ScOK v I) (hx1 : I 1000002 (v + 1).toNatClampNeg = x1) (e1 : ex (94, 0, [.ref 0, .int x1, dv], [], mm I J D) = some (.inr (.inl 0), mm I1 J1 D1)) (q1 : I1 iSCL 0 = I iSCL 0) (q2 : I1 1000002 = I 1000002) (e2 : ex (177, 0, [.ref 316, .int x1, dv], [], mm I1 J1 D1) = some (.inl (some (.int s)), mm I2 J2 D2)) (q3 : I2 316 0 = 2) (hi : Inv L (kk + 1) I2 J2 D2) : Turn L kk 524 v I J D := by
  refine ⟨I2, J2, D2, (e_309_524 I J D v).trans ?_, hi⟩
  have w : ex (273, 0, [.ref 0, .int x1, .ref 335, dv], [], mm I J D) = some (.inl (some (.int 2)), mm I1 J1 D1) := by
    rw [e_273_0, e1, calH_x tc_4_0]
    exact e_273_22 _ _ _
  rw [sc1 sc, cond_true, hx1, w, cal_v, ka]
  refine (e_309_535 I1 _ D1 v 2).trans ?_
  rw [q1, q2, sc1 sc, cond_true, hx1, e2, cal_v, ka]
  refine (e_309_547 _ _ _ v _ _).trans ?_
  rw [e_155_0, cal_v, ka, q3]
  refine (e_309_553 _ _ _ v _ _ _).trans ?_
  rw [decide_eq_true rfl, cond_true]
  refine (e_309_560 _ _ _ v _ _).trans ?_
  rw [decide_eq_true (by decide), cond_true]
  refine (e_309_584 _ _ _ v).trans ?_
  exact e_309_3111 _ _ _ v
theorem tk_5 {L kk : Nat} {I I1 I2 : Nat → Nat → Int32} {J J1 J2 : Nat → Nat → Int64} {D D1 D2 : Nat → Nat → UInt64} {v : Int32} {r : Int32} {x1 : Int32} {x2 : Int32} (sc : ScOK v I) (hx1 : I 1000002 (v + 1).toNatClampNeg = x1) (hx2 : I 1000002 (v + 2).toNatClampNeg = x2) (e1 : ex (95, 0, [.ref 0, .int x1, .int x2], [], mm I J D) = some (.inl (some (.int r)), mm I1 J1 D1)) (q1 : I1 iSCL 0 = I iSCL 0) (q2 : I1 1000002 = I 1000002) (e2 : ex (179, 0, [.ref 316, .int x1, .int x2, dv], [], mm I1 (upsL J1 335 0 r.toInt64) D1) = some (.inl (some (.int r)), mm I2 J2 D2)) (q3 : I2 316 0 = 0) (q4 : J2 335 0 = r.toInt64) (hi : Inv L (kk + 1) I2 J2 D2) : Turn L kk 587 v I J D := by
  refine ⟨I2, J2, D2, (e_309_587 I J D v).trans ?_, hi⟩
  have w : ex (274, 0, [.ref 0, .int x1, .int x2, .ref 335, dv], [], mm I J D) = some (.inl (some (.int 0)), mm I1 (upsL J1 335 0 r.toInt64) D1) := by
    rw [e_274_0, e1, calH_v, ka]
    show ex (274, 8, [dv, dv, dv, dv, dv], [.int r, .int 0, .ref 335], mm I1 J1 D1) = _
    rw [e_274_8, show inb 0 1 = true by decide, cond_true, e_274_21]
    rfl
  rw [sc1 sc, sc2 sc, cond_true, cond_true, hx1, hx2, w, cal_v, ka]
  refine (e_309_604 I1 _ D1 v 0).trans ?_
  rw [q1, q2, sc1 sc, sc2 sc, cond_true, cond_true, hx1, hx2, e2, cal_v, ka]
  refine (e_309_622 _ _ _ v _ _).trans ?_
  rw [e_155_0, cal_v, ka, q3]
  refine (e_309_628 _ _ _ v _ _ _).trans ?_
  rw [decide_eq_true rfl, cond_true]
  refine (e_309_635 _ _ _ v _ _).trans ?_
  rw [decide_eq_false (by decide), cond_false]
  refine (e_309_640 _ _ _ v _).trans ?_
  rw [q4, decide_eq_true (lgc _), cond_true]
  refine (e_309_652 _ _ _ v).trans ?_
  exact e_309_3111 _ _ _ v
theorem tc_5_2 : ctc 274 5 2 = some 13 := by decide +kernel
theorem te_5_2 {L kk : Nat} {I I1 I2 : Nat → Nat → Int32} {J J1 J2 : Nat → Nat → Int64} {D D1 D2 : Nat → Nat → UInt64} {v : Int32} {s : Int32} {x1 : Int32} {x2 : Int32} (sc : ScOK v I) (hx1 : I 1000002 (v + 1).toNatClampNeg = x1) (hx2 : I 1000002 (v + 2).toNatClampNeg = x2) (e1 : ex (95, 0, [.ref 0, .int x1, .int x2], [], mm I J D) = some (.inr (.inl 2), mm I1 J1 D1)) (q1 : I1 iSCL 0 = I iSCL 0) (q2 : I1 1000002 = I 1000002) (e2 : ex (179, 0, [.ref 316, .int x1, .int x2, dv], [], mm I1 J1 D1) = some (.inl (some (.int s)), mm I2 J2 D2)) (q3 : I2 316 0 = 1) (hi : Inv L (kk + 1) I2 J2 D2) : Turn L kk 587 v I J D := by
  refine ⟨I2, J2, D2, (e_309_587 I J D v).trans ?_, hi⟩
  have w : ex (274, 0, [.ref 0, .int x1, .int x2, .ref 335, dv], [], mm I J D) = some (.inl (some (.int 1)), mm I1 J1 D1) := by
    rw [e_274_0, e1, calH_x tc_5_2]
    exact e_274_13 _ _ _
  rw [sc1 sc, sc2 sc, cond_true, cond_true, hx1, hx2, w, cal_v, ka]
  refine (e_309_604 I1 _ D1 v 1).trans ?_
  rw [q1, q2, sc1 sc, sc2 sc, cond_true, cond_true, hx1, hx2, e2, cal_v, ka]
  refine (e_309_622 _ _ _ v _ _).trans ?_
  rw [e_155_0, cal_v, ka, q3]
  refine (e_309_628 _ _ _ v _ _ _).trans ?_
  rw [decide_eq_true rfl, cond_true]
  refine (e_309_635 _ _ _ v _ _).trans ?_
  rw [decide_eq_true (by decide), cond_true]
  refine (e_309_652 _ _ _ v).trans ?_
  exact e_309_3111 _ _ _ v
theorem tc_5_3 : ctc 274 5 3 = some 17 := by decide +kernel
theorem te_5_3 {L kk : Nat} {I I1 I2 : Nat → Nat → Int32} {J J1 J2 : Nat → Nat → Int64} {D D1 D2 : Nat → Nat → UInt64} {v : Int32} {s : Int32} {x1 : Int32} {x2 : Int32} (sc : ScOK v I) (hx1 : I 1000002 (v + 1).toNatClampNeg = x1) (hx2 : I 1000002 (v + 2).toNatClampNeg = x2) (e1 : ex (95, 0, [.ref 0, .int x1, .int x2], [], mm I J D) = some (.inr (.inl 3), mm I1 J1 D1)) (q1 : I1 iSCL 0 = I iSCL 0) (q2 : I1 1000002 = I 1000002) (e2 : ex (179, 0, [.ref 316, .int x1, .int x2, dv], [], mm I1 J1 D1) = some (.inl (some (.int s)), mm I2 J2 D2)) (q3 : I2 316 0 = 2) (hi : Inv L (kk + 1) I2 J2 D2) : Turn L kk 587 v I J D := by
  refine ⟨I2, J2, D2, (e_309_587 I J D v).trans ?_, hi⟩
  have w : ex (274, 0, [.ref 0, .int x1, .int x2, .ref 335, dv], [], mm I J D) = some (.inl (some (.int 2)), mm I1 J1 D1) := by
    rw [e_274_0, e1, calH_x tc_5_3]
    exact e_274_17 _ _ _
  rw [sc1 sc, sc2 sc, cond_true, cond_true, hx1, hx2, w, cal_v, ka]
  refine (e_309_604 I1 _ D1 v 2).trans ?_
  rw [q1, q2, sc1 sc, sc2 sc, cond_true, cond_true, hx1, hx2, e2, cal_v, ka]
  refine (e_309_622 _ _ _ v _ _).trans ?_
  rw [e_155_0, cal_v, ka, q3]
  refine (e_309_628 _ _ _ v _ _ _).trans ?_
  rw [decide_eq_true rfl, cond_true]
  refine (e_309_635 _ _ _ v _ _).trans ?_
  rw [decide_eq_true (by decide), cond_true]
  refine (e_309_652 _ _ _ v).trans ?_
  exact e_309_3111 _ _ _ v
theorem tk_6 {L kk : Nat} {I I1 I2 : Nat → Nat → Int32} {J J1 J2 : Nat → Nat → Int64} {D D1 D2 : Nat → Nat → UInt64} {v : Int32} {r : Int32} {x1 : Int32} {x2 : Int32} (sc : ScOK v I) (hx1 : I 1000002 (v + 1).toNatClampNeg = x1) (hx2 : I 1000002 (v + 2).toNatClampNeg = x2) (e1 : ex (96, 0, [.ref 0, .int x1, .int x2], [], mm I J D) = some (.inl (some (.int r)), mm I1 J1 D1)) (q1 : I1 iSCL 0 = I iSCL 0) (q2 : I1 1000002 = I 1000002) (e2 : ex (180, 0, [.ref 316, .int x1, .int x2, dv], [], mm I1 (upsL J1 335 0 r.toInt64) D1) = some (.inl (some (.int r)), mm I2 J2 D2)) (q3 : I2 316 0 = 0) (q4 : J2 335 0 = r.toInt64) (hi : Inv L (kk + 1) I2 J2 D2) : Turn L kk 655 v I J D := by
  refine ⟨I2, J2, D2, (e_309_655 I J D v).trans ?_, hi⟩
  have w : ex (275, 0, [.ref 0, .int x1, .int x2, .ref 335, dv], [], mm I J D) = some (.inl (some (.int 0)), mm I1 (upsL J1 335 0 r.toInt64) D1) := by
    rw [e_275_0, e1, calH_v, ka]
    show ex (275, 8, [dv, dv, dv, dv, dv], [.int r, .int 0, .ref 335], mm I1 J1 D1) = _
    rw [e_275_8, show inb 0 1 = true by decide, cond_true, e_275_21]
    rfl
  rw [sc1 sc, sc2 sc, cond_true, cond_true, hx1, hx2, w, cal_v, ka]
  refine (e_309_672 I1 _ D1 v 0).trans ?_
  rw [q1, q2, sc1 sc, sc2 sc, cond_true, cond_true, hx1, hx2, e2, cal_v, ka]
  refine (e_309_690 _ _ _ v _ _).trans ?_
  rw [e_155_0, cal_v, ka, q3]
  refine (e_309_696 _ _ _ v _ _ _).trans ?_
  rw [decide_eq_true rfl, cond_true]
  refine (e_309_703 _ _ _ v _ _).trans ?_
  rw [decide_eq_false (by decide), cond_false]
  refine (e_309_708 _ _ _ v _).trans ?_
  rw [q4, decide_eq_true (lgc _), cond_true]
  refine (e_309_720 _ _ _ v).trans ?_
  exact e_309_3111 _ _ _ v
theorem tc_6_2 : ctc 275 5 2 = some 13 := by decide +kernel
theorem te_6_2 {L kk : Nat} {I I1 I2 : Nat → Nat → Int32} {J J1 J2 : Nat → Nat → Int64} {D D1 D2 : Nat → Nat → UInt64} {v : Int32} {s : Int32} {x1 : Int32} {x2 : Int32} (sc : ScOK v I) (hx1 : I 1000002 (v + 1).toNatClampNeg = x1) (hx2 : I 1000002 (v + 2).toNatClampNeg = x2) (e1 : ex (96, 0, [.ref 0, .int x1, .int x2], [], mm I J D) = some (.inr (.inl 2), mm I1 J1 D1)) (q1 : I1 iSCL 0 = I iSCL 0) (q2 : I1 1000002 = I 1000002) (e2 : ex (180, 0, [.ref 316, .int x1, .int x2, dv], [], mm I1 J1 D1) = some (.inl (some (.int s)), mm I2 J2 D2)) (q3 : I2 316 0 = 1) (hi : Inv L (kk + 1) I2 J2 D2) : Turn L kk 655 v I J D := by
  refine ⟨I2, J2, D2, (e_309_655 I J D v).trans ?_, hi⟩
  have w : ex (275, 0, [.ref 0, .int x1, .int x2, .ref 335, dv], [], mm I J D) = some (.inl (some (.int 1)), mm I1 J1 D1) := by
    rw [e_275_0, e1, calH_x tc_6_2]
    exact e_275_13 _ _ _
  rw [sc1 sc, sc2 sc, cond_true, cond_true, hx1, hx2, w, cal_v, ka]
  refine (e_309_672 I1 _ D1 v 1).trans ?_
  rw [q1, q2, sc1 sc, sc2 sc, cond_true, cond_true, hx1, hx2, e2, cal_v, ka]
  refine (e_309_690 _ _ _ v _ _).trans ?_
  rw [e_155_0, cal_v, ka, q3]
  refine (e_309_696 _ _ _ v _ _ _).trans ?_
  rw [decide_eq_true rfl, cond_true]
  refine (e_309_703 _ _ _ v _ _).trans ?_
  rw [decide_eq_true (by decide), cond_true]
  refine (e_309_720 _ _ _ v).trans ?_
  exact e_309_3111 _ _ _ v
theorem tc_6_3 : ctc 275 5 3 = some 17 := by decide +kernel
theorem te_6_3 {L kk : Nat} {I I1 I2 : Nat → Nat → Int32} {J J1 J2 : Nat → Nat → Int64} {D D1 D2 : Nat → Nat → UInt64} {v : Int32} {s : Int32} {x1 : Int32} {x2 : Int32} (sc : ScOK v I) (hx1 : I 1000002 (v + 1).toNatClampNeg = x1) (hx2 : I 1000002 (v + 2).toNatClampNeg = x2) (e1 : ex (96, 0, [.ref 0, .int x1, .int x2], [], mm I J D) = some (.inr (.inl 3), mm I1 J1 D1)) (q1 : I1 iSCL 0 = I iSCL 0) (q2 : I1 1000002 = I 1000002) (e2 : ex (180, 0, [.ref 316, .int x1, .int x2, dv], [], mm I1 J1 D1) = some (.inl (some (.int s)), mm I2 J2 D2)) (q3 : I2 316 0 = 2) (hi : Inv L (kk + 1) I2 J2 D2) : Turn L kk 655 v I J D := by
  refine ⟨I2, J2, D2, (e_309_655 I J D v).trans ?_, hi⟩
  have w : ex (275, 0, [.ref 0, .int x1, .int x2, .ref 335, dv], [], mm I J D) = some (.inl (some (.int 2)), mm I1 J1 D1) := by
    rw [e_275_0, e1, calH_x tc_6_3]
    exact e_275_17 _ _ _
  rw [sc1 sc, sc2 sc, cond_true, cond_true, hx1, hx2, w, cal_v, ka]
  refine (e_309_672 I1 _ D1 v 2).trans ?_
  rw [q1, q2, sc1 sc, sc2 sc, cond_true, cond_true, hx1, hx2, e2, cal_v, ka]
  refine (e_309_690 _ _ _ v _ _).trans ?_
  rw [e_155_0, cal_v, ka, q3]
  refine (e_309_696 _ _ _ v _ _ _).trans ?_
  rw [decide_eq_true rfl, cond_true]
  refine (e_309_703 _ _ _ v _ _).trans ?_
  rw [decide_eq_true (by decide), cond_true]
  refine (e_309_720 _ _ _ v).trans ?_
  exact e_309_3111 _ _ _ v
theorem tq_7 {L kk : Nat} {I I1 I2 : Nat → Nat → Int32} {J J1 J2 : Nat → Nat → Int64} {D D1 D2 : Nat → Nat → UInt64} {v : Int32} {r : Int32} (e1 : ex (97, 0, [.ref 0], [], mm I J D) = some (.inl (some (.int r)), mm I1 J1 D1)) (e2 : ex (181, 0, [.ref 316], [], mm I1 J1 D1) = some (.inl (some (.int r)), mm I2 J2 D2)) (hi : Inv L (kk + 1) I2 J2 D2) : Turn L kk 723 v I J D := by
  refine ⟨I2, J2, D2, (e_309_723 I J D v).trans ?_, hi⟩
  rw [e1, cal_v, ka]
  refine (e_309_727 _ _ _ v _).trans ?_
  rw [e2, cal_v, ka]
  refine (e_309_731 _ _ _ v _ _).trans ?_
  rw [decide_eq_true rfl, cond_true]
  exact e_309_3111 _ _ _ v
theorem tk_8 {L kk : Nat} {I I1 I2 : Nat → Nat → Int32} {J J1 J2 : Nat → Nat → Int64} {D D1 D2 : Nat → Nat → UInt64} {v : Int32} {r : Int32} {x1 : Int32} (sc : ScOK v I) (hx1 : I 1000002 (v + 1).toNatClampNeg = x1) (e1 : ex (98, 0, [.ref 0, .int x1], [], mm I J D) = some (.inl (some (.int r)), mm I1 J1 D1)) (q1 : I1 iSCL 0 = I iSCL 0) (q2 : I1 1000002 = I 1000002) (e2 : ex (182, 0, [.ref 316, .int x1], [], mm I1 (upsL J1 335 0 r.toInt64) D1) = some (.inl (some (.int r)), mm I2 J2 D2)) (q3 : I2 316 0 = 0) (q4 : J2 335 0 = r.toInt64) (hi : Inv L (kk + 1) I2 J2 D2) : Turn L kk 736 v I J D := by
  refine ⟨I2, J2, D2, (e_309_736 I J D v).trans ?_, hi⟩
  have w : ex (276, 0, [.ref 0, .int x1, .ref 335, dv], [], mm I J D) = some (.inl (some (.int 0)), mm I1 (upsL J1 335 0 r.toInt64) D1) := by
    rw [e_276_0, e1, calH_v, ka]
    show ex (276, 7, [dv, dv, dv, dv], [.int r, .int 0, .ref 335], mm I1 J1 D1) = _
    rw [e_276_7, show inb 0 1 = true by decide, cond_true, e_276_15]
    rfl
  rw [sc1 sc, cond_true, hx1, w, cal_v, ka]
  refine (e_309_747 I1 _ D1 v 0).trans ?_
  rw [q1, q2, sc1 sc, cond_true, hx1, e2, cal_v, ka]
  refine (e_309_759 _ _ _ v _ _).trans ?_
  rw [e_155_0, cal_v, ka, q3]
  refine (e_309_765 _ _ _ v _ _ _).trans ?_
  rw [decide_eq_true rfl, cond_true]
  refine (e_309_772 _ _ _ v _ _).trans ?_
  rw [decide_eq_false (by decide), cond_false]
  refine (e_309_777 _ _ _ v _).trans ?_
  rw [q4, decide_eq_true (lgc _), cond_true]
  refine (e_309_789 _ _ _ v).trans ?_
  exact e_309_3111 _ _ _ v
theorem tc_8_2 : ctc 276 4 2 = some 12 := by decide +kernel
theorem te_8_2 {L kk : Nat} {I I1 I2 : Nat → Nat → Int32} {J J1 J2 : Nat → Nat → Int64} {D D1 D2 : Nat → Nat → UInt64} {v : Int32} {s : Int32} {x1 : Int32} (sc : ScOK v I) (hx1 : I 1000002 (v + 1).toNatClampNeg = x1) (e1 : ex (98, 0, [.ref 0, .int x1], [], mm I J D) = some (.inr (.inl 2), mm I1 J1 D1)) (q1 : I1 iSCL 0 = I iSCL 0) (q2 : I1 1000002 = I 1000002) (e2 : ex (182, 0, [.ref 316, .int x1], [], mm I1 J1 D1) = some (.inl (some (.int s)), mm I2 J2 D2)) (q3 : I2 316 0 = 1) (hi : Inv L (kk + 1) I2 J2 D2) : Turn L kk 736 v I J D := by
  refine ⟨I2, J2, D2, (e_309_736 I J D v).trans ?_, hi⟩
  have w : ex (276, 0, [.ref 0, .int x1, .ref 335, dv], [], mm I J D) = some (.inl (some (.int 1)), mm I1 J1 D1) := by
    rw [e_276_0, e1, calH_x tc_8_2]
    exact e_276_12 _ _ _
  rw [sc1 sc, cond_true, hx1, w, cal_v, ka]
  refine (e_309_747 I1 _ D1 v 1).trans ?_
  rw [q1, q2, sc1 sc, cond_true, hx1, e2, cal_v, ka]
  refine (e_309_759 _ _ _ v _ _).trans ?_
  rw [e_155_0, cal_v, ka, q3]
  refine (e_309_765 _ _ _ v _ _ _).trans ?_
  rw [decide_eq_true rfl, cond_true]
  refine (e_309_772 _ _ _ v _ _).trans ?_
  rw [decide_eq_true (by decide), cond_true]
  refine (e_309_789 _ _ _ v).trans ?_
  exact e_309_3111 _ _ _ v
theorem tq_9 {L kk : Nat} {I I1 I2 : Nat → Nat → Int32} {J J1 J2 : Nat → Nat → Int64} {D D1 D2 : Nat → Nat → UInt64} {v : Int32} {r : Int32} (e1 : ex (99, 0, [.ref 0], [], mm I J D) = some (.inl (some (.int r)), mm I1 J1 D1)) (e2 : ex (183, 0, [.ref 316], [], mm I1 J1 D1) = some (.inl (some (.int r)), mm I2 J2 D2)) (hi : Inv L (kk + 1) I2 J2 D2) : Turn L kk 792 v I J D := by
  refine ⟨I2, J2, D2, (e_309_792 I J D v).trans ?_, hi⟩
  rw [e1, cal_v, ka]
  refine (e_309_796 _ _ _ v _).trans ?_
  rw [e2, cal_v, ka]
  refine (e_309_800 _ _ _ v _ _).trans ?_
  rw [decide_eq_true rfl, cond_true]
  exact e_309_3111 _ _ _ v
theorem tq_10 {L kk : Nat} {I I1 I2 : Nat → Nat → Int32} {J J1 J2 : Nat → Nat → Int64} {D D1 D2 : Nat → Nat → UInt64} {v : Int32} {r : Int32} (e1 : ex (100, 0, [.ref 0], [], mm I J D) = some (.inl (some (.int r)), mm I1 J1 D1)) (e2 : ex (184, 0, [.ref 316], [], mm I1 J1 D1) = some (.inl (some (.int r)), mm I2 J2 D2)) (hi : Inv L (kk + 1) I2 J2 D2) : Turn L kk 805 v I J D := by
  refine ⟨I2, J2, D2, (e_309_805 I J D v).trans ?_, hi⟩
  rw [e1, cal_v, ka]
  refine (e_309_809 _ _ _ v _).trans ?_
  rw [e2, cal_v, ka]
  refine (e_309_813 _ _ _ v _ _).trans ?_
  rw [decide_eq_true rfl, cond_true]
  exact e_309_3111 _ _ _ v
theorem tk_11 {L kk : Nat} {I I1 I2 : Nat → Nat → Int32} {J J1 J2 : Nat → Nat → Int64} {D D1 D2 : Nat → Nat → UInt64} {v : Int32} {r : Int32} {x1 : Int32} {x2 : Int32} (sc : ScOK v I) (hx1 : I 1000002 (v + 1).toNatClampNeg = x1) (hx2 : I 1000002 (v + 2).toNatClampNeg = x2) (e1 : ex (101, 0, [.ref 0, .int x1, .int x2], [], mm I J D) = some (.inl (some (.int r)), mm I1 J1 D1)) (q1 : I1 iSCL 0 = I iSCL 0) (q2 : I1 1000002 = I 1000002) (e2 : ex (189, 0, [.ref 316, .int x1, .int x2], [], mm I1 (upsL J1 335 0 r.toInt64) D1) = some (.inl (some (.int r)), mm I2 J2 D2)) (q3 : I2 316 0 = 0) (q4 : J2 335 0 = r.toInt64) (hi : Inv L (kk + 1) I2 J2 D2) : Turn L kk 818 v I J D := by
  refine ⟨I2, J2, D2, (e_309_818 I J D v).trans ?_, hi⟩
  have w : ex (277, 0, [.ref 0, .int x1, .int x2, .ref 335, dv], [], mm I J D) = some (.inl (some (.int 0)), mm I1 (upsL J1 335 0 r.toInt64) D1) := by
    rw [e_277_0, e1, calH_v, ka]
    show ex (277, 8, [dv, dv, dv, dv, dv], [.int r, .int 0, .ref 335], mm I1 J1 D1) = _
    rw [e_277_8, show inb 0 1 = true by decide, cond_true, e_277_25]
    rfl
  rw [sc1 sc, sc2 sc, cond_true, cond_true, hx1, hx2, w, cal_v, ka]
  refine (e_309_835 I1 _ D1 v 0).trans ?_
  rw [q1, q2, sc1 sc, sc2 sc, cond_true, cond_true, hx1, hx2, e2, cal_v, ka]
  refine (e_309_853 _ _ _ v _ _).trans ?_
  rw [e_155_0, cal_v, ka, q3]
  refine (e_309_859 _ _ _ v _ _ _).trans ?_
  rw [decide_eq_true rfl, cond_true]
  refine (e_309_866 _ _ _ v _ _).trans ?_
  rw [decide_eq_false (by decide), cond_false]
  refine (e_309_871 _ _ _ v _).trans ?_
  rw [q4, decide_eq_true (lgc _), cond_true]
  refine (e_309_883 _ _ _ v).trans ?_
  exact e_309_3111 _ _ _ v
theorem tc_11_2 : ctc 277 5 2 = some 13 := by decide +kernel
theorem te_11_2 {L kk : Nat} {I I1 I2 : Nat → Nat → Int32} {J J1 J2 : Nat → Nat → Int64} {D D1 D2 : Nat → Nat → UInt64} {v : Int32} {s : Int32} {x1 : Int32} {x2 : Int32} (sc : ScOK v I) (hx1 : I 1000002 (v + 1).toNatClampNeg = x1) (hx2 : I 1000002 (v + 2).toNatClampNeg = x2) (e1 : ex (101, 0, [.ref 0, .int x1, .int x2], [], mm I J D) = some (.inr (.inl 2), mm I1 J1 D1)) (q1 : I1 iSCL 0 = I iSCL 0) (q2 : I1 1000002 = I 1000002) (e2 : ex (189, 0, [.ref 316, .int x1, .int x2], [], mm I1 J1 D1) = some (.inl (some (.int s)), mm I2 J2 D2)) (q3 : I2 316 0 = 1) (hi : Inv L (kk + 1) I2 J2 D2) : Turn L kk 818 v I J D := by
  refine ⟨I2, J2, D2, (e_309_818 I J D v).trans ?_, hi⟩
  have w : ex (277, 0, [.ref 0, .int x1, .int x2, .ref 335, dv], [], mm I J D) = some (.inl (some (.int 1)), mm I1 J1 D1) := by
    rw [e_277_0, e1, calH_x tc_11_2]
    exact e_277_13 _ _ _
  rw [sc1 sc, sc2 sc, cond_true, cond_true, hx1, hx2, w, cal_v, ka]
  refine (e_309_835 I1 _ D1 v 1).trans ?_
  rw [q1, q2, sc1 sc, sc2 sc, cond_true, cond_true, hx1, hx2, e2, cal_v, ka]
  refine (e_309_853 _ _ _ v _ _).trans ?_
  rw [e_155_0, cal_v, ka, q3]
  refine (e_309_859 _ _ _ v _ _ _).trans ?_
  rw [decide_eq_true rfl, cond_true]
  refine (e_309_866 _ _ _ v _ _).trans ?_
  rw [decide_eq_true (by decide), cond_true]
  refine (e_309_883 _ _ _ v).trans ?_
  exact e_309_3111 _ _ _ v
theorem tc_11_1 : ctc 277 5 1 = some 17 := by decide +kernel
theorem te_11_1 {L kk : Nat} {I I1 I2 : Nat → Nat → Int32} {J J1 J2 : Nat → Nat → Int64} {D D1 D2 : Nat → Nat → UInt64} {v : Int32} {s : Int32} {x1 : Int32} {x2 : Int32} (sc : ScOK v I) (hx1 : I 1000002 (v + 1).toNatClampNeg = x1) (hx2 : I 1000002 (v + 2).toNatClampNeg = x2) (e1 : ex (101, 0, [.ref 0, .int x1, .int x2], [], mm I J D) = some (.inr (.inl 1), mm I1 J1 D1)) (q1 : I1 iSCL 0 = I iSCL 0) (q2 : I1 1000002 = I 1000002) (e2 : ex (189, 0, [.ref 316, .int x1, .int x2], [], mm I1 J1 D1) = some (.inl (some (.int s)), mm I2 J2 D2)) (q3 : I2 316 0 = 2) (hi : Inv L (kk + 1) I2 J2 D2) : Turn L kk 818 v I J D := by
  refine ⟨I2, J2, D2, (e_309_818 I J D v).trans ?_, hi⟩
  have w : ex (277, 0, [.ref 0, .int x1, .int x2, .ref 335, dv], [], mm I J D) = some (.inl (some (.int 2)), mm I1 J1 D1) := by
    rw [e_277_0, e1, calH_x tc_11_1]
    exact e_277_17 _ _ _
  rw [sc1 sc, sc2 sc, cond_true, cond_true, hx1, hx2, w, cal_v, ka]
  refine (e_309_835 I1 _ D1 v 2).trans ?_
  rw [q1, q2, sc1 sc, sc2 sc, cond_true, cond_true, hx1, hx2, e2, cal_v, ka]
  refine (e_309_853 _ _ _ v _ _).trans ?_
  rw [e_155_0, cal_v, ka, q3]
  refine (e_309_859 _ _ _ v _ _ _).trans ?_
  rw [decide_eq_true rfl, cond_true]
  refine (e_309_866 _ _ _ v _ _).trans ?_
  rw [decide_eq_true (by decide), cond_true]
  refine (e_309_883 _ _ _ v).trans ?_
  exact e_309_3111 _ _ _ v
theorem tc_11_0 : ctc 277 5 0 = some 21 := by decide +kernel
theorem te_11_0 {L kk : Nat} {I I1 I2 : Nat → Nat → Int32} {J J1 J2 : Nat → Nat → Int64} {D D1 D2 : Nat → Nat → UInt64} {v : Int32} {s : Int32} {x1 : Int32} {x2 : Int32} (sc : ScOK v I) (hx1 : I 1000002 (v + 1).toNatClampNeg = x1) (hx2 : I 1000002 (v + 2).toNatClampNeg = x2) (e1 : ex (101, 0, [.ref 0, .int x1, .int x2], [], mm I J D) = some (.inr (.inl 0), mm I1 J1 D1)) (q1 : I1 iSCL 0 = I iSCL 0) (q2 : I1 1000002 = I 1000002) (e2 : ex (189, 0, [.ref 316, .int x1, .int x2], [], mm I1 J1 D1) = some (.inl (some (.int s)), mm I2 J2 D2)) (q3 : I2 316 0 = 3) (hi : Inv L (kk + 1) I2 J2 D2) : Turn L kk 818 v I J D := by
  refine ⟨I2, J2, D2, (e_309_818 I J D v).trans ?_, hi⟩
  have w : ex (277, 0, [.ref 0, .int x1, .int x2, .ref 335, dv], [], mm I J D) = some (.inl (some (.int 3)), mm I1 J1 D1) := by
    rw [e_277_0, e1, calH_x tc_11_0]
    exact e_277_21 _ _ _
  rw [sc1 sc, sc2 sc, cond_true, cond_true, hx1, hx2, w, cal_v, ka]
  refine (e_309_835 I1 _ D1 v 3).trans ?_
  rw [q1, q2, sc1 sc, sc2 sc, cond_true, cond_true, hx1, hx2, e2, cal_v, ka]
  refine (e_309_853 _ _ _ v _ _).trans ?_
  rw [e_155_0, cal_v, ka, q3]
  refine (e_309_859 _ _ _ v _ _ _).trans ?_
  rw [decide_eq_true rfl, cond_true]
  refine (e_309_866 _ _ _ v _ _).trans ?_
  rw [decide_eq_true (by decide), cond_true]
  refine (e_309_883 _ _ _ v).trans ?_
  exact e_309_3111 _ _ _ v
theorem tk_12 {L kk : Nat} {I I1 I2 : Nat → Nat → Int32} {J J1 J2 : Nat → Nat → Int64} {D D1 D2 : Nat → Nat → UInt64} {v : Int32} {r : Int32} {x1 : Int32} {x2 : Int32} (sc : ScOK v I) (hx1 : I 1000002 (v + 1).toNatClampNeg = x1) (hx2 : I 1000002 (v + 2).toNatClampNeg = x2) (e1 : ex (102, 0, [.ref 0, .int x1, .int x2], [], mm I J D) = some (.inl (some (.int r)), mm I1 J1 D1)) (q1 : I1 iSCL 0 = I iSCL 0) (q2 : I1 1000002 = I 1000002) (e2 : ex (190, 0, [.ref 316, .int x1, .int x2], [], mm I1 (upsL J1 335 0 r.toInt64) D1) = some (.inl (some (.int r)), mm I2 J2 D2)) (q3 : I2 316 0 = 0) (q4 : J2 335 0 = r.toInt64) (hi : Inv L (kk + 1) I2 J2 D2) : Turn L kk 886 v I J D := by
  refine ⟨I2, J2, D2, (e_309_886 I J D v).trans ?_, hi⟩
  have w : ex (278, 0, [.ref 0, .int x1, .int x2, .ref 335, dv], [], mm I J D) = some (.inl (some (.int 0)), mm I1 (upsL J1 335 0 r.toInt64) D1) := by
    rw [e_278_0, e1, calH_v, ka]
    show ex (278, 8, [dv, dv, dv, dv, dv], [.int r, .int 0, .ref 335], mm I1 J1 D1) = _
    rw [e_278_8, show inb 0 1 = true by decide, cond_true, e_278_21]
    rfl
  rw [sc1 sc, sc2 sc, cond_true, cond_true, hx1, hx2, w, cal_v, ka]
  refine (e_309_903 I1 _ D1 v 0).trans ?_
  rw [q1, q2, sc1 sc, sc2 sc, cond_true, cond_true, hx1, hx2, e2, cal_v, ka]
  refine (e_309_921 _ _ _ v _ _).trans ?_
  rw [e_155_0, cal_v, ka, q3]
  refine (e_309_927 _ _ _ v _ _ _).trans ?_
  rw [decide_eq_true rfl, cond_true]
  refine (e_309_934 _ _ _ v _ _).trans ?_
  rw [decide_eq_false (by decide), cond_false]
  refine (e_309_939 _ _ _ v _).trans ?_
  rw [q4, decide_eq_true (lgc _), cond_true]
  refine (e_309_951 _ _ _ v).trans ?_
  exact e_309_3111 _ _ _ v
theorem tc_12_2 : ctc 278 5 2 = some 13 := by decide +kernel
theorem te_12_2 {L kk : Nat} {I I1 I2 : Nat → Nat → Int32} {J J1 J2 : Nat → Nat → Int64} {D D1 D2 : Nat → Nat → UInt64} {v : Int32} {s : Int32} {x1 : Int32} {x2 : Int32} (sc : ScOK v I) (hx1 : I 1000002 (v + 1).toNatClampNeg = x1) (hx2 : I 1000002 (v + 2).toNatClampNeg = x2) (e1 : ex (102, 0, [.ref 0, .int x1, .int x2], [], mm I J D) = some (.inr (.inl 2), mm I1 J1 D1)) (q1 : I1 iSCL 0 = I iSCL 0) (q2 : I1 1000002 = I 1000002) (e2 : ex (190, 0, [.ref 316, .int x1, .int x2], [], mm I1 J1 D1) = some (.inl (some (.int s)), mm I2 J2 D2)) (q3 : I2 316 0 = 1) (hi : Inv L (kk + 1) I2 J2 D2) : Turn L kk 886 v I J D := by
  refine ⟨I2, J2, D2, (e_309_886 I J D v).trans ?_, hi⟩
  have w : ex (278, 0, [.ref 0, .int x1, .int x2, .ref 335, dv], [], mm I J D) = some (.inl (some (.int 1)), mm I1 J1 D1) := by
    rw [e_278_0, e1, calH_x tc_12_2]
    exact e_278_13 _ _ _
  rw [sc1 sc, sc2 sc, cond_true, cond_true, hx1, hx2, w, cal_v, ka]
  refine (e_309_903 I1 _ D1 v 1).trans ?_
  rw [q1, q2, sc1 sc, sc2 sc, cond_true, cond_true, hx1, hx2, e2, cal_v, ka]
  refine (e_309_921 _ _ _ v _ _).trans ?_
  rw [e_155_0, cal_v, ka, q3]
  refine (e_309_927 _ _ _ v _ _ _).trans ?_
  rw [decide_eq_true rfl, cond_true]
  refine (e_309_934 _ _ _ v _ _).trans ?_
  rw [decide_eq_true (by decide), cond_true]
  refine (e_309_951 _ _ _ v).trans ?_
  exact e_309_3111 _ _ _ v
theorem tc_12_3 : ctc 278 5 3 = some 17 := by decide +kernel
theorem te_12_3 {L kk : Nat} {I I1 I2 : Nat → Nat → Int32} {J J1 J2 : Nat → Nat → Int64} {D D1 D2 : Nat → Nat → UInt64} {v : Int32} {s : Int32} {x1 : Int32} {x2 : Int32} (sc : ScOK v I) (hx1 : I 1000002 (v + 1).toNatClampNeg = x1) (hx2 : I 1000002 (v + 2).toNatClampNeg = x2) (e1 : ex (102, 0, [.ref 0, .int x1, .int x2], [], mm I J D) = some (.inr (.inl 3), mm I1 J1 D1)) (q1 : I1 iSCL 0 = I iSCL 0) (q2 : I1 1000002 = I 1000002) (e2 : ex (190, 0, [.ref 316, .int x1, .int x2], [], mm I1 J1 D1) = some (.inl (some (.int s)), mm I2 J2 D2)) (q3 : I2 316 0 = 2) (hi : Inv L (kk + 1) I2 J2 D2) : Turn L kk 886 v I J D := by
  refine ⟨I2, J2, D2, (e_309_886 I J D v).trans ?_, hi⟩
  have w : ex (278, 0, [.ref 0, .int x1, .int x2, .ref 335, dv], [], mm I J D) = some (.inl (some (.int 2)), mm I1 J1 D1) := by
    rw [e_278_0, e1, calH_x tc_12_3]
    exact e_278_17 _ _ _
  rw [sc1 sc, sc2 sc, cond_true, cond_true, hx1, hx2, w, cal_v, ka]
  refine (e_309_903 I1 _ D1 v 2).trans ?_
  rw [q1, q2, sc1 sc, sc2 sc, cond_true, cond_true, hx1, hx2, e2, cal_v, ka]
  refine (e_309_921 _ _ _ v _ _).trans ?_
  rw [e_155_0, cal_v, ka, q3]
  refine (e_309_927 _ _ _ v _ _ _).trans ?_
  rw [decide_eq_true rfl, cond_true]
  refine (e_309_934 _ _ _ v _ _).trans ?_
  rw [decide_eq_true (by decide), cond_true]
  refine (e_309_951 _ _ _ v).trans ?_
  exact e_309_3111 _ _ _ v
theorem tk_13 {L kk : Nat} {I I1 I2 : Nat → Nat → Int32} {J J1 J2 : Nat → Nat → Int64} {D D1 D2 : Nat → Nat → UInt64} {v : Int32} {r : Bool} {x1 : Int32} {x2 : Int32} (sc : ScOK v I) (hx1 : I 1000002 (v + 1).toNatClampNeg = x1) (hx2 : I 1000002 (v + 2).toNatClampNeg = x2) (e1 : ex (103, 0, [.ref 0, .int x1, .int x2], [], mm I J D) = some (.inl (some (.int (bI r))), mm I1 J1 D1)) (q1 : I1 iSCL 0 = I iSCL 0) (q2 : I1 1000002 = I 1000002) (e2 : ex (191, 0, [.ref 316, .int x1, .int x2], [], mm I1 (upsL J1 335 0 (bI r).toInt64) D1) = some (.inl (some (.int (bI r))), mm I2 J2 D2)) (q3 : I2 316 0 = 0) (q4 : J2 335 0 = (bI r).toInt64) (hi : Inv L (kk + 1) I2 J2 D2) : Turn L kk 954 v I J D := by
  refine ⟨I2, J2, D2, (e_309_954 I J D v).trans ?_, hi⟩
  have w : ex (279, 0, [.ref 0, .int x1, .int x2, .ref 335, dv], [], mm I J D) = some (.inl (some (.int 0)), mm I1 (upsL J1 335 0 (bI r).toInt64) D1) := by
    rw [e_279_0, e1, calH_v, ka]
    show ex (279, 8, [dv, dv, dv, dv, dv], [.int (bI r), .int 0, .ref 335], mm I1 J1 D1) = _
    cases r with
    | false =>
      rw [e_279_8, decide_eq_true (show bI false = 0 from rfl), cond_true, e_279_15, e_279_16, show inb 0 1 = true by decide, cond_true, e_279_24]
      rfl
    | true =>
      rw [e_279_8, decide_eq_false (show ¬ bI true = 0 by decide), cond_false, e_279_11, e_279_16, show inb 0 1 = true by decide, cond_true, e_279_24]
      rfl
  rw [sc1 sc, sc2 sc, cond_true, cond_true, hx1, hx2, w, cal_v, ka]
  refine (e_309_971 I1 _ D1 v 0).trans ?_
  rw [q1, q2, sc1 sc, sc2 sc, cond_true, cond_true, hx1, hx2, e2, cal_v, ka]
  refine (e_309_989 _ _ _ v _ _).trans ?_
  rw [e_155_0, cal_v, ka, q3]
  refine (e_309_995 _ _ _ v _ _ _).trans ?_
  rw [decide_eq_true rfl, cond_true]
  refine (e_309_1002 _ _ _ v _ _).trans ?_
  rw [decide_eq_false (by decide), cond_false]
  refine (e_309_1007 _ _ _ v _).trans ?_
  rw [q4]
  cases r with
  | false =>
    rw [decide_eq_true (show bI false = 0 from rfl), cond_true]
    refine (e_309_1019 _ _ _ v _).trans ?_
    refine (e_309_1020 _ _ _ v _ _).trans ?_
    rw [decide_eq_true (by decide), cond_true]
    refine (e_309_1026 _ _ _ v).trans ?_
    exact e_309_3111 _ _ _ v
  | true =>
    rw [decide_eq_false (show ¬ bI true = 0 by decide), cond_false]
    refine (e_309_1015 _ _ _ v _).trans ?_
    refine (e_309_1020 _ _ _ v _ _).trans ?_
    rw [decide_eq_true (by decide), cond_true]
    refine (e_309_1026 _ _ _ v).trans ?_
    exact e_309_3111 _ _ _ v
theorem tc_13_2 : ctc 279 5 2 = some 20 := by decide +kernel
theorem te_13_2 {L kk : Nat} {I I1 I2 : Nat → Nat → Int32} {J J1 J2 : Nat → Nat → Int64} {D D1 D2 : Nat → Nat → UInt64} {v : Int32} {s : Int32} {x1 : Int32} {x2 : Int32} (sc : ScOK v I) (hx1 : I 1000002 (v + 1).toNatClampNeg = x1) (hx2 : I 1000002 (v + 2).toNatClampNeg = x2) (e1 : ex (103, 0, [.ref 0, .int x1, .int x2], [], mm I J D) = some (.inr (.inl 2), mm I1 J1 D1)) (q1 : I1 iSCL 0 = I iSCL 0) (q2 : I1 1000002 = I 1000002) (e2 : ex (191, 0, [.ref 316, .int x1, .int x2], [], mm I1 J1 D1) = some (.inl (some (.int s)), mm I2 J2 D2)) (q3 : I2 316 0 = 1) (hi : Inv L (kk + 1) I2 J2 D2) : Turn L kk 954 v I J D := by
  refine ⟨I2, J2, D2, (e_309_954 I J D v).trans ?_, hi⟩
  have w : ex (279, 0, [.ref 0, .int x1, .int x2, .ref 335, dv], [], mm I J D) = some (.inl (some (.int 1)), mm I1 J1 D1) := by
    rw [e_279_0, e1, calH_x tc_13_2]
    exact e_279_20 _ _ _
  rw [sc1 sc, sc2 sc, cond_true, cond_true, hx1, hx2, w, cal_v, ka]
  refine (e_309_971 I1 _ D1 v 1).trans ?_
  rw [q1, q2, sc1 sc, sc2 sc, cond_true, cond_true, hx1, hx2, e2, cal_v, ka]
  refine (e_309_989 _ _ _ v _ _).trans ?_
  rw [e_155_0, cal_v, ka, q3]
  refine (e_309_995 _ _ _ v _ _ _).trans ?_
  rw [decide_eq_true rfl, cond_true]
  refine (e_309_1002 _ _ _ v _ _).trans ?_
  rw [decide_eq_true (by decide), cond_true]
  refine (e_309_1026 _ _ _ v).trans ?_
  exact e_309_3111 _ _ _ v
theorem tq_14 {L kk : Nat} {I I1 I2 : Nat → Nat → Int32} {J J1 J2 : Nat → Nat → Int64} {D D1 D2 : Nat → Nat → UInt64} {v : Int32} {r : Int32} (e1 : ex (104, 0, [.ref 0], [], mm I J D) = some (.inl (some (.int r)), mm I1 J1 D1)) (e2 : ex (192, 0, [.ref 316], [], mm I1 J1 D1) = some (.inl (some (.int r)), mm I2 J2 D2)) (hi : Inv L (kk + 1) I2 J2 D2) : Turn L kk 1029 v I J D := by
  refine ⟨I2, J2, D2, (e_309_1029 I J D v).trans ?_, hi⟩
  rw [e1, cal_v, ka]
  refine (e_309_1033 _ _ _ v _).trans ?_
  rw [e2, cal_v, ka]
  refine (e_309_1037 _ _ _ v _ _).trans ?_
  rw [decide_eq_true rfl, cond_true]
  exact e_309_3111 _ _ _ v
theorem tk_15 {L kk : Nat} {I I1 I2 : Nat → Nat → Int32} {J J1 J2 : Nat → Nat → Int64} {D D1 D2 : Nat → Nat → UInt64} {v : Int32} {r : Int32} {x1 : Int32} (sc : ScOK v I) (hx1 : I 1000002 (v + 1).toNatClampNeg = x1) (e1 : ex (105, 0, [.ref 0, .int x1, dv], [], mm I J D) = some (.inl (some (.int r)), mm I1 J1 D1)) (q1 : I1 iSCL 0 = I iSCL 0) (q2 : I1 1000002 = I 1000002) (e2 : ex (193, 0, [.ref 316, .int x1, dv, dv], [], mm I1 (upsL J1 335 0 r.toInt64) D1) = some (.inl (some (.int r)), mm I2 J2 D2)) (q3 : I2 316 0 = 0) (q4 : J2 335 0 = r.toInt64) (hi : Inv L (kk + 1) I2 J2 D2) : Turn L kk 1042 v I J D := by
  refine ⟨I2, J2, D2, (e_309_1042 I J D v).trans ?_, hi⟩
  have w : ex (280, 0, [.ref 0, .int x1, .ref 335, dv], [], mm I J D) = some (.inl (some (.int 0)), mm I1 (upsL J1 335 0 r.toInt64) D1) := by
    rw [e_280_0, e1, calH_v, ka]
    show ex (280, 7, [dv, dv, dv, dv], [.int r, .int 0, .ref 335], mm I1 J1 D1) = _
    rw [e_280_7, show inb 0 1 = true by decide, cond_true, e_280_15]
    rfl
  rw [sc1 sc, cond_true, hx1, w, cal_v, ka]
  refine (e_309_1053 I1 _ D1 v 0).trans ?_
  rw [q1, q2, sc1 sc, cond_true, hx1, e2, cal_v, ka]
  refine (e_309_1065 _ _ _ v _ _).trans ?_
  rw [e_155_0, cal_v, ka, q3]
  refine (e_309_1071 _ _ _ v _ _ _).trans ?_
  rw [decide_eq_true rfl, cond_true]
  refine (e_309_1078 _ _ _ v _ _).trans ?_
  rw [decide_eq_false (by decide), cond_false]
  refine (e_309_1083 _ _ _ v _).trans ?_
  rw [q4, decide_eq_true (lgc _), cond_true]
  refine (e_309_1095 _ _ _ v).trans ?_
  exact e_309_3111 _ _ _ v
theorem tc_15_2 : ctc 280 4 2 = some 12 := by decide +kernel
theorem te_15_2 {L kk : Nat} {I I1 I2 : Nat → Nat → Int32} {J J1 J2 : Nat → Nat → Int64} {D D1 D2 : Nat → Nat → UInt64} {v : Int32} {s : Int32} {x1 : Int32} (sc : ScOK v I) (hx1 : I 1000002 (v + 1).toNatClampNeg = x1) (e1 : ex (105, 0, [.ref 0, .int x1, dv], [], mm I J D) = some (.inr (.inl 2), mm I1 J1 D1)) (q1 : I1 iSCL 0 = I iSCL 0) (q2 : I1 1000002 = I 1000002) (e2 : ex (193, 0, [.ref 316, .int x1, dv, dv], [], mm I1 J1 D1) = some (.inl (some (.int s)), mm I2 J2 D2)) (q3 : I2 316 0 = 1) (hi : Inv L (kk + 1) I2 J2 D2) : Turn L kk 1042 v I J D := by
  refine ⟨I2, J2, D2, (e_309_1042 I J D v).trans ?_, hi⟩
  have w : ex (280, 0, [.ref 0, .int x1, .ref 335, dv], [], mm I J D) = some (.inl (some (.int 1)), mm I1 J1 D1) := by
    rw [e_280_0, e1, calH_x tc_15_2]
    exact e_280_12 _ _ _
  rw [sc1 sc, cond_true, hx1, w, cal_v, ka]
  refine (e_309_1053 I1 _ D1 v 1).trans ?_
  rw [q1, q2, sc1 sc, cond_true, hx1, e2, cal_v, ka]
  refine (e_309_1065 _ _ _ v _ _).trans ?_
  rw [e_155_0, cal_v, ka, q3]
  refine (e_309_1071 _ _ _ v _ _ _).trans ?_
  rw [decide_eq_true rfl, cond_true]
  refine (e_309_1078 _ _ _ v _ _).trans ?_
  rw [decide_eq_true (by decide), cond_true]
  refine (e_309_1095 _ _ _ v).trans ?_
  exact e_309_3111 _ _ _ v
theorem tk_16 {L kk : Nat} {I I1 I2 : Nat → Nat → Int32} {J J1 J2 : Nat → Nat → Int64} {D D1 D2 : Nat → Nat → UInt64} {v : Int32} {r : Int64}   (e1 : ex (106, 0, [.ref 0], [], mm I J D) = some (.inl (some (.long r)), mm I1 J1 D1)) (q1 : I1 iSCL 0 = I iSCL 0) (q2 : I1 1000002 = I 1000002) (e2 : ex (195, 0, [.ref 316, dv, dv, dv], [], mm I1 (upsL J1 335 0 r) D1) = some (.inl (some (.long r)), mm I2 J2 D2)) (q3 : I2 316 0 = 0) (q4 : J2 335 0 = r) (hi : Inv L (kk + 1) I2 J2 D2) : Turn L kk 1098 v I J D := by
  refine ⟨I2, J2, D2, (e_309_1098 I J D v).trans ?_, hi⟩
  have w : ex (281, 0, [.ref 0, .ref 335, dv], [], mm I J D) = some (.inl (some (.int 0)), mm I1 (upsL J1 335 0 r) D1) := by
    rw [e_281_0, e1, calH_v]
    show ex (281, 6, [dv, dv, dv], [.long r, .int 0, .ref 335], mm I1 J1 D1) = _
    rw [e_281_6, show inb 0 1 = true by decide, cond_true, e_281_13]
    rfl
  rw [w, cal_v, ka]
  refine (e_309_1103 I1 _ D1 v 0).trans ?_
  rw [e2, cal_v, show (some (Value.long r)).toList ++ [] = [.long r] from rfl]
  refine (e_309_1109 _ _ _ v _ _).trans ?_
  rw [e_155_0, cal_v, ka, q3]
  refine (e_309_1115 _ _ _ v _ _ _).trans ?_
  rw [decide_eq_true rfl, cond_true]
  refine (e_309_1122 _ _ _ v _ _).trans ?_
  rw [decide_eq_false (by decide), cond_false]
  refine (e_309_1127 _ _ _ v _).trans ?_
  rw [q4, decide_eq_true (lgc _), cond_true]
  refine (e_309_1138 _ _ _ v).trans ?_
  exact e_309_3111 _ _ _ v
theorem tc_16_0 : ctc 281 3 0 = some 10 := by decide +kernel
theorem te_16_0 {L kk : Nat} {I I1 I2 : Nat → Nat → Int32} {J J1 J2 : Nat → Nat → Int64} {D D1 D2 : Nat → Nat → UInt64} {v : Int32} {s : Int64}   (e1 : ex (106, 0, [.ref 0], [], mm I J D) = some (.inr (.inl 0), mm I1 J1 D1)) (q1 : I1 iSCL 0 = I iSCL 0) (q2 : I1 1000002 = I 1000002) (e2 : ex (195, 0, [.ref 316, dv, dv, dv], [], mm I1 J1 D1) = some (.inl (some (.long s)), mm I2 J2 D2)) (q3 : I2 316 0 = 1) (hi : Inv L (kk + 1) I2 J2 D2) : Turn L kk 1098 v I J D := by
  refine ⟨I2, J2, D2, (e_309_1098 I J D v).trans ?_, hi⟩
  have w : ex (281, 0, [.ref 0, .ref 335, dv], [], mm I J D) = some (.inl (some (.int 1)), mm I1 J1 D1) := by
    rw [e_281_0, e1, calH_x tc_16_0]
    exact e_281_10 _ _ _
  rw [w, cal_v, ka]
  refine (e_309_1103 I1 _ D1 v 1).trans ?_
  rw [e2, cal_v, show (some (Value.long s)).toList ++ [] = [.long s] from rfl]
  refine (e_309_1109 _ _ _ v _ _).trans ?_
  rw [e_155_0, cal_v, ka, q3]
  refine (e_309_1115 _ _ _ v _ _ _).trans ?_
  rw [decide_eq_true rfl, cond_true]
  refine (e_309_1122 _ _ _ v _ _).trans ?_
  rw [decide_eq_true (by decide), cond_true]
  refine (e_309_1138 _ _ _ v).trans ?_
  exact e_309_3111 _ _ _ v
theorem tk_17 {L kk : Nat} {I I1 I2 : Nat → Nat → Int32} {J J1 J2 : Nat → Nat → Int64} {D D1 D2 : Nat → Nat → UInt64} {v : Int32} {r : Int32} {x1 : Int32} (sc : ScOK v I) (hx1 : I 1000002 (v + 1).toNatClampNeg = x1) (e1 : ex (107, 0, [.ref 0, .int x1, dv], [], mm I J D) = some (.inl (some (.int r)), mm I1 J1 D1)) (q1 : I1 iSCL 0 = I iSCL 0) (q2 : I1 1000002 = I 1000002) (e2 : ex (196, 0, [.ref 316, .int x1, dv, dv, dv], [], mm I1 (upsL J1 335 0 r.toInt64) D1) = some (.inl (some (.int r)), mm I2 J2 D2)) (q3 : I2 316 0 = 0) (q4 : J2 335 0 = r.toInt64) (hi : Inv L (kk + 1) I2 J2 D2) : Turn L kk 1141 v I J D := by
  refine ⟨I2, J2, D2, (e_309_1141 I J D v).trans ?_, hi⟩
  have w : ex (282, 0, [.ref 0, .int x1, .ref 335, dv], [], mm I J D) = some (.inl (some (.int 0)), mm I1 (upsL J1 335 0 r.toInt64) D1) := by
    rw [e_282_0, e1, calH_v, ka]
    show ex (282, 7, [dv, dv, dv, dv], [.int r, .int 0, .ref 335], mm I1 J1 D1) = _
    rw [e_282_7, show inb 0 1 = true by decide, cond_true, e_282_15]
    rfl
  rw [sc1 sc, cond_true, hx1, w, cal_v, ka]
  refine (e_309_1152 I1 _ D1 v 0).trans ?_
  rw [q1, q2, sc1 sc, cond_true, hx1, e2, cal_v, ka]
  refine (e_309_1164 _ _ _ v _ _).trans ?_
  rw [e_155_0, cal_v, ka, q3]
  refine (e_309_1170 _ _ _ v _ _ _).trans ?_
  rw [decide_eq_true rfl, cond_true]
  refine (e_309_1177 _ _ _ v _ _).trans ?_
  rw [decide_eq_false (by decide), cond_false]
  refine (e_309_1182 _ _ _ v _).trans ?_
  rw [q4, decide_eq_true (lgc _), cond_true]
  refine (e_309_1194 _ _ _ v).trans ?_
  exact e_309_3111 _ _ _ v
theorem tc_17_2 : ctc 282 4 2 = some 12 := by decide +kernel
theorem te_17_2 {L kk : Nat} {I I1 I2 : Nat → Nat → Int32} {J J1 J2 : Nat → Nat → Int64} {D D1 D2 : Nat → Nat → UInt64} {v : Int32} {s : Int32} {x1 : Int32} (sc : ScOK v I) (hx1 : I 1000002 (v + 1).toNatClampNeg = x1) (e1 : ex (107, 0, [.ref 0, .int x1, dv], [], mm I J D) = some (.inr (.inl 2), mm I1 J1 D1)) (q1 : I1 iSCL 0 = I iSCL 0) (q2 : I1 1000002 = I 1000002) (e2 : ex (196, 0, [.ref 316, .int x1, dv, dv, dv], [], mm I1 J1 D1) = some (.inl (some (.int s)), mm I2 J2 D2)) (q3 : I2 316 0 = 1) (hi : Inv L (kk + 1) I2 J2 D2) : Turn L kk 1141 v I J D := by
  refine ⟨I2, J2, D2, (e_309_1141 I J D v).trans ?_, hi⟩
  have w : ex (282, 0, [.ref 0, .int x1, .ref 335, dv], [], mm I J D) = some (.inl (some (.int 1)), mm I1 J1 D1) := by
    rw [e_282_0, e1, calH_x tc_17_2]
    exact e_282_12 _ _ _
  rw [sc1 sc, cond_true, hx1, w, cal_v, ka]
  refine (e_309_1152 I1 _ D1 v 1).trans ?_
  rw [q1, q2, sc1 sc, cond_true, hx1, e2, cal_v, ka]
  refine (e_309_1164 _ _ _ v _ _).trans ?_
  rw [e_155_0, cal_v, ka, q3]
  refine (e_309_1170 _ _ _ v _ _ _).trans ?_
  rw [decide_eq_true rfl, cond_true]
  refine (e_309_1177 _ _ _ v _ _).trans ?_
  rw [decide_eq_true (by decide), cond_true]
  refine (e_309_1194 _ _ _ v).trans ?_
  exact e_309_3111 _ _ _ v
theorem tk_18 {L kk : Nat} {I I1 I2 : Nat → Nat → Int32} {J J1 J2 : Nat → Nat → Int64} {D D1 D2 : Nat → Nat → UInt64} {v : Int32} {r : Int32} {x1 : Int32} (sc : ScOK v I) (hx1 : I 1000002 (v + 1).toNatClampNeg = x1) (e1 : ex (108, 0, [.ref 0, .int x1, dv], [], mm I J D) = some (.inl (some (.int r)), mm I1 J1 D1)) (q1 : I1 iSCL 0 = I iSCL 0) (q2 : I1 1000002 = I 1000002) (e2 : ex (197, 0, [.ref 316, .int x1, dv, dv, dv], [], mm I1 (upsL J1 335 0 r.toInt64) D1) = some (.inl (some (.int r)), mm I2 J2 D2)) (q3 : I2 316 0 = 0) (q4 : J2 335 0 = r.toInt64) (hi : Inv L (kk + 1) I2 J2 D2) : Turn L kk 1197 v I J D := by
  refine ⟨I2, J2, D2, (e_309_1197 I J D v).trans ?_, hi⟩
  have w : ex (283, 0, [.ref 0, .int x1, .ref 335, dv], [], mm I J D) = some (.inl (some (.int 0)), mm I1 (upsL J1 335 0 r.toInt64) D1) := by
    rw [e_283_0, e1, calH_v, ka]
    show ex (283, 7, [dv, dv, dv, dv], [.int r, .int 0, .ref 335], mm I1 J1 D1) = _
    rw [e_283_7, show inb 0 1 = true by decide, cond_true, e_283_15]
    rfl
  rw [sc1 sc, cond_true, hx1, w, cal_v, ka]
  refine (e_309_1208 I1 _ D1 v 0).trans ?_
  rw [q1, q2, sc1 sc, cond_true, hx1, e2, cal_v, ka]
  refine (e_309_1220 _ _ _ v _ _).trans ?_
  rw [e_155_0, cal_v, ka, q3]
  refine (e_309_1226 _ _ _ v _ _ _).trans ?_
  rw [decide_eq_true rfl, cond_true]
  refine (e_309_1233 _ _ _ v _ _).trans ?_
  rw [decide_eq_false (by decide), cond_false]
  refine (e_309_1238 _ _ _ v _).trans ?_
  rw [q4, decide_eq_true (lgc _), cond_true]
  refine (e_309_1250 _ _ _ v).trans ?_
  exact e_309_3111 _ _ _ v
theorem tc_18_2 : ctc 283 4 2 = some 12 := by decide +kernel
theorem te_18_2 {L kk : Nat} {I I1 I2 : Nat → Nat → Int32} {J J1 J2 : Nat → Nat → Int64} {D D1 D2 : Nat → Nat → UInt64} {v : Int32} {s : Int32} {x1 : Int32} (sc : ScOK v I) (hx1 : I 1000002 (v + 1).toNatClampNeg = x1) (e1 : ex (108, 0, [.ref 0, .int x1, dv], [], mm I J D) = some (.inr (.inl 2), mm I1 J1 D1)) (q1 : I1 iSCL 0 = I iSCL 0) (q2 : I1 1000002 = I 1000002) (e2 : ex (197, 0, [.ref 316, .int x1, dv, dv, dv], [], mm I1 J1 D1) = some (.inl (some (.int s)), mm I2 J2 D2)) (q3 : I2 316 0 = 1) (hi : Inv L (kk + 1) I2 J2 D2) : Turn L kk 1197 v I J D := by
  refine ⟨I2, J2, D2, (e_309_1197 I J D v).trans ?_, hi⟩
  have w : ex (283, 0, [.ref 0, .int x1, .ref 335, dv], [], mm I J D) = some (.inl (some (.int 1)), mm I1 J1 D1) := by
    rw [e_283_0, e1, calH_x tc_18_2]
    exact e_283_12 _ _ _
  rw [sc1 sc, cond_true, hx1, w, cal_v, ka]
  refine (e_309_1208 I1 _ D1 v 1).trans ?_
  rw [q1, q2, sc1 sc, cond_true, hx1, e2, cal_v, ka]
  refine (e_309_1220 _ _ _ v _ _).trans ?_
  rw [e_155_0, cal_v, ka, q3]
  refine (e_309_1226 _ _ _ v _ _ _).trans ?_
  rw [decide_eq_true rfl, cond_true]
  refine (e_309_1233 _ _ _ v _ _).trans ?_
  rw [decide_eq_true (by decide), cond_true]
  refine (e_309_1250 _ _ _ v).trans ?_
  exact e_309_3111 _ _ _ v
theorem tk_19 {L kk : Nat} {I I1 I2 : Nat → Nat → Int32} {J J1 J2 : Nat → Nat → Int64} {D D1 D2 : Nat → Nat → UInt64} {v : Int32} {r : Int32} {x1 : Int32} {x2 : Int32} {x3 : Int32} (sc : ScOK v I) (hx1 : I 1000002 (v + 1).toNatClampNeg = x1) (hx2 : I 1000002 (v + 2).toNatClampNeg = x2) (hx3 : I 1000002 (v + 3).toNatClampNeg = x3) (e1 : ex (109, 0, [.ref 0, .int x1, .int x2, .int x3], [], mm I J D) = some (.inl (some (.int r)), mm I1 J1 D1)) (q1 : I1 iSCL 0 = I iSCL 0) (q2 : I1 1000002 = I 1000002) (e2 : ex (200, 0, [.ref 316, .int x1, .int x2, .int x3, dv], [], mm I1 (upsL J1 335 0 r.toInt64) D1) = some (.inl (some (.int r)), mm I2 J2 D2)) (q3 : I2 316 0 = 0) (q4 : J2 335 0 = r.toInt64) (hi : Inv L (kk + 1) I2 J2 D2) : Turn L kk 1253 v I J D := by
  refine ⟨I2, J2, D2, (e_309_1253 I J D v).trans ?_, hi⟩
  have w : ex (284, 0, [.ref 0, .int x1, .int x2, .int x3, .ref 335, dv], [], mm I J D) = some (.inl (some (.int 0)), mm I1 (upsL J1 335 0 r.toInt64) D1) := by
    rw [e_284_0, e1, calH_v, ka]
    show ex (284, 10, [dv, dv, dv, dv, dv, dv], [.int r, .int 0, .ref 335], mm I1 J1 D1) = _
    rw [e_284_10, show inb 0 1 = true by decide, cond_true, e_284_27]
    rfl
  rw [sc1 sc, sc2 sc, sc3 sc, cond_true, cond_true, cond_true, hx1, hx2, hx3, w, cal_v, ka]
  refine (e_309_1276 I1 _ D1 v 0).trans ?_
  rw [q1, q2, sc1 sc, sc2 sc, sc3 sc, cond_true, cond_true, cond_true, hx1, hx2, hx3, e2, cal_v, ka]
  refine (e_309_1300 _ _ _ v _ _).trans ?_
  rw [e_155_0, cal_v, ka, q3]
  refine (e_309_1306 _ _ _ v _ _ _).trans ?_
  rw [decide_eq_true rfl, cond_true]
  refine (e_309_1313 _ _ _ v _ _).trans ?_
  rw [decide_eq_false (by decide), cond_false]
  refine (e_309_1318 _ _ _ v _).trans ?_
  rw [q4, decide_eq_true (lgc _), cond_true]
  refine (e_309_1330 _ _ _ v).trans ?_
  exact e_309_3111 _ _ _ v
theorem tc_19_2 : ctc 284 7 2 = some 15 := by decide +kernel
theorem te_19_2 {L kk : Nat} {I I1 I2 : Nat → Nat → Int32} {J J1 J2 : Nat → Nat → Int64} {D D1 D2 : Nat → Nat → UInt64} {v : Int32} {s : Int32} {x1 : Int32} {x2 : Int32} {x3 : Int32} (sc : ScOK v I) (hx1 : I 1000002 (v + 1).toNatClampNeg = x1) (hx2 : I 1000002 (v + 2).toNatClampNeg = x2) (hx3 : I 1000002 (v + 3).toNatClampNeg = x3) (e1 : ex (109, 0, [.ref 0, .int x1, .int x2, .int x3], [], mm I J D) = some (.inr (.inl 2), mm I1 J1 D1)) (q1 : I1 iSCL 0 = I iSCL 0) (q2 : I1 1000002 = I 1000002) (e2 : ex (200, 0, [.ref 316, .int x1, .int x2, .int x3, dv], [], mm I1 J1 D1) = some (.inl (some (.int s)), mm I2 J2 D2)) (q3 : I2 316 0 = 1) (hi : Inv L (kk + 1) I2 J2 D2) : Turn L kk 1253 v I J D := by
  refine ⟨I2, J2, D2, (e_309_1253 I J D v).trans ?_, hi⟩
  have w : ex (284, 0, [.ref 0, .int x1, .int x2, .int x3, .ref 335, dv], [], mm I J D) = some (.inl (some (.int 1)), mm I1 J1 D1) := by
    rw [e_284_0, e1, calH_x tc_19_2]
    exact e_284_15 _ _ _
  rw [sc1 sc, sc2 sc, sc3 sc, cond_true, cond_true, cond_true, hx1, hx2, hx3, w, cal_v, ka]
  refine (e_309_1276 I1 _ D1 v 1).trans ?_
  rw [q1, q2, sc1 sc, sc2 sc, sc3 sc, cond_true, cond_true, cond_true, hx1, hx2, hx3, e2, cal_v, ka]
  refine (e_309_1300 _ _ _ v _ _).trans ?_
  rw [e_155_0, cal_v, ka, q3]
  refine (e_309_1306 _ _ _ v _ _ _).trans ?_
  rw [decide_eq_true rfl, cond_true]
  refine (e_309_1313 _ _ _ v _ _).trans ?_
  rw [decide_eq_true (by decide), cond_true]
  refine (e_309_1330 _ _ _ v).trans ?_
  exact e_309_3111 _ _ _ v
theorem tc_19_1 : ctc 284 7 1 = some 19 := by decide +kernel
theorem te_19_1 {L kk : Nat} {I I1 I2 : Nat → Nat → Int32} {J J1 J2 : Nat → Nat → Int64} {D D1 D2 : Nat → Nat → UInt64} {v : Int32} {s : Int32} {x1 : Int32} {x2 : Int32} {x3 : Int32} (sc : ScOK v I) (hx1 : I 1000002 (v + 1).toNatClampNeg = x1) (hx2 : I 1000002 (v + 2).toNatClampNeg = x2) (hx3 : I 1000002 (v + 3).toNatClampNeg = x3) (e1 : ex (109, 0, [.ref 0, .int x1, .int x2, .int x3], [], mm I J D) = some (.inr (.inl 1), mm I1 J1 D1)) (q1 : I1 iSCL 0 = I iSCL 0) (q2 : I1 1000002 = I 1000002) (e2 : ex (200, 0, [.ref 316, .int x1, .int x2, .int x3, dv], [], mm I1 J1 D1) = some (.inl (some (.int s)), mm I2 J2 D2)) (q3 : I2 316 0 = 2) (hi : Inv L (kk + 1) I2 J2 D2) : Turn L kk 1253 v I J D := by
  refine ⟨I2, J2, D2, (e_309_1253 I J D v).trans ?_, hi⟩
  have w : ex (284, 0, [.ref 0, .int x1, .int x2, .int x3, .ref 335, dv], [], mm I J D) = some (.inl (some (.int 2)), mm I1 J1 D1) := by
    rw [e_284_0, e1, calH_x tc_19_1]
    exact e_284_19 _ _ _
  rw [sc1 sc, sc2 sc, sc3 sc, cond_true, cond_true, cond_true, hx1, hx2, hx3, w, cal_v, ka]
  refine (e_309_1276 I1 _ D1 v 2).trans ?_
  rw [q1, q2, sc1 sc, sc2 sc, sc3 sc, cond_true, cond_true, cond_true, hx1, hx2, hx3, e2, cal_v, ka]
  refine (e_309_1300 _ _ _ v _ _).trans ?_
  rw [e_155_0, cal_v, ka, q3]
  refine (e_309_1306 _ _ _ v _ _ _).trans ?_
  rw [decide_eq_true rfl, cond_true]
  refine (e_309_1313 _ _ _ v _ _).trans ?_
  rw [decide_eq_true (by decide), cond_true]
  refine (e_309_1330 _ _ _ v).trans ?_
  exact e_309_3111 _ _ _ v
theorem tc_19_0 : ctc 284 7 0 = some 23 := by decide +kernel
theorem te_19_0 {L kk : Nat} {I I1 I2 : Nat → Nat → Int32} {J J1 J2 : Nat → Nat → Int64} {D D1 D2 : Nat → Nat → UInt64} {v : Int32} {s : Int32} {x1 : Int32} {x2 : Int32} {x3 : Int32} (sc : ScOK v I) (hx1 : I 1000002 (v + 1).toNatClampNeg = x1) (hx2 : I 1000002 (v + 2).toNatClampNeg = x2) (hx3 : I 1000002 (v + 3).toNatClampNeg = x3) (e1 : ex (109, 0, [.ref 0, .int x1, .int x2, .int x3], [], mm I J D) = some (.inr (.inl 0), mm I1 J1 D1)) (q1 : I1 iSCL 0 = I iSCL 0) (q2 : I1 1000002 = I 1000002) (e2 : ex (200, 0, [.ref 316, .int x1, .int x2, .int x3, dv], [], mm I1 J1 D1) = some (.inl (some (.int s)), mm I2 J2 D2)) (q3 : I2 316 0 = 3) (hi : Inv L (kk + 1) I2 J2 D2) : Turn L kk 1253 v I J D := by
  refine ⟨I2, J2, D2, (e_309_1253 I J D v).trans ?_, hi⟩
  have w : ex (284, 0, [.ref 0, .int x1, .int x2, .int x3, .ref 335, dv], [], mm I J D) = some (.inl (some (.int 3)), mm I1 J1 D1) := by
    rw [e_284_0, e1, calH_x tc_19_0]
    exact e_284_23 _ _ _
  rw [sc1 sc, sc2 sc, sc3 sc, cond_true, cond_true, cond_true, hx1, hx2, hx3, w, cal_v, ka]
  refine (e_309_1276 I1 _ D1 v 3).trans ?_
  rw [q1, q2, sc1 sc, sc2 sc, sc3 sc, cond_true, cond_true, cond_true, hx1, hx2, hx3, e2, cal_v, ka]
  refine (e_309_1300 _ _ _ v _ _).trans ?_
  rw [e_155_0, cal_v, ka, q3]
  refine (e_309_1306 _ _ _ v _ _ _).trans ?_
  rw [decide_eq_true rfl, cond_true]
  refine (e_309_1313 _ _ _ v _ _).trans ?_
  rw [decide_eq_true (by decide), cond_true]
  refine (e_309_1330 _ _ _ v).trans ?_
  exact e_309_3111 _ _ _ v
theorem tk_20 {L kk : Nat} {I I1 I2 : Nat → Nat → Int32} {J J1 J2 : Nat → Nat → Int64} {D D1 D2 : Nat → Nat → UInt64} {v : Int32} {r : Int32} {x1 : Int32} {x2 : Int32} {x3 : Int32} (sc : ScOK v I) (hx1 : I 1000002 (v + 1).toNatClampNeg = x1) (hx2 : I 1000002 (v + 2).toNatClampNeg = x2) (hx3 : I 1000002 (v + 3).toNatClampNeg = x3) (e1 : ex (110, 0, [.ref 0, .int x1, .int x2, .int x3, dv], [], mm I J D) = some (.inl (some (.int r)), mm I1 J1 D1)) (q1 : I1 iSCL 0 = I iSCL 0) (q2 : I1 1000002 = I 1000002) (e2 : ex (201, 0, [.ref 316, .int x1, .int x2, .int x3, dv], [], mm I1 (upsL J1 335 0 r.toInt64) D1) = some (.inl (some (.int r)), mm I2 J2 D2)) (q3 : I2 316 0 = 0) (q4 : J2 335 0 = r.toInt64) (hi : Inv L (kk + 1) I2 J2 D2) : Turn L kk 1333 v I J D := by
  refine ⟨I2, J2, D2, (e_309_1333 I J D v).trans ?_, hi⟩
  have w : ex (285, 0, [.ref 0, .int x1, .int x2, .int x3, .ref 335, dv], [], mm I J D) = some (.inl (some (.int 0)), mm I1 (upsL J1 335 0 r.toInt64) D1) := by
    rw [e_285_0, e1, calH_v, ka]
    show ex (285, 10, [dv, dv, dv, dv, dv, dv], [.int r, .int 0, .ref 335], mm I1 J1 D1) = _
    rw [e_285_10, show inb 0 1 = true by decide, cond_true, e_285_19]
    rfl
  rw [sc1 sc, sc2 sc, sc3 sc, cond_true, cond_true, cond_true, hx1, hx2, hx3, w, cal_v, ka]
  refine (e_309_1356 I1 _ D1 v 0).trans ?_
  rw [q1, q2, sc1 sc, sc2 sc, sc3 sc, cond_true, cond_true, cond_true, hx1, hx2, hx3, e2, cal_v, ka]
  refine (e_309_1380 _ _ _ v _ _).trans ?_
  rw [e_155_0, cal_v, ka, q3]
  refine (e_309_1386 _ _ _ v _ _ _).trans ?_
  rw [decide_eq_true rfl, cond_true]
  refine (e_309_1393 _ _ _ v _ _).trans ?_
  rw [decide_eq_false (by decide), cond_false]
  refine (e_309_1398 _ _ _ v _).trans ?_
  rw [q4, decide_eq_true (lgc _), cond_true]
  refine (e_309_1410 _ _ _ v).trans ?_
  exact e_309_3111 _ _ _ v
theorem tc_20_1 : ctc 285 7 1 = some 15 := by decide +kernel
theorem te_20_1 {L kk : Nat} {I I1 I2 : Nat → Nat → Int32} {J J1 J2 : Nat → Nat → Int64} {D D1 D2 : Nat → Nat → UInt64} {v : Int32} {s : Int32} {x1 : Int32} {x2 : Int32} {x3 : Int32} (sc : ScOK v I) (hx1 : I 1000002 (v + 1).toNatClampNeg = x1) (hx2 : I 1000002 (v + 2).toNatClampNeg = x2) (hx3 : I 1000002 (v + 3).toNatClampNeg = x3) (e1 : ex (110, 0, [.ref 0, .int x1, .int x2, .int x3, dv], [], mm I J D) = some (.inr (.inl 1), mm I1 J1 D1)) (q1 : I1 iSCL 0 = I iSCL 0) (q2 : I1 1000002 = I 1000002) (e2 : ex (201, 0, [.ref 316, .int x1, .int x2, .int x3, dv], [], mm I1 J1 D1) = some (.inl (some (.int s)), mm I2 J2 D2)) (q3 : I2 316 0 = 1) (hi : Inv L (kk + 1) I2 J2 D2) : Turn L kk 1333 v I J D := by
  refine ⟨I2, J2, D2, (e_309_1333 I J D v).trans ?_, hi⟩
  have w : ex (285, 0, [.ref 0, .int x1, .int x2, .int x3, .ref 335, dv], [], mm I J D) = some (.inl (some (.int 1)), mm I1 J1 D1) := by
    rw [e_285_0, e1, calH_x tc_20_1]
    exact e_285_15 _ _ _
  rw [sc1 sc, sc2 sc, sc3 sc, cond_true, cond_true, cond_true, hx1, hx2, hx3, w, cal_v, ka]
  refine (e_309_1356 I1 _ D1 v 1).trans ?_
  rw [q1, q2, sc1 sc, sc2 sc, sc3 sc, cond_true, cond_true, cond_true, hx1, hx2, hx3, e2, cal_v, ka]
  refine (e_309_1380 _ _ _ v _ _).trans ?_
  rw [e_155_0, cal_v, ka, q3]
  refine (e_309_1386 _ _ _ v _ _ _).trans ?_
  rw [decide_eq_true rfl, cond_true]
  refine (e_309_1393 _ _ _ v _ _).trans ?_
  rw [decide_eq_true (by decide), cond_true]
  refine (e_309_1410 _ _ _ v).trans ?_
  exact e_309_3111 _ _ _ v
theorem tk_21 {L kk : Nat} {I I1 I2 : Nat → Nat → Int32} {J J1 J2 : Nat → Nat → Int64} {D D1 D2 : Nat → Nat → UInt64} {v : Int32} {r : Int32} {x1 : Int32} {x2 : Int32} (sc : ScOK v I) (hx1 : I 1000002 (v + 1).toNatClampNeg = x1) (hx2 : I 1000002 (v + 2).toNatClampNeg = x2) (e1 : ex (111, 0, [.ref 0, .int x1, .int x2], [], mm I J D) = some (.inl (some (.int r)), mm I1 J1 D1)) (q1 : I1 iSCL 0 = I iSCL 0) (q2 : I1 1000002 = I 1000002) (e2 : ex (205, 0, [.ref 316, .int x1, .int x2], [], mm I1 (upsL J1 335 0 r.toInt64) D1) = some (.inl (some (.int r)), mm I2 J2 D2)) (q3 : I2 316 0 = 0) (q4 : J2 335 0 = r.toInt64) (hi : Inv L (kk + 1) I2 J2 D2) : Turn L kk 1413 v I J D := by
  refine ⟨I2, J2, D2, (e_309_1413 I J D v).trans ?_, hi⟩
  have w : ex (286, 0, [.ref 0, .int x1, .int x2, .ref 335, dv], [], mm I J D) = some (.inl (some (.int 0)), mm I1 (upsL J1 335 0 r.toInt64) D1) := by
    rw [e_286_0, e1, calH_v, ka]
    show ex (286, 8, [dv, dv, dv, dv, dv], [.int r, .int 0, .ref 335], mm I1 J1 D1) = _
    rw [e_286_8, show inb 0 1 = true by decide, cond_true, e_286_21]
    rfl
  rw [sc1 sc, sc2 sc, cond_true, cond_true, hx1, hx2, w, cal_v, ka]
  refine (e_309_1430 I1 _ D1 v 0).trans ?_
  rw [q1, q2, sc1 sc, sc2 sc, cond_true, cond_true, hx1, hx2, e2, cal_v, ka]
  refine (e_309_1448 _ _ _ v _ _).trans ?_
  rw [e_155_0, cal_v, ka, q3]
  refine (e_309_1454 _ _ _ v _ _ _).trans ?_
  rw [decide_eq_true rfl, cond_true]
  refine (e_309_1461 _ _ _ v _ _).trans ?_
  rw [decide_eq_false (by decide), cond_false]
  refine (e_309_1466 _ _ _ v _).trans ?_
  rw [q4, decide_eq_true (lgc _), cond_true]
  refine (e_309_1478 _ _ _ v).trans ?_
  exact e_309_3111 _ _ _ v
theorem tc_21_2 : ctc 286 5 2 = some 13 := by decide +kernel
theorem te_21_2 {L kk : Nat} {I I1 I2 : Nat → Nat → Int32} {J J1 J2 : Nat → Nat → Int64} {D D1 D2 : Nat → Nat → UInt64} {v : Int32} {s : Int32} {x1 : Int32} {x2 : Int32} (sc : ScOK v I) (hx1 : I 1000002 (v + 1).toNatClampNeg = x1) (hx2 : I 1000002 (v + 2).toNatClampNeg = x2) (e1 : ex (111, 0, [.ref 0, .int x1, .int x2], [], mm I J D) = some (.inr (.inl 2), mm I1 J1 D1)) (q1 : I1 iSCL 0 = I iSCL 0) (q2 : I1 1000002 = I 1000002) (e2 : ex (205, 0, [.ref 316, .int x1, .int x2], [], mm I1 J1 D1) = some (.inl (some (.int s)), mm I2 J2 D2)) (q3 : I2 316 0 = 1) (hi : Inv L (kk + 1) I2 J2 D2) : Turn L kk 1413 v I J D := by
  refine ⟨I2, J2, D2, (e_309_1413 I J D v).trans ?_, hi⟩
  have w : ex (286, 0, [.ref 0, .int x1, .int x2, .ref 335, dv], [], mm I J D) = some (.inl (some (.int 1)), mm I1 J1 D1) := by
    rw [e_286_0, e1, calH_x tc_21_2]
    exact e_286_13 _ _ _
  rw [sc1 sc, sc2 sc, cond_true, cond_true, hx1, hx2, w, cal_v, ka]
  refine (e_309_1430 I1 _ D1 v 1).trans ?_
  rw [q1, q2, sc1 sc, sc2 sc, cond_true, cond_true, hx1, hx2, e2, cal_v, ka]
  refine (e_309_1448 _ _ _ v _ _).trans ?_
  rw [e_155_0, cal_v, ka, q3]
  refine (e_309_1454 _ _ _ v _ _ _).trans ?_
  rw [decide_eq_true rfl, cond_true]
  refine (e_309_1461 _ _ _ v _ _).trans ?_
  rw [decide_eq_true (by decide), cond_true]
  refine (e_309_1478 _ _ _ v).trans ?_
  exact e_309_3111 _ _ _ v
theorem tc_21_0 : ctc 286 5 0 = some 17 := by decide +kernel
theorem te_21_0 {L kk : Nat} {I I1 I2 : Nat → Nat → Int32} {J J1 J2 : Nat → Nat → Int64} {D D1 D2 : Nat → Nat → UInt64} {v : Int32} {s : Int32} {x1 : Int32} {x2 : Int32} (sc : ScOK v I) (hx1 : I 1000002 (v + 1).toNatClampNeg = x1) (hx2 : I 1000002 (v + 2).toNatClampNeg = x2) (e1 : ex (111, 0, [.ref 0, .int x1, .int x2], [], mm I J D) = some (.inr (.inl 0), mm I1 J1 D1)) (q1 : I1 iSCL 0 = I iSCL 0) (q2 : I1 1000002 = I 1000002) (e2 : ex (205, 0, [.ref 316, .int x1, .int x2], [], mm I1 J1 D1) = some (.inl (some (.int s)), mm I2 J2 D2)) (q3 : I2 316 0 = 2) (hi : Inv L (kk + 1) I2 J2 D2) : Turn L kk 1413 v I J D := by
  refine ⟨I2, J2, D2, (e_309_1413 I J D v).trans ?_, hi⟩
  have w : ex (286, 0, [.ref 0, .int x1, .int x2, .ref 335, dv], [], mm I J D) = some (.inl (some (.int 2)), mm I1 J1 D1) := by
    rw [e_286_0, e1, calH_x tc_21_0]
    exact e_286_17 _ _ _
  rw [sc1 sc, sc2 sc, cond_true, cond_true, hx1, hx2, w, cal_v, ka]
  refine (e_309_1430 I1 _ D1 v 2).trans ?_
  rw [q1, q2, sc1 sc, sc2 sc, cond_true, cond_true, hx1, hx2, e2, cal_v, ka]
  refine (e_309_1448 _ _ _ v _ _).trans ?_
  rw [e_155_0, cal_v, ka, q3]
  refine (e_309_1454 _ _ _ v _ _ _).trans ?_
  rw [decide_eq_true rfl, cond_true]
  refine (e_309_1461 _ _ _ v _ _).trans ?_
  rw [decide_eq_true (by decide), cond_true]
  refine (e_309_1478 _ _ _ v).trans ?_
  exact e_309_3111 _ _ _ v
theorem tk_22 {L kk : Nat} {I I1 I2 : Nat → Nat → Int32} {J J1 J2 : Nat → Nat → Int64} {D D1 D2 : Nat → Nat → UInt64} {v : Int32} {r : Int32} {x1 : Int32} {x2 : Int32} (sc : ScOK v I) (hx1 : I 1000002 (v + 1).toNatClampNeg = x1) (hx2 : I 1000002 (v + 2).toNatClampNeg = x2) (e1 : ex (112, 0, [.ref 0, .int x1, .int x2, dv], [], mm I J D) = some (.inl (some (.int r)), mm I1 J1 D1)) (q1 : I1 iSCL 0 = I iSCL 0) (q2 : I1 1000002 = I 1000002) (e2 : ex (206, 0, [.ref 316, .int x1, .int x2, dv], [], mm I1 (upsL J1 335 0 r.toInt64) D1) = some (.inl (some (.int r)), mm I2 J2 D2)) (q3 : I2 316 0 = 0) (q4 : J2 335 0 = r.toInt64) (hi : Inv L (kk + 1) I2 J2 D2) : Turn L kk 1481 v I J D := by
  refine ⟨I2, J2, D2, (e_309_1481 I J D v).trans ?_, hi⟩
  have w : ex (287, 0, [.ref 0, .int x1, .int x2, .ref 335, dv], [], mm I J D) = some (.inl (some (.int 0)), mm I1 (upsL J1 335 0 r.toInt64) D1) := by
    rw [e_287_0, e1, calH_v, ka]
    show ex (287, 8, [dv, dv, dv, dv, dv], [.int r, .int 0, .ref 335], mm I1 J1 D1) = _
    rw [e_287_8, show inb 0 1 = true by decide, cond_true, e_287_21]
    rfl
  rw [sc1 sc, sc2 sc, cond_true, cond_true, hx1, hx2, w, cal_v, ka]
  refine (e_309_1498 I1 _ D1 v 0).trans ?_
  rw [q1, q2, sc1 sc, sc2 sc, cond_true, cond_true, hx1, hx2, e2, cal_v, ka]
  refine (e_309_1516 _ _ _ v _ _).trans ?_
  rw [e_155_0, cal_v, ka, q3]
  refine (e_309_1522 _ _ _ v _ _ _).trans ?_
  rw [decide_eq_true rfl, cond_true]
  refine (e_309_1529 _ _ _ v _ _).trans ?_
  rw [decide_eq_false (by decide), cond_false]
  refine (e_309_1534 _ _ _ v _).trans ?_
  rw [q4, decide_eq_true (lgc _), cond_true]
  refine (e_309_1546 _ _ _ v).trans ?_
  exact e_309_3111 _ _ _ v
theorem tc_22_2 : ctc 287 5 2 = some 13 := by decide +kernel
theorem te_22_2 {L kk : Nat} {I I1 I2 : Nat → Nat → Int32} {J J1 J2 : Nat → Nat → Int64} {D D1 D2 : Nat → Nat → UInt64} {v : Int32} {s : Int32} {x1 : Int32} {x2 : Int32} (sc : ScOK v I) (hx1 : I 1000002 (v + 1).toNatClampNeg = x1) (hx2 : I 1000002 (v + 2).toNatClampNeg = x2) (e1 : ex (112, 0, [.ref 0, .int x1, .int x2, dv], [], mm I J D) = some (.inr (.inl 2), mm I1 J1 D1)) (q1 : I1 iSCL 0 = I iSCL 0) (q2 : I1 1000002 = I 1000002) (e2 : ex (206, 0, [.ref 316, .int x1, .int x2, dv], [], mm I1 J1 D1) = some (.inl (some (.int s)), mm I2 J2 D2)) (q3 : I2 316 0 = 1) (hi : Inv L (kk + 1) I2 J2 D2) : Turn L kk 1481 v I J D := by
  refine ⟨I2, J2, D2, (e_309_1481 I J D v).trans ?_, hi⟩
  have w : ex (287, 0, [.ref 0, .int x1, .int x2, .ref 335, dv], [], mm I J D) = some (.inl (some (.int 1)), mm I1 J1 D1) := by
    rw [e_287_0, e1, calH_x tc_22_2]
    exact e_287_13 _ _ _
  rw [sc1 sc, sc2 sc, cond_true, cond_true, hx1, hx2, w, cal_v, ka]
  refine (e_309_1498 I1 _ D1 v 1).trans ?_
  rw [q1, q2, sc1 sc, sc2 sc, cond_true, cond_true, hx1, hx2, e2, cal_v, ka]
  refine (e_309_1516 _ _ _ v _ _).trans ?_
  rw [e_155_0, cal_v, ka, q3]
  refine (e_309_1522 _ _ _ v _ _ _).trans ?_
  rw [decide_eq_true rfl, cond_true]
  refine (e_309_1529 _ _ _ v _ _).trans ?_
  rw [decide_eq_true (by decide), cond_true]
  refine (e_309_1546 _ _ _ v).trans ?_
  exact e_309_3111 _ _ _ v
theorem tc_22_3 : ctc 287 5 3 = some 17 := by decide +kernel
theorem te_22_3 {L kk : Nat} {I I1 I2 : Nat → Nat → Int32} {J J1 J2 : Nat → Nat → Int64} {D D1 D2 : Nat → Nat → UInt64} {v : Int32} {s : Int32} {x1 : Int32} {x2 : Int32} (sc : ScOK v I) (hx1 : I 1000002 (v + 1).toNatClampNeg = x1) (hx2 : I 1000002 (v + 2).toNatClampNeg = x2) (e1 : ex (112, 0, [.ref 0, .int x1, .int x2, dv], [], mm I J D) = some (.inr (.inl 3), mm I1 J1 D1)) (q1 : I1 iSCL 0 = I iSCL 0) (q2 : I1 1000002 = I 1000002) (e2 : ex (206, 0, [.ref 316, .int x1, .int x2, dv], [], mm I1 J1 D1) = some (.inl (some (.int s)), mm I2 J2 D2)) (q3 : I2 316 0 = 2) (hi : Inv L (kk + 1) I2 J2 D2) : Turn L kk 1481 v I J D := by
  refine ⟨I2, J2, D2, (e_309_1481 I J D v).trans ?_, hi⟩
  have w : ex (287, 0, [.ref 0, .int x1, .int x2, .ref 335, dv], [], mm I J D) = some (.inl (some (.int 2)), mm I1 J1 D1) := by
    rw [e_287_0, e1, calH_x tc_22_3]
    exact e_287_17 _ _ _
  rw [sc1 sc, sc2 sc, cond_true, cond_true, hx1, hx2, w, cal_v, ka]
  refine (e_309_1498 I1 _ D1 v 2).trans ?_
  rw [q1, q2, sc1 sc, sc2 sc, cond_true, cond_true, hx1, hx2, e2, cal_v, ka]
  refine (e_309_1516 _ _ _ v _ _).trans ?_
  rw [e_155_0, cal_v, ka, q3]
  refine (e_309_1522 _ _ _ v _ _ _).trans ?_
  rw [decide_eq_true rfl, cond_true]
  refine (e_309_1529 _ _ _ v _ _).trans ?_
  rw [decide_eq_true (by decide), cond_true]
  refine (e_309_1546 _ _ _ v).trans ?_
  exact e_309_3111 _ _ _ v
theorem tk_23 {L kk : Nat} {I I1 I2 : Nat → Nat → Int32} {J J1 J2 : Nat → Nat → Int64} {D D1 D2 : Nat → Nat → UInt64} {v : Int32} {r : Int32} {x1 : Int32} (sc : ScOK v I) (hx1 : I 1000002 (v + 1).toNatClampNeg = x1) (e1 : ex (113, 0, [.ref 0, .int x1], [], mm I J D) = some (.inl (some (.int r)), mm I1 J1 D1)) (q1 : I1 iSCL 0 = I iSCL 0) (q2 : I1 1000002 = I 1000002) (e2 : ex (207, 0, [.ref 316, .int x1], [], mm I1 (upsL J1 335 0 r.toInt64) D1) = some (.inl (some (.int r)), mm I2 J2 D2)) (q3 : I2 316 0 = 0) (q4 : J2 335 0 = r.toInt64) (hi : Inv L (kk + 1) I2 J2 D2) : Turn L kk 1549 v I J D := by
  refine ⟨I2, J2, D2, (e_309_1549 I J D v).trans ?_, hi⟩
  have w : ex (288, 0, [.ref 0, .int x1, .ref 335, dv], [], mm I J D) = some (.inl (some (.int 0)), mm I1 (upsL J1 335 0 r.toInt64) D1) := by
    rw [e_288_0, e1, calH_v, ka]
    show ex (288, 7, [dv, dv, dv, dv], [.int r, .int 0, .ref 335], mm I1 J1 D1) = _
    rw [e_288_7, show inb 0 1 = true by decide, cond_true, e_288_15]
    rfl
  rw [sc1 sc, cond_true, hx1, w, cal_v, ka]
  refine (e_309_1560 I1 _ D1 v 0).trans ?_
  rw [q1, q2, sc1 sc, cond_true, hx1, e2, cal_v, ka]
  refine (e_309_1572 _ _ _ v _ _).trans ?_
  rw [e_155_0, cal_v, ka, q3]
  refine (e_309_1578 _ _ _ v _ _ _).trans ?_
  rw [decide_eq_true rfl, cond_true]
  refine (e_309_1585 _ _ _ v _ _).trans ?_
  rw [decide_eq_false (by decide), cond_false]
  refine (e_309_1590 _ _ _ v _).trans ?_
  rw [q4, decide_eq_true (lgc _), cond_true]
  refine (e_309_1602 _ _ _ v).trans ?_
  exact e_309_3111 _ _ _ v
theorem tc_23_2 : ctc 288 4 2 = some 12 := by decide +kernel
theorem te_23_2 {L kk : Nat} {I I1 I2 : Nat → Nat → Int32} {J J1 J2 : Nat → Nat → Int64} {D D1 D2 : Nat → Nat → UInt64} {v : Int32} {s : Int32} {x1 : Int32} (sc : ScOK v I) (hx1 : I 1000002 (v + 1).toNatClampNeg = x1) (e1 : ex (113, 0, [.ref 0, .int x1], [], mm I J D) = some (.inr (.inl 2), mm I1 J1 D1)) (q1 : I1 iSCL 0 = I iSCL 0) (q2 : I1 1000002 = I 1000002) (e2 : ex (207, 0, [.ref 316, .int x1], [], mm I1 J1 D1) = some (.inl (some (.int s)), mm I2 J2 D2)) (q3 : I2 316 0 = 1) (hi : Inv L (kk + 1) I2 J2 D2) : Turn L kk 1549 v I J D := by
  refine ⟨I2, J2, D2, (e_309_1549 I J D v).trans ?_, hi⟩
  have w : ex (288, 0, [.ref 0, .int x1, .ref 335, dv], [], mm I J D) = some (.inl (some (.int 1)), mm I1 J1 D1) := by
    rw [e_288_0, e1, calH_x tc_23_2]
    exact e_288_12 _ _ _
  rw [sc1 sc, cond_true, hx1, w, cal_v, ka]
  refine (e_309_1560 I1 _ D1 v 1).trans ?_
  rw [q1, q2, sc1 sc, cond_true, hx1, e2, cal_v, ka]
  refine (e_309_1572 _ _ _ v _ _).trans ?_
  rw [e_155_0, cal_v, ka, q3]
  refine (e_309_1578 _ _ _ v _ _ _).trans ?_
  rw [decide_eq_true rfl, cond_true]
  refine (e_309_1585 _ _ _ v _ _).trans ?_
  rw [decide_eq_true (by decide), cond_true]
  refine (e_309_1602 _ _ _ v).trans ?_
  exact e_309_3111 _ _ _ v
theorem tq_24 {L kk : Nat} {I I1 I2 : Nat → Nat → Int32} {J J1 J2 : Nat → Nat → Int64} {D D1 D2 : Nat → Nat → UInt64} {v : Int32} {r : Int32} (e1 : ex (114, 0, [.ref 0], [], mm I J D) = some (.inl (some (.int r)), mm I1 J1 D1)) (e2 : ex (217, 0, [.ref 316], [], mm I1 J1 D1) = some (.inl (some (.int r)), mm I2 J2 D2)) (hi : Inv L (kk + 1) I2 J2 D2) : Turn L kk 1605 v I J D := by
  refine ⟨I2, J2, D2, (e_309_1605 I J D v).trans ?_, hi⟩
  rw [e1, cal_v, ka]
  refine (e_309_1609 _ _ _ v _).trans ?_
  rw [e2, cal_v, ka]
  refine (e_309_1613 _ _ _ v _ _).trans ?_
  rw [decide_eq_true rfl, cond_true]
  exact e_309_3111 _ _ _ v
theorem tq_25 {L kk : Nat} {I I1 I2 : Nat → Nat → Int32} {J J1 J2 : Nat → Nat → Int64} {D D1 D2 : Nat → Nat → UInt64} {v : Int32} {r : Int64} (e1 : ex (115, 0, [.ref 0], [], mm I J D) = some (.inl (some (.long r)), mm I1 J1 D1)) (e2 : ex (218, 0, [.ref 316], [], mm I1 J1 D1) = some (.inl (some (.long r)), mm I2 J2 D2)) (hi : Inv L (kk + 1) I2 J2 D2) : Turn L kk 1618 v I J D := by
  refine ⟨I2, J2, D2, (e_309_1618 I J D v).trans ?_, hi⟩
  rw [e1, cal_v, show (some (Value.long r)).toList ++ [] = [.long r] from rfl]
  refine (e_309_1622 _ _ _ v _).trans ?_
  rw [e2, cal_v, show (some (Value.long r)).toList ++ [.long r] = [.long r, .long r] from rfl]
  refine (e_309_1626 _ _ _ v _ _).trans ?_
  rw [decide_eq_true (lgc _), cond_true]
  exact e_309_3111 _ _ _ v
theorem tk_26 {L kk : Nat} {I I1 I2 : Nat → Nat → Int32} {J J1 J2 : Nat → Nat → Int64} {D D1 D2 : Nat → Nat → UInt64} {v : Int32} {r : Int32} {x1 : Int32} {x2 : Int32} (sc : ScOK v I) (hx1 : I 1000002 (v + 1).toNatClampNeg = x1) (hx2 : I 1000002 (v + 2).toNatClampNeg = x2) (e1 : ex (116, 0, [.ref 0, .int x1, .int x2], [], mm I J D) = some (.inl (some (.int r)), mm I1 J1 D1)) (q1 : I1 iSCL 0 = I iSCL 0) (q2 : I1 1000002 = I 1000002) (e2 : ex (220, 0, [.ref 316, .int x1, .int x2], [], mm I1 (upsL J1 335 0 r.toInt64) D1) = some (.inl (some (.int r)), mm I2 J2 D2)) (q3 : I2 316 0 = 0) (q4 : J2 335 0 = r.toInt64) (hi : Inv L (kk + 1) I2 J2 D2) : Turn L kk 1632 v I J D := by
  refine ⟨I2, J2, D2, (e_309_1632 I J D v).trans ?_, hi⟩
  have w : ex (289, 0, [.ref 0, .int x1, .int x2, .ref 335, dv], [], mm I J D) = some (.inl (some (.int 0)), mm I1 (upsL J1 335 0 r.toInt64) D1) := by
    rw [e_289_0, e1, calH_v, ka]
    show ex (289, 8, [dv, dv, dv, dv, dv], [.int r, .int 0, .ref 335], mm I1 J1 D1) = _
    rw [e_289_8, show inb 0 1 = true by decide, cond_true, e_289_17]
    rfl
  rw [sc1 sc, sc2 sc, cond_true, cond_true, hx1, hx2, w, cal_v, ka]
  refine (e_309_1649 I1 _ D1 v 0).trans ?_
  rw [q1, q2, sc1 sc, sc2 sc, cond_true, cond_true, hx1, hx2, e2, cal_v, ka]
  refine (e_309_1667 _ _ _ v _ _).trans ?_
  rw [e_155_0, cal_v, ka, q3]
  refine (e_309_1673 _ _ _ v _ _ _).trans ?_
  rw [decide_eq_true rfl, cond_true]
  refine (e_309_1680 _ _ _ v _ _).trans ?_
  rw [decide_eq_false (by decide), cond_false]
  refine (e_309_1685 _ _ _ v _).trans ?_
  rw [q4, decide_eq_true (lgc _), cond_true]
  refine (e_309_1697 _ _ _ v).trans ?_
  exact e_309_3111 _ _ _ v
theorem tc_26_2 : ctc 289 5 2 = some 13 := by decide +kernel
theorem te_26_2 {L kk : Nat} {I I1 I2 : Nat → Nat → Int32} {J J1 J2 : Nat → Nat → Int64} {D D1 D2 : Nat → Nat → UInt64} {v : Int32} {s : Int32} {x1 : Int32} {x2 : Int32} (sc : ScOK v I) (hx1 : I 1000002 (v + 1).toNatClampNeg = x1) (hx2 : I 1000002 (v + 2).toNatClampNeg = x2) (e1 : ex (116, 0, [.ref 0, .int x1, .int x2], [], mm I J D) = some (.inr (.inl 2), mm I1 J1 D1)) (q1 : I1 iSCL 0 = I iSCL 0) (q2 : I1 1000002 = I 1000002) (e2 : ex (220, 0, [.ref 316, .int x1, .int x2], [], mm I1 J1 D1) = some (.inl (some (.int s)), mm I2 J2 D2)) (q3 : I2 316 0 = 1) (hi : Inv L (kk + 1) I2 J2 D2) : Turn L kk 1632 v I J D := by
  refine ⟨I2, J2, D2, (e_309_1632 I J D v).trans ?_, hi⟩
  have w : ex (289, 0, [.ref 0, .int x1, .int x2, .ref 335, dv], [], mm I J D) = some (.inl (some (.int 1)), mm I1 J1 D1) := by
    rw [e_289_0, e1, calH_x tc_26_2]
    exact e_289_13 _ _ _
  rw [sc1 sc, sc2 sc, cond_true, cond_true, hx1, hx2, w, cal_v, ka]
  refine (e_309_1649 I1 _ D1 v 1).trans ?_
  rw [q1, q2, sc1 sc, sc2 sc, cond_true, cond_true, hx1, hx2, e2, cal_v, ka]
  refine (e_309_1667 _ _ _ v _ _).trans ?_
  rw [e_155_0, cal_v, ka, q3]
  refine (e_309_1673 _ _ _ v _ _ _).trans ?_
  rw [decide_eq_true rfl, cond_true]
  refine (e_309_1680 _ _ _ v _ _).trans ?_
  rw [decide_eq_true (by decide), cond_true]
  refine (e_309_1697 _ _ _ v).trans ?_
  exact e_309_3111 _ _ _ v
theorem tk_27 {L kk : Nat} {I I1 I2 : Nat → Nat → Int32} {J J1 J2 : Nat → Nat → Int64} {D D1 D2 : Nat → Nat → UInt64} {v : Int32} {r : Bool} {x1 : Int32} {x2 : Int32} (sc : ScOK v I) (hx1 : I 1000002 (v + 1).toNatClampNeg = x1) (hx2 : I 1000002 (v + 2).toNatClampNeg = x2) (e1 : ex (117, 0, [.ref 0, .int x1, .int x2, dv], [], mm I J D) = some (.inl (some (.int (bI r))), mm I1 J1 D1)) (q1 : I1 iSCL 0 = I iSCL 0) (q2 : I1 1000002 = I 1000002) (e2 : ex (221, 0, [.ref 316, .int x1, .int x2, dv], [], mm I1 (upsL J1 335 0 (bI r).toInt64) D1) = some (.inl (some (.int (bI r))), mm I2 J2 D2)) (q3 : I2 316 0 = 0) (q4 : J2 335 0 = (bI r).toInt64) (hi : Inv L (kk + 1) I2 J2 D2) : Turn L kk 1700 v I J D := by
  refine ⟨I2, J2, D2, (e_309_1700 I J D v).trans ?_, hi⟩
  have w : ex (290, 0, [.ref 0, .int x1, .int x2, .ref 335, dv], [], mm I J D) = some (.inl (some (.int 0)), mm I1 (upsL J1 335 0 (bI r).toInt64) D1) := by
    rw [e_290_0, e1, calH_v, ka]
    show ex (290, 8, [dv, dv, dv, dv, dv], [.int (bI r), .int 0, .ref 335], mm I1 J1 D1) = _
    cases r with
    | false =>
      rw [e_290_8, decide_eq_true (show bI false = 0 from rfl), cond_true, e_290_15, e_290_16, show inb 0 1 = true by decide, cond_true, e_290_24]
      rfl
    | true =>
      rw [e_290_8, decide_eq_false (show ¬ bI true = 0 by decide), cond_false, e_290_11, e_290_16, show inb 0 1 = true by decide, cond_true, e_290_24]
      rfl
  rw [sc1 sc, sc2 sc, cond_true, cond_true, hx1, hx2, w, cal_v, ka]
  refine (e_309_1717 I1 _ D1 v 0).trans ?_
  rw [q1, q2, sc1 sc, sc2 sc, cond_true, cond_true, hx1, hx2, e2, cal_v, ka]
  refine (e_309_1735 _ _ _ v _ _).trans ?_
  rw [e_155_0, cal_v, ka, q3]
  refine (e_309_1741 _ _ _ v _ _ _).trans ?_
  rw [decide_eq_true rfl, cond_true]
  refine (e_309_1748 _ _ _ v _ _).trans ?_
  rw [decide_eq_false (by decide), cond_false]
  refine (e_309_1753 _ _ _ v _).trans ?_
  rw [q4]
  cases r with
  | false =>
    rw [decide_eq_true (show bI false = 0 from rfl), cond_true]
    refine (e_309_1765 _ _ _ v _).trans ?_
    refine (e_309_1766 _ _ _ v _ _).trans ?_
    rw [decide_eq_true (by decide), cond_true]
    refine (e_309_1772 _ _ _ v).trans ?_
    exact e_309_3111 _ _ _ v
  | true =>
    rw [decide_eq_false (show ¬ bI true = 0 by decide), cond_false]
    refine (e_309_1761 _ _ _ v _).trans ?_
    refine (e_309_1766 _ _ _ v _ _).trans ?_
    rw [decide_eq_true (by decide), cond_true]
    refine (e_309_1772 _ _ _ v).trans ?_
    exact e_309_3111 _ _ _ v
theorem tc_27_2 : ctc 290 5 2 = some 20 := by decide +kernel
theorem te_27_2 {L kk : Nat} {I I1 I2 : Nat → Nat → Int32} {J J1 J2 : Nat → Nat → Int64} {D D1 D2 : Nat → Nat → UInt64} {v : Int32} {s : Int32} {x1 : Int32} {x2 : Int32} (sc : ScOK v I) (hx1 : I 1000002 (v + 1).toNatClampNeg = x1) (hx2 : I 1000002 (v + 2).toNatClampNeg = x2) (e1 : ex (117, 0, [.ref 0, .int x1, .int x2, dv], [], mm I J D) = some (.inr (.inl 2), mm I1 J1 D1)) (q1 : I1 iSCL 0 = I iSCL 0) (q2 : I1 1000002 = I 1000002) (e2 : ex (221, 0, [.ref 316, .int x1, .int x2, dv], [], mm I1 J1 D1) = some (.inl (some (.int s)), mm I2 J2 D2)) (q3 : I2 316 0 = 1) (hi : Inv L (kk + 1) I2 J2 D2) : Turn L kk 1700 v I J D := by
  refine ⟨I2, J2, D2, (e_309_1700 I J D v).trans ?_, hi⟩
  have w : ex (290, 0, [.ref 0, .int x1, .int x2, .ref 335, dv], [], mm I J D) = some (.inl (some (.int 1)), mm I1 J1 D1) := by
    rw [e_290_0, e1, calH_x tc_27_2]
    exact e_290_20 _ _ _
  rw [sc1 sc, sc2 sc, cond_true, cond_true, hx1, hx2, w, cal_v, ka]
  refine (e_309_1717 I1 _ D1 v 1).trans ?_
  rw [q1, q2, sc1 sc, sc2 sc, cond_true, cond_true, hx1, hx2, e2, cal_v, ka]
  refine (e_309_1735 _ _ _ v _ _).trans ?_
  rw [e_155_0, cal_v, ka, q3]
  refine (e_309_1741 _ _ _ v _ _ _).trans ?_
  rw [decide_eq_true rfl, cond_true]
  refine (e_309_1748 _ _ _ v _ _).trans ?_
  rw [decide_eq_true (by decide), cond_true]
  refine (e_309_1772 _ _ _ v).trans ?_
  exact e_309_3111 _ _ _ v
theorem tk_28 {L kk : Nat} {I I1 I2 : Nat → Nat → Int32} {J J1 J2 : Nat → Nat → Int64} {D D1 D2 : Nat → Nat → UInt64} {v : Int32} {r : Int32} {x1 : Int32} {x2 : Int32} {x3 : Int32} (sc : ScOK v I) (hx1 : I 1000002 (v + 1).toNatClampNeg = x1) (hx2 : I 1000002 (v + 2).toNatClampNeg = x2) (hx3 : I 1000002 (v + 3).toNatClampNeg = x3) (e1 : ex (118, 0, [.ref 0, .int x1, .int x2, .int x3], [], mm I J D) = some (.inl (some (.int r)), mm I1 J1 D1)) (q1 : I1 iSCL 0 = I iSCL 0) (q2 : I1 1000002 = I 1000002) (e2 : ex (224, 0, [.ref 316, .int x1, .int x2, .int x3, dv], [], mm I1 (upsL J1 335 0 r.toInt64) D1) = some (.inl (some (.int r)), mm I2 J2 D2)) (q3 : I2 316 0 = 0) (q4 : J2 335 0 = r.toInt64) (hi : Inv L (kk + 1) I2 J2 D2) : Turn L kk 1775 v I J D := by
  refine ⟨I2, J2, D2, (e_309_1775 I J D v).trans ?_, hi⟩
  have w : ex (291, 0, [.ref 0, .int x1, .int x2, .int x3, .ref 335, dv], [], mm I J D) = some (.inl (some (.int 0)), mm I1 (upsL J1 335 0 r.toInt64) D1) := by
    rw [e_291_0, e1, calH_v, ka]
    show ex (291, 10, [dv, dv, dv, dv, dv, dv], [.int r, .int 0, .ref 335], mm I1 J1 D1) = _
    rw [e_291_10, show inb 0 1 = true by decide, cond_true, e_291_27]
    rfl
  rw [sc1 sc, sc2 sc, sc3 sc, cond_true, cond_true, cond_true, hx1, hx2, hx3, w, cal_v, ka]
  refine (e_309_1798 I1 _ D1 v 0).trans ?_
  rw [q1, q2, sc1 sc, sc2 sc, sc3 sc, cond_true, cond_true, cond_true, hx1, hx2, hx3, e2, cal_v, ka]
  refine (e_309_1822 _ _ _ v _ _).trans ?_
  rw [e_155_0, cal_v, ka, q3]
  refine (e_309_1828 _ _ _ v _ _ _).trans ?_
  rw [decide_eq_true rfl, cond_true]
  refine (e_309_1835 _ _ _ v _ _).trans ?_
  rw [decide_eq_false (by decide), cond_false]
  refine (e_309_1840 _ _ _ v _).trans ?_
  rw [q4, decide_eq_true (lgc _), cond_true]
  refine (e_309_1852 _ _ _ v).trans ?_
  exact e_309_3111 _ _ _ v
theorem tc_28_2 : ctc 291 7 2 = some 15 := by decide +kernel
theorem te_28_2 {L kk : Nat} {I I1 I2 : Nat → Nat → Int32} {J J1 J2 : Nat → Nat → Int64} {D D1 D2 : Nat → Nat → UInt64} {v : Int32} {s : Int32} {x1 : Int32} {x2 : Int32} {x3 : Int32} (sc : ScOK v I) (hx1 : I 1000002 (v + 1).toNatClampNeg = x1) (hx2 : I 1000002 (v + 2).toNatClampNeg = x2) (hx3 : I 1000002 (v + 3).toNatClampNeg = x3) (e1 : ex (118, 0, [.ref 0, .int x1, .int x2, .int x3], [], mm I J D) = some (.inr (.inl 2), mm I1 J1 D1)) (q1 : I1 iSCL 0 = I iSCL 0) (q2 : I1 1000002 = I 1000002) (e2 : ex (224, 0, [.ref 316, .int x1, .int x2, .int x3, dv], [], mm I1 J1 D1) = some (.inl (some (.int s)), mm I2 J2 D2)) (q3 : I2 316 0 = 1) (hi : Inv L (kk + 1) I2 J2 D2) : Turn L kk 1775 v I J D := by
  refine ⟨I2, J2, D2, (e_309_1775 I J D v).trans ?_, hi⟩
  have w : ex (291, 0, [.ref 0, .int x1, .int x2, .int x3, .ref 335, dv], [], mm I J D) = some (.inl (some (.int 1)), mm I1 J1 D1) := by
    rw [e_291_0, e1, calH_x tc_28_2]
    exact e_291_15 _ _ _
  rw [sc1 sc, sc2 sc, sc3 sc, cond_true, cond_true, cond_true, hx1, hx2, hx3, w, cal_v, ka]
  refine (e_309_1798 I1 _ D1 v 1).trans ?_
  rw [q1, q2, sc1 sc, sc2 sc, sc3 sc, cond_true, cond_true, cond_true, hx1, hx2, hx3, e2, cal_v, ka]
  refine (e_309_1822 _ _ _ v _ _).trans ?_
  rw [e_155_0, cal_v, ka, q3]
  refine (e_309_1828 _ _ _ v _ _ _).trans ?_
  rw [decide_eq_true rfl, cond_true]
  refine (e_309_1835 _ _ _ v _ _).trans ?_
  rw [decide_eq_true (by decide), cond_true]
  refine (e_309_1852 _ _ _ v).trans ?_
  exact e_309_3111 _ _ _ v
theorem tc_28_1 : ctc 291 7 1 = some 19 := by decide +kernel
theorem te_28_1 {L kk : Nat} {I I1 I2 : Nat → Nat → Int32} {J J1 J2 : Nat → Nat → Int64} {D D1 D2 : Nat → Nat → UInt64} {v : Int32} {s : Int32} {x1 : Int32} {x2 : Int32} {x3 : Int32} (sc : ScOK v I) (hx1 : I 1000002 (v + 1).toNatClampNeg = x1) (hx2 : I 1000002 (v + 2).toNatClampNeg = x2) (hx3 : I 1000002 (v + 3).toNatClampNeg = x3) (e1 : ex (118, 0, [.ref 0, .int x1, .int x2, .int x3], [], mm I J D) = some (.inr (.inl 1), mm I1 J1 D1)) (q1 : I1 iSCL 0 = I iSCL 0) (q2 : I1 1000002 = I 1000002) (e2 : ex (224, 0, [.ref 316, .int x1, .int x2, .int x3, dv], [], mm I1 J1 D1) = some (.inl (some (.int s)), mm I2 J2 D2)) (q3 : I2 316 0 = 2) (hi : Inv L (kk + 1) I2 J2 D2) : Turn L kk 1775 v I J D := by
  refine ⟨I2, J2, D2, (e_309_1775 I J D v).trans ?_, hi⟩
  have w : ex (291, 0, [.ref 0, .int x1, .int x2, .int x3, .ref 335, dv], [], mm I J D) = some (.inl (some (.int 2)), mm I1 J1 D1) := by
    rw [e_291_0, e1, calH_x tc_28_1]
    exact e_291_19 _ _ _
  rw [sc1 sc, sc2 sc, sc3 sc, cond_true, cond_true, cond_true, hx1, hx2, hx3, w, cal_v, ka]
  refine (e_309_1798 I1 _ D1 v 2).trans ?_
  rw [q1, q2, sc1 sc, sc2 sc, sc3 sc, cond_true, cond_true, cond_true, hx1, hx2, hx3, e2, cal_v, ka]
  refine (e_309_1822 _ _ _ v _ _).trans ?_
  rw [e_155_0, cal_v, ka, q3]
  refine (e_309_1828 _ _ _ v _ _ _).trans ?_
  rw [decide_eq_true rfl, cond_true]
  refine (e_309_1835 _ _ _ v _ _).trans ?_
  rw [decide_eq_true (by decide), cond_true]
  refine (e_309_1852 _ _ _ v).trans ?_
  exact e_309_3111 _ _ _ v
theorem tc_28_0 : ctc 291 7 0 = some 23 := by decide +kernel
theorem te_28_0 {L kk : Nat} {I I1 I2 : Nat → Nat → Int32} {J J1 J2 : Nat → Nat → Int64} {D D1 D2 : Nat → Nat → UInt64} {v : Int32} {s : Int32} {x1 : Int32} {x2 : Int32} {x3 : Int32} (sc : ScOK v I) (hx1 : I 1000002 (v + 1).toNatClampNeg = x1) (hx2 : I 1000002 (v + 2).toNatClampNeg = x2) (hx3 : I 1000002 (v + 3).toNatClampNeg = x3) (e1 : ex (118, 0, [.ref 0, .int x1, .int x2, .int x3], [], mm I J D) = some (.inr (.inl 0), mm I1 J1 D1)) (q1 : I1 iSCL 0 = I iSCL 0) (q2 : I1 1000002 = I 1000002) (e2 : ex (224, 0, [.ref 316, .int x1, .int x2, .int x3, dv], [], mm I1 J1 D1) = some (.inl (some (.int s)), mm I2 J2 D2)) (q3 : I2 316 0 = 3) (hi : Inv L (kk + 1) I2 J2 D2) : Turn L kk 1775 v I J D := by
  refine ⟨I2, J2, D2, (e_309_1775 I J D v).trans ?_, hi⟩
  have w : ex (291, 0, [.ref 0, .int x1, .int x2, .int x3, .ref 335, dv], [], mm I J D) = some (.inl (some (.int 3)), mm I1 J1 D1) := by
    rw [e_291_0, e1, calH_x tc_28_0]
    exact e_291_23 _ _ _
  rw [sc1 sc, sc2 sc, sc3 sc, cond_true, cond_true, cond_true, hx1, hx2, hx3, w, cal_v, ka]
  refine (e_309_1798 I1 _ D1 v 3).trans ?_
  rw [q1, q2, sc1 sc, sc2 sc, sc3 sc, cond_true, cond_true, cond_true, hx1, hx2, hx3, e2, cal_v, ka]
  refine (e_309_1822 _ _ _ v _ _).trans ?_
  rw [e_155_0, cal_v, ka, q3]
  refine (e_309_1828 _ _ _ v _ _ _).trans ?_
  rw [decide_eq_true rfl, cond_true]
  refine (e_309_1835 _ _ _ v _ _).trans ?_
  rw [decide_eq_true (by decide), cond_true]
  refine (e_309_1852 _ _ _ v).trans ?_
  exact e_309_3111 _ _ _ v
theorem tk_29 {L kk : Nat} {I I1 I2 : Nat → Nat → Int32} {J J1 J2 : Nat → Nat → Int64} {D D1 D2 : Nat → Nat → UInt64} {v : Int32} {r : Int32} {x1 : Int32} {x2 : Int32} (sc : ScOK v I) (hx1 : I 1000002 (v + 1).toNatClampNeg = x1) (hx2 : I 1000002 (v + 2).toNatClampNeg = x2) (e1 : ex (119, 0, [.ref 0, .int x1, .int x2], [], mm I J D) = some (.inl (some (.int r)), mm I1 J1 D1)) (q1 : I1 iSCL 0 = I iSCL 0) (q2 : I1 1000002 = I 1000002) (e2 : ex (225, 0, [.ref 316, .int x1, .int x2, dv], [], mm I1 (upsL J1 335 0 r.toInt64) D1) = some (.inl (some (.int r)), mm I2 J2 D2)) (q3 : I2 316 0 = 0) (q4 : J2 335 0 = r.toInt64) (hi : Inv L (kk + 1) I2 J2 D2) : Turn L kk 1855 v I J D := by
  refine ⟨I2, J2, D2, (e_309_1855 I J D v).trans ?_, hi⟩
  have w : ex (292, 0, [.ref 0, .int x1, .int x2, .ref 335, dv], [], mm I J D) = some (.inl (some (.int 0)), mm I1 (upsL J1 335 0 r.toInt64) D1) := by
    rw [e_292_0, e1, calH_v, ka]
    show ex (292, 8, [dv, dv, dv, dv, dv], [.int r, .int 0, .ref 335], mm I1 J1 D1) = _
    rw [e_292_8, show inb 0 1 = true by decide, cond_true, e_292_21]
    rfl
  rw [sc1 sc, sc2 sc, cond_true, cond_true, hx1, hx2, w, cal_v, ka]
  refine (e_309_1872 I1 _ D1 v 0).trans ?_
  rw [q1, q2, sc1 sc, sc2 sc, cond_true, cond_true, hx1, hx2, e2, cal_v, ka]
  refine (e_309_1890 _ _ _ v _ _).trans ?_
  rw [e_155_0, cal_v, ka, q3]
  refine (e_309_1896 _ _ _ v _ _ _).trans ?_
  rw [decide_eq_true rfl, cond_true]
  refine (e_309_1903 _ _ _ v _ _).trans ?_
  rw [decide_eq_false (by decide), cond_false]
  refine (e_309_1908 _ _ _ v _).trans ?_
  rw [q4, decide_eq_true (lgc _), cond_true]
  refine (e_309_1920 _ _ _ v).trans ?_
  exact e_309_3111 _ _ _ v
theorem tc_29_2 : ctc 292 5 2 = some 13 := by decide +kernel
theorem te_29_2 {L kk : Nat} {I I1 I2 : Nat → Nat → Int32} {J J1 J2 : Nat → Nat → Int64} {D D1 D2 : Nat → Nat → UInt64} {v : Int32} {s : Int32} {x1 : Int32} {x2 : Int32} (sc : ScOK v I) (hx1 : I 1000002 (v + 1).toNatClampNeg = x1) (hx2 : I 1000002 (v + 2).toNatClampNeg = x2) (e1 : ex (119, 0, [.ref 0, .int x1, .int x2], [], mm I J D) = some (.inr (.inl 2), mm I1 J1 D1)) (q1 : I1 iSCL 0 = I iSCL 0) (q2 : I1 1000002 = I 1000002) (e2 : ex (225, 0, [.ref 316, .int x1, .int x2, dv], [], mm I1 J1 D1) = some (.inl (some (.int s)), mm I2 J2 D2)) (q3 : I2 316 0 = 1) (hi : Inv L (kk + 1) I2 J2 D2) : Turn L kk 1855 v I J D := by
  refine ⟨I2, J2, D2, (e_309_1855 I J D v).trans ?_, hi⟩
  have w : ex (292, 0, [.ref 0, .int x1, .int x2, .ref 335, dv], [], mm I J D) = some (.inl (some (.int 1)), mm I1 J1 D1) := by
    rw [e_292_0, e1, calH_x tc_29_2]
    exact e_292_13 _ _ _
  rw [sc1 sc, sc2 sc, cond_true, cond_true, hx1, hx2, w, cal_v, ka]
  refine (e_309_1872 I1 _ D1 v 1).trans ?_
  rw [q1, q2, sc1 sc, sc2 sc, cond_true, cond_true, hx1, hx2, e2, cal_v, ka]
  refine (e_309_1890 _ _ _ v _ _).trans ?_
  rw [e_155_0, cal_v, ka, q3]
  refine (e_309_1896 _ _ _ v _ _ _).trans ?_
  rw [decide_eq_true rfl, cond_true]
  refine (e_309_1903 _ _ _ v _ _).trans ?_
  rw [decide_eq_true (by decide), cond_true]
  refine (e_309_1920 _ _ _ v).trans ?_
  exact e_309_3111 _ _ _ v
theorem tc_29_3 : ctc 292 5 3 = some 17 := by decide +kernel
theorem te_29_3 {L kk : Nat} {I I1 I2 : Nat → Nat → Int32} {J J1 J2 : Nat → Nat → Int64} {D D1 D2 : Nat → Nat → UInt64} {v : Int32} {s : Int32} {x1 : Int32} {x2 : Int32} (sc : ScOK v I) (hx1 : I 1000002 (v + 1).toNatClampNeg = x1) (hx2 : I 1000002 (v + 2).toNatClampNeg = x2) (e1 : ex (119, 0, [.ref 0, .int x1, .int x2], [], mm I J D) = some (.inr (.inl 3), mm I1 J1 D1)) (q1 : I1 iSCL 0 = I iSCL 0) (q2 : I1 1000002 = I 1000002) (e2 : ex (225, 0, [.ref 316, .int x1, .int x2, dv], [], mm I1 J1 D1) = some (.inl (some (.int s)), mm I2 J2 D2)) (q3 : I2 316 0 = 2) (hi : Inv L (kk + 1) I2 J2 D2) : Turn L kk 1855 v I J D := by
  refine ⟨I2, J2, D2, (e_309_1855 I J D v).trans ?_, hi⟩
  have w : ex (292, 0, [.ref 0, .int x1, .int x2, .ref 335, dv], [], mm I J D) = some (.inl (some (.int 2)), mm I1 J1 D1) := by
    rw [e_292_0, e1, calH_x tc_29_3]
    exact e_292_17 _ _ _
  rw [sc1 sc, sc2 sc, cond_true, cond_true, hx1, hx2, w, cal_v, ka]
  refine (e_309_1872 I1 _ D1 v 2).trans ?_
  rw [q1, q2, sc1 sc, sc2 sc, cond_true, cond_true, hx1, hx2, e2, cal_v, ka]
  refine (e_309_1890 _ _ _ v _ _).trans ?_
  rw [e_155_0, cal_v, ka, q3]
  refine (e_309_1896 _ _ _ v _ _ _).trans ?_
  rw [decide_eq_true rfl, cond_true]
  refine (e_309_1903 _ _ _ v _ _).trans ?_
  rw [decide_eq_true (by decide), cond_true]
  refine (e_309_1920 _ _ _ v).trans ?_
  exact e_309_3111 _ _ _ v
theorem tk_30 {L kk : Nat} {I I1 I2 : Nat → Nat → Int32} {J J1 J2 : Nat → Nat → Int64} {D D1 D2 : Nat → Nat → UInt64} {v : Int32} {r : Int32} {x1 : Int32} {x2 : Int32} (sc : ScOK v I) (hx1 : I 1000002 (v + 1).toNatClampNeg = x1) (hx2 : I 1000002 (v + 2).toNatClampNeg = x2) (e1 : ex (120, 0, [.ref 0, .int x1, .int x2, dv], [], mm I J D) = some (.inl (some (.int r)), mm I1 J1 D1)) (q1 : I1 iSCL 0 = I iSCL 0) (q2 : I1 1000002 = I 1000002) (e2 : ex (226, 0, [.ref 316, .int x1, .int x2, dv, dv, dv], [], mm I1 (upsL J1 335 0 r.toInt64) D1) = some (.inl (some (.int r)), mm I2 J2 D2)) (q3 : I2 316 0 = 0) (q4 : J2 335 0 = r.toInt64) (hi : Inv L (kk + 1) I2 J2 D2) : Turn L kk 1923 v I J D := by
  refine ⟨I2, J2, D2, (e_309_1923 I J D v).trans ?_, hi⟩
  have w : ex (293, 0, [.ref 0, .int x1, .int x2, .ref 335, dv], [], mm I J D) = some (.inl (some (.int 0)), mm I1 (upsL J1 335 0 r.toInt64) D1) := by
    rw [e_293_0, e1, calH_v, ka]
    show ex (293, 8, [dv, dv, dv, dv, dv], [.int r, .int 0, .ref 335], mm I1 J1 D1) = _
    rw [e_293_8, show inb 0 1 = true by decide, cond_true, e_293_21]
    rfl
  rw [sc1 sc, sc2 sc, cond_true, cond_true, hx1, hx2, w, cal_v, ka]
  refine (e_309_1940 I1 _ D1 v 0).trans ?_
  rw [q1, q2, sc1 sc, sc2 sc, cond_true, cond_true, hx1, hx2, e2, cal_v, ka]
  refine (e_309_1958 _ _ _ v _ _).trans ?_
  rw [e_155_0, cal_v, ka, q3]
  refine (e_309_1964 _ _ _ v _ _ _).trans ?_
  rw [decide_eq_true rfl, cond_true]
  refine (e_309_1971 _ _ _ v _ _).trans ?_
  rw [decide_eq_false (by decide), cond_false]
  refine (e_309_1976 _ _ _ v _).trans ?_
  rw [q4, decide_eq_true (lgc _), cond_true]
  refine (e_309_1988 _ _ _ v).trans ?_
  exact e_309_3111 _ _ _ v
theorem tc_30_2 : ctc 293 5 2 = some 13 := by decide +kernel
theorem te_30_2 {L kk : Nat} {I I1 I2 : Nat → Nat → Int32} {J J1 J2 : Nat → Nat → Int64} {D D1 D2 : Nat → Nat → UInt64} {v : Int32} {s : Int32} {x1 : Int32} {x2 : Int32} (sc : ScOK v I) (hx1 : I 1000002 (v + 1).toNatClampNeg = x1) (hx2 : I 1000002 (v + 2).toNatClampNeg = x2) (e1 : ex (120, 0, [.ref 0, .int x1, .int x2, dv], [], mm I J D) = some (.inr (.inl 2), mm I1 J1 D1)) (q1 : I1 iSCL 0 = I iSCL 0) (q2 : I1 1000002 = I 1000002) (e2 : ex (226, 0, [.ref 316, .int x1, .int x2, dv, dv, dv], [], mm I1 J1 D1) = some (.inl (some (.int s)), mm I2 J2 D2)) (q3 : I2 316 0 = 1) (hi : Inv L (kk + 1) I2 J2 D2) : Turn L kk 1923 v I J D := by
  refine ⟨I2, J2, D2, (e_309_1923 I J D v).trans ?_, hi⟩
  have w : ex (293, 0, [.ref 0, .int x1, .int x2, .ref 335, dv], [], mm I J D) = some (.inl (some (.int 1)), mm I1 J1 D1) := by
    rw [e_293_0, e1, calH_x tc_30_2]
    exact e_293_13 _ _ _
  rw [sc1 sc, sc2 sc, cond_true, cond_true, hx1, hx2, w, cal_v, ka]
  refine (e_309_1940 I1 _ D1 v 1).trans ?_
  rw [q1, q2, sc1 sc, sc2 sc, cond_true, cond_true, hx1, hx2, e2, cal_v, ka]
  refine (e_309_1958 _ _ _ v _ _).trans ?_
  rw [e_155_0, cal_v, ka, q3]
  refine (e_309_1964 _ _ _ v _ _ _).trans ?_
  rw [decide_eq_true rfl, cond_true]
  refine (e_309_1971 _ _ _ v _ _).trans ?_
  rw [decide_eq_true (by decide), cond_true]
  refine (e_309_1988 _ _ _ v).trans ?_
  exact e_309_3111 _ _ _ v
theorem tc_30_3 : ctc 293 5 3 = some 17 := by decide +kernel
theorem te_30_3 {L kk : Nat} {I I1 I2 : Nat → Nat → Int32} {J J1 J2 : Nat → Nat → Int64} {D D1 D2 : Nat → Nat → UInt64} {v : Int32} {s : Int32} {x1 : Int32} {x2 : Int32} (sc : ScOK v I) (hx1 : I 1000002 (v + 1).toNatClampNeg = x1) (hx2 : I 1000002 (v + 2).toNatClampNeg = x2) (e1 : ex (120, 0, [.ref 0, .int x1, .int x2, dv], [], mm I J D) = some (.inr (.inl 3), mm I1 J1 D1)) (q1 : I1 iSCL 0 = I iSCL 0) (q2 : I1 1000002 = I 1000002) (e2 : ex (226, 0, [.ref 316, .int x1, .int x2, dv, dv, dv], [], mm I1 J1 D1) = some (.inl (some (.int s)), mm I2 J2 D2)) (q3 : I2 316 0 = 2) (hi : Inv L (kk + 1) I2 J2 D2) : Turn L kk 1923 v I J D := by
  refine ⟨I2, J2, D2, (e_309_1923 I J D v).trans ?_, hi⟩
  have w : ex (293, 0, [.ref 0, .int x1, .int x2, .ref 335, dv], [], mm I J D) = some (.inl (some (.int 2)), mm I1 J1 D1) := by
    rw [e_293_0, e1, calH_x tc_30_3]
    exact e_293_17 _ _ _
  rw [sc1 sc, sc2 sc, cond_true, cond_true, hx1, hx2, w, cal_v, ka]
  refine (e_309_1940 I1 _ D1 v 2).trans ?_
  rw [q1, q2, sc1 sc, sc2 sc, cond_true, cond_true, hx1, hx2, e2, cal_v, ka]
  refine (e_309_1958 _ _ _ v _ _).trans ?_
  rw [e_155_0, cal_v, ka, q3]
  refine (e_309_1964 _ _ _ v _ _ _).trans ?_
  rw [decide_eq_true rfl, cond_true]
  refine (e_309_1971 _ _ _ v _ _).trans ?_
  rw [decide_eq_true (by decide), cond_true]
  refine (e_309_1988 _ _ _ v).trans ?_
  exact e_309_3111 _ _ _ v
theorem tk_31 {L kk : Nat} {I I1 I2 : Nat → Nat → Int32} {J J1 J2 : Nat → Nat → Int64} {D D1 D2 : Nat → Nat → UInt64} {v : Int32} {r : Int32} {x1 : Int32} {x2 : Int32} {x3 : Int32} (sc : ScOK v I) (hx1 : I 1000002 (v + 1).toNatClampNeg = x1) (hx2 : I 1000002 (v + 2).toNatClampNeg = x2) (hx3 : I 1000002 (v + 3).toNatClampNeg = x3) (e1 : ex (121, 0, [.ref 0, .int x1, .int x2, .int x3, dv], [], mm I J D) = some (.inl (some (.int r)), mm I1 J1 D1)) (q1 : I1 iSCL 0 = I iSCL 0) (q2 : I1 1000002 = I 1000002) (e2 : ex (232, 0, [.ref 316, .int x1, .int x2, .int x3, dv], [], mm I1 (upsL J1 335 0 r.toInt64) D1) = some (.inl (some (.int r)), mm I2 J2 D2)) (q3 : I2 316 0 = 0) (q4 : J2 335 0 = r.toInt64) (hi : Inv L (kk + 1) I2 J2 D2) : Turn L kk 1991 v I J D := by
  refine ⟨I2, J2, D2, (e_309_1991 I J D v).trans ?_, hi⟩
  have w : ex (294, 0, [.ref 0, .int x1, .int x2, .int x3, .ref 335, dv], [], mm I J D) = some (.inl (some (.int 0)), mm I1 (upsL J1 335 0 r.toInt64) D1) := by
    rw [e_294_0, e1, calH_v, ka]
    show ex (294, 10, [dv, dv, dv, dv, dv, dv], [.int r, .int 0, .ref 335], mm I1 J1 D1) = _
    rw [e_294_10, show inb 0 1 = true by decide, cond_true, e_294_23]
    rfl
  rw [sc1 sc, sc2 sc, sc3 sc, cond_true, cond_true, cond_true, hx1, hx2, hx3, w, cal_v, ka]
  refine (e_309_2014 I1 _ D1 v 0).trans ?_
  rw [q1, q2, sc1 sc, sc2 sc, sc3 sc, cond_true, cond_true, cond_true, hx1, hx2, hx3, e2, cal_v, ka]
  refine (e_309_2038 _ _ _ v _ _).trans ?_
  rw [e_155_0, cal_v, ka, q3]
  refine (e_309_2044 _ _ _ v _ _ _).trans ?_
  rw [decide_eq_true rfl, cond_true]
  refine (e_309_2051 _ _ _ v _ _).trans ?_
  rw [decide_eq_false (by decide), cond_false]
  refine (e_309_2056 _ _ _ v _).trans ?_
  rw [q4, decide_eq_true (lgc _), cond_true]
  refine (e_309_2068 _ _ _ v).trans ?_
  exact e_309_3111 _ _ _ v
theorem tc_31_2 : ctc 294 7 2 = some 15 := by decide +kernel
theorem te_31_2 {L kk : Nat} {I I1 I2 : Nat → Nat → Int32} {J J1 J2 : Nat → Nat → Int64} {D D1 D2 : Nat → Nat → UInt64} {v : Int32} {s : Int32} {x1 : Int32} {x2 : Int32} {x3 : Int32} (sc : ScOK v I) (hx1 : I 1000002 (v + 1).toNatClampNeg = x1) (hx2 : I 1000002 (v + 2).toNatClampNeg = x2) (hx3 : I 1000002 (v + 3).toNatClampNeg = x3) (e1 : ex (121, 0, [.ref 0, .int x1, .int x2, .int x3, dv], [], mm I J D) = some (.inr (.inl 2), mm I1 J1 D1)) (q1 : I1 iSCL 0 = I iSCL 0) (q2 : I1 1000002 = I 1000002) (e2 : ex (232, 0, [.ref 316, .int x1, .int x2, .int x3, dv], [], mm I1 J1 D1) = some (.inl (some (.int s)), mm I2 J2 D2)) (q3 : I2 316 0 = 1) (hi : Inv L (kk + 1) I2 J2 D2) : Turn L kk 1991 v I J D := by
  refine ⟨I2, J2, D2, (e_309_1991 I J D v).trans ?_, hi⟩
  have w : ex (294, 0, [.ref 0, .int x1, .int x2, .int x3, .ref 335, dv], [], mm I J D) = some (.inl (some (.int 1)), mm I1 J1 D1) := by
    rw [e_294_0, e1, calH_x tc_31_2]
    exact e_294_15 _ _ _
  rw [sc1 sc, sc2 sc, sc3 sc, cond_true, cond_true, cond_true, hx1, hx2, hx3, w, cal_v, ka]
  refine (e_309_2014 I1 _ D1 v 1).trans ?_
  rw [q1, q2, sc1 sc, sc2 sc, sc3 sc, cond_true, cond_true, cond_true, hx1, hx2, hx3, e2, cal_v, ka]
  refine (e_309_2038 _ _ _ v _ _).trans ?_
  rw [e_155_0, cal_v, ka, q3]
  refine (e_309_2044 _ _ _ v _ _ _).trans ?_
  rw [decide_eq_true rfl, cond_true]
  refine (e_309_2051 _ _ _ v _ _).trans ?_
  rw [decide_eq_true (by decide), cond_true]
  refine (e_309_2068 _ _ _ v).trans ?_
  exact e_309_3111 _ _ _ v
theorem tc_31_1 : ctc 294 7 1 = some 19 := by decide +kernel
theorem te_31_1 {L kk : Nat} {I I1 I2 : Nat → Nat → Int32} {J J1 J2 : Nat → Nat → Int64} {D D1 D2 : Nat → Nat → UInt64} {v : Int32} {s : Int32} {x1 : Int32} {x2 : Int32} {x3 : Int32} (sc : ScOK v I) (hx1 : I 1000002 (v + 1).toNatClampNeg = x1) (hx2 : I 1000002 (v + 2).toNatClampNeg = x2) (hx3 : I 1000002 (v + 3).toNatClampNeg = x3) (e1 : ex (121, 0, [.ref 0, .int x1, .int x2, .int x3, dv], [], mm I J D) = some (.inr (.inl 1), mm I1 J1 D1)) (q1 : I1 iSCL 0 = I iSCL 0) (q2 : I1 1000002 = I 1000002) (e2 : ex (232, 0, [.ref 316, .int x1, .int x2, .int x3, dv], [], mm I1 J1 D1) = some (.inl (some (.int s)), mm I2 J2 D2)) (q3 : I2 316 0 = 2) (hi : Inv L (kk + 1) I2 J2 D2) : Turn L kk 1991 v I J D := by
  refine ⟨I2, J2, D2, (e_309_1991 I J D v).trans ?_, hi⟩
  have w : ex (294, 0, [.ref 0, .int x1, .int x2, .int x3, .ref 335, dv], [], mm I J D) = some (.inl (some (.int 2)), mm I1 J1 D1) := by
    rw [e_294_0, e1, calH_x tc_31_1]
    exact e_294_19 _ _ _
  rw [sc1 sc, sc2 sc, sc3 sc, cond_true, cond_true, cond_true, hx1, hx2, hx3, w, cal_v, ka]
  refine (e_309_2014 I1 _ D1 v 2).trans ?_
  rw [q1, q2, sc1 sc, sc2 sc, sc3 sc, cond_true, cond_true, cond_true, hx1, hx2, hx3, e2, cal_v, ka]
  refine (e_309_2038 _ _ _ v _ _).trans ?_
  rw [e_155_0, cal_v, ka, q3]
  refine (e_309_2044 _ _ _ v _ _ _).trans ?_
  rw [decide_eq_true rfl, cond_true]
  refine (e_309_2051 _ _ _ v _ _).trans ?_
  rw [decide_eq_true (by decide), cond_true]
  refine (e_309_2068 _ _ _ v).trans ?_
  exact e_309_3111 _ _ _ v
theorem tk_32 {L kk : Nat} {I I1 I2 : Nat → Nat → Int32} {J J1 J2 : Nat → Nat → Int64} {D D1 D2 : Nat → Nat → UInt64} {v : Int32} {r : Int32} {x1 : Int32} {x2 : Int32} {x3 : Int32} (sc : ScOK v I) (hx1 : I 1000002 (v + 1).toNatClampNeg = x1) (hx2 : I 1000002 (v + 2).toNatClampNeg = x2) (hx3 : I 1000002 (v + 3).toNatClampNeg = x3) (e1 : ex (122, 0, [.ref 0, .int x1, .int x2, .int x3], [], mm I J D) = some (.inl (some (.int r)), mm I1 J1 D1)) (q1 : I1 iSCL 0 = I iSCL 0) (q2 : I1 1000002 = I 1000002) (e2 : ex (233, 0, [.ref 316, .int x1, .int x2, .int x3], [], mm I1 (upsL J1 335 0 r.toInt64) D1) = some (.inl (some (.int r)), mm I2 J2 D2)) (q3 : I2 316 0 = 0) (q4 : J2 335 0 = r.toInt64) (hi : Inv L (kk + 1) I2 J2 D2) : Turn L kk 2071 v I J D := by
  refine ⟨I2, J2, D2, (e_309_2071 I J D v).trans ?_, hi⟩
  have w : ex (295, 0, [.ref 0, .int x1, .int x2, .int x3, .ref 335, dv], [], mm I J D) = some (.inl (some (.int 0)), mm I1 (upsL J1 335 0 r.toInt64) D1) := by
    rw [e_295_0, e1, calH_v, ka]
    show ex (295, 10, [dv, dv, dv, dv, dv, dv], [.int r, .int 0, .ref 335], mm I1 J1 D1) = _
    rw [e_295_10, show inb 0 1 = true by decide, cond_true, e_295_23]
    rfl
  rw [sc1 sc, sc2 sc, sc3 sc, cond_true, cond_true, cond_true, hx1, hx2, hx3, w, cal_v, ka]
  refine (e_309_2094 I1 _ D1 v 0).trans ?_
  rw [q1, q2, sc1 sc, sc2 sc, sc3 sc, cond_true, cond_true, cond_true, hx1, hx2, hx3, e2, cal_v, ka]
  refine (e_309_2118 _ _ _ v _ _).trans ?_
  rw [e_155_0, cal_v, ka, q3]
  refine (e_309_2124 _ _ _ v _ _ _).trans ?_
  rw [decide_eq_true rfl, cond_true]
  refine (e_309_2131 _ _ _ v _ _).trans ?_
  rw [decide_eq_false (by decide), cond_false]
  refine (e_309_2136 _ _ _ v _).trans ?_
  rw [q4, decide_eq_true (lgc _), cond_true]
  refine (e_309_2148 _ _ _ v).trans ?_
  exact e_309_3111 _ _ _ v
theorem tc_32_2 : ctc 295 7 2 = some 15 := by decide +kernel
theorem te_32_2 {L kk : Nat} {I I1 I2 : Nat → Nat → Int32} {J J1 J2 : Nat → Nat → Int64} {D D1 D2 : Nat → Nat → UInt64} {v : Int32} {s : Int32} {x1 : Int32} {x2 : Int32} {x3 : Int32} (sc : ScOK v I) (hx1 : I 1000002 (v + 1).toNatClampNeg = x1) (hx2 : I 1000002 (v + 2).toNatClampNeg = x2) (hx3 : I 1000002 (v + 3).toNatClampNeg = x3) (e1 : ex (122, 0, [.ref 0, .int x1, .int x2, .int x3], [], mm I J D) = some (.inr (.inl 2), mm I1 J1 D1)) (q1 : I1 iSCL 0 = I iSCL 0) (q2 : I1 1000002 = I 1000002) (e2 : ex (233, 0, [.ref 316, .int x1, .int x2, .int x3], [], mm I1 J1 D1) = some (.inl (some (.int s)), mm I2 J2 D2)) (q3 : I2 316 0 = 1) (hi : Inv L (kk + 1) I2 J2 D2) : Turn L kk 2071 v I J D := by
  refine ⟨I2, J2, D2, (e_309_2071 I J D v).trans ?_, hi⟩
  have w : ex (295, 0, [.ref 0, .int x1, .int x2, .int x3, .ref 335, dv], [], mm I J D) = some (.inl (some (.int 1)), mm I1 J1 D1) := by
    rw [e_295_0, e1, calH_x tc_32_2]
    exact e_295_15 _ _ _
  rw [sc1 sc, sc2 sc, sc3 sc, cond_true, cond_true, cond_true, hx1, hx2, hx3, w, cal_v, ka]
  refine (e_309_2094 I1 _ D1 v 1).trans ?_
  rw [q1, q2, sc1 sc, sc2 sc, sc3 sc, cond_true, cond_true, cond_true, hx1, hx2, hx3, e2, cal_v, ka]
  refine (e_309_2118 _ _ _ v _ _).trans ?_
  rw [e_155_0, cal_v, ka, q3]
  refine (e_309_2124 _ _ _ v _ _ _).trans ?_
  rw [decide_eq_true rfl, cond_true]
  refine (e_309_2131 _ _ _ v _ _).trans ?_
  rw [decide_eq_true (by decide), cond_true]
  refine (e_309_2148 _ _ _ v).trans ?_
  exact e_309_3111 _ _ _ v
theorem tc_32_1 : ctc 295 7 1 = some 19 := by decide +kernel
theorem te_32_1 {L kk : Nat} {I I1 I2 : Nat → Nat → Int32} {J J1 J2 : Nat → Nat → Int64} {D D1 D2 : Nat → Nat → UInt64} {v : Int32} {s : Int32} {x1 : Int32} {x2 : Int32} {x3 : Int32} (sc : ScOK v I) (hx1 : I 1000002 (v + 1).toNatClampNeg = x1) (hx2 : I 1000002 (v + 2).toNatClampNeg = x2) (hx3 : I 1000002 (v + 3).toNatClampNeg = x3) (e1 : ex (122, 0, [.ref 0, .int x1, .int x2, .int x3], [], mm I J D) = some (.inr (.inl 1), mm I1 J1 D1)) (q1 : I1 iSCL 0 = I iSCL 0) (q2 : I1 1000002 = I 1000002) (e2 : ex (233, 0, [.ref 316, .int x1, .int x2, .int x3], [], mm I1 J1 D1) = some (.inl (some (.int s)), mm I2 J2 D2)) (q3 : I2 316 0 = 2) (hi : Inv L (kk + 1) I2 J2 D2) : Turn L kk 2071 v I J D := by
  refine ⟨I2, J2, D2, (e_309_2071 I J D v).trans ?_, hi⟩
  have w : ex (295, 0, [.ref 0, .int x1, .int x2, .int x3, .ref 335, dv], [], mm I J D) = some (.inl (some (.int 2)), mm I1 J1 D1) := by
    rw [e_295_0, e1, calH_x tc_32_1]
    exact e_295_19 _ _ _
  rw [sc1 sc, sc2 sc, sc3 sc, cond_true, cond_true, cond_true, hx1, hx2, hx3, w, cal_v, ka]
  refine (e_309_2094 I1 _ D1 v 2).trans ?_
  rw [q1, q2, sc1 sc, sc2 sc, sc3 sc, cond_true, cond_true, cond_true, hx1, hx2, hx3, e2, cal_v, ka]
  refine (e_309_2118 _ _ _ v _ _).trans ?_
  rw [e_155_0, cal_v, ka, q3]
  refine (e_309_2124 _ _ _ v _ _ _).trans ?_
  rw [decide_eq_true rfl, cond_true]
  refine (e_309_2131 _ _ _ v _ _).trans ?_
  rw [decide_eq_true (by decide), cond_true]
  refine (e_309_2148 _ _ _ v).trans ?_
  exact e_309_3111 _ _ _ v
theorem tk_33 {L kk : Nat} {I I1 I2 : Nat → Nat → Int32} {J J1 J2 : Nat → Nat → Int64} {D D1 D2 : Nat → Nat → UInt64} {v : Int32} {r : Int32} {x1 : Int32} {x2 : Int32} (sc : ScOK v I) (hx1 : I 1000002 (v + 1).toNatClampNeg = x1) (hx2 : I 1000002 (v + 2).toNatClampNeg = x2) (e1 : ex (123, 0, [.ref 0, .int x1, .int x2, dv], [], mm I J D) = some (.inl (some (.int r)), mm I1 J1 D1)) (q1 : I1 iSCL 0 = I iSCL 0) (q2 : I1 1000002 = I 1000002) (e2 : ex (234, 0, [.ref 316, .int x1, .int x2], [], mm I1 (upsL J1 335 0 r.toInt64) D1) = some (.inl (some (.int r)), mm I2 J2 D2)) (q3 : I2 316 0 = 0) (q4 : J2 335 0 = r.toInt64) (hi : Inv L (kk + 1) I2 J2 D2) : Turn L kk 2151 v I J D := by
  refine ⟨I2, J2, D2, (e_309_2151 I J D v).trans ?_, hi⟩
  have w : ex (296, 0, [.ref 0, .int x1, .int x2, .ref 335, dv], [], mm I J D) = some (.inl (some (.int 0)), mm I1 (upsL J1 335 0 r.toInt64) D1) := by
    rw [e_296_0, e1, calH_v, ka]
    show ex (296, 8, [dv, dv, dv, dv, dv], [.int r, .int 0, .ref 335], mm I1 J1 D1) = _
    rw [e_296_8, show inb 0 1 = true by decide, cond_true, e_296_21]
    rfl
  rw [sc1 sc, sc2 sc, cond_true, cond_true, hx1, hx2, w, cal_v, ka]
  refine (e_309_2168 I1 _ D1 v 0).trans ?_
  rw [q1, q2, sc1 sc, sc2 sc, cond_true, cond_true, hx1, hx2, e2, cal_v, ka]
  refine (e_309_2186 _ _ _ v _ _).trans ?_
  rw [e_155_0, cal_v, ka, q3]
  refine (e_309_2192 _ _ _ v _ _ _).trans ?_
  rw [decide_eq_true rfl, cond_true]
  refine (e_309_2199 _ _ _ v _ _).trans ?_
  rw [decide_eq_false (by decide), cond_false]
  refine (e_309_2204 _ _ _ v _).trans ?_
  rw [q4, decide_eq_true (lgc _), cond_true]
  refine (e_309_2216 _ _ _ v).trans ?_
  exact e_309_3111 _ _ _ v
theorem tc_33_2 : ctc 296 5 2 = some 13 := by decide +kernel
theorem te_33_2 {L kk : Nat} {I I1 I2 : Nat → Nat → Int32} {J J1 J2 : Nat → Nat → Int64} {D D1 D2 : Nat → Nat → UInt64} {v : Int32} {s : Int32} {x1 : Int32} {x2 : Int32} (sc : ScOK v I) (hx1 : I 1000002 (v + 1).toNatClampNeg = x1) (hx2 : I 1000002 (v + 2).toNatClampNeg = x2) (e1 : ex (123, 0, [.ref 0, .int x1, .int x2, dv], [], mm I J D) = some (.inr (.inl 2), mm I1 J1 D1)) (q1 : I1 iSCL 0 = I iSCL 0) (q2 : I1 1000002 = I 1000002) (e2 : ex (234, 0, [.ref 316, .int x1, .int x2], [], mm I1 J1 D1) = some (.inl (some (.int s)), mm I2 J2 D2)) (q3 : I2 316 0 = 1) (hi : Inv L (kk + 1) I2 J2 D2) : Turn L kk 2151 v I J D := by
  refine ⟨I2, J2, D2, (e_309_2151 I J D v).trans ?_, hi⟩
  have w : ex (296, 0, [.ref 0, .int x1, .int x2, .ref 335, dv], [], mm I J D) = some (.inl (some (.int 1)), mm I1 J1 D1) := by
    rw [e_296_0, e1, calH_x tc_33_2]
    exact e_296_13 _ _ _
  rw [sc1 sc, sc2 sc, cond_true, cond_true, hx1, hx2, w, cal_v, ka]
  refine (e_309_2168 I1 _ D1 v 1).trans ?_
  rw [q1, q2, sc1 sc, sc2 sc, cond_true, cond_true, hx1, hx2, e2, cal_v, ka]
  refine (e_309_2186 _ _ _ v _ _).trans ?_
  rw [e_155_0, cal_v, ka, q3]
  refine (e_309_2192 _ _ _ v _ _ _).trans ?_
  rw [decide_eq_true rfl, cond_true]
  refine (e_309_2199 _ _ _ v _ _).trans ?_
  rw [decide_eq_true (by decide), cond_true]
  refine (e_309_2216 _ _ _ v).trans ?_
  exact e_309_3111 _ _ _ v
theorem tc_33_3 : ctc 296 5 3 = some 17 := by decide +kernel
theorem te_33_3 {L kk : Nat} {I I1 I2 : Nat → Nat → Int32} {J J1 J2 : Nat → Nat → Int64} {D D1 D2 : Nat → Nat → UInt64} {v : Int32} {s : Int32} {x1 : Int32} {x2 : Int32} (sc : ScOK v I) (hx1 : I 1000002 (v + 1).toNatClampNeg = x1) (hx2 : I 1000002 (v + 2).toNatClampNeg = x2) (e1 : ex (123, 0, [.ref 0, .int x1, .int x2, dv], [], mm I J D) = some (.inr (.inl 3), mm I1 J1 D1)) (q1 : I1 iSCL 0 = I iSCL 0) (q2 : I1 1000002 = I 1000002) (e2 : ex (234, 0, [.ref 316, .int x1, .int x2], [], mm I1 J1 D1) = some (.inl (some (.int s)), mm I2 J2 D2)) (q3 : I2 316 0 = 2) (hi : Inv L (kk + 1) I2 J2 D2) : Turn L kk 2151 v I J D := by
  refine ⟨I2, J2, D2, (e_309_2151 I J D v).trans ?_, hi⟩
  have w : ex (296, 0, [.ref 0, .int x1, .int x2, .ref 335, dv], [], mm I J D) = some (.inl (some (.int 2)), mm I1 J1 D1) := by
    rw [e_296_0, e1, calH_x tc_33_3]
    exact e_296_17 _ _ _
  rw [sc1 sc, sc2 sc, cond_true, cond_true, hx1, hx2, w, cal_v, ka]
  refine (e_309_2168 I1 _ D1 v 2).trans ?_
  rw [q1, q2, sc1 sc, sc2 sc, cond_true, cond_true, hx1, hx2, e2, cal_v, ka]
  refine (e_309_2186 _ _ _ v _ _).trans ?_
  rw [e_155_0, cal_v, ka, q3]
  refine (e_309_2192 _ _ _ v _ _ _).trans ?_
  rw [decide_eq_true rfl, cond_true]
  refine (e_309_2199 _ _ _ v _ _).trans ?_
  rw [decide_eq_true (by decide), cond_true]
  refine (e_309_2216 _ _ _ v).trans ?_
  exact e_309_3111 _ _ _ v
theorem tk_34 {L kk : Nat} {I I1 I2 : Nat → Nat → Int32} {J J1 J2 : Nat → Nat → Int64} {D D1 D2 : Nat → Nat → UInt64} {v : Int32} {r : Int32} {x1 : Int32} {x2 : Int32} (sc : ScOK v I) (hx1 : I 1000002 (v + 1).toNatClampNeg = x1) (hx2 : I 1000002 (v + 2).toNatClampNeg = x2) (e1 : ex (124, 0, [.ref 0, .int x1, .int x2], [], mm I J D) = some (.inl (some (.int r)), mm I1 J1 D1)) (q1 : I1 iSCL 0 = I iSCL 0) (q2 : I1 1000002 = I 1000002) (e2 : ex (239, 0, [.ref 316, .int x1, .int x2], [], mm I1 (upsL J1 335 0 r.toInt64) D1) = some (.inl (some (.int r)), mm I2 J2 D2)) (q3 : I2 316 0 = 0) (q4 : J2 335 0 = r.toInt64) (hi : Inv L (kk + 1) I2 J2 D2) : Turn L kk 2219 v I J D := by
  refine ⟨I2, J2, D2, (e_309_2219 I J D v).trans ?_, hi⟩
  have w : ex (297, 0, [.ref 0, .int x1, .int x2, .ref 335, dv], [], mm I J D) = some (.inl (some (.int 0)), mm I1 (upsL J1 335 0 r.toInt64) D1) := by
    rw [e_297_0, e1, calH_v, ka]
    show ex (297, 8, [dv, dv, dv, dv, dv], [.int r, .int 0, .ref 335], mm I1 J1 D1) = _
    rw [e_297_8, show inb 0 1 = true by decide, cond_true, e_297_21]
    rfl
  rw [sc1 sc, sc2 sc, cond_true, cond_true, hx1, hx2, w, cal_v, ka]
  refine (e_309_2236 I1 _ D1 v 0).trans ?_
  rw [q1, q2, sc1 sc, sc2 sc, cond_true, cond_true, hx1, hx2, e2, cal_v, ka]
  refine (e_309_2254 _ _ _ v _ _).trans ?_
  rw [e_155_0, cal_v, ka, q3]
  refine (e_309_2260 _ _ _ v _ _ _).trans ?_
  rw [decide_eq_true rfl, cond_true]
  refine (e_309_2267 _ _ _ v _ _).trans ?_
  rw [decide_eq_false (by decide), cond_false]
  refine (e_309_2272 _ _ _ v _).trans ?_
  rw [q4, decide_eq_true (lgc _), cond_true]
  refine (e_309_2284 _ _ _ v).trans ?_
  exact e_309_3111 _ _ _ v
theorem tc_34_2 : ctc 297 5 2 = some 13 := by decide +kernel
theorem te_34_2 {L kk : Nat} {I I1 I2 : Nat → Nat → Int32} {J J1 J2 : Nat → Nat → Int64} {D D1 D2 : Nat → Nat → UInt64} {v : Int32} {s : Int32} {x1 : Int32} {x2 : Int32} (sc : ScOK v I) (hx1 : I 1000002 (v + 1).toNatClampNeg = x1) (hx2 : I 1000002 (v + 2).toNatClampNeg = x2) (e1 : ex (124, 0, [.ref 0, .int x1, .int x2], [], mm I J D) = some (.inr (.inl 2), mm I1 J1 D1)) (q1 : I1 iSCL 0 = I iSCL 0) (q2 : I1 1000002 = I 1000002) (e2 : ex (239, 0, [.ref 316, .int x1, .int x2], [], mm I1 J1 D1) = some (.inl (some (.int s)), mm I2 J2 D2)) (q3 : I2 316 0 = 1) (hi : Inv L (kk + 1) I2 J2 D2) : Turn L kk 2219 v I J D := by
  refine ⟨I2, J2, D2, (e_309_2219 I J D v).trans ?_, hi⟩
  have w : ex (297, 0, [.ref 0, .int x1, .int x2, .ref 335, dv], [], mm I J D) = some (.inl (some (.int 1)), mm I1 J1 D1) := by
    rw [e_297_0, e1, calH_x tc_34_2]
    exact e_297_13 _ _ _
  rw [sc1 sc, sc2 sc, cond_true, cond_true, hx1, hx2, w, cal_v, ka]
  refine (e_309_2236 I1 _ D1 v 1).trans ?_
  rw [q1, q2, sc1 sc, sc2 sc, cond_true, cond_true, hx1, hx2, e2, cal_v, ka]
  refine (e_309_2254 _ _ _ v _ _).trans ?_
  rw [e_155_0, cal_v, ka, q3]
  refine (e_309_2260 _ _ _ v _ _ _).trans ?_
  rw [decide_eq_true rfl, cond_true]
  refine (e_309_2267 _ _ _ v _ _).trans ?_
  rw [decide_eq_true (by decide), cond_true]
  refine (e_309_2284 _ _ _ v).trans ?_
  exact e_309_3111 _ _ _ v
theorem tc_34_3 : ctc 297 5 3 = some 17 := by decide +kernel
theorem te_34_3 {L kk : Nat} {I I1 I2 : Nat → Nat → Int32} {J J1 J2 : Nat → Nat → Int64} {D D1 D2 : Nat → Nat → UInt64} {v : Int32} {s : Int32} {x1 : Int32} {x2 : Int32} (sc : ScOK v I) (hx1 : I 1000002 (v + 1).toNatClampNeg = x1) (hx2 : I 1000002 (v + 2).toNatClampNeg = x2) (e1 : ex (124, 0, [.ref 0, .int x1, .int x2], [], mm I J D) = some (.inr (.inl 3), mm I1 J1 D1)) (q1 : I1 iSCL 0 = I iSCL 0) (q2 : I1 1000002 = I 1000002) (e2 : ex (239, 0, [.ref 316, .int x1, .int x2], [], mm I1 J1 D1) = some (.inl (some (.int s)), mm I2 J2 D2)) (q3 : I2 316 0 = 2) (hi : Inv L (kk + 1) I2 J2 D2) : Turn L kk 2219 v I J D := by
  refine ⟨I2, J2, D2, (e_309_2219 I J D v).trans ?_, hi⟩
  have w : ex (297, 0, [.ref 0, .int x1, .int x2, .ref 335, dv], [], mm I J D) = some (.inl (some (.int 2)), mm I1 J1 D1) := by
    rw [e_297_0, e1, calH_x tc_34_3]
    exact e_297_17 _ _ _
  rw [sc1 sc, sc2 sc, cond_true, cond_true, hx1, hx2, w, cal_v, ka]
  refine (e_309_2236 I1 _ D1 v 2).trans ?_
  rw [q1, q2, sc1 sc, sc2 sc, cond_true, cond_true, hx1, hx2, e2, cal_v, ka]
  refine (e_309_2254 _ _ _ v _ _).trans ?_
  rw [e_155_0, cal_v, ka, q3]
  refine (e_309_2260 _ _ _ v _ _ _).trans ?_
  rw [decide_eq_true rfl, cond_true]
  refine (e_309_2267 _ _ _ v _ _).trans ?_
  rw [decide_eq_true (by decide), cond_true]
  refine (e_309_2284 _ _ _ v).trans ?_
  exact e_309_3111 _ _ _ v
theorem tk_35 {L kk : Nat} {I I1 I2 : Nat → Nat → Int32} {J J1 J2 : Nat → Nat → Int64} {D D1 D2 : Nat → Nat → UInt64} {v : Int32} {r : Int32} {x1 : Int32} {x2 : Int32} (sc : ScOK v I) (hx1 : I 1000002 (v + 1).toNatClampNeg = x1) (hx2 : I 1000002 (v + 2).toNatClampNeg = x2) (e1 : ex (125, 0, [.ref 0, .int x1, .int x2], [], mm I J D) = some (.inl (some (.int r)), mm I1 J1 D1)) (q1 : I1 iSCL 0 = I iSCL 0) (q2 : I1 1000002 = I 1000002) (e2 : ex (240, 0, [.ref 316, .int x1, .int x2, dv, dv], [], mm I1 (upsL J1 335 0 r.toInt64) D1) = some (.inl (some (.int r)), mm I2 J2 D2)) (q3 : I2 316 0 = 0) (q4 : J2 335 0 = r.toInt64) (hi : Inv L (kk + 1) I2 J2 D2) : Turn L kk 2287 v I J D := by
  refine ⟨I2, J2, D2, (e_309_2287 I J D v).trans ?_, hi⟩
  have w : ex (298, 0, [.ref 0, .int x1, .int x2, .ref 335, dv], [], mm I J D) = some (.inl (some (.int 0)), mm I1 (upsL J1 335 0 r.toInt64) D1) := by
    rw [e_298_0, e1, calH_v, ka]
    show ex (298, 8, [dv, dv, dv, dv, dv], [.int r, .int 0, .ref 335], mm I1 J1 D1) = _
    rw [e_298_8, show inb 0 1 = true by decide, cond_true, e_298_21]
    rfl
  rw [sc1 sc, sc2 sc, cond_true, cond_true, hx1, hx2, w, cal_v, ka]
  refine (e_309_2304 I1 _ D1 v 0).trans ?_
  rw [q1, q2, sc1 sc, sc2 sc, cond_true, cond_true, hx1, hx2, e2, cal_v, ka]
  refine (e_309_2322 _ _ _ v _ _).trans ?_
  rw [e_155_0, cal_v, ka, q3]
  refine (e_309_2328 _ _ _ v _ _ _).trans ?_
  rw [decide_eq_true rfl, cond_true]
  refine (e_309_2335 _ _ _ v _ _).trans ?_
  rw [decide_eq_false (by decide), cond_false]
  refine (e_309_2340 _ _ _ v _).trans ?_
  rw [q4, decide_eq_true (lgc _), cond_true]
  refine (e_309_2352 _ _ _ v).trans ?_
  exact e_309_3111 _ _ _ v
theorem tc_35_2 : ctc 298 5 2 = some 13 := by decide +kernel
theorem te_35_2 {L kk : Nat} {I I1 I2 : Nat → Nat → Int32} {J J1 J2 : Nat → Nat → Int64} {D D1 D2 : Nat → Nat → UInt64} {v : Int32} {s : Int32} {x1 : Int32} {x2 : Int32} (sc : ScOK v I) (hx1 : I 1000002 (v + 1).toNatClampNeg = x1) (hx2 : I 1000002 (v + 2).toNatClampNeg = x2) (e1 : ex (125, 0, [.ref 0, .int x1, .int x2], [], mm I J D) = some (.inr (.inl 2), mm I1 J1 D1)) (q1 : I1 iSCL 0 = I iSCL 0) (q2 : I1 1000002 = I 1000002) (e2 : ex (240, 0, [.ref 316, .int x1, .int x2, dv, dv], [], mm I1 J1 D1) = some (.inl (some (.int s)), mm I2 J2 D2)) (q3 : I2 316 0 = 1) (hi : Inv L (kk + 1) I2 J2 D2) : Turn L kk 2287 v I J D := by
  refine ⟨I2, J2, D2, (e_309_2287 I J D v).trans ?_, hi⟩
  have w : ex (298, 0, [.ref 0, .int x1, .int x2, .ref 335, dv], [], mm I J D) = some (.inl (some (.int 1)), mm I1 J1 D1) := by
    rw [e_298_0, e1, calH_x tc_35_2]
    exact e_298_13 _ _ _
  rw [sc1 sc, sc2 sc, cond_true, cond_true, hx1, hx2, w, cal_v, ka]
  refine (e_309_2304 I1 _ D1 v 1).trans ?_
  rw [q1, q2, sc1 sc, sc2 sc, cond_true, cond_true, hx1, hx2, e2, cal_v, ka]
  refine (e_309_2322 _ _ _ v _ _).trans ?_
  rw [e_155_0, cal_v, ka, q3]
  refine (e_309_2328 _ _ _ v _ _ _).trans ?_
  rw [decide_eq_true rfl, cond_true]
  refine (e_309_2335 _ _ _ v _ _).trans ?_
  rw [decide_eq_true (by decide), cond_true]
  refine (e_309_2352 _ _ _ v).trans ?_
  exact e_309_3111 _ _ _ v
theorem tc_35_3 : ctc 298 5 3 = some 17 := by decide +kernel
theorem te_35_3 {L kk : Nat} {I I1 I2 : Nat → Nat → Int32} {J J1 J2 : Nat → Nat → Int64} {D D1 D2 : Nat → Nat → UInt64} {v : Int32} {s : Int32} {x1 : Int32} {x2 : Int32} (sc : ScOK v I) (hx1 : I 1000002 (v + 1).toNatClampNeg = x1) (hx2 : I 1000002 (v + 2).toNatClampNeg = x2) (e1 : ex (125, 0, [.ref 0, .int x1, .int x2], [], mm I J D) = some (.inr (.inl 3), mm I1 J1 D1)) (q1 : I1 iSCL 0 = I iSCL 0) (q2 : I1 1000002 = I 1000002) (e2 : ex (240, 0, [.ref 316, .int x1, .int x2, dv, dv], [], mm I1 J1 D1) = some (.inl (some (.int s)), mm I2 J2 D2)) (q3 : I2 316 0 = 2) (hi : Inv L (kk + 1) I2 J2 D2) : Turn L kk 2287 v I J D := by
  refine ⟨I2, J2, D2, (e_309_2287 I J D v).trans ?_, hi⟩
  have w : ex (298, 0, [.ref 0, .int x1, .int x2, .ref 335, dv], [], mm I J D) = some (.inl (some (.int 2)), mm I1 J1 D1) := by
    rw [e_298_0, e1, calH_x tc_35_3]
    exact e_298_17 _ _ _
  rw [sc1 sc, sc2 sc, cond_true, cond_true, hx1, hx2, w, cal_v, ka]
  refine (e_309_2304 I1 _ D1 v 2).trans ?_
  rw [q1, q2, sc1 sc, sc2 sc, cond_true, cond_true, hx1, hx2, e2, cal_v, ka]
  refine (e_309_2322 _ _ _ v _ _).trans ?_
  rw [e_155_0, cal_v, ka, q3]
  refine (e_309_2328 _ _ _ v _ _ _).trans ?_
  rw [decide_eq_true rfl, cond_true]
  refine (e_309_2335 _ _ _ v _ _).trans ?_
  rw [decide_eq_true (by decide), cond_true]
  refine (e_309_2352 _ _ _ v).trans ?_
  exact e_309_3111 _ _ _ v
theorem tk_36 {L kk : Nat} {I I1 I2 : Nat → Nat → Int32} {J J1 J2 : Nat → Nat → Int64} {D D1 D2 : Nat → Nat → UInt64} {v : Int32} {r : Int32} {x1 : Int32} (sc : ScOK v I) (hx1 : I 1000002 (v + 1).toNatClampNeg = x1) (e1 : ex (126, 0, [.ref 0, .int x1], [], mm I J D) = some (.inl (some (.int r)), mm I1 J1 D1)) (q1 : I1 iSCL 0 = I iSCL 0) (q2 : I1 1000002 = I 1000002) (e2 : ex (242, 0, [.ref 316, .int x1], [], mm I1 (upsL J1 335 0 r.toInt64) D1) = some (.inl (some (.int r)), mm I2 J2 D2)) (q3 : I2 316 0 = 0) (q4 : J2 335 0 = r.toInt64) (hi : Inv L (kk + 1) I2 J2 D2) : Turn L kk 2355 v I J D := by
  refine ⟨I2, J2, D2, (e_309_2355 I J D v).trans ?_, hi⟩
  have w : ex (299, 0, [.ref 0, .int x1, .ref 335, dv], [], mm I J D) = some (.inl (some (.int 0)), mm I1 (upsL J1 335 0 r.toInt64) D1) := by
    rw [e_299_0, e1, calH_v, ka]
    show ex (299, 7, [dv, dv, dv, dv], [.int r, .int 0, .ref 335], mm I1 J1 D1) = _
    rw [e_299_7, show inb 0 1 = true by decide, cond_true, e_299_18]
    rfl
  rw [sc1 sc, cond_true, hx1, w, cal_v, ka]
  refine (e_309_2366 I1 _ D1 v 0).trans ?_
  rw [q1, q2, sc1 sc, cond_true, hx1, e2, cal_v, ka]
  refine (e_309_2378 _ _ _ v _ _).trans ?_
  rw [e_155_0, cal_v, ka, q3]
  refine (e_309_2384 _ _ _ v _ _ _).trans ?_
  rw [decide_eq_true rfl, cond_true]
  refine (e_309_2391 _ _ _ v _ _).trans ?_
  rw [decide_eq_false (by decide), cond_false]
  refine (e_309_2396 _ _ _ v _).trans ?_
  rw [q4, decide_eq_true (lgc _), cond_true]
  refine (e_309_2408 _ _ _ v).trans ?_
  exact e_309_3111 _ _ _ v
theorem tc_36_2 : ctc 299 4 2 = some 12 := by decide +kernel
theorem te_36_2 {L kk : Nat} {I I1 I2 : Nat → Nat → Int32} {J J1 J2 : Nat → Nat → Int64} {D D1 D2 : Nat → Nat → UInt64} {v : Int32} {s : Int32} {x1 : Int32} (sc : ScOK v I) (hx1 : I 1000002 (v + 1).toNatClampNeg = x1) (e1 : ex (126, 0, [.ref 0, .int x1], [], mm I J D) = some (.inr (.inl 2), mm I1 J1 D1)) (q1 : I1 iSCL 0 = I iSCL 0) (q2 : I1 1000002 = I 1000002) (e2 : ex (242, 0, [.ref 316, .int x1], [], mm I1 J1 D1) = some (.inl (some (.int s)), mm I2 J2 D2)) (q3 : I2 316 0 = 1) (hi : Inv L (kk + 1) I2 J2 D2) : Turn L kk 2355 v I J D := by
  refine ⟨I2, J2, D2, (e_309_2355 I J D v).trans ?_, hi⟩
  have w : ex (299, 0, [.ref 0, .int x1, .ref 335, dv], [], mm I J D) = some (.inl (some (.int 1)), mm I1 J1 D1) := by
    rw [e_299_0, e1, calH_x tc_36_2]
    exact e_299_12 _ _ _
  rw [sc1 sc, cond_true, hx1, w, cal_v, ka]
  refine (e_309_2366 I1 _ D1 v 1).trans ?_
  rw [q1, q2, sc1 sc, cond_true, hx1, e2, cal_v, ka]
  refine (e_309_2378 _ _ _ v _ _).trans ?_
  rw [e_155_0, cal_v, ka, q3]
  refine (e_309_2384 _ _ _ v _ _ _).trans ?_
  rw [decide_eq_true rfl, cond_true]
  refine (e_309_2391 _ _ _ v _ _).trans ?_
  rw [decide_eq_true (by decide), cond_true]
  refine (e_309_2408 _ _ _ v).trans ?_
  exact e_309_3111 _ _ _ v
theorem tc_36_3 : ctc 299 4 3 = some 15 := by decide +kernel
theorem te_36_3 {L kk : Nat} {I I1 I2 : Nat → Nat → Int32} {J J1 J2 : Nat → Nat → Int64} {D D1 D2 : Nat → Nat → UInt64} {v : Int32} {s : Int32} {x1 : Int32} (sc : ScOK v I) (hx1 : I 1000002 (v + 1).toNatClampNeg = x1) (e1 : ex (126, 0, [.ref 0, .int x1], [], mm I J D) = some (.inr (.inl 3), mm I1 J1 D1)) (q1 : I1 iSCL 0 = I iSCL 0) (q2 : I1 1000002 = I 1000002) (e2 : ex (242, 0, [.ref 316, .int x1], [], mm I1 J1 D1) = some (.inl (some (.int s)), mm I2 J2 D2)) (q3 : I2 316 0 = 2) (hi : Inv L (kk + 1) I2 J2 D2) : Turn L kk 2355 v I J D := by
  refine ⟨I2, J2, D2, (e_309_2355 I J D v).trans ?_, hi⟩
  have w : ex (299, 0, [.ref 0, .int x1, .ref 335, dv], [], mm I J D) = some (.inl (some (.int 2)), mm I1 J1 D1) := by
    rw [e_299_0, e1, calH_x tc_36_3]
    exact e_299_15 _ _ _
  rw [sc1 sc, cond_true, hx1, w, cal_v, ka]
  refine (e_309_2366 I1 _ D1 v 2).trans ?_
  rw [q1, q2, sc1 sc, cond_true, hx1, e2, cal_v, ka]
  refine (e_309_2378 _ _ _ v _ _).trans ?_
  rw [e_155_0, cal_v, ka, q3]
  refine (e_309_2384 _ _ _ v _ _ _).trans ?_
  rw [decide_eq_true rfl, cond_true]
  refine (e_309_2391 _ _ _ v _ _).trans ?_
  rw [decide_eq_true (by decide), cond_true]
  refine (e_309_2408 _ _ _ v).trans ?_
  exact e_309_3111 _ _ _ v
theorem tk_37 {L kk : Nat} {I I1 I2 : Nat → Nat → Int32} {J J1 J2 : Nat → Nat → Int64} {D D1 D2 : Nat → Nat → UInt64} {v : Int32} {r : Int32} {x1 : Int32} {x2 : Int32} (sc : ScOK v I) (hx1 : I 1000002 (v + 1).toNatClampNeg = x1) (hx2 : I 1000002 (v + 2).toNatClampNeg = x2) (e1 : ex (127, 0, [.ref 0, .int x1, .int x2], [], mm I J D) = some (.inl (some (.int r)), mm I1 J1 D1)) (q1 : I1 iSCL 0 = I iSCL 0) (q2 : I1 1000002 = I 1000002) (e2 : ex (243, 0, [.ref 316, .int x1, .int x2], [], mm I1 (upsL J1 335 0 r.toInt64) D1) = some (.inl (some (.int r)), mm I2 J2 D2)) (q3 : I2 316 0 = 0) (q4 : J2 335 0 = r.toInt64) (hi : Inv L (kk + 1) I2 J2 D2) : Turn L kk 2411 v I J D := by
  refine ⟨I2, J2, D2, (e_309_2411 I J D v).trans ?_, hi⟩
  have w : ex (300, 0, [.ref 0, .int x1, .int x2, .ref 335, dv], [], mm I J D) = some (.inl (some (.int 0)), mm I1 (upsL J1 335 0 r.toInt64) D1) := by
    rw [e_300_0, e1, calH_v, ka]
    show ex (300, 8, [dv, dv, dv, dv, dv], [.int r, .int 0, .ref 335], mm I1 J1 D1) = _
    rw [e_300_8, show inb 0 1 = true by decide, cond_true, e_300_21]
    rfl
  rw [sc1 sc, sc2 sc, cond_true, cond_true, hx1, hx2, w, cal_v, ka]
  refine (e_309_2428 I1 _ D1 v 0).trans ?_
  rw [q1, q2, sc1 sc, sc2 sc, cond_true, cond_true, hx1, hx2, e2, cal_v, ka]
  refine (e_309_2446 _ _ _ v _ _).trans ?_
  rw [e_155_0, cal_v, ka, q3]
  refine (e_309_2452 _ _ _ v _ _ _).trans ?_
  rw [decide_eq_true rfl, cond_true]
  refine (e_309_2459 _ _ _ v _ _).trans ?_
  rw [decide_eq_false (by decide), cond_false]
  refine (e_309_2464 _ _ _ v _).trans ?_
  rw [q4, decide_eq_true (lgc _), cond_true]
  refine (e_309_2476 _ _ _ v).trans ?_
  exact e_309_3111 _ _ _ v
theorem tc_37_2 : ctc 300 5 2 = some 13 := by decide +kernel
theorem te_37_2 {L kk : Nat} {I I1 I2 : Nat → Nat → Int32} {J J1 J2 : Nat → Nat → Int64} {D D1 D2 : Nat → Nat → UInt64} {v : Int32} {s : Int32} {x1 : Int32} {x2 : Int32} (sc : ScOK v I) (hx1 : I 1000002 (v + 1).toNatClampNeg = x1) (hx2 : I 1000002 (v + 2).toNatClampNeg = x2) (e1 : ex (127, 0, [.ref 0, .int x1, .int x2], [], mm I J D) = some (.inr (.inl 2), mm I1 J1 D1)) (q1 : I1 iSCL 0 = I iSCL 0) (q2 : I1 1000002 = I 1000002) (e2 : ex (243, 0, [.ref 316, .int x1, .int x2], [], mm I1 J1 D1) = some (.inl (some (.int s)), mm I2 J2 D2)) (q3 : I2 316 0 = 1) (hi : Inv L (kk + 1) I2 J2 D2) : Turn L kk 2411 v I J D := by
  refine ⟨I2, J2, D2, (e_309_2411 I J D v).trans ?_, hi⟩
  have w : ex (300, 0, [.ref 0, .int x1, .int x2, .ref 335, dv], [], mm I J D) = some (.inl (some (.int 1)), mm I1 J1 D1) := by
    rw [e_300_0, e1, calH_x tc_37_2]
    exact e_300_13 _ _ _
  rw [sc1 sc, sc2 sc, cond_true, cond_true, hx1, hx2, w, cal_v, ka]
  refine (e_309_2428 I1 _ D1 v 1).trans ?_
  rw [q1, q2, sc1 sc, sc2 sc, cond_true, cond_true, hx1, hx2, e2, cal_v, ka]
  refine (e_309_2446 _ _ _ v _ _).trans ?_
  rw [e_155_0, cal_v, ka, q3]
  refine (e_309_2452 _ _ _ v _ _ _).trans ?_
  rw [decide_eq_true rfl, cond_true]
  refine (e_309_2459 _ _ _ v _ _).trans ?_
  rw [decide_eq_true (by decide), cond_true]
  refine (e_309_2476 _ _ _ v).trans ?_
  exact e_309_3111 _ _ _ v
theorem tc_37_3 : ctc 300 5 3 = some 17 := by decide +kernel
theorem te_37_3 {L kk : Nat} {I I1 I2 : Nat → Nat → Int32} {J J1 J2 : Nat → Nat → Int64} {D D1 D2 : Nat → Nat → UInt64} {v : Int32} {s : Int32} {x1 : Int32} {x2 : Int32} (sc : ScOK v I) (hx1 : I 1000002 (v + 1).toNatClampNeg = x1) (hx2 : I 1000002 (v + 2).toNatClampNeg = x2) (e1 : ex (127, 0, [.ref 0, .int x1, .int x2], [], mm I J D) = some (.inr (.inl 3), mm I1 J1 D1)) (q1 : I1 iSCL 0 = I iSCL 0) (q2 : I1 1000002 = I 1000002) (e2 : ex (243, 0, [.ref 316, .int x1, .int x2], [], mm I1 J1 D1) = some (.inl (some (.int s)), mm I2 J2 D2)) (q3 : I2 316 0 = 2) (hi : Inv L (kk + 1) I2 J2 D2) : Turn L kk 2411 v I J D := by
  refine ⟨I2, J2, D2, (e_309_2411 I J D v).trans ?_, hi⟩
  have w : ex (300, 0, [.ref 0, .int x1, .int x2, .ref 335, dv], [], mm I J D) = some (.inl (some (.int 2)), mm I1 J1 D1) := by
    rw [e_300_0, e1, calH_x tc_37_3]
    exact e_300_17 _ _ _
  rw [sc1 sc, sc2 sc, cond_true, cond_true, hx1, hx2, w, cal_v, ka]
  refine (e_309_2428 I1 _ D1 v 2).trans ?_
  rw [q1, q2, sc1 sc, sc2 sc, cond_true, cond_true, hx1, hx2, e2, cal_v, ka]
  refine (e_309_2446 _ _ _ v _ _).trans ?_
  rw [e_155_0, cal_v, ka, q3]
  refine (e_309_2452 _ _ _ v _ _ _).trans ?_
  rw [decide_eq_true rfl, cond_true]
  refine (e_309_2459 _ _ _ v _ _).trans ?_
  rw [decide_eq_true (by decide), cond_true]
  refine (e_309_2476 _ _ _ v).trans ?_
  exact e_309_3111 _ _ _ v
theorem tk_38 {L kk : Nat} {I I1 I2 : Nat → Nat → Int32} {J J1 J2 : Nat → Nat → Int64} {D D1 D2 : Nat → Nat → UInt64} {v : Int32} {r : Int32} {x1 : Int32} (sc : ScOK v I) (hx1 : I 1000002 (v + 1).toNatClampNeg = x1) (e1 : ex (128, 0, [.ref 0, .int x1], [], mm I J D) = some (.inl (some (.int r)), mm I1 J1 D1)) (q1 : I1 iSCL 0 = I iSCL 0) (q2 : I1 1000002 = I 1000002) (e2 : ex (244, 0, [.ref 316, .int x1, dv], [], mm I1 (upsL J1 335 0 r.toInt64) D1) = some (.inl (some (.int r)), mm I2 J2 D2)) (q3 : I2 316 0 = 0) (q4 : J2 335 0 = r.toInt64) (hi : Inv L (kk + 1) I2 J2 D2) : Turn L kk 2479 v I J D := by
  refine ⟨I2, J2, D2, (e_309_2479 I J D v).trans ?_, hi⟩
  have w : ex (301, 0, [.ref 0, .int x1, .ref 335, dv], [], mm I J D) = some (.inl (some (.int 0)), mm I1 (upsL J1 335 0 r.toInt64) D1) := by
    rw [e_301_0, e1, calH_v, ka]
    show ex (301, 7, [dv, dv, dv, dv], [.int r, .int 0, .ref 335], mm I1 J1 D1) = _
    rw [e_301_7, show inb 0 1 = true by decide, cond_true, e_301_18]
    rfl
  rw [sc1 sc, cond_true, hx1, w, cal_v, ka]
  refine (e_309_2490 I1 _ D1 v 0).trans ?_
  rw [q1, q2, sc1 sc, cond_true, hx1, e2, cal_v, ka]
  refine (e_309_2502 _ _ _ v _ _).trans ?_
  rw [e_155_0, cal_v, ka, q3]
  refine (e_309_2508 _ _ _ v _ _ _).trans ?_
  rw [decide_eq_true rfl, cond_true]
  refine (e_309_2515 _ _ _ v _ _).trans ?_
  rw [decide_eq_false (by decide), cond_false]
  refine (e_309_2520 _ _ _ v _).trans ?_
  rw [q4, decide_eq_true (lgc _), cond_true]
  refine (e_309_2532 _ _ _ v).trans ?_
  exact e_309_3111 _ _ _ v
theorem tc_38_2 : ctc 301 4 2 = some 12 := by decide +kernel
theorem te_38_2 {L kk : Nat} {I I1 I2 : Nat → Nat → Int32} {J J1 J2 : Nat → Nat → Int64} {D D1 D2 : Nat → Nat → UInt64} {v : Int32} {s : Int32} {x1 : Int32} (sc : ScOK v I) (hx1 : I 1000002 (v + 1).toNatClampNeg = x1) (e1 : ex (128, 0, [.ref 0, .int x1], [], mm I J D) = some (.inr (.inl 2), mm I1 J1 D1)) (q1 : I1 iSCL 0 = I iSCL 0) (q2 : I1 1000002 = I 1000002) (e2 : ex (244, 0, [.ref 316, .int x1, dv], [], mm I1 J1 D1) = some (.inl (some (.int s)), mm I2 J2 D2)) (q3 : I2 316 0 = 1) (hi : Inv L (kk + 1) I2 J2 D2) : Turn L kk 2479 v I J D := by
  refine ⟨I2, J2, D2, (e_309_2479 I J D v).trans ?_, hi⟩
  have w : ex (301, 0, [.ref 0, .int x1, .ref 335, dv], [], mm I J D) = some (.inl (some (.int 1)), mm I1 J1 D1) := by
    rw [e_301_0, e1, calH_x tc_38_2]
    exact e_301_12 _ _ _
  rw [sc1 sc, cond_true, hx1, w, cal_v, ka]
  refine (e_309_2490 I1 _ D1 v 1).trans ?_
  rw [q1, q2, sc1 sc, cond_true, hx1, e2, cal_v, ka]
  refine (e_309_2502 _ _ _ v _ _).trans ?_
  rw [e_155_0, cal_v, ka, q3]
  refine (e_309_2508 _ _ _ v _ _ _).trans ?_
  rw [decide_eq_true rfl, cond_true]
  refine (e_309_2515 _ _ _ v _ _).trans ?_
  rw [decide_eq_true (by decide), cond_true]
  refine (e_309_2532 _ _ _ v).trans ?_
  exact e_309_3111 _ _ _ v
theorem tc_38_3 : ctc 301 4 3 = some 15 := by decide +kernel
theorem te_38_3 {L kk : Nat} {I I1 I2 : Nat → Nat → Int32} {J J1 J2 : Nat → Nat → Int64} {D D1 D2 : Nat → Nat → UInt64} {v : Int32} {s : Int32} {x1 : Int32} (sc : ScOK v I) (hx1 : I 1000002 (v + 1).toNatClampNeg = x1) (e1 : ex (128, 0, [.ref 0, .int x1], [], mm I J D) = some (.inr (.inl 3), mm I1 J1 D1)) (q1 : I1 iSCL 0 = I iSCL 0) (q2 : I1 1000002 = I 1000002) (e2 : ex (244, 0, [.ref 316, .int x1, dv], [], mm I1 J1 D1) = some (.inl (some (.int s)), mm I2 J2 D2)) (q3 : I2 316 0 = 2) (hi : Inv L (kk + 1) I2 J2 D2) : Turn L kk 2479 v I J D := by
  refine ⟨I2, J2, D2, (e_309_2479 I J D v).trans ?_, hi⟩
  have w : ex (301, 0, [.ref 0, .int x1, .ref 335, dv], [], mm I J D) = some (.inl (some (.int 2)), mm I1 J1 D1) := by
    rw [e_301_0, e1, calH_x tc_38_3]
    exact e_301_15 _ _ _
  rw [sc1 sc, cond_true, hx1, w, cal_v, ka]
  refine (e_309_2490 I1 _ D1 v 2).trans ?_
  rw [q1, q2, sc1 sc, cond_true, hx1, e2, cal_v, ka]
  refine (e_309_2502 _ _ _ v _ _).trans ?_
  rw [e_155_0, cal_v, ka, q3]
  refine (e_309_2508 _ _ _ v _ _ _).trans ?_
  rw [decide_eq_true rfl, cond_true]
  refine (e_309_2515 _ _ _ v _ _).trans ?_
  rw [decide_eq_true (by decide), cond_true]
  refine (e_309_2532 _ _ _ v).trans ?_
  exact e_309_3111 _ _ _ v
theorem tk_39 {L kk : Nat} {I I1 I2 : Nat → Nat → Int32} {J J1 J2 : Nat → Nat → Int64} {D D1 D2 : Nat → Nat → UInt64} {v : Int32} {r : Int32} {x1 : Int32} {x2 : Int32} {x3 : Int32} (sc : ScOK v I) (hx1 : I 1000002 (v + 1).toNatClampNeg = x1) (hx2 : I 1000002 (v + 2).toNatClampNeg = x2) (hx3 : I 1000002 (v + 3).toNatClampNeg = x3) (e1 : ex (129, 0, [.ref 0, .int x1, .int x2, .int x3, dv], [], mm I J D) = some (.inl (some (.int r)), mm I1 J1 D1)) (q1 : I1 iSCL 0 = I iSCL 0) (q2 : I1 1000002 = I 1000002) (e2 : ex (245, 0, [.ref 316, .int x1, .int x2, .int x3, dv], [], mm I1 (upsL J1 335 0 r.toInt64) D1) = some (.inl (some (.int r)), mm I2 J2 D2)) (q3 : I2 316 0 = 0) (q4 : J2 335 0 = r.toInt64) (hi : Inv L (kk + 1) I2 J2 D2) : Turn L kk 2535 v I J D := by
  refine ⟨I2, J2, D2, (e_309_2535 I J D v).trans ?_, hi⟩
  have w : ex (302, 0, [.ref 0, .int x1, .int x2, .int x3, .ref 335, dv], [], mm I J D) = some (.inl (some (.int 0)), mm I1 (upsL J1 335 0 r.toInt64) D1) := by
    rw [e_302_0, e1, calH_v, ka]
    show ex (302, 10, [dv, dv, dv, dv, dv, dv], [.int r, .int 0, .ref 335], mm I1 J1 D1) = _
    rw [e_302_10, show inb 0 1 = true by decide, cond_true, e_302_23]
    rfl
  rw [sc1 sc, sc2 sc, sc3 sc, cond_true, cond_true, cond_true, hx1, hx2, hx3, w, cal_v, ka]
  refine (e_309_2558 I1 _ D1 v 0).trans ?_
  rw [q1, q2, sc1 sc, sc2 sc, sc3 sc, cond_true, cond_true, cond_true, hx1, hx2, hx3, e2, cal_v, ka]
  refine (e_309_2582 _ _ _ v _ _).trans ?_
  rw [e_155_0, cal_v, ka, q3]
  refine (e_309_2588 _ _ _ v _ _ _).trans ?_
  rw [decide_eq_true rfl, cond_true]
  refine (e_309_2595 _ _ _ v _ _).trans ?_
  rw [decide_eq_false (by decide), cond_false]
  refine (e_309_2600 _ _ _ v _).trans ?_
  rw [q4, decide_eq_true (lgc _), cond_true]
  refine (e_309_2612 _ _ _ v).trans ?_
  exact e_309_3111 _ _ _ v
theorem tc_39_2 : ctc 302 7 2 = some 15 := by decide +kernel
theorem te_39_2 {L kk : Nat} {I I1 I2 : Nat → Nat → Int32} {J J1 J2 : Nat → Nat → Int64} {D D1 D2 : Nat → Nat → UInt64} {v : Int32} {s : Int32} {x1 : Int32} {x2 : Int32} {x3 : Int32} (sc : ScOK v I) (hx1 : I 1000002 (v + 1).toNatClampNeg = x1) (hx2 : I 1000002 (v + 2).toNatClampNeg = x2) (hx3 : I 1000002 (v + 3).toNatClampNeg = x3) (e1 : ex (129, 0, [.ref 0, .int x1, .int x2, .int x3, dv], [], mm I J D) = some (.inr (.inl 2), mm I1 J1 D1)) (q1 : I1 iSCL 0 = I iSCL 0) (q2 : I1 1000002 = I 1000002) (e2 : ex (245, 0, [.ref 316, .int x1, .int x2, .int x3, dv], [], mm I1 J1 D1) = some (.inl (some (.int s)), mm I2 J2 D2)) (q3 : I2 316 0 = 1) (hi : Inv L (kk + 1) I2 J2 D2) : Turn L kk 2535 v I J D := by
  refine ⟨I2, J2, D2, (e_309_2535 I J D v).trans ?_, hi⟩
  have w : ex (302, 0, [.ref 0, .int x1, .int x2, .int x3, .ref 335, dv], [], mm I J D) = some (.inl (some (.int 1)), mm I1 J1 D1) := by
    rw [e_302_0, e1, calH_x tc_39_2]
    exact e_302_15 _ _ _
  rw [sc1 sc, sc2 sc, sc3 sc, cond_true, cond_true, cond_true, hx1, hx2, hx3, w, cal_v, ka]
  refine (e_309_2558 I1 _ D1 v 1).trans ?_
  rw [q1, q2, sc1 sc, sc2 sc, sc3 sc, cond_true, cond_true, cond_true, hx1, hx2, hx3, e2, cal_v, ka]
  refine (e_309_2582 _ _ _ v _ _).trans ?_
  rw [e_155_0, cal_v, ka, q3]
  refine (e_309_2588 _ _ _ v _ _ _).trans ?_
  rw [decide_eq_true rfl, cond_true]
  refine (e_309_2595 _ _ _ v _ _).trans ?_
  rw [decide_eq_true (by decide), cond_true]
  refine (e_309_2612 _ _ _ v).trans ?_
  exact e_309_3111 _ _ _ v
theorem tc_39_1 : ctc 302 7 1 = some 19 := by decide +kernel
theorem te_39_1 {L kk : Nat} {I I1 I2 : Nat → Nat → Int32} {J J1 J2 : Nat → Nat → Int64} {D D1 D2 : Nat → Nat → UInt64} {v : Int32} {s : Int32} {x1 : Int32} {x2 : Int32} {x3 : Int32} (sc : ScOK v I) (hx1 : I 1000002 (v + 1).toNatClampNeg = x1) (hx2 : I 1000002 (v + 2).toNatClampNeg = x2) (hx3 : I 1000002 (v + 3).toNatClampNeg = x3) (e1 : ex (129, 0, [.ref 0, .int x1, .int x2, .int x3, dv], [], mm I J D) = some (.inr (.inl 1), mm I1 J1 D1)) (q1 : I1 iSCL 0 = I iSCL 0) (q2 : I1 1000002 = I 1000002) (e2 : ex (245, 0, [.ref 316, .int x1, .int x2, .int x3, dv], [], mm I1 J1 D1) = some (.inl (some (.int s)), mm I2 J2 D2)) (q3 : I2 316 0 = 2) (hi : Inv L (kk + 1) I2 J2 D2) : Turn L kk 2535 v I J D := by
  refine ⟨I2, J2, D2, (e_309_2535 I J D v).trans ?_, hi⟩
  have w : ex (302, 0, [.ref 0, .int x1, .int x2, .int x3, .ref 335, dv], [], mm I J D) = some (.inl (some (.int 2)), mm I1 J1 D1) := by
    rw [e_302_0, e1, calH_x tc_39_1]
    exact e_302_19 _ _ _
  rw [sc1 sc, sc2 sc, sc3 sc, cond_true, cond_true, cond_true, hx1, hx2, hx3, w, cal_v, ka]
  refine (e_309_2558 I1 _ D1 v 2).trans ?_
  rw [q1, q2, sc1 sc, sc2 sc, sc3 sc, cond_true, cond_true, cond_true, hx1, hx2, hx3, e2, cal_v, ka]
  refine (e_309_2582 _ _ _ v _ _).trans ?_
  rw [e_155_0, cal_v, ka, q3]
  refine (e_309_2588 _ _ _ v _ _ _).trans ?_
  rw [decide_eq_true rfl, cond_true]
  refine (e_309_2595 _ _ _ v _ _).trans ?_
  rw [decide_eq_true (by decide), cond_true]
  refine (e_309_2612 _ _ _ v).trans ?_
  exact e_309_3111 _ _ _ v
theorem tk_40 {L kk : Nat} {I I1 I2 : Nat → Nat → Int32} {J J1 J2 : Nat → Nat → Int64} {D D1 D2 : Nat → Nat → UInt64} {v : Int32} {r : Int32} {x1 : Int32} {x2 : Int32} {x3 : Int32} {x4 : Int32} (sc : ScOK v I) (hx1 : I 1000002 (v + 1).toNatClampNeg = x1) (hx2 : I 1000002 (v + 2).toNatClampNeg = x2) (hx3 : I 1000002 (v + 3).toNatClampNeg = x3) (hx4 : I 1000002 (v + 4).toNatClampNeg = x4) (e1 : ex (130, 0, [.ref 0, .int x1, .int x2, .int x3, .int x4, dv], [], mm I J D) = some (.inl (some (.int r)), mm I1 J1 D1)) (q1 : I1 iSCL 0 = I iSCL 0) (q2 : I1 1000002 = I 1000002) (e2 : ex (248, 0, [.ref 316, .int x1, .int x2, .int x3, .int x4, dv, dv], [], mm I1 (upsL J1 335 0 r.toInt64) D1) = some (.inl (some (.int r)), mm I2 J2 D2)) (q3 : I2 316 0 = 0) (q4 : J2 335 0 = r.toInt64) (hi : Inv L (kk + 1) I2 J2 D2) : Turn L kk 2615 v I J D := by
  refine ⟨I2, J2, D2, (e_309_2615 I J D v).trans ?_, hi⟩
  have w : ex (303, 0, [.ref 0, .int x1, .int x2, .int x3, .int x4, .ref 335, dv], [], mm I J D) = some (.inl (some (.int 0)), mm I1 (upsL J1 335 0 r.toInt64) D1) := by
    rw [e_303_0, e1, calH_v, ka]
    show ex (303, 12, [dv, dv, dv, dv, dv, dv, dv], [.int r, .int 0, .ref 335], mm I1 J1 D1) = _
    rw [e_303_12, show inb 0 1 = true by decide, cond_true, e_303_21]
    rfl
  rw [sc1 sc, sc2 sc, sc3 sc, sc4 sc, cond_true, cond_true, cond_true, cond_true, hx1, hx2, hx3, hx4, w, cal_v, ka]
  refine (e_309_2644 I1 _ D1 v 0).trans ?_
  rw [q1, q2, sc1 sc, sc2 sc, sc3 sc, sc4 sc, cond_true, cond_true, cond_true, cond_true, hx1, hx2, hx3, hx4, e2, cal_v, ka]
  refine (e_309_2674 _ _ _ v _ _).trans ?_
  rw [e_155_0, cal_v, ka, q3]
  refine (e_309_2680 _ _ _ v _ _ _).trans ?_
  rw [decide_eq_true rfl, cond_true]
  refine (e_309_2687 _ _ _ v _ _).trans ?_
  rw [decide_eq_false (by decide), cond_false]
  refine (e_309_2692 _ _ _ v _).trans ?_
  rw [q4, decide_eq_true (lgc _), cond_true]
  refine (e_309_2704 _ _ _ v).trans ?_
  exact e_309_3111 _ _ _ v
theorem tc_40_1 : ctc 303 9 1 = some 17 := by decide +kernel
theorem te_40_1 {L kk : Nat} {I I1 I2 : Nat → Nat → Int32} {J J1 J2 : Nat → Nat → Int64} {D D1 D2 : Nat → Nat → UInt64} {v : Int32} {s : Int32} {x1 : Int32} {x2 : Int32} {x3 : Int32} {x4 : Int32} (sc : ScOK v I) (hx1 : I 1000002 (v + 1).toNatClampNeg = x1) (hx2 : I 1000002 (v + 2).toNatClampNeg = x2) (hx3 : I 1000002 (v + 3).toNatClampNeg = x3) (hx4 : I 1000002 (v + 4).toNatClampNeg = x4) (e1 : ex (130, 0, [.ref 0, .int x1, .int x2, .int x3, .int x4, dv], [], mm I J D) = some (.inr (.inl 1), mm I1 J1 D1)) (q1 : I1 iSCL 0 = I iSCL 0) (q2 : I1 1000002 = I 1000002) (e2 : ex (248, 0, [.ref 316, .int x1, .int x2, .int x3, .int x4, dv, dv], [], mm I1 J1 D1) = some (.inl (some (.int s)), mm I2 J2 D2)) (q3 : I2 316 0 = 1) (hi : Inv L (kk + 1) I2 J2 D2) : Turn L kk 2615 v I J D := by
  refine ⟨I2, J2, D2, (e_309_2615 I J D v).trans ?_, hi⟩
  have w : ex (303, 0, [.ref 0, .int x1, .int x2, .int x3, .int x4, .ref 335, dv], [], mm I J D) = some (.inl (some (.int 1)), mm I1 J1 D1) := by
    rw [e_303_0, e1, calH_x tc_40_1]
    exact e_303_17 _ _ _
  rw [sc1 sc, sc2 sc, sc3 sc, sc4 sc, cond_true, cond_true, cond_true, cond_true, hx1, hx2, hx3, hx4, w, cal_v, ka]
  refine (e_309_2644 I1 _ D1 v 1).trans ?_
  rw [q1, q2, sc1 sc, sc2 sc, sc3 sc, sc4 sc, cond_true, cond_true, cond_true, cond_true, hx1, hx2, hx3, hx4, e2, cal_v, ka]
  refine (e_309_2674 _ _ _ v _ _).trans ?_
  rw [e_155_0, cal_v, ka, q3]
  refine (e_309_2680 _ _ _ v _ _ _).trans ?_
  rw [decide_eq_true rfl, cond_true]
  refine (e_309_2687 _ _ _ v _ _).trans ?_
  rw [decide_eq_true (by decide), cond_true]
  refine (e_309_2704 _ _ _ v).trans ?_
  exact e_309_3111 _ _ _ v
theorem tk_41 {L kk : Nat} {I I1 I2 : Nat → Nat → Int32} {J J1 J2 : Nat → Nat → Int64} {D D1 D2 : Nat → Nat → UInt64} {v : Int32} {r : Int32} {x1 : Int32} (sc : ScOK v I) (hx1 : I 1000002 (v + 1).toNatClampNeg = x1) (e1 : ex (131, 0, [.ref 0, .int x1], [], mm I J D) = some (.inl (some (.int r)), mm I1 J1 D1)) (q1 : I1 iSCL 0 = I iSCL 0) (q2 : I1 1000002 = I 1000002) (e2 : ex (249, 0, [.ref 316, .int x1], [], mm I1 (upsL J1 335 0 r.toInt64) D1) = some (.inl (some (.int r)), mm I2 J2 D2)) (q3 : I2 316 0 = 0) (q4 : J2 335 0 = r.toInt64) (hi : Inv L (kk + 1) I2 J2 D2) : Turn L kk 2707 v I J D := by
  refine ⟨I2, J2, D2, (e_309_2707 I J D v).trans ?_, hi⟩
  have w : ex (304, 0, [.ref 0, .int x1, .ref 335, dv], [], mm I J D) = some (.inl (some (.int 0)), mm I1 (upsL J1 335 0 r.toInt64) D1) := by
    rw [e_304_0, e1, calH_v, ka]
    show ex (304, 7, [dv, dv, dv, dv], [.int r, .int 0, .ref 335], mm I1 J1 D1) = _
    rw [e_304_7, show inb 0 1 = true by decide, cond_true, e_304_15]
    rfl
  rw [sc1 sc, cond_true, hx1, w, cal_v, ka]
  refine (e_309_2718 I1 _ D1 v 0).trans ?_
  rw [q1, q2, sc1 sc, cond_true, hx1, e2, cal_v, ka]
  refine (e_309_2730 _ _ _ v _ _).trans ?_
  rw [e_155_0, cal_v, ka, q3]
  refine (e_309_2736 _ _ _ v _ _ _).trans ?_
  rw [decide_eq_true rfl, cond_true]
  refine (e_309_2743 _ _ _ v _ _).trans ?_
  rw [decide_eq_false (by decide), cond_false]
  refine (e_309_2748 _ _ _ v _).trans ?_
  rw [q4, decide_eq_true (lgc _), cond_true]
  refine (e_309_2760 _ _ _ v).trans ?_
  exact e_309_3111 _ _ _ v
theorem tc_41_2 : ctc 304 4 2 = some 12 := by decide +kernel
theorem te_41_2 {L kk : Nat} {I I1 I2 : Nat → Nat → Int32} {J J1 J2 : Nat → Nat → Int64} {D D1 D2 : Nat → Nat → UInt64} {v : Int32} {s : Int32} {x1 : Int32} (sc : ScOK v I) (hx1 : I 1000002 (v + 1).toNatClampNeg = x1) (e1 : ex (131, 0, [.ref 0, .int x1], [], mm I J D) = some (.inr (.inl 2), mm I1 J1 D1)) (q1 : I1 iSCL 0 = I iSCL 0) (q2 : I1 1000002 = I 1000002) (e2 : ex (249, 0, [.ref 316, .int x1], [], mm I1 J1 D1) = some (.inl (some (.int s)), mm I2 J2 D2)) (q3 : I2 316 0 = 1) (hi : Inv L (kk + 1) I2 J2 D2) : Turn L kk 2707 v I J D := by
  refine ⟨I2, J2, D2, (e_309_2707 I J D v).trans ?_, hi⟩
  have w : ex (304, 0, [.ref 0, .int x1, .ref 335, dv], [], mm I J D) = some (.inl (some (.int 1)), mm I1 J1 D1) := by
    rw [e_304_0, e1, calH_x tc_41_2]
    exact e_304_12 _ _ _
  rw [sc1 sc, cond_true, hx1, w, cal_v, ka]
  refine (e_309_2718 I1 _ D1 v 1).trans ?_
  rw [q1, q2, sc1 sc, cond_true, hx1, e2, cal_v, ka]
  refine (e_309_2730 _ _ _ v _ _).trans ?_
  rw [e_155_0, cal_v, ka, q3]
  refine (e_309_2736 _ _ _ v _ _ _).trans ?_
  rw [decide_eq_true rfl, cond_true]
  refine (e_309_2743 _ _ _ v _ _).trans ?_
  rw [decide_eq_true (by decide), cond_true]
  refine (e_309_2760 _ _ _ v).trans ?_
  exact e_309_3111 _ _ _ v
theorem tq_42 {L kk : Nat} {I I1 I2 : Nat → Nat → Int32} {J J1 J2 : Nat → Nat → Int64} {D D1 D2 : Nat → Nat → UInt64} {v : Int32} {r : Int32} (e1 : ex (132, 0, [.ref 0], [], mm I J D) = some (.inl (some (.int r)), mm I1 J1 D1)) (e2 : ex (250, 0, [.ref 316], [], mm I1 J1 D1) = some (.inl (some (.int r)), mm I2 J2 D2)) (hi : Inv L (kk + 1) I2 J2 D2) : Turn L kk 2763 v I J D := by
  refine ⟨I2, J2, D2, (e_309_2763 I J D v).trans ?_, hi⟩
  rw [e1, cal_v, ka]
  refine (e_309_2767 _ _ _ v _).trans ?_
  rw [e2, cal_v, ka]
  refine (e_309_2771 _ _ _ v _ _).trans ?_
  rw [decide_eq_true rfl, cond_true]
  exact e_309_3111 _ _ _ v
theorem tq_44 {L kk : Nat} {I I1 I2 : Nat → Nat → Int32} {J J1 J2 : Nat → Nat → Int64} {D D1 D2 : Nat → Nat → UInt64} {v : Int32} {r : Int32} (e1 : ex (134, 0, [.ref 0], [], mm I J D) = some (.inl (some (.int r)), mm I1 J1 D1)) (e2 : ex (263, 0, [.ref 316], [], mm I1 J1 D1) = some (.inl (some (.int r)), mm I2 J2 D2)) (hi : Inv L (kk + 1) I2 J2 D2) : Turn L kk 2864 v I J D := by
  refine ⟨I2, J2, D2, (e_309_2864 I J D v).trans ?_, hi⟩
  rw [e1, cal_v, ka]
  refine (e_309_2868 _ _ _ v _).trans ?_
  rw [e2, cal_v, ka]
  refine (e_309_2872 _ _ _ v _ _).trans ?_
  rw [decide_eq_true rfl, cond_true]
  exact e_309_3111 _ _ _ v
theorem tk_45 {L kk : Nat} {I I1 I2 : Nat → Nat → Int32} {J J1 J2 : Nat → Nat → Int64} {D D1 D2 : Nat → Nat → UInt64} {v : Int32} {r : Int32}   (e1 : ex (135, 0, [.ref 0, dv, dv, dv, dv, dv], [], mm I J D) = some (.inl (some (.int r)), mm I1 J1 D1)) (q1 : I1 iSCL 0 = I iSCL 0) (q2 : I1 1000002 = I 1000002) (e2 : ex (265, 0, [.ref 316, dv, dv, dv], [], mm I1 (upsL J1 335 0 r.toInt64) D1) = some (.inl (some (.int r)), mm I2 J2 D2)) (q3 : I2 316 0 = 0) (q4 : J2 335 0 = r.toInt64) (hi : Inv L (kk + 1) I2 J2 D2) : Turn L kk 2877 v I J D := by
  refine ⟨I2, J2, D2, (e_309_2877 I J D v).trans ?_, hi⟩
  have w : ex (306, 0, [.ref 0, .ref 335, dv], [], mm I J D) = some (.inl (some (.int 0)), mm I1 (upsL J1 335 0 r.toInt64) D1) := by
    rw [e_306_0, e1, calH_v, ka]
    show ex (306, 6, [dv, dv, dv], [.int r, .int 0, .ref 335], mm I1 J1 D1) = _
    rw [e_306_6, show inb 0 1 = true by decide, cond_true, e_306_20]
    rfl
  rw [w, cal_v, ka]
  refine (e_309_2882 I1 _ D1 v 0).trans ?_
  rw [e2, cal_v, ka]
  refine (e_309_2888 _ _ _ v _ _).trans ?_
  rw [e_155_0, cal_v, ka, q3]
  refine (e_309_2894 _ _ _ v _ _ _).trans ?_
  rw [decide_eq_true rfl, cond_true]
  refine (e_309_2901 _ _ _ v _ _).trans ?_
  rw [decide_eq_false (by decide), cond_false]
  refine (e_309_2906 _ _ _ v _).trans ?_
  rw [q4, decide_eq_true (lgc _), cond_true]
  refine (e_309_2918 _ _ _ v).trans ?_
  exact e_309_3111 _ _ _ v
theorem tc_45_1 : ctc 306 3 1 = some 11 := by decide +kernel
theorem te_45_1 {L kk : Nat} {I I1 I2 : Nat → Nat → Int32} {J J1 J2 : Nat → Nat → Int64} {D D1 D2 : Nat → Nat → UInt64} {v : Int32} {s : Int32}   (e1 : ex (135, 0, [.ref 0, dv, dv, dv, dv, dv], [], mm I J D) = some (.inr (.inl 1), mm I1 J1 D1)) (q1 : I1 iSCL 0 = I iSCL 0) (q2 : I1 1000002 = I 1000002) (e2 : ex (265, 0, [.ref 316, dv, dv, dv], [], mm I1 J1 D1) = some (.inl (some (.int s)), mm I2 J2 D2)) (q3 : I2 316 0 = 1) (hi : Inv L (kk + 1) I2 J2 D2) : Turn L kk 2877 v I J D := by
  refine ⟨I2, J2, D2, (e_309_2877 I J D v).trans ?_, hi⟩
  have w : ex (306, 0, [.ref 0, .ref 335, dv], [], mm I J D) = some (.inl (some (.int 1)), mm I1 J1 D1) := by
    rw [e_306_0, e1, calH_x tc_45_1]
    exact e_306_11 _ _ _
  rw [w, cal_v, ka]
  refine (e_309_2882 I1 _ D1 v 1).trans ?_
  rw [e2, cal_v, ka]
  refine (e_309_2888 _ _ _ v _ _).trans ?_
  rw [e_155_0, cal_v, ka, q3]
  refine (e_309_2894 _ _ _ v _ _ _).trans ?_
  rw [decide_eq_true rfl, cond_true]
  refine (e_309_2901 _ _ _ v _ _).trans ?_
  rw [decide_eq_true (by decide), cond_true]
  refine (e_309_2918 _ _ _ v).trans ?_
  exact e_309_3111 _ _ _ v
theorem tc_45_2 : ctc 306 3 2 = some 14 := by decide +kernel
theorem te_45_2 {L kk : Nat} {I I1 I2 : Nat → Nat → Int32} {J J1 J2 : Nat → Nat → Int64} {D D1 D2 : Nat → Nat → UInt64} {v : Int32} {s : Int32}   (e1 : ex (135, 0, [.ref 0, dv, dv, dv, dv, dv], [], mm I J D) = some (.inr (.inl 2), mm I1 J1 D1)) (q1 : I1 iSCL 0 = I iSCL 0) (q2 : I1 1000002 = I 1000002) (e2 : ex (265, 0, [.ref 316, dv, dv, dv], [], mm I1 J1 D1) = some (.inl (some (.int s)), mm I2 J2 D2)) (q3 : I2 316 0 = 2) (hi : Inv L (kk + 1) I2 J2 D2) : Turn L kk 2877 v I J D := by
  refine ⟨I2, J2, D2, (e_309_2877 I J D v).trans ?_, hi⟩
  have w : ex (306, 0, [.ref 0, .ref 335, dv], [], mm I J D) = some (.inl (some (.int 2)), mm I1 J1 D1) := by
    rw [e_306_0, e1, calH_x tc_45_2]
    exact e_306_14 _ _ _
  rw [w, cal_v, ka]
  refine (e_309_2882 I1 _ D1 v 2).trans ?_
  rw [e2, cal_v, ka]
  refine (e_309_2888 _ _ _ v _ _).trans ?_
  rw [e_155_0, cal_v, ka, q3]
  refine (e_309_2894 _ _ _ v _ _ _).trans ?_
  rw [decide_eq_true rfl, cond_true]
  refine (e_309_2901 _ _ _ v _ _).trans ?_
  rw [decide_eq_true (by decide), cond_true]
  refine (e_309_2918 _ _ _ v).trans ?_
  exact e_309_3111 _ _ _ v
theorem tc_45_0 : ctc 306 3 0 = some 17 := by decide +kernel
theorem te_45_0 {L kk : Nat} {I I1 I2 : Nat → Nat → Int32} {J J1 J2 : Nat → Nat → Int64} {D D1 D2 : Nat → Nat → UInt64} {v : Int32} {s : Int32}   (e1 : ex (135, 0, [.ref 0, dv, dv, dv, dv, dv], [], mm I J D) = some (.inr (.inl 0), mm I1 J1 D1)) (q1 : I1 iSCL 0 = I iSCL 0) (q2 : I1 1000002 = I 1000002) (e2 : ex (265, 0, [.ref 316, dv, dv, dv], [], mm I1 J1 D1) = some (.inl (some (.int s)), mm I2 J2 D2)) (q3 : I2 316 0 = 3) (hi : Inv L (kk + 1) I2 J2 D2) : Turn L kk 2877 v I J D := by
  refine ⟨I2, J2, D2, (e_309_2877 I J D v).trans ?_, hi⟩
  have w : ex (306, 0, [.ref 0, .ref 335, dv], [], mm I J D) = some (.inl (some (.int 3)), mm I1 J1 D1) := by
    rw [e_306_0, e1, calH_x tc_45_0]
    exact e_306_17 _ _ _
  rw [w, cal_v, ka]
  refine (e_309_2882 I1 _ D1 v 3).trans ?_
  rw [e2, cal_v, ka]
  refine (e_309_2888 _ _ _ v _ _).trans ?_
  rw [e_155_0, cal_v, ka, q3]
  refine (e_309_2894 _ _ _ v _ _ _).trans ?_
  rw [decide_eq_true rfl, cond_true]
  refine (e_309_2901 _ _ _ v _ _).trans ?_
  rw [decide_eq_true (by decide), cond_true]
  refine (e_309_2918 _ _ _ v).trans ?_
  exact e_309_3111 _ _ _ v
theorem tk_46 {L kk : Nat} {I I1 I2 : Nat → Nat → Int32} {J J1 J2 : Nat → Nat → Int64} {D D1 D2 : Nat → Nat → UInt64} {v : Int32} {r : Int32}   (e1 : ex (136, 0, [.ref 0, dv], [], mm I J D) = some (.inl (some (.int r)), mm I1 J1 D1)) (q1 : I1 iSCL 0 = I iSCL 0) (q2 : I1 1000002 = I 1000002) (e2 : ex (162, 0, [.ref 316, dv, dv], [], mm I1 (upsL J1 335 0 r.toInt64) D1) = some (.inl (some (.int r)), mm I2 J2 D2)) (q3 : I2 316 0 = 0) (q4 : J2 335 0 = r.toInt64) (hi : Inv L (kk + 1) I2 J2 D2) : Turn L kk 2921 v I J D := by
  refine ⟨I2, J2, D2, (e_309_2921 I J D v).trans ?_, hi⟩
  have w : ex (307, 0, [.ref 0, .ref 335, dv], [], mm I J D) = some (.inl (some (.int 0)), mm I1 (upsL J1 335 0 r.toInt64) D1) := by
    rw [e_307_0, e1, calH_v, ka]
    show ex (307, 6, [dv, dv, dv], [.int r, .int 0, .ref 335], mm I1 J1 D1) = _
    rw [e_307_6, show inb 0 1 = true by decide, cond_true, e_307_14]
    rfl
  rw [w, cal_v, ka]
  refine (e_309_2926 I1 _ D1 v 0).trans ?_
  rw [e2, cal_v, ka]
  refine (e_309_2932 _ _ _ v _ _).trans ?_
  rw [e_155_0, cal_v, ka, q3]
  refine (e_309_2938 _ _ _ v _ _ _).trans ?_
  rw [decide_eq_true rfl, cond_true]
  refine (e_309_2945 _ _ _ v _ _).trans ?_
  rw [decide_eq_false (by decide), cond_false]
  refine (e_309_2950 _ _ _ v _).trans ?_
  rw [q4, decide_eq_true (lgc _), cond_true]
  refine (e_309_2962 _ _ _ v).trans ?_
  exact e_309_3111 _ _ _ v
theorem tc_46_0 : ctc 307 3 0 = some 11 := by decide +kernel
theorem te_46_0 {L kk : Nat} {I I1 I2 : Nat → Nat → Int32} {J J1 J2 : Nat → Nat → Int64} {D D1 D2 : Nat → Nat → UInt64} {v : Int32} {s : Int32}   (e1 : ex (136, 0, [.ref 0, dv], [], mm I J D) = some (.inr (.inl 0), mm I1 J1 D1)) (q1 : I1 iSCL 0 = I iSCL 0) (q2 : I1 1000002 = I 1000002) (e2 : ex (162, 0, [.ref 316, dv, dv], [], mm I1 J1 D1) = some (.inl (some (.int s)), mm I2 J2 D2)) (q3 : I2 316 0 = 1) (hi : Inv L (kk + 1) I2 J2 D2) : Turn L kk 2921 v I J D := by
  refine ⟨I2, J2, D2, (e_309_2921 I J D v).trans ?_, hi⟩
  have w : ex (307, 0, [.ref 0, .ref 335, dv], [], mm I J D) = some (.inl (some (.int 1)), mm I1 J1 D1) := by
    rw [e_307_0, e1, calH_x tc_46_0]
    exact e_307_11 _ _ _
  rw [w, cal_v, ka]
  refine (e_309_2926 I1 _ D1 v 1).trans ?_
  rw [e2, cal_v, ka]
  refine (e_309_2932 _ _ _ v _ _).trans ?_
  rw [e_155_0, cal_v, ka, q3]
  refine (e_309_2938 _ _ _ v _ _ _).trans ?_
  rw [decide_eq_true rfl, cond_true]
  refine (e_309_2945 _ _ _ v _ _).trans ?_
  rw [decide_eq_true (by decide), cond_true]
  refine (e_309_2962 _ _ _ v).trans ?_
  exact e_309_3111 _ _ _ v
theorem tq_47 {L kk : Nat} {I I1 I2 : Nat → Nat → Int32} {J J1 J2 : Nat → Nat → Int64} {D D1 D2 : Nat → Nat → UInt64} {v : Int32} {r : Int32} (e1 : ex (137, 0, [.ref 0], [], mm I J D) = some (.inl (some (.int r)), mm I1 J1 D1)) (e2 : ex (163, 0, [.ref 316], [], mm I1 J1 D1) = some (.inl (some (.int r)), mm I2 J2 D2)) (hi : Inv L (kk + 1) I2 J2 D2) : Turn L kk 2965 v I J D := by
  refine ⟨I2, J2, D2, (e_309_2965 I J D v).trans ?_, hi⟩
  rw [e1, cal_v, ka]
  refine (e_309_2969 _ _ _ v _).trans ?_
  rw [e2, cal_v, ka]
  refine (e_309_2973 _ _ _ v _ _).trans ?_
  rw [decide_eq_true rfl, cond_true]
  exact e_309_3111 _ _ _ v
theorem tq_50 {L kk : Nat} {I I1 I2 : Nat → Nat → Int32} {J J1 J2 : Nat → Nat → Int64} {D D1 D2 : Nat → Nat → UInt64} {v : Int32} {r : Int32} (e1 : ex (140, 0, [.ref 0], [], mm I J D) = some (.inl (some (.int r)), mm I1 J1 D1)) (e2 : ex (268, 0, [.ref 316], [], mm I1 J1 D1) = some (.inl (some (.int r)), mm I2 J2 D2)) (hi : Inv L (kk + 1) I2 J2 D2) : Turn L kk 3098 v I J D := by
  refine ⟨I2, J2, D2, (e_309_3098 I J D v).trans ?_, hi⟩
  rw [e1, cal_v, ka]
  refine (e_309_3102 _ _ _ v _).trans ?_
  rw [e2, cal_v, ka]
  refine (e_309_3106 _ _ _ v _ _).trans ?_
  rw [decide_eq_true rfl, cond_true]
  exact e_309_3111 _ _ _ v
