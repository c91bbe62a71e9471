/-! bandCount -/
theorem ctc288 : ctc 288 4 2 = some 12 := by decide +kernel
theorem krw (q : Nat) (st : List Value) : (some (Value.ref q)).toList ++ st = .ref q :: st := rfl
/-- a row's number is right, in the book -/
theorem x_row {x : Int32} {I : Nat → Nat → Int32} {J : Nat → Nat → Int64} {D : Nat → Nat → UInt64} (h : 0 ≤ x ∧ x < 2) : ex (149, 0, [.ref 0, .int x], [], mm I J D) = some (.inl none, mm I J D) := by
  rw [e_149_0, x_ni h, cal_v, kn, e_149_5]
theorem x_row1 {x : Int32} {I : Nat → Nat → Int32} {J : Nat → Nat → Int64} {D : Nat → Nat → UInt64} (h : ¬ (0 ≤ x ∧ x < 2)) : ex (149, 0, [.ref 0, .int x], [], mm I J D) = some (.inr (.inl 2), mm I J D) := by
  rw [e_149_0, x_ni1 h, cal_e]
/-- .. and in the model -/
theorem y_row (x : Int32) (I : Nat → Nat → Int32) (J : Nat → Nat → Int64) (D : Nat → Nat → UInt64) : ex (198, 0, [.int x], [], mm I J D) = some (.inl (some (.int (bI (decide (0 ≤ x ∧ x ≤ 1))))), mm I J D) := by
  rw [e_198_0, x_in, cal_v, ka, e_198_6]
  cases decide (0 ≤ x ∧ x ≤ 1) <;> rfl
/-- the page's row of a number -/
theorem x_rowOf {c : Nat} (hc : c < 2) (I : Nat → Nat → Int32) (J : Nat → Nat → Int64) (D : Nat → Nat → UInt64) : ex (45, 0, [.ref 1, .int (nI c)], [], mm I J D) = some (.inl (some (.ref (10 + 5 * c))), mm I J D) := by
  rcases (show c = 0 ∨ c = 1 by omega) with rfl | rfl
  · rw [e_45_0, decide_eq_false (by decide), cond_false, e_45_4, e_45_15_10]
  · rw [e_45_0, decide_eq_true (by decide), cond_true, e_45_11, e_45_15_15]
theorem t_23 {L kk : Nat} {I : Nat → Nat → Int32} {J : Nat → Nat → Int64} {D : Nat → Nat → UInt64} (v : Int32) (h : Inv L kk I J D) (sc : ScOK v I) : Turn L kk 1549 v I J D := by
  obtain ⟨x, hx⟩ : ∃ x, x = I 1000002 (v + 1).toNatClampNeg := ⟨_, rfl⟩
  by_cases hok : 0 ≤ x ∧ x < 2
  · obtain ⟨c, hc, hxc⟩ := ix_of (m := 2) rfl hok
    have hle : 0 ≤ x ∧ x ≤ 1 := ⟨hok.1, by rw [hxc]; exact (nI_leI (b := 1) (by omega) (by decide)).mpr (by omega)⟩
    have q : I 317 (491 + c) = I (10 + 5 * c) 4 := by
      have p := h.2.1.2.2.2.1
      rcases (show c = 0 ∨ c = 1 by omega) with rfl | rfl
      · have := p.1.1.1
        rw [nrw_at (by decide), nrm_at (by decide)] at this
        exact this
      · have := p.2.1.1.1
        rw [nrw_at (by decide), nrm_at (by decide)] at this
        exact this
    have e13 : ex (113, 13, [dv, dv], [.ref (10 + 5 * c)], mm I J D) = some (.inl (some (.int (I (10 + 5 * c) 4))), mm I J D) := by
      rcases (show c = 0 ∨ c = 1 by omega) with rfl | rfl
      · exact e_113_13_10 I J D
      · exact e_113_13_15 I J D
    have e1 : ex (288, 0, [.ref 0, .int x, .ref 335, dv], [], mm I J D) = some (.inl (some (.int 0)), mm I (upsL J 335 0 (I (10 + 5 * c) 4).toInt64) D) := by
      rw [e_288_0, e_113_0, x_row hok, cal_v, kn, e_113_5, hxc, x_rowOf hc, cal_v, krw, e13, calH_v, ka]
      show ex (288, 7, [dv, dv, dv, dv], [.int (I (10 + 5 * c) 4), .int 0, .ref 335], mm I J D) = _
      rw [e_288_7, show inb 0 1 = true by decide, cond_true, e_288_15]
      rfl
    have e2 : ∀ J2, ex (207, 0, [.ref 316, .int x], [], mm I J2 D) = some (.inl (some (.int (I (10 + 5 * c) 4))), mm (ups I 316 0 0) J2 D) := by
      intro J2
      rw [e_207_0, y_row, cal_v, ka, e_207_5, bI1 hle, show (.int 1 : Value) = .int (bI true) from rfl, x_can, cal_v, ka, e_207_9, decide_eq_false (by decide), cond_false, e_207_12, hxc, show (491 : Int32) + nI c = nI (491 + c) from nI_add 491 c, inb_n (by omega) (by decide), cond_true, nI_clamp (by omega), e_207_26, uI (by decide), q]
      rfl
    refine ⟨ups I 316 0 0, upsL J 335 0 (I (10 + 5 * c) 4).toInt64, D, (e_309_1549 I J D v).trans ?_, inv_r h⟩
    · rw [sc1 sc, cond_true, ← hx, e1, cal_v, ka]
      refine (e_309_1560 I _ D v 0).trans ?_
      rw [sc1 sc, cond_true, ← hx, e2, cal_v, ka]
      refine (e_309_1572 _ _ D v _ _).trans ?_
      rw [e_155_0, cal_v, ka, uIs, uUs]
      refine (e_309_1578 _ _ D v _ _ _).trans ?_
      rw [decide_eq_true rfl, cond_true]
      refine (e_309_1585 _ _ D v _ _).trans ?_
      rw [decide_eq_false (by decide), cond_false]
      refine (e_309_1590 _ _ D v _).trans ?_
      rw [upsL_s, decide_eq_true (lgc _), cond_true]
      refine (e_309_1602 _ _ D v).trans ?_
      exact e_309_3111 _ _ D v
  · have hle : ¬ (0 ≤ x ∧ x ≤ 1) := fun q => hok ⟨q.1, by
      have := Int32.le_iff_toInt_le.mp q.2
      exact Int32.lt_iff_toInt_lt.mpr (by rw [show (2 : Int32).toInt = 2 from rfl]; rw [show (1 : Int32).toInt = 1 from rfl] at this; omega)⟩
    have e1 : ex (288, 0, [.ref 0, .int x, .ref 335, dv], [], mm I J D) = some (.inl (some (.int 1)), mm I J D) := by
      rw [e_288_0, e_113_0, x_row1 hok, cal_e, calH_x ctc288, e_288_12]
    have e2 : ex (207, 0, [.ref 316, .int x], [], mm I J D) = some (.inl (some (.int 0)), mm (ups I 316 0 1) J D) := by
      rw [e_207_0, y_row, cal_v, ka, e_207_5, bI0 hle, show (.int 0 : Value) = .int (bI false) from rfl, x_can, cal_v, ka, e_207_9, decide_eq_true (by decide), cond_true, e_207_25]
      exact e_207_26 _ J D 0
    refine ⟨ups I 316 0 1, J, D, (e_309_1549 I J D v).trans ?_, inv_r h⟩
    rw [sc1 sc, cond_true, ← hx, e1, cal_v, ka]
    refine (e_309_1560 I _ D v 1).trans ?_
    rw [sc1 sc, cond_true, ← hx, e2, cal_v, ka]
    refine (e_309_1572 _ _ D v _ _).trans ?_
    rw [e_155_0, cal_v, ka, uIs, uUs]
    refine (e_309_1578 _ _ D v _ _ _).trans ?_
    rw [decide_eq_true rfl, cond_true]
    refine (e_309_1585 _ _ D v _ _).trans ?_
    rw [decide_eq_true (by decide), cond_true]
    refine (e_309_1602 _ _ D v).trans ?_
    exact e_309_3111 _ _ D v
