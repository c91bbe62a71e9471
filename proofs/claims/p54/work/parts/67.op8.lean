/-! ringAt -/
theorem ctc276 : ctc 276 4 2 = some 12 := by decide +kernel
theorem pred_i {r : Nat} (h : r ≤ 1000) : (nI r - 1).toInt = (r : Int) - 1 := by
  rw [Int32.toInt_sub, nI_toInt (by omega), show (1 : Int32).toInt = 1 from rfl, Int.bmod_def]
  omega
theorem t_8 {L kk : Nat} {I : Nat → Nat → Int32} {J : Nat → Nat → Int64} {D : Nat → Nat → UInt64} (v : Int32) (h : Inv L kk I J D) (sc : ScOK v I) : Turn L kk 736 v I J D := by
  obtain ⟨x, hx⟩ : ∃ x, x = I 1000002 (v + 1).toNatClampNeg := ⟨_, rfl⟩
  obtain ⟨g1, g2, g3⟩ := h.2.2.2.2
  obtain ⟨r, hr, hr2⟩ := rg_nI (b := 17) g2 (by decide)
  have g1 : I 316 6 = nI r := by rw [g1, hr2]
  rw [hr2, show rN (nI r) = r from nI_clamp (by omega)] at g3
  by_cases hok : 0 ≤ x ∧ x < nI r
  · obtain ⟨c, hc, hxc⟩ := ix_of (m := r) (nI_toInt (by omega)) hok
    have hle : 0 ≤ x ∧ x ≤ nI r - 1 := ⟨hok.1, Int32.le_iff_toInt_le.mpr (by rw [pred_i (by omega), hxc, nI_toInt (by omega)]; omega)⟩
    have e1 : ex (276, 0, [.ref 0, .int x, .ref 335, dv], [], mm I J D) = some (.inl (some (.int 0)), mm I (upsL J 335 0 (I 264 c).toInt64) D) := by
      rw [e_276_0, e_98_0, decide_eq_false (Int32.not_lt.mpr hok.1), cond_false, e_98_4, hr2, decide_eq_true hok.2, cond_true, e_98_25, hxc, inb_n (by omega) (by decide), cond_true, nI_clamp (by omega), calH_v, ka]
      show ex (276, 7, [dv, dv, dv, dv], [.int (I 264 c), .int 0, .ref 335], mm I J D) = _
      rw [e_276_7, show inb 0 1 = true by decide, cond_true, e_276_15]
      rfl
    have e2 : ∀ J2, ex (182, 0, [.ref 316, .int x], [], mm I J2 D) = some (.inl (some (.int (I 264 c))), mm (ups I 316 0 0) J2 D) := by
      intro J2
      rw [e_182_0, g1, x_in, cal_v, ka, e_182_12, bI1 hle, show (.int 1 : Value) = .int (bI true) from rfl, x_can, cal_v, ka, e_182_16, decide_eq_false (by decide), cond_false, e_182_19, hxc, inb_n (by omega) (by decide), cond_true, nI_clamp (by omega), e_182_29, uI (by decide), g3 c hc]
      rfl
    refine ⟨ups I 316 0 0, upsL J 335 0 (I 264 c).toInt64, D, (e_309_736 I J D v).trans ?_, inv_r h⟩
    · rw [sc1 sc, cond_true, ← hx, e1, cal_v, ka]
      refine (e_309_747 I _ D v 0).trans ?_
      rw [sc1 sc, cond_true, ← hx, e2, cal_v, ka]
      refine (e_309_759 _ _ D v _ _).trans ?_
      rw [e_155_0, cal_v, ka, uIs, uUs]
      refine (e_309_765 _ _ D v _ _ _).trans ?_
      rw [decide_eq_true rfl, cond_true]
      refine (e_309_772 _ _ D v _ _).trans ?_
      rw [decide_eq_false (by decide), cond_false]
      refine (e_309_777 _ _ D v _).trans ?_
      rw [upsL_s, decide_eq_true (lgc _), cond_true]
      refine (e_309_789 _ _ D v).trans ?_
      exact e_309_3111 _ _ D v
  · have hle : ¬ (0 ≤ x ∧ x ≤ nI r - 1) := fun q => hok ⟨q.1, by
      have := Int32.le_iff_toInt_le.mp q.2
      rw [pred_i (by omega)] at this
      exact Int32.lt_iff_toInt_lt.mpr (by rw [nI_toInt (by omega)]; omega)⟩
    have e1 : ex (276, 0, [.ref 0, .int x, .ref 335, dv], [], mm I J D) = some (.inl (some (.int 1)), mm I J D) := by
      have e : ex (98, 0, [.ref 0, .int x], [], mm I J D) = some (.inr (.inl 2), mm I J D) := by
        by_cases h1 : x < 0
        · rw [e_98_0, decide_eq_true h1, cond_true, e_98_15]
        · rw [e_98_0, decide_eq_false h1, cond_false, e_98_4, hr2, decide_eq_false (fun h2 => hok ⟨Int32.not_lt.mp h1, h2⟩), cond_false, e_98_15]
      rw [e_276_0, e, calH_x ctc276, e_276_12]
    have e2 : ex (182, 0, [.ref 316, .int x], [], mm I J D) = some (.inl (some (.int 0)), mm (ups I 316 0 1) J D) := by
      rw [e_182_0, g1, x_in, cal_v, ka, e_182_12, bI0 hle, show (.int 0 : Value) = .int (bI false) from rfl, x_can, cal_v, ka, e_182_16, decide_eq_true (by decide), cond_true, e_182_28]
      exact e_182_29 _ J D 0
    refine ⟨ups I 316 0 1, J, D, (e_309_736 I J D v).trans ?_, inv_r h⟩
    rw [sc1 sc, cond_true, ← hx, e1, cal_v, ka]
    refine (e_309_747 I _ D v 1).trans ?_
    rw [sc1 sc, cond_true, ← hx, e2, cal_v, ka]
    refine (e_309_759 _ _ D v _ _).trans ?_
    rw [e_155_0, cal_v, ka, uIs, uUs]
    refine (e_309_765 _ _ D v _ _ _).trans ?_
    rw [decide_eq_true rfl, cond_true]
    refine (e_309_772 _ _ D v _ _).trans ?_
    rw [decide_eq_true (by decide), cond_true]
    refine (e_309_789 _ _ D v).trans ?_
    exact e_309_3111 _ _ D v
