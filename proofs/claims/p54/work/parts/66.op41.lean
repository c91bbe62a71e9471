/-! iceOf -/
theorem x_ni {v n : Int32} {I : Nat → Nat → Int32} {J : Nat → Nat → Int64} {D : Nat → Nat → UInt64} (h : 0 ≤ v ∧ v < n) : ex (152, 0, [.int v, .int n], [], mm I J D) = some (.inl none, mm I J D) := by
  rw [e_152_0, decide_eq_false (Int32.not_lt.mpr h.1), cond_false, e_152_4, decide_eq_true h.2, cond_true, e_152_20]
theorem x_ni1 {v n : Int32} {I : Nat → Nat → Int32} {J : Nat → Nat → Int64} {D : Nat → Nat → UInt64} (h : ¬ (0 ≤ v ∧ v < n)) : ex (152, 0, [.int v, .int n], [], mm I J D) = some (.inr (.inl 2), mm I J D) := by
  by_cases h1 : v < 0
  · rw [e_152_0, decide_eq_true h1, cond_true, e_152_9]
  · rw [e_152_0, decide_eq_false h1, cond_false, e_152_4, decide_eq_false (fun h2 => h ⟨Int32.not_lt.mp h1, h2⟩), cond_false, e_152_9]
theorem ctc304 : ctc 304 4 2 = some 12 := by decide +kernel
theorem ix_of {v n : Int32} {m : Nat} (hn : n.toInt = (m : Int)) (h : 0 ≤ v ∧ v < n) : ∃ c, c < m ∧ v = nI c := by
  obtain ⟨j, hj, rfl⟩ := nI_of (Int32.not_lt.mpr h.1)
  have h2 := Int32.lt_iff_toInt_lt.mp h.2
  rw [nI_toInt hj, hn] at h2
  exact ⟨j, by omega, rfl⟩
theorem t_41 {L kk : Nat} {I : Nat → Nat → Int32} {J : Nat → Nat → Int64} {D : Nat → Nat → UInt64} (v : Int32) (h : Inv L kk I J D) (sc : ScOK v I) : Turn L kk 2707 v I J D := by
  obtain ⟨x, hx⟩ : ∃ x, x = I 1000002 (v + 1).toNatClampNeg := ⟨_, rfl⟩
  by_cases hok : 0 ≤ x ∧ x < 12
  · obtain ⟨c, hc, hxc⟩ := ix_of (m := 12) rfl hok
    have hle : 0 ≤ x ∧ x ≤ 11 := ⟨hok.1, by rw [hxc]; exact (nI_leI (b := 11) (by omega) (by decide)).mpr (by omega)⟩
    have q : I 317 (812 + c) = I 26 c := by
      have := (h.2.1.2.2.2.2.2.2.1 c hc).2.1
      rw [nrw_at (by omega), nrm_at (show rl 25 c = true from Nat.blt_eq.mpr hc)] at this
      exact this
    have e1 : ex (304, 0, [.ref 0, .int x, .ref 335, dv], [], mm I J D) = some (.inl (some (.int 0)), mm I (upsL J 335 0 (I 26 c).toInt64) D) := by
      rw [e_304_0, e_131_0, x_ni hok, cal_v, kn, e_131_6, hxc, inb_n hc (by decide), cond_true, nI_clamp (by omega), calH_v, ka]
      show ex (304, 7, [dv, dv, dv, dv], [.int (I 26 c), .int 0, .ref 335], mm I J D) = _
      rw [e_304_7, show inb 0 1 = true by decide, cond_true, e_304_15]
      rfl
    have e2 : ∀ J2, ex (249, 0, [.ref 316, .int x], [], mm I J2 D) = some (.inl (some (.int (I 26 c))), mm (ups I 316 0 0) J2 D) := by
      intro J2
      rw [e_249_0, x_in, cal_v, ka, e_249_8, bI1 hle, show (.int 1 : Value) = .int (bI true) from rfl, x_can, cal_v, ka, e_249_12, decide_eq_false (by decide), cond_false, e_249_15, hxc, show (812 : Int32) + nI c = nI (812 + c) from nI_add 812 c, inb_n (by omega) (by decide), cond_true, nI_clamp (by omega), e_249_29, uI (by decide), q]
      rfl
    refine ⟨ups I 316 0 0, upsL J 335 0 (I 26 c).toInt64, D, (e_309_2707 I J D v).trans ?_, inv_r h⟩
    rw [sc1 sc, cond_true, ← hx, e1, cal_v, ka]
    refine (e_309_2718 I _ D v 0).trans ?_
    rw [sc1 sc, cond_true, ← hx, e2, cal_v, ka]
    refine (e_309_2730 _ _ D v _ _).trans ?_
    rw [e_155_0, cal_v, ka, uIs, uUs]
    refine (e_309_2736 _ _ D v _ _ _).trans ?_
    rw [decide_eq_true rfl, cond_true]
    refine (e_309_2743 _ _ D v _ _).trans ?_
    rw [decide_eq_false (by decide), cond_false]
    refine (e_309_2748 _ _ D v _).trans ?_
    rw [upsL_s, decide_eq_true (lgc _), cond_true]
    refine (e_309_2760 _ _ D v).trans ?_
    exact e_309_3111 _ _ D v
  · have hle : ¬ (0 ≤ x ∧ x ≤ 11) := fun q => hok ⟨q.1, by
      have := Int32.le_iff_toInt_le.mp q.2
      exact Int32.lt_iff_toInt_lt.mpr (by rw [show (12 : Int32).toInt = 12 from rfl]; rw [show (11 : Int32).toInt = 11 from rfl] at this; omega)⟩
    have e1 : ex (304, 0, [.ref 0, .int x, .ref 335, dv], [], mm I J D) = some (.inl (some (.int 1)), mm I J D) := by
      rw [e_304_0, e_131_0, x_ni1 hok, cal_e, calH_x ctc304, e_304_12]
    have e2 : ex (249, 0, [.ref 316, .int x], [], mm I J D) = some (.inl (some (.int 0)), mm (ups I 316 0 1) J D) := by
      rw [e_249_0, x_in, cal_v, ka, e_249_8, bI0 hle, show (.int 0 : Value) = .int (bI false) from rfl, x_can, cal_v, ka, e_249_12, decide_eq_true (by decide), cond_true, e_249_28]
      exact e_249_29 _ J D 0
    refine ⟨ups I 316 0 1, J, D, (e_309_2707 I J D v).trans ?_, inv_r h⟩
    rw [sc1 sc, cond_true, ← hx, e1, cal_v, ka]
    refine (e_309_2718 I _ D v 1).trans ?_
    rw [sc1 sc, cond_true, ← hx, e2, cal_v, ka]
    refine (e_309_2730 _ _ D v _ _).trans ?_
    rw [e_155_0, cal_v, ka, uIs, uUs]
    refine (e_309_2736 _ _ D v _ _ _).trans ?_
    rw [decide_eq_true rfl, cond_true]
    refine (e_309_2743 _ _ D v _ _).trans ?_
    rw [decide_eq_true (by decide), cond_true]
    refine (e_309_2760 _ _ D v).trans ?_
    exact e_309_3111 _ _ D v
