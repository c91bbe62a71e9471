/-! setCell: both halves -/
theorem ctc302a : ctc 302 7 2 = some 15 := by decide +kernel
theorem ctc302b : ctc 302 7 1 = some 19 := by decide +kernel
abbrev in999 (x : Int32) : Prop := 0 ≤ x ∧ x ≤ 999
theorem rg999 {x : Int32} (h : in999 x) : rg 0 999 x := ⟨Int32.le_iff_toInt_le.mp h.1, Int32.le_iff_toInt_le.mp h.2⟩
theorem c_39f {x y z : Int32} (hx : ¬ (0 ≤ x ∧ x < 12)) (I : Nat → Nat → Int32) (J : Nat → Nat → Int64) (D : Nat → Nat → UInt64) : ex (302, 0, [.ref 0, .int x, .int y, .int z, .ref 335, dv], [], mm I J D) = some (.inl (some (.int 1)), mm I J D) := by
  rw [e_302_0, e_129_0, x_ni1 hx, cal_e, calH_x ctc302a, e_302_15]
theorem c_39g {x y z : Int32} (hx : 0 ≤ x ∧ x < 12) (h : ¬ (in999 y ∧ in999 z)) (I : Nat → Nat → Int32) (J : Nat → Nat → Int64) (D : Nat → Nat → UInt64) : ex (302, 0, [.ref 0, .int x, .int y, .int z, .ref 335, dv], [], mm I J D) = some (.inl (some (.int 2)), mm I J D) := by
  by_cases h2 : in999 y
  · rw [e_302_0, e_129_0, x_ni hx, cal_v, kn, e_129_6, x_nr h2, cal_v, kn, e_129_14, x_nr1 (fun h3 => h ⟨h2, h3⟩), cal_e, calH_x ctc302b, e_302_19]
  · rw [e_302_0, e_129_0, x_ni hx, cal_v, kn, e_129_6, x_nr1 h2, cal_e, calH_x ctc302b, e_302_19]
theorem c_39 {c : Nat} {y z : Int32} (hc : c < 12) (hy : in999 y) (hz : in999 z) {xx a : Nat} (hx : xx < 8) (ha : a ≤ 8) {I : Nat → Nat → Int32} (h2 : I 0 2 = nI xx) (h3 : I 0 3 = nI a) (h5 : ∀ k, k < 50 → I 6 k = 0 ∨ I 6 k = 1) (J : Nat → Nat → Int64) (D : Nat → Nat → UInt64) :
    ∃ I1, ex (302, 0, [.ref 0, .int (nI c), .int y, .int z, .ref 335, dv], [], mm I J D) = some (.inl (some (.int 0)), mm (ups (ups I1 25 c y) 26 c z) (upsL J 335 0 (I 26 c).toInt64) D) ∧ CRem xx a I I1 := by
  obtain ⟨I1, e1, cr⟩ := c_rem (kk := 0) hx ha h2 h3 h5 J D
  have q : I1 26 = I 26 := cr.2.2.2 26 (by decide) (Or.inl (by omega))
  have hr : 0 ≤ nI c ∧ nI c < 12 := ⟨nI_pos' (by omega), (nI_ltI (b := 12) (by omega) (by decide)).mpr hc⟩
  refine ⟨I1, ?_, cr⟩
  rw [e_302_0, e_129_0, x_ni hr, cal_v, kn, e_129_6, x_nr hy, cal_v, kn, e_129_14, x_nr hz, cal_v, kn, e_129_22, e1, cal_v, kn, e_129_26, inb_n hc (by decide), cond_true, cond_true, cond_true, nI_clamp (by omega), q, calH_v, ka]
  show ex (302, 10, [dv, dv, dv, dv, dv, dv], [.int (I 26 c), .int 0, .ref 335], mm _ J D) = _
  rw [e_302_10, show inb 0 1 = true by decide, cond_true, e_302_23]
  rfl
