/-! setPrices: the turn -/
theorem lgc (x : Int64) : lg_cmp x x = 0 := by
  unfold lg_cmp
  simp
theorem ctc285 : ctc 285 7 1 = some 15 := by decide +kernel
abbrev in20 (x : Int32) : Prop := 0 ≤ x ∧ x ≤ 20
theorem rg20 {x : Int32} (h : in20 x) : rg 0 20 x := ⟨Int32.le_iff_toInt_le.mp h.1, Int32.le_iff_toInt_le.mp h.2⟩
theorem c_20f {x y z : Int32} (h : ¬ (in20 x ∧ in20 y ∧ in20 z)) (I : Nat → Nat → Int32) (J : Nat → Nat → Int64) (D : Nat → Nat → UInt64) : ex (285, 0, [.ref 0, .int x, .int y, .int z, .ref 335, dv], [], mm I J D) = some (.inl (some (.int 1)), mm I J D) := by
  have e : ex (110, 0, [.ref 0, .int x, .int y, .int z, dv], [], mm I J D) = some (.inr (.inl 1), mm I J D) := by
    by_cases h1 : in20 x
    · by_cases h2 : in20 y
      · rw [e_110_0, x_nr h1, cal_v, kn, e_110_7, x_nr h2, cal_v, kn, e_110_14, x_nr1 (fun h3 => h ⟨h1, h2, h3⟩), cal_e]
      · rw [e_110_0, x_nr h1, cal_v, kn, e_110_7, x_nr1 h2, cal_e]
    · rw [e_110_0, x_nr1 h1, cal_e]
  rw [e_285_0, e, calH_x ctc285, e_285_15]
theorem c_20 {x y z : Int32} (h : in20 x ∧ in20 y ∧ in20 z) {xx a : Nat} (hx : xx < 8) (ha : a ≤ 8) {I : Nat → Nat → Int32} (h2 : I 0 2 = nI xx) (h3 : I 0 3 = nI a) (h5 : ∀ k, k < 50 → I 6 k = 0 ∨ I 6 k = 1) (J : Nat → Nat → Int64) (D : Nat → Nat → UInt64) :
    ∃ I1, ex (285, 0, [.ref 0, .int x, .int y, .int z, .ref 335, dv], [], mm I J D) = some (.inl (some (.int 0)), mm (ups (ups (ups I1 1 6 x) 1 7 y) 1 8 z) (upsL J 335 0 (I 1 6 + I 1 7 + I 1 8).toInt64) D) ∧ CRem xx a I I1 := by
  obtain ⟨I1, e1, c⟩ := c_rem (kk := 0) hx ha h2 h3 h5 J D
  have q : I1 1 = I 1 := c.2.2.2 1 (by decide) (Or.inl (by omega))
  refine ⟨I1, ?_, c⟩
  rw [e_285_0, e_110_0, x_nr h.1, cal_v, kn, e_110_7, x_nr h.2.1, cal_v, kn, e_110_14, x_nr h.2.2, cal_v, kn, e_110_21, e1, cal_v, kn, e_110_25, q, calH_v, ka]
  show ex (285, 10, [dv, dv, dv, dv, dv, dv], [.int (I 1 6 + I 1 7 + I 1 8), .int 0, .ref 335], mm _ J D) = _
  rw [e_285_10, show inb 0 1 = true by decide, cond_true, e_285_19]
  rfl
theorem bI0 {p : Prop} {_ : Decidable p} (h : ¬ p) : bI (decide p) = 0 := by rw [decide_eq_false h]; rfl
theorem bI1 {p : Prop} {_ : Decidable p} (h : p) : bI (decide p) = 1 := by rw [decide_eq_true h]; rfl
theorem m_20f {x y z : Int32} (h : ¬ (in20 x ∧ in20 y ∧ in20 z)) (I : Nat → Nat → Int32) (J : Nat → Nat → Int64) (D : Nat → Nat → UInt64) : ex (201, 0, [.ref 316, .int x, .int y, .int z, dv], [], mm I J D) = some (.inl (some (.int 0)), mm (ups I 316 0 1) J D) := by
  have e35 : ex (201, 35, [.ref 316, .int x, .int y, .int z, dv], [.ref 316], mm I J D) = some (.inl (some (.int 0)), mm (ups I 316 0 1) J D) := by
    rw [e_201_35, e_201_36, show (.int 0 : Value) = .int (bI false) from rfl, x_can, cal_v, ka, e_201_40, decide_eq_false (show ¬ bI false ≠ 0 by decide), cond_false, e_201_43]
    rfl
  by_cases h1 : in20 x
  · by_cases h2 : in20 y
    · rw [e_201_0, x_in, cal_v, ka, e_201_8, bI1 h1, decide_eq_false (by decide), cond_false, e_201_11, x_in, cal_v, ka, e_201_18, bI1 h2, decide_eq_false (by decide), cond_false, e_201_21, x_in, cal_v, ka, e_201_28, bI0 (fun h3 => h ⟨h1, h2, h3⟩), decide_eq_true rfl, cond_true, e35]
    · rw [e_201_0, x_in, cal_v, ka, e_201_8, bI1 h1, decide_eq_false (by decide), cond_false, e_201_11, x_in, cal_v, ka, e_201_18, bI0 h2, decide_eq_true rfl, cond_true, e35]
  · rw [e_201_0, x_in, cal_v, ka, e_201_8, bI0 h1, decide_eq_true rfl, cond_true, e35]
theorem m_20 {x y z : Int32} (h : in20 x ∧ in20 y ∧ in20 z) {e a : Nat} (he : e < 8) (ha : a ≤ 8) {I : Nat → Nat → Int32} (h4 : I 316 4 = nI e) (h3 : I 316 3 = nI a) (J : Nat → Nat → Int64) (D : Nat → Nat → UInt64) :
    ∃ I4 e2, ex (201, 0, [.ref 316, .int x, .int y, .int z, dv], [], mm I J D) = some (.inl (some (.int (I 317 621 + I 317 622 + I 317 623))), mm (ups (ups (ups I4 317 621 x) 317 622 y) 317 623 z) J D) ∧ KeepOK e a (ups I 316 0 0) I4 e2 := by
  obtain ⟨I4, e2, e1, c⟩ := x_keep he ha (I := ups I 316 0 0) (by rw [uIs, uU (by decide)]; exact h4) (by rw [uIs, uU (by decide)]; exact h3) J D
  have q : I4 317 = I 317 := by rw [c.2.2.2.2.2.1 317 (by decide) (by decide), uI (by decide)]
  refine ⟨I4, e2, ?_, c⟩
  rw [e_201_0, x_in, cal_v, ka, e_201_8, bI1 h.1, decide_eq_false (by decide), cond_false, e_201_11, x_in, cal_v, ka, e_201_18, bI1 h.2.1, decide_eq_false (by decide), cond_false, e_201_21, x_in, cal_v, ka, e_201_28, bI1 h.2.2, decide_eq_false (by decide), cond_false,
    e_201_31, e_201_36, show (.int 1 : Value) = .int (bI true) from rfl, x_can, cal_v, ka, e_201_40, decide_eq_true (show bI true ≠ 0 by decide), cond_true, e_201_45]
  show cal 201 49 _ [] (ex (161, 0, [.ref 316, dv, dv], [], mm (ups I 316 0 0) J D)) = _
  rw [e1, cal_v, kn, e_201_49, q]
