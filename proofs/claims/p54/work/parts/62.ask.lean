/-! calls that only ask for one number -/
theorem inv_r {L kk : Nat} {I : Nat → Nat → Int32} {J J2 : Nat → Nat → Int64} {D D2 : Nat → Nat → UInt64} {r : Int32} (h : Inv L kk I J D) : Inv L (kk + 1) (ups I 316 0 r) J2 D2 :=
  inv_same h (fun p hp => uI (by omega)) (uI (by decide)) (uI (by decide)) (uI (by decide)) (by rw [uI (by decide)]) (fun p h1 h2 => uI (by omega)) (fun j hj => by rw [uIs, uU hj]) (by rw [uI (by decide)])
theorem inv_0 {L kk : Nat} {I : Nat → Nat → Int32} {J J2 : Nat → Nat → Int64} {D D2 : Nat → Nat → UInt64} (h : Inv L kk I J D) : Inv L (kk + 1) I J2 D2 :=
  inv_same h (fun p hp => rfl) rfl rfl rfl rfl (fun p h1 h2 => rfl) (fun j hj => rfl) rfl
theorem t_d {L kk : Nat} {I : Nat → Nat → Int32} {J : Nat → Nat → Int64} {D : Nat → Nat → UInt64} (v : Int32) (h : Inv L kk I J D) : Turn L kk 3111 v I J D :=
  ⟨I, J, D, e_309_3111 I J D v, inv_0 h⟩
theorem t_7 {L kk : Nat} {I : Nat → Nat → Int32} {J : Nat → Nat → Int64} {D : Nat → Nat → UInt64} (v : Int32) (h : Inv L kk I J D) : Turn L kk 723 v I J D := by
  have hq : I 316 6 = I 245 3 := h.2.2.2.2.1
  have hr : ups I 316 0 0 316 6 = I 316 6 := by rw [uIs, uU (by decide)]
  refine ⟨ups I 316 0 0, J, D, (e_309_723 I J D v).trans ?_, inv_r h⟩
  rw [e_97_0, cal_v, ka, e_309_727, e_181_0, cal_v, ka, hr, e_309_731, decide_eq_true hq.symm, cond_true]
  exact e_309_3111 _ J D v
theorem t_9 {L kk : Nat} {I : Nat → Nat → Int32} {J : Nat → Nat → Int64} {D : Nat → Nat → UInt64} (v : Int32) (h : Inv L kk I J D) : Turn L kk 792 v I J D := by
  have hq : I 317 0 = I 8 1 := (by have := h.2.1.1.1; rw [nrw_at (by decide), nrm_at (by decide)] at this; exact this)
  have hr : ups I 316 0 0 317 0 = I 317 0 := by rw [uI (by decide)]
  refine ⟨ups I 316 0 0, J, D, (e_309_792 I J D v).trans ?_, inv_r h⟩
  rw [e_99_0, cal_v, ka, e_309_796, e_183_0, cal_v, ka, hr, e_309_800, decide_eq_true hq.symm, cond_true]
  exact e_309_3111 _ J D v
theorem t_42 {L kk : Nat} {I : Nat → Nat → Int32} {J : Nat → Nat → Int64} {D : Nat → Nat → UInt64} (v : Int32) (h : Inv L kk I J D) : Turn L kk 2763 v I J D := by
  have hq : I 317 824 = I 24 3 := (by have := h.2.1.2.2.2.2.2.2.2.2; rw [nrw_at (by decide), nrm_at (by decide)] at this; exact this)
  have hr : ups I 316 0 0 317 824 = I 317 824 := by rw [uI (by decide)]
  refine ⟨ups I 316 0 0, J, D, (e_309_2763 I J D v).trans ?_, inv_r h⟩
  rw [e_132_0, cal_v, ka, e_309_2767, e_250_0, cal_v, ka, hr, e_309_2771, decide_eq_true hq.symm, cond_true]
  exact e_309_3111 _ J D v
theorem t_47 {L kk : Nat} {I : Nat → Nat → Int32} {J : Nat → Nat → Int64} {D : Nat → Nat → UInt64} (v : Int32) (h : Inv L kk I J D) : Turn L kk 2965 v I J D := by
  have hq : I 316 3 = I 0 3 := (by obtain ⟨a, x, e, -, -, -, -, -, h6, h7, -⟩ := h.2.2.1; rw [h6, h7])
  have hr : ups I 316 0 0 316 3 = I 316 3 := by rw [uIs, uU (by decide)]
  refine ⟨ups I 316 0 0, J, D, (e_309_2965 I J D v).trans ?_, inv_r h⟩
  rw [e_137_0, cal_v, ka, e_309_2969, e_163_0, cal_v, ka, hr, e_309_2973, decide_eq_true hq.symm, cond_true]
  exact e_309_3111 _ J D v
theorem calH_x {μ p0 pc E h : Nat} {l0 ls st : List Value} {M : Mm} (hc : ctc μ p0 E = some h) : calH μ p0 l0 pc ls st (some (.inr (.inl E), M)) = ex (μ, h, l0, [.ref 1000000], M) := calH_e hc
theorem ctc307 : ctc 307 3 0 = some 11 := by decide +kernel
theorem t_46a {kk x a e : Nat} {I I1 I2 I3 : Nat → Nat → Int32} (h9 : ∀ s, s < 8 → (x + 7 - s) % 8 < a → PgRel kk (pgF I (29 + 27 * s)) (fun y => I 318 (825 * s + y))) (hx : x < 8) (h0 : 0 < a) (ha : a ≤ 8) (he : e < 8) (hea : (e + a) % 8 = x)
    (q2 : I1 0 2 = nI ((x + 7) % 8)) (q3 : I1 0 3 = nI (a - 1)) (q4 : ∀ p, p ≠ 0 → I1 p = I p) (c : CpOK 1 (29 + 27 * ((x + 7) % 8)) I1 I2)
    (m0 : I3 316 3 = nI (a - 1)) (m1 : I3 316 4 = nI e) (m2 : ∀ p, p ≠ 316 → p ≠ 317 → I3 p = I2 p) (m3 : ∀ y, y < 825 → I3 317 y = I2 318 (825 * ((e + (a - 1)) % 8) + y)) : PgRel (kk + 1) (pgF I3 1) (I3 317) ∧ RHis (kk + 1) I3 := by
  have hs : (x + 7) % 8 < 8 := Nat.mod_lt _ (by decide)
  have hv : (x + 7 - (x + 7) % 8) % 8 < a := by omega
  have hs2 : (e + (a - 1)) % 8 = (x + 7) % 8 := by omega
  have hp := h9 _ hs hv
  have far : ∀ p, 28 ≤ p → p ≠ 316 → p ≠ 317 → I3 p = I p := fun p h1 h2 h3 => by rw [m2 p h2 h3, c.1 p (Or.inr (by omega)), q4 p (by omega)]
  refine ⟨hp.go (Nat.le_succ kk) (fun o k hr => ?_) (fun y hy => ?_), a - 1, (x + 7) % 8, e, by omega, hs, he, hs2, ?_, ?_, m0, m1, fun s h1 h2 => ?_⟩
  · have ho := rl_lt hr
    have h5 : ∀ k, k < 50 → I1 (29 + 27 * ((x + 7) % 8) + 5) k = 0 ∨ I1 (29 + 27 * ((x + 7) % 8) + 5) k = 1 := fun k hk => by
      rw [q4 _ (by omega)]
      exact hp.th k hk
    have := cp_rl c h5 o k hr
    show I3 (1 + o) k = I (29 + 27 * ((x + 7) % 8) + o) k
    rw [m2 (1 + o) (by omega) (by omega), ← q4 (29 + 27 * ((x + 7) % 8) + o) (by omega)]
    exact this
  · rw [m3 y hy, hs2, c.1 318 (Or.inr (by omega)), q4 318 (by decide)]
  · rw [m2 0 (by decide) (by decide), c.1 0 (Or.inl (by decide))]; exact q2
  · rw [m2 0 (by decide) (by decide), c.1 0 (Or.inl (by decide))]; exact q3
  · refine (h9 s h1 (by omega)).go (Nat.le_succ kk) (fun o k hr => ?_) (fun y hy => ?_)
    · have ho := rl_lt hr
      show I3 (29 + 27 * s + o) k = I (29 + 27 * s + o) k
      rw [far _ (by omega) (by omega) (by omega)]
    · rw [far 318 (by decide) (by decide) (by decide)]
theorem t_46 {L kk : Nat} {I : Nat → Nat → Int32} {J : Nat → Nat → Int64} {D : Nat → Nat → UInt64} (v : Int32) (h : Inv L kk I J D) : Turn L kk 2921 v I J D := by
  obtain ⟨i0, i1, ⟨a, x, e, r1, r2, r3, r4, r5, r6, r7, r8, r9⟩, i3, i4⟩ := id h
  by_cases h0 : a = 0
  · subst h0
    refine ⟨ups I 316 0 1, J, D, (e_309_2921 I J D v).trans ?_, inv_r h⟩
    rw [e_307_0, x_undo0 r6, calH_x ctc307, e_307_11, cal_v, ka, e_309_2926, y_undo0 r7, cal_v, ka, e_309_2932, e_155_0, cal_v, ka, uIs, uUs, e_309_2938, decide_eq_true rfl, cond_true, e_309_2945, decide_eq_true (by decide), cond_true, e_309_2962]
    exact e_309_3111 _ J D v
  · have h0 : 0 < a := Nat.pos_of_ne_zero h0
    obtain ⟨I2, I1, e1, q2, q3, q4, c⟩ := x_undo r2 h0 r1 r5 r6 J D
    have far : ∀ p, 28 ≤ p → I2 p = I p := fun p h1 => by rw [c.1 p (Or.inr (by omega)), q4 p (by omega)]
    obtain ⟨I3, e3, m0, m1, m2, m3, m4, -⟩ := y_undo (I := I2) r3 h0 r1 (by rw [far 316 (by decide)]; exact r8) (by rw [far 316 (by decide)]; exact r7) (upsL J 335 0 (nI (a - 1)).toInt64) D
    have far3 : ∀ p, 28 ≤ p → p ≠ 316 → p ≠ 317 → I3 p = I p := fun p h1 h2 h3 => by rw [m3 p h2 h3, far p h1]
    obtain ⟨g1, g2⟩ := t_46a r9 r2 h0 r1 r3 r4 q2 q3 q4 c m1 (by rw [m2 4 (by decide) (by decide), far 316 (by decide)]; exact r8) m3 m4
    refine ⟨I3, upsL J 335 0 (nI (a - 1)).toInt64, D, (e_309_2921 I J D v).trans ?_, ?_, g1, g2, ?_, ?_⟩
    · have e7 : ex (307, 6, [dv, dv, dv], [.int (nI (a - 1)), .int 0, .ref 335], mm I2 J D) = some (.inl (some (.int 0)), mm I2 (upsL J 335 0 (nI (a - 1)).toInt64) D) := by
        rw [e_307_6, show inb 0 1 = true by decide, cond_true, e_307_14]
        rfl
      rw [e_307_0, e1, calH_v, ka, e7, cal_v, ka, e_309_2926, e3, cal_v, ka, e_309_2932, e_155_0, cal_v, ka, m0, e_309_2938, decide_eq_true rfl, cond_true, e_309_2945, decide_eq_false (by decide), cond_false, e_309_2950, upsL_s, decide_eq_true (lgc0 _), cond_true, e_309_2962]
      exact e_309_3111 _ _ D v
    · rw [far3 iSCL (by decide) (by decide) (by decide)]; exact i0
    · refine txt_stay i3 ?_ ?_ ?_ ?_
      · rw [far3 312 (by decide) (by decide) (by decide)]
      · rw [far3 313 (by decide) (by decide) (by decide)]
      · rw [m2 8 (by decide) (by decide), far 316 (by decide)]
      · rw [far3 320 (by decide) (by decide) (by decide)]
    · refine rng_stay i4 ?_ ?_ ?_ ?_
      · rw [far3 245 (by decide) (by decide) (by decide)]
      · rw [far3 264 (by decide) (by decide) (by decide)]
      · rw [m2 6 (by decide) (by decide), far 316 (by decide)]
      · rw [far3 319 (by decide) (by decide) (by decide)]
