/-! layOn, takeOff, isAbove, lineCount: the turns -/
theorem t_11 {L kk : Nat} {I : Nat → Nat → Int32} {J : Nat → Nat → Int64} {D : Nat → Nat → UInt64} (v : Int32) (h : Inv L kk I J D) (sc : ScOK v I) : Turn L kk 818 v I J D := by
  obtain ⟨x, hx1⟩ : ∃ q, I 1000002 (v + 1).toNatClampNeg = q := ⟨_, rfl⟩
  obtain ⟨y, hx2⟩ : ∃ q, I 1000002 (v + 2).toNatClampNeg = q := ⟨_, rfl⟩
  obtain ⟨I1, qq, hcase⟩ := a_11 (J := J) (D := D) (inv_to h) x y
  have q1 : I1 iSCL 0 = I iSCL 0 := by rw [qq iSCL (by decide)]
  have q2 := qq 1000002 (by decide)
  rcases hcase with ⟨r, e1, nx⟩ | ⟨E, c, hE, e1, nx⟩
  · obtain ⟨I2, e2, q3, i2⟩ := nx (upsL J 335 0 r.toInt64) D I1 MPt.z
    exact tk_11 sc hx1 hx2 e1 q1 q2 e2 q3 upsL_s (inv_of h i2)
  · obtain ⟨s, I2, e2, q3, i2⟩ := nx J D I1 MPt.z
    rcases hE with ⟨rfl, rfl⟩ | ⟨rfl, rfl⟩ | ⟨rfl, rfl⟩
    · exact te_11_2 sc hx1 hx2 e1 q1 q2 e2 q3 (inv_of h i2)
    · exact te_11_1 sc hx1 hx2 e1 q1 q2 e2 q3 (inv_of h i2)
    · exact te_11_0 sc hx1 hx2 e1 q1 q2 e2 q3 (inv_of h i2)
theorem t_12 {L kk : Nat} {I : Nat → Nat → Int32} {J : Nat → Nat → Int64} {D : Nat → Nat → UInt64} (v : Int32) (h : Inv L kk I J D) (sc : ScOK v I) : Turn L kk 886 v I J D := by
  obtain ⟨x, hx1⟩ : ∃ q, I 1000002 (v + 1).toNatClampNeg = q := ⟨_, rfl⟩
  obtain ⟨y, hx2⟩ : ∃ q, I 1000002 (v + 2).toNatClampNeg = q := ⟨_, rfl⟩
  have h0 := inv_to h
  obtain ⟨n, h16, c8, w0, hin, hT, hW, hr⟩ := inv_pil h.2.1
  by_cases hx : 1 ≤ x ∧ x ≤ nI n
  · obtain ⟨a, ha, rfl⟩ := ly_of h16 hx
    by_cases hy : 1 ≤ y ∧ y ≤ nI n
    · obtain ⟨b, hb, rfl⟩ := ly_of h16 hy
      have cx : 1 ≤ nI a ∧ nI a ≤ I 8 1 := by rw [c8]; exact hx
      have cy : 1 ≤ nI b ∧ nI b ≤ I 8 1 := by rw [c8]; exact hy
      have mx : 1 ≤ nI a ∧ nI a ≤ I 317 0 := by rw [w0]; exact hx
      have my : 1 ≤ nI b ∧ nI b ≤ I 317 0 := by rw [w0]; exact hy
      have ht := tld_c (J := J) (D := D) hT (a := a) (b := b) (by omega) hb.1 (by omega)
      have hw := hW a b (by omega) (by omega)
      cases hR : TI I a b with
      | false =>
        rw [hR, show b2i false = 0 from rfl] at ht hw
        refine te_12_3 (s := 0) (I1 := I) (J1 := J) (D1 := D) (I2 := ups I 316 0 2) (J2 := J) (D2 := D) sc hx1 hx2 ?_ rfl rfl ?_ ?_ (inv_r h)
        · rw [e_102_0, c_lyT cx, cal_v, kn, e_102_5, c_lyT cy, cal_v, kn, e_102_10, ht, cal_v, ka, e_102_22, d01, cond_false, e_102_25]
        · rw [e_190_0, m_lyT mx, cal_v, ka, e_190_6, d10, cond_false, e_190_9, m_lyT my, cal_v, ka, e_190_14, d10, cond_false, e_190_17, e_190_22, x_canT, cal_v, ka, e_190_26, d10, cond_false, e_190_29, m17', inb_n (show 202 + 17 * a + b < 850 by omega) (by decide), cond_true, nI_clamp (by omega), uI (show 317 ≠ 316 by decide), hw, decide_eq_true (show (0 : Int32) ≠ 1 by decide), cond_true, e_190_53, e_190_54, x_canF, cal_v, ka, uu, e_190_58, d01, cond_false, e_190_61]
        · rw [uIs, uUs]
      | true =>
        rw [hR, show b2i true = 1 from rfl] at ht hw
        obtain ⟨I2, e1, lo, hi, nx⟩ := act_all h0 J D
        obtain ⟨I3, hI3⟩ : ∃ I3, I3 = ups I2 9 a (I2 9 a &&& ((1 <<< ((nI b - 1) &&& 31)) ^^^ (-1))) := ⟨_, rfl⟩
        have hT2 : RwF (I3 9) (delT (TI I) a b) := by rw [hI3, uIs, lo 9 (by decide) (by decide)]; exact rw_del hT hb.1 (by omega)
        have c83 : I3 8 1 = nI n := by rw [hI3, uI (by decide), lo 8 (by decide) (by decide), c8]
        have hin2 : In n (delT (TI I) a b) := fun x y e => hin x y (del_s e)
        obtain ⟨I4, g1, g2, g3⟩ := c_draw (J := J) (D := D) c83 h16 hin2 hT2
        have ln := c_lines (J := J) (D := D) g3 h16
        have el : lnN (clo (delT (TI I) a b)) n = lnN (clo (delT (TI I) a b)) 16 := by
          have := lnN_n (wsh_in hin2 16) (16 - n)
          rw [show n + (16 - n) = 16 by omega] at this
          exact this.symm
        have i4s : ∀ p, 316 ≤ p → I4 p = I p := fun p hp => by rw [g2 p (by omega) (by omega) (by omega) (by omega), hI3, uI (by omega), hi p (by omega)]
        have w4 : I4 317 = I 317 := i4s 317 (by decide)
        obtain ⟨r, er⟩ : ∃ r, r = nI (lnN (clo (delT (TI I) a b)) n) := ⟨_, rfl⟩
        obtain ⟨I5, k1, k2, k3, k4, fin⟩ := nx I4 (cfar_tr (cfar_ups (p := 9) (k := a) cfar_0 (by decide)) (by rw [hI3] at g2; exact cfar_o g2)) (upsL J 335 0 r.toInt64) D
        have hW5 : Wab (delT (TI I) a b) (upd (I5 317) (202 + 17 * a + b) 0) := by rw [k2]; exact wab_del (by omega) hW
        obtain ⟨F2, m1, m2⟩ := m_lines (I := ups I5 317 (202 + 17 * a + b) 0) (J := upsL J 335 0 r.toInt64) (D := D) hin2 (by rw [uIs]; exact hW5)
        have mx4 : 1 ≤ nI a ∧ nI a ≤ I4 317 0 := by rw [w4]; exact mx
        have my4 : 1 ≤ nI b ∧ nI b ≤ I4 317 0 := by rw [w4]; exact my
        have hw4 : I4 317 (202 + 17 * a + b) = 1 := by rw [w4]; exact hw
        refine tk_12 (r := r) (I1 := I4) (J1 := J) (D1 := D) (I2 := upR (ups I5 317 (202 + 17 * a + b) 0) 324 F2) (J2 := upsL J 335 0 r.toInt64) (D2 := D) sc hx1 hx2 ?_ (by rw [i4s iSCL (by decide)]) (i4s 1000002 (by decide)) ?_ ?_ upsL_s ?_
        · rw [e_102_0, c_lyT cx, cal_v, kn, e_102_5, c_lyT cy, cal_v, kn, e_102_10, ht, cal_v, ka, e_102_22, d11, cond_true, e_102_35, e1, cal_v, kn, e_102_39, c_untell (by omega), cal_v, kn, ← hI3, e_102_51, g1, cal_v, krw _, e_102_55, ln, cal_v, ka, e_102_58, er]
        · rw [e_190_0, m_lyT mx4, cal_v, ka, e_190_6, d10, cond_false, e_190_9, m_lyT my4, cal_v, ka, e_190_14, d10, cond_false, e_190_17, e_190_22, x_canT, cal_v, ka, e_190_26, d10, cond_false, e_190_29, m17', inb_n (show 202 + 17 * a + b < 850 by omega) (by decide), cond_true, nI_clamp (by omega), uI (show 317 ≠ 316 by decide), hw4, decide_eq_false (show ¬ (1 : Int32) ≠ 1 by decide), cond_false, e_190_49, e_190_54, x_canT, cal_v, ka, uu, e_190_58, d11, cond_true, e_190_63, k1, cal_v, kn, e_190_67, m17', inb_n (show 202 + 17 * a + b < 850 by omega) (by decide), cond_true, nI_clamp (by omega), m1, cal_v, ka, e_190_87, er, el]
        · rw [uR (by decide), uI (by decide), k3]
        · refine inv_of h (fin (upR (ups I5 317 (202 + 17 * a + b) 0) 324 F2) (mfar_R (mfar_ups mfar_0 (by decide)) (by decide)) ?_)
          rw [uR (by decide), uIs]
          refine pg_pil h.2.1 (fun p h1 h2 h3 => ?_) (fun y hy h2 => by rw [uU (by omega), k2]) c8 h16 hin2 ?_ hW5 ?_
          · rw [g2 p (by omega) (by omega) (by omega) (by omega), hI3, uI h3, lo p (by omega) (by omega)]
          · rw [g2 9 (by decide) (by decide) (by decide) (by decide)]; exact hT2
          · obtain ⟨r, hr⟩ := hr
            exact ⟨r, fun x y e => hr x y (del_s e)⟩
    · have cx : 1 ≤ nI a ∧ nI a ≤ I 8 1 := by rw [c8]; exact hx
      have cy : ¬ (1 ≤ y ∧ y ≤ I 8 1) := by rw [c8]; exact hy
      have mx : 1 ≤ nI a ∧ nI a ≤ I 317 0 := by rw [w0]; exact hx
      have my : ¬ (1 ≤ y ∧ y ≤ I 317 0) := by rw [w0]; exact hy
      refine te_12_2 (s := 0) (I1 := I) (J1 := J) (D1 := D) (I2 := ups I 316 0 1) (J2 := J) (D2 := D) sc hx1 hx2 ?_ rfl rfl ?_ ?_ (inv_r h)
      · rw [e_102_0, c_lyT cx, cal_v, kn, e_102_5, c_lyF cy, cal_e]
      · rw [e_190_0, m_lyT mx, cal_v, ka, e_190_6, d10, cond_false, e_190_9, m_lyF my, cal_v, ka, e_190_14, d00, cond_true, e_190_21, e_190_22, x_canF, cal_v, ka, e_190_26, d00, cond_true, e_190_61]
      · rw [uIs, uUs]
  · have cx : ¬ (1 ≤ x ∧ x ≤ I 8 1) := by rw [c8]; exact hx
    have mx : ¬ (1 ≤ x ∧ x ≤ I 317 0) := by rw [w0]; exact hx
    refine te_12_2 (s := 0) (I1 := I) (J1 := J) (D1 := D) (I2 := ups I 316 0 1) (J2 := J) (D2 := D) sc hx1 hx2 ?_ rfl rfl ?_ ?_ (inv_r h)
    · rw [e_102_0, c_lyF cx, cal_e]
    · rw [e_190_0, m_lyF mx, cal_v, ka, e_190_6, d00, cond_true, e_190_21, e_190_22, x_canF, cal_v, ka, e_190_26, d00, cond_true, e_190_61]
    · rw [uIs, uUs]
theorem t_13 {L kk : Nat} {I : Nat → Nat → Int32} {J : Nat → Nat → Int64} {D : Nat → Nat → UInt64} (v : Int32) (h : Inv L kk I J D) (sc : ScOK v I) : Turn L kk 954 v I J D := by
  obtain ⟨x, hx1⟩ : ∃ q, I 1000002 (v + 1).toNatClampNeg = q := ⟨_, rfl⟩
  obtain ⟨y, hx2⟩ : ∃ q, I 1000002 (v + 2).toNatClampNeg = q := ⟨_, rfl⟩
  obtain ⟨n, h16, c8, w0, hin, hT, hW, hr⟩ := inv_pil h.2.1
  by_cases hx : 1 ≤ x ∧ x ≤ nI n
  · obtain ⟨a, ha, rfl⟩ := ly_of h16 hx
    by_cases hy : 1 ≤ y ∧ y ≤ nI n
    · obtain ⟨b, hb, rfl⟩ := ly_of h16 hy
      have cx : 1 ≤ nI a ∧ nI a ≤ I 8 1 := by rw [c8]; exact hx
      have cy : 1 ≤ nI b ∧ nI b ≤ I 8 1 := by rw [c8]; exact hy
      obtain ⟨I1, d1, d2, d3⟩ := c_draw (J := J) (D := D) c8 h16 hin hT
      have w1 : I1 317 = I 317 := d2 317 (by decide) (by decide) (by decide) (by decide)
      have mx : 1 ≤ nI a ∧ nI a ≤ I1 317 0 := by rw [w1, w0]; exact hx
      have my : 1 ≤ nI b ∧ nI b ≤ I1 317 0 := by rw [w1, w0]; exact hy
      have has := c_has (J := J) (D := D) d3.2.1 (a := a) (b := b) (by omega) hb.1 (by omega)
      obtain ⟨r, er⟩ : ∃ r, r = clo (TI I) a b := ⟨_, rfl⟩
      rw [← er, show b2i r = bI r from rfl] at has
      obtain ⟨F, f1, f2⟩ := m_abv (I := ups I1 316 0 0) (J := upsL J 335 0 (bI r).toInt64) (D := D) hin (by rw [uI (by decide), w1]; exact hW)
      have l := m_lies (I := upR (ups I1 316 0 0) 324 F) (J := upsL J 335 0 (bI r).toInt64) (D := D) (by rw [uRs]; exact f2) (a := a) (b := b) (by omega) (by omega)
      rw [← er, show b2i r = bI r from rfl] at l
      have h01 : bI r = 0 ∨ bI r = 1 := by cases r; exact Or.inl rfl; exact Or.inr rfl
      refine tk_13 (r := r) (I1 := I1) (J1 := J) (D1 := D) (I2 := upR (ups I1 316 0 0) 324 F) (J2 := upsL J 335 0 (bI r).toInt64) (D2 := D) sc hx1 hx2 ?_ (by rw [d2 iSCL (by decide) (by decide) (by decide) (by decide)]) (d2 1000002 (by decide) (by decide) (by decide) (by decide)) ?_ ?_ upsL_s ?_
      · rw [e_103_0, c_lyT cx, cal_v, kn, e_103_5, c_lyT cy, cal_v, kn, e_103_10, d1, cal_v, krw _, e_103_14, has, cal_v, ka, e_103_19, decide_eq_true (h01), cond_true]
      · rw [e_191_0, m_lyT mx, cal_v, ka, e_191_6, d10, cond_false, e_191_9, m_lyT my, cal_v, ka, e_191_14, d10, cond_false, e_191_17, e_191_22, x_canT, cal_v, ka, e_191_26, d11, cond_true, e_191_31, f1, cal_v, kn, e_191_35, l, cal_v, ka, e_191_41, decide_eq_true (h01), cond_true]
      · rw [uR (by decide), uIs, uUs]
      · exact inv_st h (((Same.o d2).tr Same.r).tr (Same.R (by decide)))
    · have cx : 1 ≤ nI a ∧ nI a ≤ I 8 1 := by rw [c8]; exact hx
      have cy : ¬ (1 ≤ y ∧ y ≤ I 8 1) := by rw [c8]; exact hy
      have mx : 1 ≤ nI a ∧ nI a ≤ I 317 0 := by rw [w0]; exact hx
      have my : ¬ (1 ≤ y ∧ y ≤ I 317 0) := by rw [w0]; exact hy
      refine te_13_2 (s := 0) (I1 := I) (J1 := J) (D1 := D) (I2 := ups I 316 0 1) (J2 := J) (D2 := D) sc hx1 hx2 ?_ rfl rfl ?_ ?_ (inv_r h)
      · rw [e_103_0, c_lyT cx, cal_v, kn, e_103_5, c_lyF cy, cal_e]
      · rw [e_191_0, m_lyT mx, cal_v, ka, e_191_6, d10, cond_false, e_191_9, m_lyF my, cal_v, ka, e_191_14, d00, cond_true, e_191_21, e_191_22, x_canF, cal_v, ka, e_191_26, d01, cond_false, e_191_29]
      · rw [uIs, uUs]
  · have cx : ¬ (1 ≤ x ∧ x ≤ I 8 1) := by rw [c8]; exact hx
    have mx : ¬ (1 ≤ x ∧ x ≤ I 317 0) := by rw [w0]; exact hx
    refine te_13_2 (s := 0) (I1 := I) (J1 := J) (D1 := D) (I2 := ups I 316 0 1) (J2 := J) (D2 := D) sc hx1 hx2 ?_ rfl rfl ?_ ?_ (inv_r h)
    · rw [e_103_0, c_lyF cx, cal_e]
    · rw [e_191_0, m_lyF mx, cal_v, ka, e_191_6, d00, cond_true, e_191_21, e_191_22, x_canF, cal_v, ka, e_191_26, d01, cond_false, e_191_29]
    · rw [uIs, uUs]
theorem t_14 {L kk : Nat} {I : Nat → Nat → Int32} {J : Nat → Nat → Int64} {D : Nat → Nat → UInt64} (v : Int32) (h : Inv L kk I J D) : Turn L kk 1029 v I J D := by
  obtain ⟨n, h16, c8, w0, hin, hT, hW, hr⟩ := inv_pil h.2.1
  obtain ⟨I1, d1, d2, d3⟩ := c_draw (J := J) (D := D) c8 h16 hin hT
  have w1 : I1 317 = I 317 := d2 317 (by decide) (by decide) (by decide) (by decide)
  have ln := c_lines (J := J) (D := D) d3 h16
  have el : lnN (clo (TI I)) n = lnN (clo (TI I)) 16 := by
    have := lnN_n (wsh_in hin 16) (16 - n)
    rw [show n + (16 - n) = 16 by omega] at this
    exact this.symm
  obtain ⟨F, f1, f2⟩ := m_lines (I := ups I1 316 0 0) (J := J) (D := D) hin (by rw [uI (by decide), w1]; exact hW)
  refine tq_14 (r := nI (lnN (clo (TI I)) n)) (I1 := I1) (J1 := J) (D1 := D) (I2 := upR (ups I1 316 0 0) 324 F) (J2 := J) (D2 := D) ?_ ?_ (inv_st h (((Same.o d2).tr Same.r).tr (Same.R (by decide))))
  · rw [e_104_0, d1, cal_v, krw _, e_104_4, ln, cal_v, ka, e_104_7]
  · rw [e_192_0, f1, cal_v, ka, e_192_9, el]
