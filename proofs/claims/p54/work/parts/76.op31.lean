/-! setZone, read, noReading: the turns -/
theorem rgl {A B x : Int32} (h : A ≤ x ∧ x ≤ B) : rg A.toInt B.toInt x := ⟨Int32.le_iff_toInt_le.mp h.1, Int32.le_iff_toInt_le.mp h.2⟩
theorem t_31 {L kk : Nat} {I : Nat → Nat → Int32} {J : Nat → Nat → Int64} {D : Nat → Nat → UInt64} (v : Int32) (h : Inv L kk I J D) (sc : ScOK v I) : Turn L kk 1991 v I J D := by
  obtain ⟨x, hx1⟩ : ∃ q, I 1000002 (v + 1).toNatClampNeg = q := ⟨_, rfl⟩
  obtain ⟨y, hx2⟩ : ∃ q, I 1000002 (v + 2).toNatClampNeg = q := ⟨_, rfl⟩
  obtain ⟨z, hx3⟩ : ∃ q, I 1000002 (v + 3).toNatClampNeg = q := ⟨_, rfl⟩
  have p8 := le_pred (v := x) (b := 7) (B := 8) (B1 := 7) rfl rfl (by decide)
  by_cases h1 : 0 ≤ x ∧ x < 8
  · obtain ⟨c, hc, rfl⟩ := ix_of (m := 8) (n := 8) rfl h1
    have h11 := p8.mp h1
    by_cases h2 : (1 ≤ y ∧ y ≤ 99) ∧ (0 ≤ z ∧ z ≤ 3)
    · obtain ⟨I1, e1, lo, hi, nx⟩ := act_all (inv_to h) J D
      obtain ⟨I4, e2, w4, r4, s4, fin⟩ := nx _ (cfar_ups (p := 22) (k := c) (v := z) (cfar_ups (p := 21) (k := c) (v := y) cfar_0 (by decide)) (by decide)) (upsL J 335 0 (I 21 c).toInt64) D
      have hw : I 317 (624 + c) = I 21 c := ((inv_sta h.2.1).1 c hc).1.1
      refine tk_31 (r := I 21 c) (I1 := ups (ups I1 21 c y) 22 c z) (J1 := J) (D1 := D) (I2 := ups (ups I4 317 (624 + c) y) 317 (632 + c) z) (J2 := upsL J 335 0 (I 21 c).toInt64) (D2 := D) sc hx1 hx2 hx3 ?_ ?_ ?_ ?_ ?_ upsL_s ?_
      · rw [e_121_0, x_ni h1, cal_v, kn, e_121_6, x_nr h2.1, cal_v, kn, e_121_13, x_nr h2.2, cal_v, kn, e_121_19, e1, cal_v, kn, e_121_23, inb_n hc (by decide), cond_true, cond_true, cond_true, nI_clamp (by omega), lo 21 (by decide) (by decide)]
      · rw [uI (by decide), uI (by decide), hi _ (by decide)]
      · rw [uI (by decide), uI (by decide), hi _ (by decide)]
      · rw [e_232_0, x_zoneT h11, cal_v, ka, e_232_5, x_canT, cal_v, ka, e_232_9, d10, cond_false, e_232_12, x_inT h2.1, cal_v, ka, e_232_20, d10, cond_false, e_232_23, x_inT h2.2, cal_v, ka, e_232_29, d10, cond_false, e_232_32, e_232_37, x_canT, cal_v, ka, uu, e_232_41, d11, cond_true, e_232_46, e2, cal_v, kn, e_232_50, show (624 : Int32) + nI c = nI (624 + c) from nI_add 624 c, show (632 : Int32) + nI c = nI (632 + c) from nI_add 632 c, inb_n (by omega) (by decide), inb_n (by omega) (by decide), cond_true, cond_true, cond_true, nI_clamp (by omega), nI_clamp (by omega), w4, hw]
      · rw [uI (by decide), uI (by decide)]; exact r4
      · refine inv_of h (fin _ (mfar_ups (mfar_ups mfar_0 (by decide)) (by decide)) ?_)
        unfold PgRel
        rw [g_ups (o := 21) rfl (Nat.blt_eq.mpr hc), g_ups (o := 20) rfl (Nat.blt_eq.mpr hc), g_same lo, n_upd (by omega), n_upd (by omega), w4]
        exact pg_zone h.2.1 hc (rgl h2.1) (rgl h2.2)
    · refine te_31_1 (s := 0) (I1 := I) (J1 := J) (D1 := D) (I2 := ups I 316 0 2) (J2 := J) (D2 := D) sc hx1 hx2 hx3 ?_ rfl rfl ?_ ?_ (inv_r h)
      · by_cases hy : 1 ≤ y ∧ y ≤ 99
        · rw [e_121_0, x_ni h1, cal_v, kn, e_121_6, x_nr hy, cal_v, kn, e_121_13, x_nr1 (fun hz => h2 ⟨hy, hz⟩), cal_e]
        · rw [e_121_0, x_ni h1, cal_v, kn, e_121_6, x_nr1 hy, cal_e]
      · by_cases hy : 1 ≤ y ∧ y ≤ 99
        · rw [e_232_0, x_zoneT h11, cal_v, ka, e_232_5, x_canT, cal_v, ka, e_232_9, d10, cond_false, e_232_12, x_inT hy, cal_v, ka, e_232_20, d10, cond_false, e_232_23, x_inF (fun hz => h2 ⟨hy, hz⟩), cal_v, ka, e_232_29, d00, cond_true, e_232_36, e_232_37, x_canF, cal_v, ka, uu, e_232_41, d01, cond_false, e_232_44]
        · rw [e_232_0, x_zoneT h11, cal_v, ka, e_232_5, x_canT, cal_v, ka, e_232_9, d10, cond_false, e_232_12, x_inF hy, cal_v, ka, e_232_20, d00, cond_true, e_232_36, e_232_37, x_canF, cal_v, ka, uu, e_232_41, d01, cond_false, e_232_44]
      · rw [uIs, uUs]
  · refine te_31_2 (s := 0) (I1 := I) (J1 := J) (D1 := D) (I2 := ups I 316 0 1) (J2 := J) (D2 := D) sc hx1 hx2 hx3 ?_ rfl rfl ?_ ?_ (inv_r h)
    · rw [e_121_0, x_ni1 h1, cal_e]
    · rw [e_232_0, x_zoneF (fun q => h1 (p8.mpr q)), cal_v, ka, e_232_5, x_canF, cal_v, ka, e_232_9, d00, cond_true, e_232_44]
    · rw [uIs, uUs]
theorem t_32 {L kk : Nat} {I : Nat → Nat → Int32} {J : Nat → Nat → Int64} {D : Nat → Nat → UInt64} (v : Int32) (h : Inv L kk I J D) (sc : ScOK v I) : Turn L kk 2071 v I J D := by
  obtain ⟨x, hx1⟩ : ∃ q, I 1000002 (v + 1).toNatClampNeg = q := ⟨_, rfl⟩
  obtain ⟨y, hx2⟩ : ∃ q, I 1000002 (v + 2).toNatClampNeg = q := ⟨_, rfl⟩
  obtain ⟨z, hx3⟩ : ∃ q, I 1000002 (v + 3).toNatClampNeg = q := ⟨_, rfl⟩
  have p8 := le_pred (v := x) (b := 7) (B := 8) (B1 := 7) rfl rfl (by decide)
  have p10 := le_pred (v := y) (b := 9) (B := 10) (B1 := 9) rfl rfl (by decide)
  by_cases h1 : (0 ≤ x ∧ x < 8) ∧ (0 ≤ y ∧ y < 10)
  · obtain ⟨h1, h2⟩ := h1
    obtain ⟨c, hc, rfl⟩ := ix_of (m := 8) (n := 8) rfl h1
    obtain ⟨d, hd, rfl⟩ := ix_of (m := 10) (n := 10) rfl h2
    have h11 := p8.mp h1
    have h21 := p10.mp h2
    by_cases h3 : -999 ≤ z ∧ z ≤ 999
    · obtain ⟨I1, e1, lo, hi, nx⟩ := act_all (inv_to h) J D
      obtain ⟨r, hr⟩ : ∃ r, r = nI (rdN (upd (I 23) (10 * c + d) z) d 8) := ⟨_, rfl⟩
      obtain ⟨I4, e2, w4, r4, s4, fin⟩ := nx _ (cfar_ups (p := 23) (k := 10 * c + d) (v := z) cfar_0 (by decide)) (upsL J 335 0 r.toInt64) D
      have q23 : ups I1 23 (10 * c + d) z 23 = upd (I 23) (10 * c + d) z := by rw [uIs, lo 23 (by decide) (by decide)]
      refine tk_32 (r := r) (I1 := ups I1 23 (10 * c + d) z) (J1 := J) (D1 := D) (I2 := ups (ups I4 317 (640 + 8 * d + c) 1) 317 (720 + 8 * d + c) z) (J2 := upsL J 335 0 r.toInt64) (D2 := D) sc hx1 hx2 hx3 ?_ ?_ ?_ ?_ ?_ upsL_s ?_
      · rw [e_122_0, x_ni h1, cal_v, kn, e_122_6, x_ni h2, cal_v, kn, e_122_12, x_nr h3, cal_v, kn, e_122_22, e1, cal_v, kn, e_122_26, c_wr hc hd, cal_v, kn, e_122_39, c_rds hd, cal_v, ka, e_122_50, q23, hr]
      · rw [uI (by decide), hi _ (by decide)]
      · rw [uI (by decide), hi _ (by decide)]
      · have hf : ∀ k, k < 8 → (upd (I 23) (10 * c + d) z (10 * k + d) = 1000 ∧ (ups (ups I4 317 (640 + 8 * d + c) 1) 317 (720 + 8 * d + c) z) 317 (640 + 8 * d + k) = 0) ∨ (upd (I 23) (10 * c + d) z (10 * k + d) ≠ 1000 ∧ (ups (ups I4 317 (640 + 8 * d + c) 1) 317 (720 + 8 * d + c) z) 317 (640 + 8 * d + k) = 1) := by
          intro k hk
          rw [uIs, uIs, w4]
          by_cases hkc : k = c
          · subst hkc
            rw [uUs, uU (by omega), uUs]
            exact Or.inr ⟨ne1000 (rgl h3), rfl⟩
          · rw [uU (by omega), uU (by omega), uU (by omega)]
            exact sta_f h.2.1 hd k hk
        rw [e_233_0, x_zoneT h11, cal_v, ka, e_233_5, d10, cond_false, e_233_8, x_yearT h21, cal_v, ka, e_233_12, d10, cond_false, e_233_15, e_233_20, x_canT, cal_v, ka, e_233_24, d10, cond_false, e_233_27, x_inT h3, cal_v, ka, e_233_38, x_canT, cal_v, ka, uu, e_233_42, d11, cond_true, e_233_47, e2, cal_v, kn, e_233_51, x_at8 hc hd, cal_v, ka, e_233_63, show (640 : Int32) + nI (8 * d + c) = nI (640 + 8 * d + c) by rw [show (640 : Int32) = nI 640 from rfl, nI_add, Nat.add_assoc], inb_n (by omega) (by decide), cond_true, nI_clamp (by omega), x_at8 hc hd, cal_v, ka, e_233_78, show (720 : Int32) + nI (8 * d + c) = nI (720 + 8 * d + c) by rw [show (720 : Int32) = nI 720 from rfl, nI_add, Nat.add_assoc], inb_n (by omega) (by decide), cond_true, nI_clamp (by omega), m_rds hd hf, cal_v, ka, e_233_86, hr]
      · rw [uI (by decide), uI (by decide)]; exact r4
      · refine inv_of h (fin _ (mfar_ups (mfar_ups mfar_0 (by decide)) (by decide)) ?_)
        unfold PgRel
        rw [g_ups (o := 22) rfl (Nat.blt_eq.mpr (by omega)), g_same lo, n_upd (by omega), n_upd (by omega), w4]
        exact pg_read h.2.1 hc hd (rgl h3)
    · refine te_32_1 (s := 0) (I1 := I) (J1 := J) (D1 := D) (I2 := ups I 316 0 2) (J2 := J) (D2 := D) sc hx1 hx2 hx3 ?_ rfl rfl ?_ ?_ (inv_r h)
      · rw [e_122_0, x_ni h1, cal_v, kn, e_122_6, x_ni h2, cal_v, kn, e_122_12, x_nr1 h3, cal_e]
      · rw [e_233_0, x_zoneT h11, cal_v, ka, e_233_5, d10, cond_false, e_233_8, x_yearT h21, cal_v, ka, e_233_12, d10, cond_false, e_233_15, e_233_20, x_canT, cal_v, ka, e_233_24, d10, cond_false, e_233_27, x_inF h3, cal_v, ka, e_233_38, x_canF, cal_v, ka, uu, e_233_42, d01, cond_false, e_233_45]
      · rw [uIs, uUs]
  · refine te_32_2 (s := 0) (I1 := I) (J1 := J) (D1 := D) (I2 := ups I 316 0 1) (J2 := J) (D2 := D) sc hx1 hx2 hx3 ?_ rfl rfl ?_ ?_ (inv_r h)
    · by_cases h2 : 0 ≤ x ∧ x < 8
      · rw [e_122_0, x_ni h2, cal_v, kn, e_122_6, x_ni1 (fun q => h1 ⟨h2, q⟩), cal_e]
      · rw [e_122_0, x_ni1 h2, cal_e]
    · by_cases h2 : 0 ≤ x ∧ x < 8
      · rw [e_233_0, x_zoneT (p8.mp h2), cal_v, ka, e_233_5, d10, cond_false, e_233_8, x_yearF (fun q => h1 ⟨h2, p10.mpr q⟩), cal_v, ka, e_233_12, d00, cond_true, e_233_19, e_233_20, x_canF, cal_v, ka, e_233_24, d00, cond_true, e_233_45]
      · rw [e_233_0, x_zoneF (fun q => h2 (p8.mpr q)), cal_v, ka, e_233_5, d00, cond_true, e_233_19, e_233_20, x_canF, cal_v, ka, e_233_24, d00, cond_true, e_233_45]
    · rw [uIs, uUs]
theorem t_33 {L kk : Nat} {I : Nat → Nat → Int32} {J : Nat → Nat → Int64} {D : Nat → Nat → UInt64} (v : Int32) (h : Inv L kk I J D) (sc : ScOK v I) : Turn L kk 2151 v I J D := by
  obtain ⟨x, hx1⟩ : ∃ q, I 1000002 (v + 1).toNatClampNeg = q := ⟨_, rfl⟩
  obtain ⟨y, hx2⟩ : ∃ q, I 1000002 (v + 2).toNatClampNeg = q := ⟨_, rfl⟩
  have p8 := le_pred (v := x) (b := 7) (B := 8) (B1 := 7) rfl rfl (by decide)
  have p10 := le_pred (v := y) (b := 9) (B := 10) (B1 := 9) rfl rfl (by decide)
  by_cases h1 : (0 ≤ x ∧ x < 8) ∧ (0 ≤ y ∧ y < 10)
  · obtain ⟨h1, h2⟩ := h1
    obtain ⟨c, hc, rfl⟩ := ix_of (m := 8) (n := 8) rfl h1
    obtain ⟨d, hd, rfl⟩ := ix_of (m := 10) (n := 10) rfl h2
    have h11 := p8.mp h1
    have h21 := p10.mp h2
    rcases (inv_sta h.2.1).2 c d hc hd with ⟨q1, q2⟩ | ⟨q1, q2, q3⟩
    · refine te_33_3 (s := 0) (I1 := I) (J1 := J) (D1 := D) (I2 := ups I 316 0 2) (J2 := J) (D2 := D) sc hx1 hx2 ?_ rfl rfl ?_ ?_ (inv_r h)
      · rw [e_123_0, x_ni h1, cal_v, kn, e_123_6, x_ni h2, cal_v, kn, e_123_12, c_rd hc hd, cal_v, ka, e_123_24, decide_eq_false (fun q => q q1), cond_false, e_123_32]
      · have q2' : ups I 316 0 0 317 (640 + 8 * d + c) = 0 := by rw [uI (by decide)]; exact q2
        rw [e_234_0, x_zoneT h11, cal_v, ka, e_234_5, d10, cond_false, e_234_8, x_yearT h21, cal_v, ka, e_234_12, d10, cond_false, e_234_15, e_234_20, x_canT, cal_v, ka, e_234_24, d10, cond_false, e_234_27, m_hasF hc hd q2', cal_v, ka, e_234_34, x_canF, cal_v, ka, uu, e_234_38, d01, cond_false, e_234_41]
      · rw [uIs, uUs]
    · obtain ⟨I1, e1, lo, hi, nx⟩ := act_all (inv_to h) J D
      obtain ⟨I4, e2, w4, r4, s4, fin⟩ := nx _ (cfar_ups (p := 23) (k := 10 * c + d) (v := 1000) cfar_0 (by decide)) (upsL J 335 0 (I 23 (10 * c + d)).toInt64) D
      refine tk_33 (r := I 23 (10 * c + d)) (I1 := ups I1 23 (10 * c + d) 1000) (J1 := J) (D1 := D) (I2 := ups I4 317 (640 + 8 * d + c) 0) (J2 := upsL J 335 0 (I 23 (10 * c + d)).toInt64) (D2 := D) sc hx1 hx2 ?_ ?_ ?_ ?_ ?_ upsL_s ?_
      · rw [e_123_0, x_ni h1, cal_v, kn, e_123_6, x_ni h2, cal_v, kn, e_123_12, c_rd hc hd, cal_v, ka, e_123_24, decide_eq_true (ne1000 q1), cond_true, e_123_43, e1, cal_v, kn, e_123_47, c_wr hc hd, cal_v, kn, e_123_62]
      · rw [uI (by decide), hi _ (by decide)]
      · rw [uI (by decide), hi _ (by decide)]
      · have q2' : ups (ups I1 23 (10 * c + d) 1000) 316 0 0 317 (640 + 8 * d + c) = 1 := by rw [uI (by decide), uI (by decide), hi 317 (by decide)]; exact q2
        rw [e_234_0, x_zoneT h11, cal_v, ka, e_234_5, d10, cond_false, e_234_8, x_yearT h21, cal_v, ka, e_234_12, d10, cond_false, e_234_15, e_234_20, x_canT, cal_v, ka, e_234_24, d10, cond_false, e_234_27, m_hasT hc hd q2', cal_v, ka, e_234_34, x_canT, cal_v, ka, uu, e_234_38, d11, cond_true, e_234_43, e2, cal_v, kn, e_234_47, x_at8 hc hd, cal_v, ka, e_234_59, show (640 : Int32) + nI (8 * d + c) = nI (640 + 8 * d + c) by rw [show (640 : Int32) = nI 640 from rfl, nI_add, Nat.add_assoc], inb_n (by omega) (by decide), cond_true, nI_clamp (by omega), x_at8 hc hd, cal_v, ka, e_234_74, show (720 : Int32) + nI (8 * d + c) = nI (720 + 8 * d + c) by rw [show (720 : Int32) = nI 720 from rfl, nI_add, Nat.add_assoc], inb_n (by omega) (by decide), cond_true, nI_clamp (by omega), uIs, uU (by omega), w4, q3]
      · rw [uI (by decide)]; exact r4
      · refine inv_of h (fin _ (mfar_ups mfar_0 (by decide)) ?_)
        unfold PgRel
        rw [g_ups (o := 22) rfl (Nat.blt_eq.mpr (by omega)), g_same lo, n_upd (by omega), w4]
        exact pg_unread h.2.1 hc hd
  · refine te_33_2 (s := 0) (I1 := I) (J1 := J) (D1 := D) (I2 := ups I 316 0 1) (J2 := J) (D2 := D) sc hx1 hx2 ?_ rfl rfl ?_ ?_ (inv_r h)
    · by_cases h2 : 0 ≤ x ∧ x < 8
      · rw [e_123_0, x_ni h2, cal_v, kn, e_123_6, x_ni1 (fun q => h1 ⟨h2, q⟩), cal_e]
      · rw [e_123_0, x_ni1 h2, cal_e]
    · by_cases h2 : 0 ≤ x ∧ x < 8
      · rw [e_234_0, x_zoneT (p8.mp h2), cal_v, ka, e_234_5, d10, cond_false, e_234_8, x_yearF (fun q => h1 ⟨h2, p10.mpr q⟩), cal_v, ka, e_234_12, d00, cond_true, e_234_19, e_234_20, x_canF, cal_v, ka, e_234_24, d00, cond_true, e_234_41]
      · rw [e_234_0, x_zoneF (fun q => h2 (p8.mpr q)), cal_v, ka, e_234_5, d00, cond_true, e_234_19, e_234_20, x_canF, cal_v, ka, e_234_24, d00, cond_true, e_234_41]
    · rw [uIs, uUs]
