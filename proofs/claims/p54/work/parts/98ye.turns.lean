/-! whole's turns, told of the book's call alone -/
theorem y_39 {L kk : Nat} {I : Nat → Nat → Int32} {J : Nat → Nat → Int64} {D : Nat → Nat → UInt64} (v : Int32) (h : Inv L kk I J D) (sc : ScOK v I) : TurnY L kk 2535 v I J D := by
  obtain ⟨x, hx1⟩ : ∃ q, I 1000002 (v + 1).toNatClampNeg = q := ⟨_, rfl⟩
  obtain ⟨y, hx2⟩ : ∃ q, I 1000002 (v + 2).toNatClampNeg = q := ⟨_, rfl⟩
  obtain ⟨z, hx3⟩ : ∃ q, I 1000002 (v + 3).toNatClampNeg = q := ⟨_, rfl⟩
  have m0 : ∀ (x y z : Int32), ¬ (0 ≤ x ∧ x < 12) → ex (245, 0, [.ref 316, .int x, .int y, .int z, dv], [], mm I J D) = some (.inl (some (.int 0)), mm (ups I 316 0 1) J D) := by
    intro x y z hx
    have hx : ¬ (0 ≤ x ∧ x ≤ 11) := fun q => hx ⟨q.1, Int32.lt_of_le_of_lt q.2 (by decide)⟩
    rw [e_245_0, x_inF hx, cal_v, ka, e_245_8, x_canF, cal_v, ka, e_245_12, d00, cond_true, e_245_50]
  by_cases h1 : 0 ≤ x ∧ x < 12
  · obtain ⟨c, hc, rfl⟩ := ix_of (m := 12) (n := 12) rfl h1
    have h11 : 0 ≤ nI c ∧ nI c ≤ 11 := ⟨h1.1, (nI_leI (b := 11) (by omega) (by decide)).mpr (by omega)⟩
    by_cases h2 : in999 y ∧ in999 z
    · obtain ⟨I1, e1, lo, hi, nx⟩ := act_all (inv_to h) J D
      obtain ⟨I4, e2, w4, r4, s4, fin⟩ := nx _ (cfar_ups (p := 26) (k := c) (v := z) (cfar_ups (p := 25) (k := c) (v := y) cfar_0 (by decide)) (by decide)) (upsL J 335 0 (I 26 c).toInt64) D
      have q : I1 26 = I 26 := lo 26 (by decide) (by decide)
      have hw : I 317 (812 + c) = I 26 c := by
        have := (h.2.1.2.2.2.2.2.2.1 c hc).2.1
        rw [nrw_at (by omega), nrm_at (show rl 25 c = true from Nat.blt_eq.mpr hc)] at this
        exact this
      refine yk_39 (r := I 26 c) (I1 := ups (ups I1 25 c y) 26 c z) (J1 := J) (D1 := D) (I2 := ups (ups I4 317 (800 + c) y) 317 (812 + c) z) (J2 := upsL J 335 0 (I 26 c).toInt64) (D2 := D) sc hx1 hx2 hx3 ?_ ?_ ?_ ?_ ?_ upsL_s ?_
      · rw [e_129_0, x_ni h1, cal_v, kn, e_129_6, x_nr h2.1, cal_v, kn, e_129_14, x_nr h2.2, cal_v, kn, e_129_22, e1, cal_v, kn, e_129_26, inb_n hc (by decide), cond_true, cond_true, cond_true, nI_clamp (by omega), q]
      · rw [uI (by decide), uI (by decide), hi _ (by decide)]
      · rw [uI (by decide), uI (by decide), hi _ (by decide)]
      · rw [e_245_0, x_inT h11, cal_v, ka, e_245_8, x_canT, cal_v, ka, e_245_12, d10, cond_false, e_245_15, x_inT h2.1, cal_v, ka, e_245_24, d10, cond_false, e_245_27, x_inT h2.2, cal_v, ka, e_245_35, d10, cond_false, e_245_38, e_245_43, x_canT, cal_v, ka, uu, e_245_47, d11, cond_true, e_245_52, e2, cal_v, kn, e_245_56, show (812 : Int32) + nI c = nI (812 + c) from nI_add 812 c, show (800 : Int32) + nI c = nI (800 + c) from nI_add 800 c, inb_n (by omega) (by decide), inb_n (by omega) (by decide), cond_true, cond_true, cond_true, nI_clamp (by omega), nI_clamp (by omega), w4, hw]
      · rw [uI (by decide), uI (by decide)]; exact r4
      · refine inv_of h (fin _ (mfar_ups (mfar_ups mfar_0 (by decide)) (by decide)) ?_)
        unfold PgRel
        rw [g_ups (o := 25) rfl (Nat.blt_eq.mpr hc), g_ups (o := 24) rfl (Nat.blt_eq.mpr hc), g_same lo, n_upd (by omega), n_upd (by omega), w4]
        exact pg_cell h.2.1 hc (rg999 h2.1) (rg999 h2.2)
    · refine ye_39_1 (s := 0) (I1 := I) (J1 := J) (D1 := D) (I2 := ups I 316 0 2) (J2 := J) (D2 := D) sc hx1 hx2 hx3 ?_ rfl rfl ?_ ?_ (inv_r h)
      · by_cases hy : in999 y
        · rw [e_129_0, x_ni h1, cal_v, kn, e_129_6, x_nr hy, cal_v, kn, e_129_14, x_nr1 (fun hz => h2 ⟨hy, hz⟩), cal_e]
        · rw [e_129_0, x_ni h1, cal_v, kn, e_129_6, x_nr1 hy, cal_e]
      · by_cases hy : in999 y
        · rw [e_245_0, x_inT h11, cal_v, ka, e_245_8, x_canT, cal_v, ka, e_245_12, d10, cond_false, e_245_15, x_inT hy, cal_v, ka, e_245_24, d10, cond_false, e_245_27, x_inF (fun hz => h2 ⟨hy, hz⟩), cal_v, ka, e_245_35, d00, cond_true, e_245_42, e_245_43, x_canF, cal_v, ka, uu, e_245_47, d01, cond_false, e_245_50]
        · rw [e_245_0, x_inT h11, cal_v, ka, e_245_8, x_canT, cal_v, ka, e_245_12, d10, cond_false, e_245_15, x_inF hy, cal_v, ka, e_245_24, d00, cond_true, e_245_42, e_245_43, x_canF, cal_v, ka, uu, e_245_47, d01, cond_false, e_245_50]
      · rw [uIs, uUs]
  · refine ye_39_2 (s := 0) (I1 := I) (J1 := J) (D1 := D) (I2 := ups I 316 0 1) (J2 := J) (D2 := D) sc hx1 hx2 hx3 ?_ rfl rfl (m0 x y z h1) ?_ (inv_r h)
    · rw [e_129_0, x_ni1 h1, cal_e]
    · rw [uIs, uUs]
theorem y_31 {L kk : Nat} {I : Nat → Nat → Int32} {J : Nat → Nat → Int64} {D : Nat → Nat → UInt64} (v : Int32) (h : Inv L kk I J D) (sc : ScOK v I) : TurnY L kk 1991 v I J D := by
  obtain ⟨x, hx1⟩ : ∃ q, I 1000002 (v + 1).toNatClampNeg = q := ⟨_, rfl⟩
  obtain ⟨y, hx2⟩ : ∃ q, I 1000002 (v + 2).toNatClampNeg = q := ⟨_, rfl⟩
  obtain ⟨z, hx3⟩ : ∃ q, I 1000002 (v + 3).toNatClampNeg = q := ⟨_, rfl⟩
  have p8 := le_pred (v := x) (b := 7) (B := 8) (B1 := 7) rfl rfl (by decide)
  by_cases h1 : 0 ≤ x ∧ x < 8
  · obtain ⟨c, hc, rfl⟩ := ix_of (m := 8) (n := 8) rfl h1
    have h11 := p8.mp h1
    by_cases h2 : (1 ≤ y ∧ y ≤ 99) ∧ (0 ≤ z ∧ z ≤ 3)
    · obtain ⟨I1, e1, lo, hi, nx⟩ := act_all (inv_to h) J D
      obtain ⟨I4, e2, w4, r4, s4, fin⟩ := nx _ (cfar_ups (p := 22) (k := c) (v := z) (cfar_ups (p := 21) (k := c) (v := y) cfar_0 (by decide)) (by decide)) (upsL J 335 0 (I 21 c).toInt64) D
      have hw : I 317 (624 + c) = I 21 c := ((inv_sta h.2.1).1 c hc).1.1
      refine yk_31 (r := I 21 c) (I1 := ups (ups I1 21 c y) 22 c z) (J1 := J) (D1 := D) (I2 := ups (ups I4 317 (624 + c) y) 317 (632 + c) z) (J2 := upsL J 335 0 (I 21 c).toInt64) (D2 := D) sc hx1 hx2 hx3 ?_ ?_ ?_ ?_ ?_ upsL_s ?_
      · rw [e_121_0, x_ni h1, cal_v, kn, e_121_6, x_nr h2.1, cal_v, kn, e_121_13, x_nr h2.2, cal_v, kn, e_121_19, e1, cal_v, kn, e_121_23, inb_n hc (by decide), cond_true, cond_true, cond_true, nI_clamp (by omega), lo 21 (by decide) (by decide)]
      · rw [uI (by decide), uI (by decide), hi _ (by decide)]
      · rw [uI (by decide), uI (by decide), hi _ (by decide)]
      · rw [e_232_0, x_zoneT h11, cal_v, ka, e_232_5, x_canT, cal_v, ka, e_232_9, d10, cond_false, e_232_12, x_inT h2.1, cal_v, ka, e_232_20, d10, cond_false, e_232_23, x_inT h2.2, cal_v, ka, e_232_29, d10, cond_false, e_232_32, e_232_37, x_canT, cal_v, ka, uu, e_232_41, d11, cond_true, e_232_46, e2, cal_v, kn, e_232_50, show (624 : Int32) + nI c = nI (624 + c) from nI_add 624 c, show (632 : Int32) + nI c = nI (632 + c) from nI_add 632 c, inb_n (by omega) (by decide), inb_n (by omega) (by decide), cond_true, cond_true, cond_true, nI_clamp (by omega), nI_clamp (by omega), w4, hw]
      · rw [uI (by decide), uI (by decide)]; exact r4
      · refine inv_of h (fin _ (mfar_ups (mfar_ups mfar_0 (by decide)) (by decide)) ?_)
        unfold PgRel
        rw [g_ups (o := 21) rfl (Nat.blt_eq.mpr hc), g_ups (o := 20) rfl (Nat.blt_eq.mpr hc), g_same lo, n_upd (by omega), n_upd (by omega), w4]
        exact pg_zone h.2.1 hc (rgl h2.1) (rgl h2.2)
    · refine ye_31_1 (s := 0) (I1 := I) (J1 := J) (D1 := D) (I2 := ups I 316 0 2) (J2 := J) (D2 := D) sc hx1 hx2 hx3 ?_ rfl rfl ?_ ?_ (inv_r h)
      · by_cases hy : 1 ≤ y ∧ y ≤ 99
        · rw [e_121_0, x_ni h1, cal_v, kn, e_121_6, x_nr hy, cal_v, kn, e_121_13, x_nr1 (fun hz => h2 ⟨hy, hz⟩), cal_e]
        · rw [e_121_0, x_ni h1, cal_v, kn, e_121_6, x_nr1 hy, cal_e]
      · by_cases hy : 1 ≤ y ∧ y ≤ 99
        · rw [e_232_0, x_zoneT h11, cal_v, ka, e_232_5, x_canT, cal_v, ka, e_232_9, d10, cond_false, e_232_12, x_inT hy, cal_v, ka, e_232_20, d10, cond_false, e_232_23, x_inF (fun hz => h2 ⟨hy, hz⟩), cal_v, ka, e_232_29, d00, cond_true, e_232_36, e_232_37, x_canF, cal_v, ka, uu, e_232_41, d01, cond_false, e_232_44]
        · rw [e_232_0, x_zoneT h11, cal_v, ka, e_232_5, x_canT, cal_v, ka, e_232_9, d10, cond_false, e_232_12, x_inF hy, cal_v, ka, e_232_20, d00, cond_true, e_232_36, e_232_37, x_canF, cal_v, ka, uu, e_232_41, d01, cond_false, e_232_44]
      · rw [uIs, uUs]
  · refine ye_31_2 (s := 0) (I1 := I) (J1 := J) (D1 := D) (I2 := ups I 316 0 1) (J2 := J) (D2 := D) sc hx1 hx2 hx3 ?_ rfl rfl ?_ ?_ (inv_r h)
    · rw [e_121_0, x_ni1 h1, cal_e]
    · rw [e_232_0, x_zoneF (fun q => h1 (p8.mpr q)), cal_v, ka, e_232_5, x_canF, cal_v, ka, e_232_9, d00, cond_true, e_232_44]
    · rw [uIs, uUs]
theorem y_32 {L kk : Nat} {I : Nat → Nat → Int32} {J : Nat → Nat → Int64} {D : Nat → Nat → UInt64} (v : Int32) (h : Inv L kk I J D) (sc : ScOK v I) : TurnY L kk 2071 v I J D := by
  obtain ⟨x, hx1⟩ : ∃ q, I 1000002 (v + 1).toNatClampNeg = q := ⟨_, rfl⟩
  obtain ⟨y, hx2⟩ : ∃ q, I 1000002 (v + 2).toNatClampNeg = q := ⟨_, rfl⟩
  obtain ⟨z, hx3⟩ : ∃ q, I 1000002 (v + 3).toNatClampNeg = q := ⟨_, rfl⟩
  have p8 := le_pred (v := x) (b := 7) (B := 8) (B1 := 7) rfl rfl (by decide)
  have p10 := le_pred (v := y) (b := 9) (B := 10) (B1 := 9) rfl rfl (by decide)
  by_cases h1 : (0 ≤ x ∧ x < 8) ∧ (0 ≤ y ∧ y < 10)
  · obtain ⟨h1, h2⟩ := h1
    obtain ⟨c, hc, rfl⟩ := ix_of (m := 8) (n := 8) rfl h1
    obtain ⟨d, hd, rfl⟩ := ix_of (m := 10) (n := 10) rfl h2
    have h11 := p8.mp h1
    have h21 := p10.mp h2
    by_cases h3 : -999 ≤ z ∧ z ≤ 999
    · obtain ⟨I1, e1, lo, hi, nx⟩ := act_all (inv_to h) J D
      obtain ⟨r, hr⟩ : ∃ r, r = nI (rdN (upd (I 23) (10 * c + d) z) d 8) := ⟨_, rfl⟩
      obtain ⟨I4, e2, w4, r4, s4, fin⟩ := nx _ (cfar_ups (p := 23) (k := 10 * c + d) (v := z) cfar_0 (by decide)) (upsL J 335 0 r.toInt64) D
      have q23 : ups I1 23 (10 * c + d) z 23 = upd (I 23) (10 * c + d) z := by rw [uIs, lo 23 (by decide) (by decide)]
      refine yk_32 (r := r) (I1 := ups I1 23 (10 * c + d) z) (J1 := J) (D1 := D) (I2 := ups (ups I4 317 (640 + 8 * d + c) 1) 317 (720 + 8 * d + c) z) (J2 := upsL J 335 0 r.toInt64) (D2 := D) sc hx1 hx2 hx3 ?_ ?_ ?_ ?_ ?_ upsL_s ?_
      · rw [e_122_0, x_ni h1, cal_v, kn, e_122_6, x_ni h2, cal_v, kn, e_122_12, x_nr h3, cal_v, kn, e_122_22, e1, cal_v, kn, e_122_26, c_wr hc hd, cal_v, kn, e_122_39, c_rds hd, cal_v, ka, e_122_50, q23, hr]
      · rw [uI (by decide), hi _ (by decide)]
      · rw [uI (by decide), hi _ (by decide)]
      · have hf : ∀ k, k < 8 → (upd (I 23) (10 * c + d) z (10 * k + d) = 1000 ∧ (ups (ups I4 317 (640 + 8 * d + c) 1) 317 (720 + 8 * d + c) z) 317 (640 + 8 * d + k) = 0) ∨ (upd (I 23) (10 * c + d) z (10 * k + d) ≠ 1000 ∧ (ups (ups I4 317 (640 + 8 * d + c) 1) 317 (720 + 8 * d + c) z) 317 (640 + 8 * d + k) = 1) := by
          intro k hk
          rw [uIs, uIs, w4]
          by_cases hkc : k = c
          · subst hkc
            rw [uUs, uU (by omega), uUs]
            exact Or.inr ⟨ne1000 (rgl h3), rfl⟩
          · rw [uU (by omega), uU (by omega), uU (by omega)]
            exact sta_f h.2.1 hd k hk
        rw [e_233_0, x_zoneT h11, cal_v, ka, e_233_5, d10, cond_false, e_233_8, x_yearT h21, cal_v, ka, e_233_12, d10, cond_false, e_233_15, e_233_20, x_canT, cal_v, ka, e_233_24, d10, cond_false, e_233_27, x_inT h3, cal_v, ka, e_233_38, x_canT, cal_v, ka, uu, e_233_42, d11, cond_true, e_233_47, e2, cal_v, kn, e_233_51, x_at8 hc hd, cal_v, ka, e_233_63, show (640 : Int32) + nI (8 * d + c) = nI (640 + 8 * d + c) by rw [show (640 : Int32) = nI 640 from rfl, nI_add, Nat.add_assoc], inb_n (by omega) (by decide), cond_true, nI_clamp (by omega), x_at8 hc hd, cal_v, ka, e_233_78, show (720 : Int32) + nI (8 * d + c) = nI (720 + 8 * d + c) by rw [show (720 : Int32) = nI 720 from rfl, nI_add, Nat.add_assoc], inb_n (by omega) (by decide), cond_true, nI_clamp (by omega), m_rds hd hf, cal_v, ka, e_233_86, hr]
      · rw [uI (by decide), uI (by decide)]; exact r4
      · refine inv_of h (fin _ (mfar_ups (mfar_ups mfar_0 (by decide)) (by decide)) ?_)
        unfold PgRel
        rw [g_ups (o := 22) rfl (Nat.blt_eq.mpr (by omega)), g_same lo, n_upd (by omega), n_upd (by omega), w4]
        exact pg_read h.2.1 hc hd (rgl h3)
    · refine ye_32_1 (s := 0) (I1 := I) (J1 := J) (D1 := D) (I2 := ups I 316 0 2) (J2 := J) (D2 := D) sc hx1 hx2 hx3 ?_ rfl rfl ?_ ?_ (inv_r h)
      · rw [e_122_0, x_ni h1, cal_v, kn, e_122_6, x_ni h2, cal_v, kn, e_122_12, x_nr1 h3, cal_e]
      · rw [e_233_0, x_zoneT h11, cal_v, ka, e_233_5, d10, cond_false, e_233_8, x_yearT h21, cal_v, ka, e_233_12, d10, cond_false, e_233_15, e_233_20, x_canT, cal_v, ka, e_233_24, d10, cond_false, e_233_27, x_inF h3, cal_v, ka, e_233_38, x_canF, cal_v, ka, uu, e_233_42, d01, cond_false, e_233_45]
      · rw [uIs, uUs]
  · refine ye_32_2 (s := 0) (I1 := I) (J1 := J) (D1 := D) (I2 := ups I 316 0 1) (J2 := J) (D2 := D) sc hx1 hx2 hx3 ?_ rfl rfl ?_ ?_ (inv_r h)
    · by_cases h2 : 0 ≤ x ∧ x < 8
      · rw [e_122_0, x_ni h2, cal_v, kn, e_122_6, x_ni1 (fun q => h1 ⟨h2, q⟩), cal_e]
      · rw [e_122_0, x_ni1 h2, cal_e]
    · by_cases h2 : 0 ≤ x ∧ x < 8
      · rw [e_233_0, x_zoneT (p8.mp h2), cal_v, ka, e_233_5, d10, cond_false, e_233_8, x_yearF (fun q => h1 ⟨h2, p10.mpr q⟩), cal_v, ka, e_233_12, d00, cond_true, e_233_19, e_233_20, x_canF, cal_v, ka, e_233_24, d00, cond_true, e_233_45]
      · rw [e_233_0, x_zoneF (fun q => h2 (p8.mpr q)), cal_v, ka, e_233_5, d00, cond_true, e_233_19, e_233_20, x_canF, cal_v, ka, e_233_24, d00, cond_true, e_233_45]
    · rw [uIs, uUs]
theorem y_33 {L kk : Nat} {I : Nat → Nat → Int32} {J : Nat → Nat → Int64} {D : Nat → Nat → UInt64} (v : Int32) (h : Inv L kk I J D) (sc : ScOK v I) : TurnY L kk 2151 v I J D := by
  obtain ⟨x, hx1⟩ : ∃ q, I 1000002 (v + 1).toNatClampNeg = q := ⟨_, rfl⟩
  obtain ⟨y, hx2⟩ : ∃ q, I 1000002 (v + 2).toNatClampNeg = q := ⟨_, rfl⟩
  have p8 := le_pred (v := x) (b := 7) (B := 8) (B1 := 7) rfl rfl (by decide)
  have p10 := le_pred (v := y) (b := 9) (B := 10) (B1 := 9) rfl rfl (by decide)
  by_cases h1 : (0 ≤ x ∧ x < 8) ∧ (0 ≤ y ∧ y < 10)
  · obtain ⟨h1, h2⟩ := h1
    obtain ⟨c, hc, rfl⟩ := ix_of (m := 8) (n := 8) rfl h1
    obtain ⟨d, hd, rfl⟩ := ix_of (m := 10) (n := 10) rfl h2
    have h11 := p8.mp h1
    have h21 := p10.mp h2
    rcases (inv_sta h.2.1).2 c d hc hd with ⟨q1, q2⟩ | ⟨q1, q2, q3⟩
    · refine ye_33_3 (s := 0) (I1 := I) (J1 := J) (D1 := D) (I2 := ups I 316 0 2) (J2 := J) (D2 := D) sc hx1 hx2 ?_ rfl rfl ?_ ?_ (inv_r h)
      · rw [e_123_0, x_ni h1, cal_v, kn, e_123_6, x_ni h2, cal_v, kn, e_123_12, c_rd hc hd, cal_v, ka, e_123_24, decide_eq_false (fun q => q q1), cond_false, e_123_32]
      · have q2' : ups I 316 0 0 317 (640 + 8 * d + c) = 0 := by rw [uI (by decide)]; exact q2
        rw [e_234_0, x_zoneT h11, cal_v, ka, e_234_5, d10, cond_false, e_234_8, x_yearT h21, cal_v, ka, e_234_12, d10, cond_false, e_234_15, e_234_20, x_canT, cal_v, ka, e_234_24, d10, cond_false, e_234_27, m_hasF hc hd q2', cal_v, ka, e_234_34, x_canF, cal_v, ka, uu, e_234_38, d01, cond_false, e_234_41]
      · rw [uIs, uUs]
    · obtain ⟨I1, e1, lo, hi, nx⟩ := act_all (inv_to h) J D
      obtain ⟨I4, e2, w4, r4, s4, fin⟩ := nx _ (cfar_ups (p := 23) (k := 10 * c + d) (v := 1000) cfar_0 (by decide)) (upsL J 335 0 (I 23 (10 * c + d)).toInt64) D
      refine yk_33 (r := I 23 (10 * c + d)) (I1 := ups I1 23 (10 * c + d) 1000) (J1 := J) (D1 := D) (I2 := ups I4 317 (640 + 8 * d + c) 0) (J2 := upsL J 335 0 (I 23 (10 * c + d)).toInt64) (D2 := D) sc hx1 hx2 ?_ ?_ ?_ ?_ ?_ upsL_s ?_
      · rw [e_123_0, x_ni h1, cal_v, kn, e_123_6, x_ni h2, cal_v, kn, e_123_12, c_rd hc hd, cal_v, ka, e_123_24, decide_eq_true (ne1000 q1), cond_true, e_123_43, e1, cal_v, kn, e_123_47, c_wr hc hd, cal_v, kn, e_123_62]
      · rw [uI (by decide), hi _ (by decide)]
      · rw [uI (by decide), hi _ (by decide)]
      · have q2' : ups (ups I1 23 (10 * c + d) 1000) 316 0 0 317 (640 + 8 * d + c) = 1 := by rw [uI (by decide), uI (by decide), hi 317 (by decide)]; exact q2
        rw [e_234_0, x_zoneT h11, cal_v, ka, e_234_5, d10, cond_false, e_234_8, x_yearT h21, cal_v, ka, e_234_12, d10, cond_false, e_234_15, e_234_20, x_canT, cal_v, ka, e_234_24, d10, cond_false, e_234_27, m_hasT hc hd q2', cal_v, ka, e_234_34, x_canT, cal_v, ka, uu, e_234_38, d11, cond_true, e_234_43, e2, cal_v, kn, e_234_47, x_at8 hc hd, cal_v, ka, e_234_59, show (640 : Int32) + nI (8 * d + c) = nI (640 + 8 * d + c) by rw [show (640 : Int32) = nI 640 from rfl, nI_add, Nat.add_assoc], inb_n (by omega) (by decide), cond_true, nI_clamp (by omega), x_at8 hc hd, cal_v, ka, e_234_74, show (720 : Int32) + nI (8 * d + c) = nI (720 + 8 * d + c) by rw [show (720 : Int32) = nI 720 from rfl, nI_add, Nat.add_assoc], inb_n (by omega) (by decide), cond_true, nI_clamp (by omega), uIs, uU (by omega), w4, q3]
      · rw [uI (by decide)]; exact r4
      · refine inv_of h (fin _ (mfar_ups mfar_0 (by decide)) ?_)
        unfold PgRel
        rw [g_ups (o := 22) rfl (Nat.blt_eq.mpr (by omega)), g_same lo, n_upd (by omega), w4]
        exact pg_unread h.2.1 hc hd
  · refine ye_33_2 (s := 0) (I1 := I) (J1 := J) (D1 := D) (I2 := ups I 316 0 1) (J2 := J) (D2 := D) sc hx1 hx2 ?_ rfl rfl ?_ ?_ (inv_r h)
    · by_cases h2 : 0 ≤ x ∧ x < 8
      · rw [e_123_0, x_ni h2, cal_v, kn, e_123_6, x_ni1 (fun q => h1 ⟨h2, q⟩), cal_e]
      · rw [e_123_0, x_ni1 h2, cal_e]
    · by_cases h2 : 0 ≤ x ∧ x < 8
      · rw [e_234_0, x_zoneT (p8.mp h2), cal_v, ka, e_234_5, d10, cond_false, e_234_8, x_yearF (fun q => h1 ⟨h2, p10.mpr q⟩), cal_v, ka, e_234_12, d00, cond_true, e_234_19, e_234_20, x_canF, cal_v, ka, e_234_24, d00, cond_true, e_234_41]
      · rw [e_234_0, x_zoneF (fun q => h2 (p8.mpr q)), cal_v, ka, e_234_5, d00, cond_true, e_234_19, e_234_20, x_canF, cal_v, ka, e_234_24, d00, cond_true, e_234_41]
    · rw [uIs, uUs]
theorem y_34 {L kk : Nat} {I : Nat → Nat → Int32} {J : Nat → Nat → Int64} {D : Nat → Nat → UInt64} (v : Int32) (h : Inv L kk I J D) (sc : ScOK v I) : TurnY L kk 2219 v I J D := by
  obtain ⟨x, hx1⟩ : ∃ q, I 1000002 (v + 1).toNatClampNeg = q := ⟨_, rfl⟩
  obtain ⟨y, hx2⟩ : ∃ q, I 1000002 (v + 2).toNatClampNeg = q := ⟨_, rfl⟩
  have p8 := le_pred (v := x) (b := 7) (B := 8) (B1 := 7) rfl rfl (by decide)
  have p10 := le_pred (v := y) (b := 9) (B := 10) (B1 := 9) rfl rfl (by decide)
  by_cases h1 : (0 ≤ x ∧ x < 8) ∧ (0 ≤ y ∧ y < 10)
  · obtain ⟨h1, h2⟩ := h1
    obtain ⟨c, hc, rfl⟩ := ix_of (m := 8) (n := 8) rfl h1
    obtain ⟨d, hd, rfl⟩ := ix_of (m := 10) (n := 10) rfl h2
    have h11 := p8.mp h1
    have hk := inv_cor h hd
    by_cases ne : ∃ j, j < 8 ∧ hasN (I 23) d j = true
    · obtain ⟨r, hr⟩ : ∃ r, r = valN (I 23) d c := ⟨_, rfl⟩
      refine yk_34 (r := r) (I1 := I) (J1 := J) (D1 := D) (I2 := ups I 316 0 0) (J2 := upsL J 335 0 r.toInt64) (D2 := D) sc hx1 hx2 ?_ rfl rfl ?_ ?_ upsL_s (inv_r h)
      · rw [e_124_0, x_ni h1, cal_v, kn, e_124_6, c_readT hd ne, cal_v, kn, e_124_11, c_val hc hd, cal_v, ka, e_124_23, hr]
      · rw [e_239_0, m_readT h11 hd hk ne, cal_v, ka, e_239_6, d10, cond_false, e_239_9, m_fill hc hd hk.r ne, cal_v, ka, e_239_15, e_239_19, hr]
      · rw [uIs, uUs]
    · refine ye_34_3 (s := 0) (I1 := I) (J1 := J) (D1 := D) (I2 := ups I 316 0 2) (J2 := J) (D2 := D) sc hx1 hx2 ?_ rfl rfl ?_ ?_ (inv_r h)
      · rw [e_124_0, x_ni h1, cal_v, kn, e_124_6, c_readF hd ne, cal_e]
      · rw [e_239_0, m_readF h11 hd hk ne, cal_v, ka, e_239_6, d00, cond_true, e_239_18, e_239_19]
      · rw [uIs, uUs]
  · refine ye_34_2 (s := 0) (I1 := I) (J1 := J) (D1 := D) (I2 := ups I 316 0 1) (J2 := J) (D2 := D) sc hx1 hx2 ?_ rfl rfl ?_ ?_ (inv_r h)
    · by_cases h2 : 0 ≤ x ∧ x < 8
      · rw [e_124_0, x_ni h2, cal_v, kn, e_124_6, c_readO (fun q => h1 ⟨h2, q⟩), cal_e]
      · rw [e_124_0, x_ni1 h2, cal_e]
    · rw [e_239_0, m_readO (fun q => h1 ⟨p8.mpr q.1, p10.mpr q.2⟩), cal_v, ka, e_239_6, d00, cond_true, e_239_18, e_239_19]
    · rw [uIs, uUs]
theorem y_36 {L kk : Nat} {I : Nat → Nat → Int32} {J : Nat → Nat → Int64} {D : Nat → Nat → UInt64} (v : Int32) (h : Inv L kk I J D) (sc : ScOK v I) : TurnY L kk 2355 v I J D := by
  obtain ⟨x, hx1⟩ : ∃ q, I 1000002 (v + 1).toNatClampNeg = q := ⟨_, rfl⟩
  have p10 := le_pred (v := x) (b := 9) (B := 10) (B1 := 9) rfl rfl (by decide)
  by_cases h2 : 0 ≤ x ∧ x < 10
  · obtain ⟨d, hd, rfl⟩ := ix_of (m := 10) (n := 10) rfl h2
    have hk := inv_cor h hd
    by_cases ne : ∃ j, j < 8 ∧ hasN (I 23) d j = true
    · obtain ⟨r, hr⟩ : ∃ r, r = balN (I 21) (I 23) d (fun _ => true) 8 := ⟨_, rfl⟩
      refine yk_36 (r := r) (I1 := I) (J1 := J) (D1 := D) (I2 := ups I 316 0 0) (J2 := upsL J 335 0 r.toInt64) (D2 := D) sc hx1 ?_ rfl rfl ?_ ?_ upsL_s (inv_r h)
      · have := c_bal (I := I) (J := J) (D := D) hd 8 0 rfl
        rw [e_126_0, c_readT hd ne, cal_v, kn, e_126_5, e_71_0, (show ex (71, 4, [.ref 20, .int (nI d), .int 0, .int 0], [], mm I J D) = _ from this), cal_v, ka, e_126_16, hr]
      · have := m_bal (I := ups I 316 0 0) (J := upsL J 335 0 r.toInt64) (D := D) (pt := -1) (a := I 21) (g := I 22) (q := fun _ => true) hd hk.r ne (fun z hz => by rw [uI (by decide)]; exact ((inv_sta h.2.1).1 z hz).1.1) (fun z hz => by rw [uI (by decide)]; exact ((inv_sta h.2.1).1 z hz).2.1) (fun z => ⟨fun _ => Or.inl rfl, fun _ => rfl⟩) 8 0 rfl
        rw [e_242_0, m_readT (by decide) hd hk ne, cal_v, ka, e_242_6, d10, cond_false, e_242_9, e_241_0, (show ex (241, 5, [.ref 316, .int (-1), .int (nI d), .int 0, .int 0], [], mm _ _ D) = _ from this), cal_v, ka, e_242_15, e_242_19, hr]
      · rw [uIs, uUs]
    · refine ye_36_3 (s := 0) (I1 := I) (J1 := J) (D1 := D) (I2 := ups I 316 0 2) (J2 := J) (D2 := D) sc hx1 ?_ rfl rfl ?_ ?_ (inv_r h)
      · rw [e_126_0, c_readF hd ne, cal_e]
      · rw [e_242_0, m_readF (by decide) hd hk ne, cal_v, ka, e_242_6, d00, cond_true, e_242_18, e_242_19]
      · rw [uIs, uUs]
  · refine ye_36_2 (s := 0) (I1 := I) (J1 := J) (D1 := D) (I2 := ups I 316 0 1) (J2 := J) (D2 := D) sc hx1 ?_ rfl rfl ?_ ?_ (inv_r h)
    · rw [e_126_0, c_readO h2, cal_e]
    · rw [e_242_0, m_readO (fun q => h2 (p10.mpr q.2)), cal_v, ka, e_242_6, d00, cond_true, e_242_18, e_242_19]
    · rw [uIs, uUs]
theorem y_37 {L kk : Nat} {I : Nat → Nat → Int32} {J : Nat → Nat → Int64} {D : Nat → Nat → UInt64} (v : Int32) (h : Inv L kk I J D) (sc : ScOK v I) : TurnY L kk 2411 v I J D := by
  obtain ⟨x, hx1⟩ : ∃ q, I 1000002 (v + 1).toNatClampNeg = q := ⟨_, rfl⟩
  obtain ⟨y, hx2⟩ : ∃ q, I 1000002 (v + 2).toNatClampNeg = q := ⟨_, rfl⟩
  have p8 := le_pred (v := x) (b := 3) (B := 4) (B1 := 3) rfl rfl (by decide)
  have p10 := le_pred (v := y) (b := 9) (B := 10) (B1 := 9) rfl rfl (by decide)
  by_cases h1 : (0 ≤ x ∧ x < 4) ∧ (0 ≤ y ∧ y < 10)
  · obtain ⟨h1, h2⟩ := h1
    obtain ⟨c, hc, rfl⟩ := ix_of (m := 4) (n := 4) rfl h1
    obtain ⟨d, hd, rfl⟩ := ix_of (m := 10) (n := 10) rfl h2
    have h11 := p8.mp h1
    have hk := inv_cor h hd
    by_cases ne : ∃ j, j < 8 ∧ hasN (I 23) d j = true
    · obtain ⟨r, hr⟩ : ∃ r, r = balN (I 21) (I 23) d (fun n => decide (I 22 n = nI c)) 8 := ⟨_, rfl⟩
      refine yk_37 (r := r) (I1 := I) (J1 := J) (D1 := D) (I2 := ups I 316 0 0) (J2 := upsL J 335 0 r.toInt64) (D2 := D) sc hx1 hx2 ?_ rfl rfl ?_ ?_ upsL_s (inv_r h)
      · have := c_balP (I := I) (J := J) (D := D) (pt := nI c) hd 8 0 rfl
        rw [e_127_0, x_ni h1, cal_v, kn, e_127_5, c_readT hd ne, cal_v, kn, e_127_10, e_72_0, (show ex (72, 5, [.ref 20, .int (nI c), .int (nI d), .int 0, .int 0], [], mm I J D) = _ from this), cal_v, ka, e_127_22, hr]
      · have := m_bal (I := ups I 316 0 0) (J := upsL J 335 0 r.toInt64) (D := D) (pt := nI c) (a := I 21) (g := I 22) (q := fun n => decide (I 22 n = nI c)) hd hk.r ne (fun z hz => by rw [uI (by decide)]; exact ((inv_sta h.2.1).1 z hz).1.1) (fun z hz => by rw [uI (by decide)]; exact ((inv_sta h.2.1).1 z hz).2.1) (fun z => ⟨fun t => Or.inr (of_decide_eq_true t), fun t => decide_eq_true (t.resolve_left (ne_m1 (by omega)))⟩) 8 0 rfl
        rw [e_243_0, x_inT h11, cal_v, ka, e_243_7, x_canT, cal_v, ka, e_243_11, d10, cond_false, e_243_14, m_readT (by decide) hd hk.r ne, cal_v, ka, uu, e_243_20, d10, cond_false, e_243_23, e_241_0, (show ex (241, 5, [.ref 316, .int (nI c), .int (nI d), .int 0, .int 0], [], mm _ _ D) = _ from this), cal_v, ka, e_243_29, e_243_33, hr]
      · rw [uIs, uUs]
    · refine ye_37_3 (s := 0) (I1 := I) (J1 := J) (D1 := D) (I2 := ups I 316 0 2) (J2 := J) (D2 := D) sc hx1 hx2 ?_ rfl rfl ?_ ?_ (inv_r h)
      · rw [e_127_0, x_ni h1, cal_v, kn, e_127_5, c_readF hd ne, cal_e]
      · rw [e_243_0, x_inT h11, cal_v, ka, e_243_7, x_canT, cal_v, ka, e_243_11, d10, cond_false, e_243_14, m_readF (by decide) hd hk.r ne, cal_v, ka, uu, e_243_20, d00, cond_true, e_243_32, e_243_33]
      · rw [uIs, uUs]
  · refine ye_37_2 (s := 0) (I1 := I) (J1 := J) (D1 := D) (I2 := ups I 316 0 1) (J2 := J) (D2 := D) sc hx1 hx2 ?_ rfl rfl ?_ ?_ (inv_r h)
    · by_cases h2 : 0 ≤ x ∧ x < 4
      · rw [e_127_0, x_ni h2, cal_v, kn, e_127_5, c_readO (fun q => h1 ⟨h2, q⟩), cal_e]
      · rw [e_127_0, x_ni1 h2, cal_e]
    · by_cases h2 : 0 ≤ x ∧ x < 4
      · rw [e_243_0, x_inT (p8.mp h2), cal_v, ka, e_243_7, x_canT, cal_v, ka, e_243_11, d10, cond_false, e_243_14, m_readO (fun q => h1 ⟨h2, p10.mpr q.2⟩), cal_v, ka, uu, e_243_20, d00, cond_true, e_243_32, e_243_33]
      · rw [e_243_0, x_inF (fun q => h2 (p8.mpr q)), cal_v, ka, e_243_7, x_canF, cal_v, ka, e_243_11, d00, cond_true, e_243_32, e_243_33]
    · rw [uIs, uUs]
theorem y_38 {L kk : Nat} {I : Nat → Nat → Int32} {J : Nat → Nat → Int64} {D : Nat → Nat → UInt64} (v : Int32) (h : Inv L kk I J D) (sc : ScOK v I) : TurnY L kk 2479 v I J D := by
  obtain ⟨x, hx1⟩ : ∃ q, I 1000002 (v + 1).toNatClampNeg = q := ⟨_, rfl⟩
  have p10 := le_pred (v := x) (b := 9) (B := 10) (B1 := 9) rfl rfl (by decide)
  by_cases h2 : 0 ≤ x ∧ x < 10
  · obtain ⟨d, hd, rfl⟩ := ix_of (m := 10) (n := 10) rfl h2
    have hk := inv_cor h hd
    by_cases ne : ∃ j, j < 8 ∧ hasN (I 23) d j = true
    · obtain ⟨r, hr⟩ : ∃ r, r = lin (lowN (fun z => decide (valN (I 23) d z < 0)) 8) := ⟨_, rfl⟩
      refine yk_38 (r := r) (I1 := I) (J1 := J) (D1 := D) (I2 := ups I 316 0 0) (J2 := upsL J 335 0 r.toInt64) (D2 := D) sc hx1 ?_ rfl rfl ?_ ?_ upsL_s (inv_r h)
      · have := c_lin (I := I) (J := J) (D := D) hd 8 (by decide)
        rw [e_128_0, c_readT hd ne, cal_v, kn, e_128_5, e_73_0, (show ex (73, 3, [.ref 20, .int (nI d), .int 7], [], mm I J D) = _ from this), cal_v, ka, e_128_16, hr]
      · have := m_lin (I := ups I 316 0 0) (J := upsL J 335 0 r.toInt64) (D := D) hd hk.r ne 8 (by decide)
        rw [e_244_0, m_readT (by decide) hd hk ne, cal_v, ka, e_244_6, d11, cond_true, e_244_11, (show ex (244, 14, [.ref 316, .int (nI d), .int 8], [], mm _ _ D) = _ from this), hr]
      · rw [uIs, uUs]
    · refine ye_38_3 (s := 0) (I1 := I) (J1 := J) (D1 := D) (I2 := ups I 316 0 2) (J2 := J) (D2 := D) sc hx1 ?_ rfl rfl ?_ ?_ (inv_r h)
      · rw [e_128_0, c_readF hd ne, cal_e]
      · rw [e_244_0, m_readF (by decide) hd hk ne, cal_v, ka, e_244_6, d01, cond_false, e_244_9]
      · rw [uIs, uUs]
  · refine ye_38_2 (s := 0) (I1 := I) (J1 := J) (D1 := D) (I2 := ups I 316 0 1) (J2 := J) (D2 := D) sc hx1 ?_ rfl rfl ?_ ?_ (inv_r h)
    · rw [e_128_0, c_readO h2, cal_e]
    · rw [e_244_0, m_readO (fun q => h2 (p10.mpr q.2)), cal_v, ka, e_244_6, d01, cond_false, e_244_9]
    · rw [uIs, uUs]
theorem y_35 {L kk : Nat} {I : Nat → Nat → Int32} {J : Nat → Nat → Int64} {D : Nat → Nat → UInt64} (v : Int32) (h : Inv L kk I J D) (sc : ScOK v I) : TurnY L kk 2287 v I J D := by
  obtain ⟨x, hx1⟩ : ∃ q, I 1000002 (v + 1).toNatClampNeg = q := ⟨_, rfl⟩
  obtain ⟨y, hx2⟩ : ∃ q, I 1000002 (v + 2).toNatClampNeg = q := ⟨_, rfl⟩
  have p8 := le_pred (v := x) (b := 7) (B := 8) (B1 := 7) rfl rfl (by decide)
  have p10 := le_pred (v := y) (b := 9) (B := 10) (B1 := 9) rfl rfl (by decide)
  by_cases h1 : (0 ≤ x ∧ x < 8) ∧ (0 ≤ y ∧ y < 10)
  · obtain ⟨h1, h2⟩ := h1
    obtain ⟨c, hc, rfl⟩ := ix_of (m := 8) (n := 8) rfl h1
    obtain ⟨d, hd, rfl⟩ := ix_of (m := 10) (n := 10) rfl h2
    have h11 := p8.mp h1
    have hk := inv_cor h hd
    by_cases ne : ∃ j, j < 8 ∧ hasN (I 23) d j = true
    · obtain ⟨r, hr⟩ : ∃ r, r = rsn (I 23) d c := ⟨_, rfl⟩
      refine yk_35 (r := r) (I1 := I) (J1 := J) (D1 := D) (I2 := ups I 316 0 0) (J2 := upsL J 335 0 r.toInt64) (D2 := D) sc hx1 hx2 ?_ rfl rfl ?_ ?_ upsL_s (inv_r h)
      · rw [e_125_0, x_ni h1, cal_v, kn, e_125_6, c_readT hd ne, cal_v, kn, e_125_11, c_rsn hc hd, cal_v, ka, e_125_23, hr]
      · rw [e_240_0, m_readT h11 hd hk ne, cal_v, ka, e_240_6, d11, cond_true, m_rsn hc hd hk.r ne, hr]
      · rw [uIs, uUs]
    · refine ye_35_3 (s := 0) (I1 := I) (J1 := J) (D1 := D) (I2 := ups I 316 0 2) (J2 := J) (D2 := D) sc hx1 hx2 ?_ rfl rfl ?_ ?_ (inv_r h)
      · rw [e_125_0, x_ni h1, cal_v, kn, e_125_6, c_readF hd ne, cal_e]
      · rw [e_240_0, m_readF h11 hd hk ne, cal_v, ka, e_240_6, d01, cond_false, e_240_9]
      · rw [uIs, uUs]
  · refine ye_35_2 (s := 0) (I1 := I) (J1 := J) (D1 := D) (I2 := ups I 316 0 1) (J2 := J) (D2 := D) sc hx1 hx2 ?_ rfl rfl ?_ ?_ (inv_r h)
    · by_cases h2 : 0 ≤ x ∧ x < 8
      · rw [e_125_0, x_ni h2, cal_v, kn, e_125_6, c_readO (fun q => h1 ⟨h2, q⟩), cal_e]
      · rw [e_125_0, x_ni1 h2, cal_e]
    · rw [e_240_0, m_readO (fun q => h1 ⟨p8.mpr q.1, p10.mpr q.2⟩), cal_v, ka, e_240_6, d01, cond_false, e_240_9]
    · rw [uIs, uUs]
theorem y_19 {L kk : Nat} {I : Nat → Nat → Int32} {J : Nat → Nat → Int64} {D : Nat → Nat → UInt64} (v : Int32) (h : Inv L kk I J D) (sc : ScOK v I) : TurnY L kk 1253 v I J D := by
  obtain ⟨x, hx1⟩ : ∃ q, I 1000002 (v + 1).toNatClampNeg = q := ⟨_, rfl⟩
  obtain ⟨y, hx2⟩ : ∃ q, I 1000002 (v + 2).toNatClampNeg = q := ⟨_, rfl⟩
  obtain ⟨z, hx3⟩ : ∃ q, I 1000002 (v + 3).toNatClampNeg = q := ⟨_, rfl⟩
  obtain ⟨I1, qq, hcase⟩ := a_19 (J := J) (D := D) (inv_to h) x y z
  have q1 : I1 iSCL 0 = I iSCL 0 := by rw [qq iSCL (by decide)]
  have q2 := qq 1000002 (by decide)
  rcases hcase with ⟨r, e1, nx⟩ | ⟨E, c, hE, e1, nx⟩
  · obtain ⟨I2, e2, q3, i2⟩ := nx (upsL J 335 0 r.toInt64) D I1 MPt.z
    exact yk_19 sc hx1 hx2 hx3 e1 q1 q2 e2 q3 upsL_s (inv_of h i2)
  · obtain ⟨s, I2, e2, q3, i2⟩ := nx J D I1 MPt.z
    rcases hE with ⟨rfl, rfl⟩ | ⟨rfl, rfl⟩ | ⟨rfl, rfl⟩
    · exact ye_19_2 sc hx1 hx2 hx3 e1 q1 q2 e2 q3 (inv_of h i2)
    · exact ye_19_1 sc hx1 hx2 hx3 e1 q1 q2 e2 q3 (inv_of h i2)
    · exact ye_19_0 sc hx1 hx2 hx3 e1 q1 q2 e2 q3 (inv_of h i2)
theorem y_28 {L kk : Nat} {I : Nat → Nat → Int32} {J : Nat → Nat → Int64} {D : Nat → Nat → UInt64} (v : Int32) (h : Inv L kk I J D) (sc : ScOK v I) : TurnY L kk 1775 v I J D := by
  obtain ⟨x, hx1⟩ : ∃ q, I 1000002 (v + 1).toNatClampNeg = q := ⟨_, rfl⟩
  obtain ⟨y, hx2⟩ : ∃ q, I 1000002 (v + 2).toNatClampNeg = q := ⟨_, rfl⟩
  obtain ⟨z, hx3⟩ : ∃ q, I 1000002 (v + 3).toNatClampNeg = q := ⟨_, rfl⟩
  obtain ⟨I1, qq, hcase⟩ := a_28 (J := J) (D := D) (inv_to h) x y z
  have q1 : I1 iSCL 0 = I iSCL 0 := by rw [qq iSCL (by decide)]
  have q2 := qq 1000002 (by decide)
  rcases hcase with ⟨r, e1, nx⟩ | ⟨E, c, hE, e1, nx⟩
  · obtain ⟨I2, e2, q3, i2⟩ := nx (upsL J 335 0 r.toInt64) D I1 MPt.z
    exact yk_28 sc hx1 hx2 hx3 e1 q1 q2 e2 q3 upsL_s (inv_of h i2)
  · obtain ⟨s, I2, e2, q3, i2⟩ := nx J D I1 MPt.z
    rcases hE with ⟨rfl, rfl⟩ | ⟨rfl, rfl⟩ | ⟨rfl, rfl⟩
    · exact ye_28_2 sc hx1 hx2 hx3 e1 q1 q2 e2 q3 (inv_of h i2)
    · exact ye_28_1 sc hx1 hx2 hx3 e1 q1 q2 e2 q3 (inv_of h i2)
    · exact ye_28_0 sc hx1 hx2 hx3 e1 q1 q2 e2 q3 (inv_of h i2)
theorem y_29 {L kk : Nat} {I : Nat → Nat → Int32} {J : Nat → Nat → Int64} {D : Nat → Nat → UInt64} (v : Int32) (h : Inv L kk I J D) (sc : ScOK v I) : TurnY L kk 1855 v I J D := by
  obtain ⟨x, hx1⟩ : ∃ q, I 1000002 (v + 1).toNatClampNeg = q := ⟨_, rfl⟩
  obtain ⟨y, hx2⟩ : ∃ q, I 1000002 (v + 2).toNatClampNeg = q := ⟨_, rfl⟩
  have p2 := le_pred (v := x) (b := 1) (B := 2) (B1 := 1) rfl rfl (by decide)
  by_cases hx : 0 ≤ x ∧ x < 2
  · obtain ⟨c, hc, rfl⟩ := ix_of (m := 2) (n := 2) rfl hx
    rcases (show c = 0 ∨ c = 1 by omega) with rfl | rfl
    · obtain ⟨n, hn, cn, wn, hk, hb, hs⟩ := inv_row h.2.1 (i := 0) (by decide)
      have cn : I 10 4 = nI n := cn
      have wn : I 317 491 = nI n := wn
      by_cases hy : 0 ≤ y ∧ y < nI n
      · obtain ⟨b, hb2, rfl⟩ := ix_of (m := n) (nI_toInt (by omega)) hy
        have hy' : 0 ≤ nI b ∧ nI b < I 10 4 := by rw [cn]; exact hy
        have hw : I 317 (557 + 16 * 0 + b) = I 14 b := (hk b hb2).2.2.2.1
        by_cases hd : I 14 b = -1
        · refine ye_29_3 (s := 0) (I1 := I) (J1 := J) (D1 := D) (I2 := ups I 316 0 2) (J2 := J) (D2 := D) sc hx1 hx2 ?_ rfl rfl ?_ ?_ (inv_r h)
          · rw [e_119_0, x_row hx, cal_v, kn, e_119_5, c_bandT0 hy', cal_v, kn, e_119_11, x_rw0, cal_v, krw _, e_119_19_10, inb_n (show b < 16 by omega) (by decide), cond_true, decide_eq_false (by rw [nI_clamp (by omega)]; exact fun q => q hd), cond_false, e_119_28]
          · have hw0 : ups I 316 0 0 317 (557 + 16 * 0 + b) = -1 := by rw [uI (by decide), hw]; exact hd
            rw [e_225_0, m_bandT (i := 0) (by decide) wn hn hy, cal_v, ka, e_225_7, x_canT, cal_v, ka, e_225_11, d10, cond_false, e_225_14, m_date (i := 0) (by decide) (by omega), cal_v, ka, hw0, e_225_21, decide_eq_true (rfl), cond_true, e_225_29, e_225_30, x_canF, cal_v, ka, uu, e_225_34, d01, cond_false, e_225_37]
          · rw [uIs, uUs]
        · obtain ⟨I1, e1, lo, hi, nx⟩ := act_all (inv_to h) J D
          obtain ⟨I4, e2, w4, r4, s4, fin⟩ := nx _ (cfar_ups (p := 14) (k := b) (v := -1) cfar_0 (by decide)) (upsL J 335 0 (I 14 b).toInt64) D
          refine yk_29 (r := I 14 b) (I1 := ups I1 14 b (-1)) (J1 := J) (D1 := D) (I2 := ups I4 317 (557 + b) (-1)) (J2 := upsL J 335 0 (I 14 b).toInt64) (D2 := D) sc hx1 hx2 ?_ ?_ ?_ ?_ ?_ upsL_s ?_
          · rw [e_119_0, x_row hx, cal_v, kn, e_119_5, c_bandT0 hy', cal_v, kn, e_119_11, x_rw0, cal_v, krw _, e_119_19_10, inb_n (show b < 16 by omega) (by decide), cond_true, decide_eq_true (by rw [nI_clamp (by omega)]; exact hd), cond_true, e_119_39, e1, cal_v, kn, e_119_43, x_rw0, cal_v, krw _, e_119_51_10, e_58_0_10, inb_n (show b < 16 by omega) (by decide), cond_true, cond_true, nI_clamp (by omega), lo 14 (by decide) (by decide), cal_v, ka, e_119_56]
          · rw [uI (by decide), hi _ (by decide)]
          · rw [uI (by decide), hi _ (by decide)]
          · have hwn : I4 317 (557 + 16 * 0 + b) = I 14 b := by rw [w4]; exact hw
            have hw0 : ups (ups I1 14 b (-1)) 316 0 0 317 (557 + 16 * 0 + b) = I 14 b := by rw [uI (by decide), uI (by decide), hi 317 (by decide), hw]
            rw [e_225_0, m_bandT (i := 0) (by decide) (by rw [uI (by decide), hi 317 (by decide)]; exact wn) hn hy, cal_v, ka, e_225_7, x_canT, cal_v, ka, e_225_11, d10, cond_false, e_225_14, m_date (i := 0) (by decide) (by omega), cal_v, ka, hw0, e_225_21, decide_eq_false (hd), cond_false, e_225_25, e_225_30, x_canT, cal_v, ka, uu, e_225_34, d11, cond_true, e_225_39, e2, cal_v, kn, e_225_43, m_date (i := 0) (by decide) (by omega), cal_v, ka, hwn, e_225_49, show (557 : Int32) + 16 * nI 0 = nI 557 by decide, nI_add, inb_n (by omega) (by decide), cond_true, nI_clamp (n := 557 + b) (by omega)]
          · rw [uI (by decide)]; exact r4
          · refine inv_of h (fin _ (mfar_ups mfar_0 (by decide)) ?_)
            unfold PgRel
            rw [g_ups (o := 13) rfl (Nat.blt_eq.mpr (by omega)), g_same lo, n_upd (by omega), w4]
            exact pg_date0 (n := n) h.2.1 (by rw [nrm_at (by rfl)]; exact cn) hn hb2 (Or.inl rfl) (fun q => absurd rfl q)
      · refine ye_29_2 (s := 0) (I1 := I) (J1 := J) (D1 := D) (I2 := ups I 316 0 1) (J2 := J) (D2 := D) sc hx1 hx2 ?_ rfl rfl ?_ ?_ (inv_r h)
        · rw [e_119_0, x_row hx, cal_v, kn, e_119_5, c_bandF0 (by rw [cn]; exact hy), cal_e]
        · rw [e_225_0, m_bandF (i := 0) (by decide) wn hn hy, cal_v, ka, e_225_7, x_canF, cal_v, ka, e_225_11, d00, cond_true, e_225_37]
        · rw [uIs, uUs]
    · obtain ⟨n, hn, cn, wn, hk, hb, hs⟩ := inv_row h.2.1 (i := 1) (by decide)
      have cn : I 15 4 = nI n := cn
      have wn : I 317 492 = nI n := wn
      by_cases hy : 0 ≤ y ∧ y < nI n
      · obtain ⟨b, hb2, rfl⟩ := ix_of (m := n) (nI_toInt (by omega)) hy
        have hy' : 0 ≤ nI b ∧ nI b < I 15 4 := by rw [cn]; exact hy
        have hw : I 317 (557 + 16 * 1 + b) = I 19 b := (hk b hb2).2.2.2.1
        by_cases hd : I 19 b = -1
        · refine ye_29_3 (s := 0) (I1 := I) (J1 := J) (D1 := D) (I2 := ups I 316 0 2) (J2 := J) (D2 := D) sc hx1 hx2 ?_ rfl rfl ?_ ?_ (inv_r h)
          · rw [e_119_0, x_row hx, cal_v, kn, e_119_5, c_bandT1 hy', cal_v, kn, e_119_11, x_rw1, cal_v, krw _, e_119_19_15, inb_n (show b < 16 by omega) (by decide), cond_true, decide_eq_false (by rw [nI_clamp (by omega)]; exact fun q => q hd), cond_false, e_119_28]
          · have hw0 : ups I 316 0 0 317 (557 + 16 * 1 + b) = -1 := by rw [uI (by decide), hw]; exact hd
            rw [e_225_0, m_bandT (i := 1) (by decide) wn hn hy, cal_v, ka, e_225_7, x_canT, cal_v, ka, e_225_11, d10, cond_false, e_225_14, m_date (i := 1) (by decide) (by omega), cal_v, ka, hw0, e_225_21, decide_eq_true (rfl), cond_true, e_225_29, e_225_30, x_canF, cal_v, ka, uu, e_225_34, d01, cond_false, e_225_37]
          · rw [uIs, uUs]
        · obtain ⟨I1, e1, lo, hi, nx⟩ := act_all (inv_to h) J D
          obtain ⟨I4, e2, w4, r4, s4, fin⟩ := nx _ (cfar_ups (p := 19) (k := b) (v := -1) cfar_0 (by decide)) (upsL J 335 0 (I 19 b).toInt64) D
          refine yk_29 (r := I 19 b) (I1 := ups I1 19 b (-1)) (J1 := J) (D1 := D) (I2 := ups I4 317 (573 + b) (-1)) (J2 := upsL J 335 0 (I 19 b).toInt64) (D2 := D) sc hx1 hx2 ?_ ?_ ?_ ?_ ?_ upsL_s ?_
          · rw [e_119_0, x_row hx, cal_v, kn, e_119_5, c_bandT1 hy', cal_v, kn, e_119_11, x_rw1, cal_v, krw _, e_119_19_15, inb_n (show b < 16 by omega) (by decide), cond_true, decide_eq_true (by rw [nI_clamp (by omega)]; exact hd), cond_true, e_119_39, e1, cal_v, kn, e_119_43, x_rw1, cal_v, krw _, e_119_51_15, e_58_0_15, inb_n (show b < 16 by omega) (by decide), cond_true, cond_true, nI_clamp (by omega), lo 19 (by decide) (by decide), cal_v, ka, e_119_56]
          · rw [uI (by decide), hi _ (by decide)]
          · rw [uI (by decide), hi _ (by decide)]
          · have hwn : I4 317 (557 + 16 * 1 + b) = I 19 b := by rw [w4]; exact hw
            have hw0 : ups (ups I1 19 b (-1)) 316 0 0 317 (557 + 16 * 1 + b) = I 19 b := by rw [uI (by decide), uI (by decide), hi 317 (by decide), hw]
            rw [e_225_0, m_bandT (i := 1) (by decide) (by rw [uI (by decide), hi 317 (by decide)]; exact wn) hn hy, cal_v, ka, e_225_7, x_canT, cal_v, ka, e_225_11, d10, cond_false, e_225_14, m_date (i := 1) (by decide) (by omega), cal_v, ka, hw0, e_225_21, decide_eq_false (hd), cond_false, e_225_25, e_225_30, x_canT, cal_v, ka, uu, e_225_34, d11, cond_true, e_225_39, e2, cal_v, kn, e_225_43, m_date (i := 1) (by decide) (by omega), cal_v, ka, hwn, e_225_49, show (557 : Int32) + 16 * nI 1 = nI 573 by decide, nI_add, inb_n (by omega) (by decide), cond_true, nI_clamp (n := 573 + b) (by omega)]
          · rw [uI (by decide)]; exact r4
          · refine inv_of h (fin _ (mfar_ups mfar_0 (by decide)) ?_)
            unfold PgRel
            rw [g_ups (o := 18) rfl (Nat.blt_eq.mpr (by omega)), g_same lo, n_upd (by omega), w4]
            exact pg_date1 (n := n) h.2.1 (by rw [nrm_at (by rfl)]; exact cn) hn hb2 (Or.inl rfl) (fun q => absurd rfl q)
      · refine ye_29_2 (s := 0) (I1 := I) (J1 := J) (D1 := D) (I2 := ups I 316 0 1) (J2 := J) (D2 := D) sc hx1 hx2 ?_ rfl rfl ?_ ?_ (inv_r h)
        · rw [e_119_0, x_row hx, cal_v, kn, e_119_5, c_bandF1 (by rw [cn]; exact hy), cal_e]
        · rw [e_225_0, m_bandF (i := 1) (by decide) wn hn hy, cal_v, ka, e_225_7, x_canF, cal_v, ka, e_225_11, d00, cond_true, e_225_37]
        · rw [uIs, uUs]
  · refine ye_29_2 (s := 0) (I1 := I) (J1 := J) (D1 := D) (I2 := ups I 316 0 1) (J2 := J) (D2 := D) sc hx1 hx2 ?_ rfl rfl ?_ ?_ (inv_r h)
    · rw [e_119_0, x_row1 hx, cal_e]
    · rw [e_225_0, m_bandR (fun q => hx (p2.mpr q)), cal_v, ka, e_225_7, x_canF, cal_v, ka, e_225_11, d00, cond_true, e_225_37]
    · rw [uIs, uUs]
theorem y_30 {L kk : Nat} {I : Nat → Nat → Int32} {J : Nat → Nat → Int64} {D : Nat → Nat → UInt64} (v : Int32) (h : Inv L kk I J D) (sc : ScOK v I) : TurnY L kk 1923 v I J D := by
  obtain ⟨x, hx1⟩ : ∃ q, I 1000002 (v + 1).toNatClampNeg = q := ⟨_, rfl⟩
  obtain ⟨y, hx2⟩ : ∃ q, I 1000002 (v + 2).toNatClampNeg = q := ⟨_, rfl⟩
  have p2 := le_pred (v := x) (b := 1) (B := 2) (B1 := 1) rfl rfl (by decide)
  by_cases hx : 0 ≤ x ∧ x < 2
  · obtain ⟨c, hc, rfl⟩ := ix_of (m := 2) (n := 2) rfl hx
    rcases (show c = 0 ∨ c = 1 by omega) with rfl | rfl
    · obtain ⟨n, hn, cn, wn, hk, hb, hs⟩ := inv_row h.2.1 (i := 0) (by decide)
      have cn : I 10 4 = nI n := cn
      have wn : I 317 491 = nI n := wn
      by_cases hy : 0 ≤ y ∧ y < nI n
      · obtain ⟨b, hb2, rfl⟩ := ix_of (m := n) (nI_toInt (by omega)) hy
        have hy' : 0 ≤ nI b ∧ nI b < I 10 4 := by rw [cn]; exact hy
        have ca := c_age0 (J := J) (D := D) cn hn hb2
        have mg := fun (J2 : Nat → Nat → Int64) => m_age (i := 0) (I := ups I 316 0 0) (J := J2) (D := D) (da := I 14) (by decide) (by rw [uI (by decide)]; exact wn) hn hb2 (fun k hk2 => by rw [uI (by decide)]; exact (hk k hk2).2.2.2.1)
        cases hq : (datN (I 14) b || ((lowN (datN (I 14)) b).isSome && (highN (datN (I 14)) (n - 1 - b) (b + 1)).isSome)) with
        | true =>
          have hne := ageN_ne hn hb2 (fun k hk2 => (hk k hk2).2.2.2.2) hs hq
          refine yk_30 (r := ageN (I 14) n b) (I1 := I) (J1 := J) (D1 := D) (I2 := ups I 316 0 0) (J2 := upsL J 335 0 (ageN (I 14) n b).toInt64) (D2 := D) sc hx1 hx2 ?_ rfl rfl ?_ ?_ upsL_s (inv_r h)
          · rw [e_120_0, x_row hx, cal_v, kn, e_120_5, c_bandT0 hy', cal_v, kn, e_120_11, x_rw0, cal_v, krw _, e_120_19_10, ca, cal_v, ka, e_120_23, decide_eq_true (hne), cond_true, e_120_40]
          · have := mg (upsL J 335 0 (ageN (I 14) n b).toInt64)
            rw [hq, cond_true, uu] at this
            rw [e_226_0, m_bandT (i := 0) (by decide) wn hn hy, cal_v, ka, e_226_7, x_canT, cal_v, ka, e_226_11, d11, cond_true]
            exact this
          · rw [uIs, uUs]
        | false =>
          have hne : ageN (I 14) n b = -1 := by
            rw [Bool.or_eq_false_iff] at hq
            unfold ageN
            rw [hq.1, cond_false]
            cases hl : lowN (datN (I 14)) b with
            | none => rfl
            | some a =>
              cases hh : highN (datN (I 14)) (n - 1 - b) (b + 1) with
              | none => rfl
              | some c => rw [hl, hh] at hq; cases hq.2
          refine ye_30_3 (s := 0) (I1 := I) (J1 := J) (D1 := D) (I2 := ups I 316 0 2) (J2 := J) (D2 := D) sc hx1 hx2 ?_ rfl rfl ?_ ?_ (inv_r h)
          · rw [e_120_0, x_row hx, cal_v, kn, e_120_5, c_bandT0 hy', cal_v, kn, e_120_11, x_rw0, cal_v, krw _, e_120_19_10, ca, cal_v, ka, hne, e_120_23, decide_eq_false (fun q => q rfl), cond_false, e_120_29]
          · have := mg J
            rw [hq, cond_false, uu] at this
            rw [e_226_0, m_bandT (i := 0) (by decide) wn hn hy, cal_v, ka, e_226_7, x_canT, cal_v, ka, e_226_11, d11, cond_true]
            exact this
          · rw [uIs, uUs]
      · refine ye_30_2 (s := 0) (I1 := I) (J1 := J) (D1 := D) (I2 := ups I 316 0 1) (J2 := J) (D2 := D) sc hx1 hx2 ?_ rfl rfl ?_ ?_ (inv_r h)
        · rw [e_120_0, x_row hx, cal_v, kn, e_120_5, c_bandF0 (by rw [cn]; exact hy), cal_e]
        · rw [e_226_0, m_bandF (i := 0) (by decide) wn hn hy, cal_v, ka, e_226_7, x_canF, cal_v, ka, e_226_11, d01, cond_false, e_226_14]
        · rw [uIs, uUs]
    · obtain ⟨n, hn, cn, wn, hk, hb, hs⟩ := inv_row h.2.1 (i := 1) (by decide)
      have cn : I 15 4 = nI n := cn
      have wn : I 317 492 = nI n := wn
      by_cases hy : 0 ≤ y ∧ y < nI n
      · obtain ⟨b, hb2, rfl⟩ := ix_of (m := n) (nI_toInt (by omega)) hy
        have hy' : 0 ≤ nI b ∧ nI b < I 15 4 := by rw [cn]; exact hy
        have ca := c_age1 (J := J) (D := D) cn hn hb2
        have mg := fun (J2 : Nat → Nat → Int64) => m_age (i := 1) (I := ups I 316 0 0) (J := J2) (D := D) (da := I 19) (by decide) (by rw [uI (by decide)]; exact wn) hn hb2 (fun k hk2 => by rw [uI (by decide)]; exact (hk k hk2).2.2.2.1)
        cases hq : (datN (I 19) b || ((lowN (datN (I 19)) b).isSome && (highN (datN (I 19)) (n - 1 - b) (b + 1)).isSome)) with
        | true =>
          have hne := ageN_ne hn hb2 (fun k hk2 => (hk k hk2).2.2.2.2) hs hq
          refine yk_30 (r := ageN (I 19) n b) (I1 := I) (J1 := J) (D1 := D) (I2 := ups I 316 0 0) (J2 := upsL J 335 0 (ageN (I 19) n b).toInt64) (D2 := D) sc hx1 hx2 ?_ rfl rfl ?_ ?_ upsL_s (inv_r h)
          · rw [e_120_0, x_row hx, cal_v, kn, e_120_5, c_bandT1 hy', cal_v, kn, e_120_11, x_rw1, cal_v, krw _, e_120_19_15, ca, cal_v, ka, e_120_23, decide_eq_true (hne), cond_true, e_120_40]
          · have := mg (upsL J 335 0 (ageN (I 19) n b).toInt64)
            rw [hq, cond_true, uu] at this
            rw [e_226_0, m_bandT (i := 1) (by decide) wn hn hy, cal_v, ka, e_226_7, x_canT, cal_v, ka, e_226_11, d11, cond_true]
            exact this
          · rw [uIs, uUs]
        | false =>
          have hne : ageN (I 19) n b = -1 := by
            rw [Bool.or_eq_false_iff] at hq
            unfold ageN
            rw [hq.1, cond_false]
            cases hl : lowN (datN (I 19)) b with
            | none => rfl
            | some a =>
              cases hh : highN (datN (I 19)) (n - 1 - b) (b + 1) with
              | none => rfl
              | some c => rw [hl, hh] at hq; cases hq.2
          refine ye_30_3 (s := 0) (I1 := I) (J1 := J) (D1 := D) (I2 := ups I 316 0 2) (J2 := J) (D2 := D) sc hx1 hx2 ?_ rfl rfl ?_ ?_ (inv_r h)
          · rw [e_120_0, x_row hx, cal_v, kn, e_120_5, c_bandT1 hy', cal_v, kn, e_120_11, x_rw1, cal_v, krw _, e_120_19_15, ca, cal_v, ka, hne, e_120_23, decide_eq_false (fun q => q rfl), cond_false, e_120_29]
          · have := mg J
            rw [hq, cond_false, uu] at this
            rw [e_226_0, m_bandT (i := 1) (by decide) wn hn hy, cal_v, ka, e_226_7, x_canT, cal_v, ka, e_226_11, d11, cond_true]
            exact this
          · rw [uIs, uUs]
      · refine ye_30_2 (s := 0) (I1 := I) (J1 := J) (D1 := D) (I2 := ups I 316 0 1) (J2 := J) (D2 := D) sc hx1 hx2 ?_ rfl rfl ?_ ?_ (inv_r h)
        · rw [e_120_0, x_row hx, cal_v, kn, e_120_5, c_bandF1 (by rw [cn]; exact hy), cal_e]
        · rw [e_226_0, m_bandF (i := 1) (by decide) wn hn hy, cal_v, ka, e_226_7, x_canF, cal_v, ka, e_226_11, d01, cond_false, e_226_14]
        · rw [uIs, uUs]
  · refine ye_30_2 (s := 0) (I1 := I) (J1 := J) (D1 := D) (I2 := ups I 316 0 1) (J2 := J) (D2 := D) sc hx1 hx2 ?_ rfl rfl ?_ ?_ (inv_r h)
    · rw [e_120_0, x_row1 hx, cal_e]
    · rw [e_226_0, m_bandR (fun q => hx (p2.mpr q)), cal_v, ka, e_226_7, x_canF, cal_v, ka, e_226_11, d01, cond_false, e_226_14]
    · rw [uIs, uUs]
theorem y_21 {L kk : Nat} {I : Nat → Nat → Int32} {J : Nat → Nat → Int64} {D : Nat → Nat → UInt64} (v : Int32) (h : Inv L kk I J D) (sc : ScOK v I) : TurnY L kk 1413 v I J D := by
  obtain ⟨x, hx1⟩ : ∃ q, I 1000002 (v + 1).toNatClampNeg = q := ⟨_, rfl⟩
  obtain ⟨y, hx2⟩ : ∃ q, I 1000002 (v + 2).toNatClampNeg = q := ⟨_, rfl⟩
  obtain ⟨n, hn, cn, wn, hk, -, -⟩ := inv_row h.2.1 (i := 0) (by decide)
  obtain ⟨m, hm, cm, wm, hk2, -, -⟩ := inv_row h.2.1 (i := 1) (by decide)
  have cn : I 10 4 = nI n := cn
  have cm : I 15 4 = nI m := cm
  have wn : I 317 491 = nI n := wn
  have wm : I 317 492 = nI m := wm
  by_cases hx : 0 ≤ x ∧ x < nI n
  · obtain ⟨f, hf, rfl⟩ := ix_of (m := n) (nI_toInt (by omega)) hx
    have hx' : 0 ≤ nI f ∧ nI f < I 10 4 := by rw [cn]; exact hx
    have cb0 : ex (150, 0, [.ref 0, .int 0, .int (nI f)], [], mm I J D) = some (.inl none, mm I J D) := c_bandT0 hx'
    have mb0 : ∀ I' J2, I' 317 491 = nI n → ex (199, 0, [.ref 316, .int 0, .int (nI f)], [], mm I' J2 D) = some (.inl (some (.int 1)), mm I' J2 D) := fun I' J2 q => m_bandT (i := 0) (by decide) q hn hx
    by_cases hy : 0 ≤ y ∧ y < nI m
    · obtain ⟨s, hs, rfl⟩ := ix_of (m := m) (nI_toInt (by omega)) hy
      have hy' : 0 ≤ nI s ∧ nI s < I 15 4 := by rw [cm]; exact hy
      have cb1 : ex (150, 0, [.ref 0, .int 1, .int (nI s)], [], mm I J D) = some (.inl none, mm I J D) := c_bandT1 hy'
      have mb1 : ∀ I' J2, I' 317 492 = nI m → ex (199, 0, [.ref 316, .int 1, .int (nI s)], [], mm I' J2 D) = some (.inl (some (.int 1)), mm I' J2 D) := fun I' J2 q => m_bandT (i := 1) (by decide) q hm hy
      have mt0 : ∀ I' J2, ex (202, 0, [.ref 316, .int 0, .int (nI f)], [], mm I' J2 D) = some (.inl (some (.int (I' 317 (589 + 16 * 0 + f)))), mm I' J2 D) := fun I' J2 => m_tie (i := 0) (by decide) (by omega)
      have mt1 : ∀ I' J2, ex (202, 0, [.ref 316, .int 1, .int (nI s)], [], mm I' J2 D) = some (.inl (some (.int (I' 317 (589 + 16 * 1 + s)))), mm I' J2 D) := fun I' J2 => m_tie (i := 1) (by decide) (by omega)
      have w0 : I 317 (589 + 16 * 0 + f) = I 13 f := (hk f hf).2.2.1
      have w1 : I 317 (589 + 16 * 1 + s) = I 18 s := (hk2 s hs).2.2.1
      have u : ∀ q, ups I 316 0 0 317 q = I 317 q := fun q => by rw [uI (by decide)]
      by_cases h1 : I 13 f = -1
      · by_cases h2 : I 18 s = -1
        · have cc := c_cross (J := J) (D := D) cn hn (show f < 16 by omega) (show s < 16 by omega) n 0 (by omega)
          have e46 : ex (46, 0, [.ref 1, .int (nI f), .int (nI s), dv, dv], [], mm I J D) = some (.inl (some (.int (bI (crA (I 13) f s n 0)))), mm I J D) := by rw [e_46_0]; exact cc
          have e204 : ∀ I' J2, (∀ q, I' 317 q = I 317 q) → ex (204, 0, [.ref 316, .int (nI f), .int (nI s), dv, dv], [], mm I' J2 D) = some (.inl (some (.int (bI (crA (I 13) f s n 0)))), mm I' J2 D) := fun I' J2 q => by
            rw [e_204_0]
            exact m_cross (by rw [q]; exact wn) hn (by omega) (by omega) (fun k hk3 => by rw [q]; exact (hk k hk3).2.2.1) n 0 (by omega)
          cases hc : crA (I 13) f s n 0 with
          | true =>
            rw [hc] at e46 e204
            have e46 : ex (46, 0, [.ref 1, .int (nI f), .int (nI s), dv, dv], [], mm I J D) = some (.inl (some (.int 1)), mm I J D) := e46
            have e204 : ∀ I' J2, (∀ q, I' 317 q = I 317 q) → ex (204, 0, [.ref 316, .int (nI f), .int (nI s), dv, dv], [], mm I' J2 D) = some (.inl (some (.int 1)), mm I' J2 D) := e204
            refine ye_21_0 (s := 0) (I1 := I) (J1 := J) (D1 := D) (I2 := ups I 316 0 2) (J2 := J) (D2 := D) sc hx1 hx2 ?_ rfl rfl ?_ ?_ (inv_r h)
            · rw [e_111_0, cb0, cal_v, kn, e_111_6, cb1, cal_v, kn, e_111_12, inb_n (show f < 16 by omega) (by decide), cond_true, decide_eq_false (by rw [nI_clamp (by omega)]; exact fun q => q h1), cond_false, e_111_28, inb_n (show s < 16 by omega) (by decide), cond_true, decide_eq_true (by rw [nI_clamp (by omega)]; exact h2), cond_true, e_111_54, e46, cal_v, ka, e_111_63, d10, cond_false, e_111_66]
            · rw [e_205_0, mb0 _ _ wn, cal_v, ka, e_205_7, d10, cond_false, e_205_10, mb1 _ _ wm, cal_v, ka, e_205_16, d10, cond_false, e_205_19, e_205_24, x_canT, cal_v, ka, e_205_28, d10, cond_false, e_205_31, mt0, cal_v, ka, u, w0, e_205_38, decide_eq_false (fun q => q h1), cond_false, e_205_42, mt1, cal_v, ka, u, w1, e_205_48, decide_eq_false (fun q => q h2), cond_false, e_205_52, e204 _ _ u, cal_v, ka, e_205_58, d11, cond_true, e_205_65, e_205_66, x_canF, cal_v, ka, uu, e_205_70, d01, cond_false, e_205_73]
            · rw [uIs, uUs]
          | false =>
            rw [hc] at e46 e204
            have e46 : ex (46, 0, [.ref 1, .int (nI f), .int (nI s), dv, dv], [], mm I J D) = some (.inl (some (.int 0)), mm I J D) := e46
            have e204 : ∀ I' J2, (∀ q, I' 317 q = I 317 q) → ex (204, 0, [.ref 316, .int (nI f), .int (nI s), dv, dv], [], mm I' J2 D) = some (.inl (some (.int 0)), mm I' J2 D) := e204
            obtain ⟨I1, e1, lo, hi, nx⟩ := act_all (inv_to h) J D
            obtain ⟨ti, hti⟩ : ∃ ti, ti = upd (I 13) f (nI s) := ⟨_, rfl⟩
            obtain ⟨r, hr⟩ : ∃ r, r = nI (cntN (fun k => decide (ti k ≠ -1)) n) := ⟨_, rfl⟩
            obtain ⟨I4, e2, w4, r4, s4, fin⟩ := nx _ (cfar_ups (p := 18) (k := s) (v := nI f) (cfar_ups (p := 13) (k := f) (v := nI s) cfar_0 (by decide)) (by decide)) (upsL J 335 0 r.toInt64) D
            have u1 : ∀ q, ups (ups I1 13 f (nI s)) 18 s (nI f) 317 q = I 317 q := fun q => by rw [uI (by decide), uI (by decide), hi 317 (by decide)]
            have u2 : ∀ q, ups (ups (ups I1 13 f (nI s)) 18 s (nI f)) 316 0 0 317 q = I 317 q := fun q => by rw [uI (by decide), u1]
            have t13 : ups (ups I1 13 f (nI s)) 18 s (nI f) 13 = ti := by rw [uI (by decide), uIs, lo 13 (by decide) (by decide), hti]
            refine yk_21 (r := r) (I1 := ups (ups I1 13 f (nI s)) 18 s (nI f)) (J1 := J) (D1 := D) (I2 := ups (ups I4 317 (589 + f) (nI s)) 317 (605 + s) (nI f)) (J2 := upsL J 335 0 r.toInt64) (D2 := D) sc hx1 hx2 ?_ ?_ ?_ ?_ ?_ upsL_s ?_
            · have ct := c_ties (I := ups (ups I1 13 f (nI s)) 18 s (nI f)) (J := J) (D := D) (n := n) (by rw [uI (by decide), uI (by decide), lo 10 (by decide) (by decide)]; exact cn) hn n 0 (by omega)
              rw [t13, ← hr] at ct
              rw [e_111_0, cb0, cal_v, kn, e_111_6, cb1, cal_v, kn, e_111_12, inb_n (show f < 16 by omega) (by decide), cond_true, decide_eq_false (by rw [nI_clamp (by omega)]; exact fun q => q h1), cond_false, e_111_28, inb_n (show s < 16 by omega) (by decide), cond_true, decide_eq_true (by rw [nI_clamp (by omega)]; exact h2), cond_true, e_111_54, e46, cal_v, ka, e_111_63, d00, cond_true, e_111_76, e1, cal_v, kn, e_111_80, inb_n (show f < 16 by omega) (by decide), inb_n (show s < 16 by omega) (by decide), cond_true, cond_true, nI_clamp (n := f) (by omega), nI_clamp (n := s) (by omega), e_56_0, (show ex (56, 4, [.ref 10, .int 0, .int 0], [], mm _ J D) = _ from ct), cal_v, ka, e_111_116]
            · rw [uI (by decide), uI (by decide), hi _ (by decide)]
            · rw [uI (by decide), uI (by decide), hi _ (by decide)]
            · have mt := m_ties (I := ups (ups I4 317 (589 + f) (nI s)) 317 (605 + s) (nI f)) (J := upsL J 335 0 r.toInt64) (D := D) (n := n) (ti := ti) (by rw [uIs, uIs, uU (by omega), uU (by omega), w4]; exact wn) hn (fun k hk3 => by
                rw [uIs, uIs, uU (by omega), w4, hti]
                by_cases e : k = f
                · subst e; rw [uUs, uUs]
                · rw [uU (by omega), uU e]; exact (hk k hk3).2.2.1) n 0 (by omega)
              rw [← hr] at mt
              rw [e_205_0, mb0 _ _ ((u1 _).trans wn), cal_v, ka, e_205_7, d10, cond_false, e_205_10, mb1 _ _ ((u1 _).trans wm), cal_v, ka, e_205_16, d10, cond_false, e_205_19, e_205_24, x_canT, cal_v, ka, e_205_28, d10, cond_false, e_205_31, mt0, cal_v, ka, u2, w0, e_205_38, decide_eq_false (fun q => q h1), cond_false, e_205_42, mt1, cal_v, ka, u2, w1, e_205_48, decide_eq_false (fun q => q h2), cond_false, e_205_52, e204 _ _ u2, cal_v, ka, e_205_58, d01, cond_false, e_205_61, e_205_66, x_canT, cal_v, ka, uu, e_205_70, d11, cond_true, e_205_75, e2, cal_v, kn, e_205_79, show (589 : Int32) + nI f = nI (589 + f) from nI_add 589 f, show (605 : Int32) + nI s = nI (605 + s) from nI_add 605 s, inb_n (show 589 + f < 850 by omega) (by decide), inb_n (show 605 + s < 850 by omega) (by decide), cond_true, cond_true, nI_clamp (n := 589 + f) (by omega), nI_clamp (n := 605 + s) (by omega), e_203_0, (show ex (203, 4, [.ref 316, .int 0, .int 0], [], mm _ _ D) = _ from mt), cal_v, ka, e_205_105]
            · rw [uI (by decide), uI (by decide)]; exact r4
            · refine inv_of h (fin _ (mfar_ups (mfar_ups mfar_0 (by decide)) (by decide)) ?_)
              unfold PgRel
              rw [g_ups (o := 17) rfl (Nat.blt_eq.mpr (by omega)), g_ups (o := 12) rfl (Nat.blt_eq.mpr (by omega)), g_same lo, n_upd (by omega), n_upd (by omega), w4]
              refine pg_tie (n := n) (m := m) h.2.1 (by rw [nrm_at (by rfl)]; exact cn) (by rw [nrm_at (by rfl)]; exact cm) hn hm hf hs (by rw [nrm_at (show rl 12 f = true from Nat.blt_eq.mpr (by omega))]; exact h1) (by rw [nrm_at (show rl 17 s = true from Nat.blt_eq.mpr (by omega))]; exact h2) (fun k hk3 => ?_)
              rw [nrm_at (show rl 12 k = true from Nat.blt_eq.mpr (by omega))]
              exact fun q => crB_f (crA_s hc k (by omega) (by omega)) q
        · refine ye_21_0 (s := 0) (I1 := I) (J1 := J) (D1 := D) (I2 := ups I 316 0 2) (J2 := J) (D2 := D) sc hx1 hx2 ?_ rfl rfl ?_ ?_ (inv_r h)
          · rw [e_111_0, cb0, cal_v, kn, e_111_6, cb1, cal_v, kn, e_111_12, inb_n (show f < 16 by omega) (by decide), cond_true, decide_eq_false (by rw [nI_clamp (by omega)]; exact fun q => q h1), cond_false, e_111_28, inb_n (show s < 16 by omega) (by decide), cond_true, decide_eq_false (by rw [nI_clamp (by omega)]; exact h2), cond_false, e_111_44]
          · rw [e_205_0, mb0 _ _ wn, cal_v, ka, e_205_7, d10, cond_false, e_205_10, mb1 _ _ wm, cal_v, ka, e_205_16, d10, cond_false, e_205_19, e_205_24, x_canT, cal_v, ka, e_205_28, d10, cond_false, e_205_31, mt0, cal_v, ka, u, w0, e_205_38, decide_eq_false (fun q => q h1), cond_false, e_205_42, mt1, cal_v, ka, u, w1, e_205_48, decide_eq_true (h2), cond_true, e_205_65, e_205_66, x_canF, cal_v, ka, uu, e_205_70, d01, cond_false, e_205_73]
          · rw [uIs, uUs]
      · refine ye_21_0 (s := 0) (I1 := I) (J1 := J) (D1 := D) (I2 := ups I 316 0 2) (J2 := J) (D2 := D) sc hx1 hx2 ?_ rfl rfl ?_ ?_ (inv_r h)
        · rw [e_111_0, cb0, cal_v, kn, e_111_6, cb1, cal_v, kn, e_111_12, inb_n (show f < 16 by omega) (by decide), cond_true, decide_eq_true (by rw [nI_clamp (by omega)]; exact h1), cond_true, e_111_44]
        · rw [e_205_0, mb0 _ _ wn, cal_v, ka, e_205_7, d10, cond_false, e_205_10, mb1 _ _ wm, cal_v, ka, e_205_16, d10, cond_false, e_205_19, e_205_24, x_canT, cal_v, ka, e_205_28, d10, cond_false, e_205_31, mt0, cal_v, ka, u, w0, e_205_38, decide_eq_true (h1), cond_true, e_205_65, e_205_66, x_canF, cal_v, ka, uu, e_205_70, d01, cond_false, e_205_73]
        · rw [uIs, uUs]
    · have cb1 : ex (150, 0, [.ref 0, .int 1, .int y], [], mm I J D) = some (.inr (.inl 2), mm I J D) := c_bandF1 (by rw [cm]; exact hy)
      have mb1 : ex (199, 0, [.ref 316, .int 1, .int y], [], mm I J D) = some (.inl (some (.int 0)), mm I J D) := m_bandF (i := 1) (by decide) wm hm hy
      refine ye_21_2 (s := 0) (I1 := I) (J1 := J) (D1 := D) (I2 := ups I 316 0 1) (J2 := J) (D2 := D) sc hx1 hx2 ?_ rfl rfl ?_ ?_ (inv_r h)
      · rw [e_111_0, cb0, cal_v, kn, e_111_6, cb1, cal_e]
      · rw [e_205_0, mb0 _ _ wn, cal_v, ka, e_205_7, d10, cond_false, e_205_10, mb1, cal_v, ka, e_205_16, d00, cond_true, e_205_23, e_205_24, x_canF, cal_v, ka, e_205_28, d00, cond_true, e_205_73]
      · rw [uIs, uUs]
  · have cb0 : ex (150, 0, [.ref 0, .int 0, .int x], [], mm I J D) = some (.inr (.inl 2), mm I J D) := c_bandF0 (by rw [cn]; exact hx)
    have mb0 : ex (199, 0, [.ref 316, .int 0, .int x], [], mm I J D) = some (.inl (some (.int 0)), mm I J D) := m_bandF (i := 0) (by decide) wn hn hx
    refine ye_21_2 (s := 0) (I1 := I) (J1 := J) (D1 := D) (I2 := ups I 316 0 1) (J2 := J) (D2 := D) sc hx1 hx2 ?_ rfl rfl ?_ ?_ (inv_r h)
    · rw [e_111_0, cb0, cal_e]
    · rw [e_205_0, mb0, cal_v, ka, e_205_7, d00, cond_true, e_205_23, e_205_24, x_canF, cal_v, ka, e_205_28, d00, cond_true, e_205_73]
    · rw [uIs, uUs]
theorem y_22 {L kk : Nat} {I : Nat → Nat → Int32} {J : Nat → Nat → Int64} {D : Nat → Nat → UInt64} (v : Int32) (h : Inv L kk I J D) (sc : ScOK v I) : TurnY L kk 1481 v I J D := by
  obtain ⟨x, hx1⟩ : ∃ q, I 1000002 (v + 1).toNatClampNeg = q := ⟨_, rfl⟩
  obtain ⟨y, hx2⟩ : ∃ q, I 1000002 (v + 2).toNatClampNeg = q := ⟨_, rfl⟩
  have p2 := le_pred (v := x) (b := 1) (B := 2) (B1 := 1) rfl rfl (by decide)
  obtain ⟨n0, hn0, cn0, wn0, hk0, -, -⟩ := inv_row h.2.1 (i := 0) (by decide)
  obtain ⟨n1, hn1, cn1, wn1, hk1, -, -⟩ := inv_row h.2.1 (i := 1) (by decide)
  have tx := inv_tie h.2.1 hn0 hn1 cn0 cn1
  by_cases hx : 0 ≤ x ∧ x < 2
  · obtain ⟨c, hc, rfl⟩ := ix_of (m := 2) (n := 2) rfl hx
    rcases (show c = 0 ∨ c = 1 by omega) with rfl | rfl
    · have cn : I 10 4 = nI n0 := cn0
      have wn : I 317 491 = nI n0 := wn0
      have hn := hn0
      by_cases hy : 0 ≤ y ∧ y < nI n0
      · obtain ⟨b, hb2, rfl⟩ := ix_of (m := n0) (nI_toInt (by omega)) hy
        have hy' : 0 ≤ nI b ∧ nI b < I 10 4 := by rw [cn]; exact hy
        have hw : I 317 (589 + 16 * 0 + b) = I 13 b := (hk0 b hb2).2.2.1
        rcases tx.1 b hb2 with hd | ⟨s, hs, hd, hd2⟩
        · refine ye_22_3 (s := 0) (I1 := I) (J1 := J) (D1 := D) (I2 := ups I 316 0 2) (J2 := J) (D2 := D) sc hx1 hx2 ?_ rfl rfl ?_ ?_ (inv_r h)
          · rw [e_112_0, x_row hx, cal_v, kn, e_112_5, c_bandT0 hy', cal_v, kn, e_112_11, x_rw0, cal_v, krw _, e_112_19_10, inb_n (show b < 16 by omega) (by decide), cond_true, decide_eq_true (by rw [nI_clamp (by omega), hd]; decide), cond_true, e_112_35]
          · have hw0 : ups I 316 0 0 317 (589 + 16 * 0 + b) = -1 := by rw [uI (by decide), hw]; exact hd
            rw [e_206_0, m_bandT (i := 0) (by decide) wn hn hy, cal_v, ka, e_206_7, x_canT, cal_v, ka, e_206_11, d10, cond_false, e_206_14, m_tie (i := 0) (by decide) (by omega), cal_v, ka, hw0, e_206_21, decide_eq_true (rfl), cond_true, e_206_29, e_206_30, x_canF, cal_v, ka, uu, e_206_34, d01, cond_false, e_206_37]
          · rw [uIs, uUs]
        · obtain ⟨I1, e1, lo, hi, nx⟩ := act_all (inv_to h) J D
          obtain ⟨I4, e2, w4, r4, s4, fin⟩ := nx _ (cfar_ups (p := 18) (k := s) (v := -1) (cfar_ups (p := 13) (k := b) (v := -1) cfar_0 (by decide)) (by decide)) (upsL J 335 0 (nI s).toInt64) D
          have hne : I 13 b ≠ -1 := by rw [hd]; exact ne_m1 (by omega)
          refine yk_22 (r := nI s) (I1 := ups (ups I1 13 b (-1)) 18 s (-1)) (J1 := J) (D1 := D) (I2 := ups (ups I4 317 (589 + b) (-1)) 317 (605 + s) (-1)) (J2 := upsL J 335 0 (nI s).toInt64) (D2 := D) sc hx1 hx2 ?_ ?_ ?_ ?_ ?_ upsL_s ?_
          · rw [e_112_0, x_row hx, cal_v, kn, e_112_5, c_bandT0 hy', cal_v, kn, e_112_11, x_rw0, cal_v, krw _, e_112_19_10, inb_n (show b < 16 by omega) (by decide), cond_true, decide_eq_false (by rw [nI_clamp (by omega), hd]; exact nI_pos (by omega)), cond_false, nI_clamp (n := b) (by omega), hd, e_112_29, decide_eq_true (show nI s < 16 from (nI_ltI (b := 16) (by omega) (by decide)).mpr (by omega)), cond_true, e_112_45, e1, cal_v, kn, e_112_49, x_rw0, cal_v, krw _, e_112_57_10, inb_n (show b < 16 by omega) (by decide), cond_true, show (1 : Int32) - nI 0 = nI 1 by decide, x_rw1, nI_clamp (n := b) (by omega), cal_v, krw _, e_112_73_15, inb_n (show s < 16 by omega) (by decide), cond_true, nI_clamp (n := s) (by omega)]
          · rw [uI (by decide), uI (by decide), hi _ (by decide)]
          · rw [uI (by decide), uI (by decide), hi _ (by decide)]
          · have hwn : I4 317 (589 + 16 * 0 + b) = nI s := by rw [w4, hw, hd]
            have hw0 : ups (ups (ups I1 13 b (-1)) 18 s (-1)) 316 0 0 317 (589 + 16 * 0 + b) = I 13 b := by rw [uI (by decide), uI (by decide), uI (by decide), hi 317 (by decide), hw]
            rw [e_206_0, m_bandT (i := 0) (by decide) (by rw [uI (by decide), uI (by decide), hi 317 (by decide)]; exact wn) hn hy, cal_v, ka, e_206_7, x_canT, cal_v, ka, e_206_11, d10, cond_false, e_206_14, m_tie (i := 0) (by decide) (by omega), cal_v, ka, hw0, e_206_21, decide_eq_false (hne), cond_false, e_206_25, e_206_30, x_canT, cal_v, ka, uu, e_206_34, d11, cond_true, e_206_39, e2, cal_v, kn, e_206_43, m_tie (i := 0) (by decide) (by omega), cal_v, ka, hwn, e_206_49, show (589 : Int32) + 16 * nI 0 = nI 589 by decide, show (589 : Int32) + 16 * (1 - nI 0) = nI 605 by decide, nI_add, nI_add, inb_n (show 589 + b < 850 by omega) (by decide), inb_n (show 605 + s < 850 by omega) (by decide), cond_true, cond_true, nI_clamp (n := 589 + b) (by omega), nI_clamp (n := 605 + s) (by omega)]
          · rw [uI (by decide), uI (by decide)]; exact r4
          · refine inv_of h (fin _ (mfar_ups (mfar_ups mfar_0 (by decide)) (by decide)) ?_)
            unfold PgRel
            rw [g_ups (o := 17) rfl (Nat.blt_eq.mpr (by omega)), g_ups (o := 12) rfl (Nat.blt_eq.mpr (by omega)), g_same lo, n_upd (by omega), n_upd (by omega), w4]
            exact pg_untie (n := n0) (m := n1) h.2.1 (by rw [nrm_at (by rfl)]; exact cn0) (by rw [nrm_at (by rfl)]; exact cn1) hn0 hn1 hb2 hs (by rw [nrm_at (show rl 12 b = true from Nat.blt_eq.mpr (by omega))]; exact hd) (by rw [nrm_at (show rl 17 s = true from Nat.blt_eq.mpr (by omega))]; exact hd2)
      · refine ye_22_2 (s := 0) (I1 := I) (J1 := J) (D1 := D) (I2 := ups I 316 0 1) (J2 := J) (D2 := D) sc hx1 hx2 ?_ rfl rfl ?_ ?_ (inv_r h)
        · rw [e_112_0, x_row hx, cal_v, kn, e_112_5, c_bandF0 (by rw [cn]; exact hy), cal_e]
        · rw [e_206_0, m_bandF (i := 0) (by decide) wn hn hy, cal_v, ka, e_206_7, x_canF, cal_v, ka, e_206_11, d00, cond_true, e_206_37]
        · rw [uIs, uUs]
    · have cn : I 15 4 = nI n1 := cn1
      have wn : I 317 492 = nI n1 := wn1
      have hn := hn1
      by_cases hy : 0 ≤ y ∧ y < nI n1
      · obtain ⟨b, hb2, rfl⟩ := ix_of (m := n1) (nI_toInt (by omega)) hy
        have hy' : 0 ≤ nI b ∧ nI b < I 15 4 := by rw [cn]; exact hy
        have hw : I 317 (589 + 16 * 1 + b) = I 18 b := (hk1 b hb2).2.2.1
        rcases tx.2.1 b hb2 with hd | ⟨s, hs, hd, hd2⟩
        · refine ye_22_3 (s := 0) (I1 := I) (J1 := J) (D1 := D) (I2 := ups I 316 0 2) (J2 := J) (D2 := D) sc hx1 hx2 ?_ rfl rfl ?_ ?_ (inv_r h)
          · rw [e_112_0, x_row hx, cal_v, kn, e_112_5, c_bandT1 hy', cal_v, kn, e_112_11, x_rw1, cal_v, krw _, e_112_19_15, inb_n (show b < 16 by omega) (by decide), cond_true, decide_eq_true (by rw [nI_clamp (by omega), hd]; decide), cond_true, e_112_35]
          · have hw0 : ups I 316 0 0 317 (589 + 16 * 1 + b) = -1 := by rw [uI (by decide), hw]; exact hd
            rw [e_206_0, m_bandT (i := 1) (by decide) wn hn hy, cal_v, ka, e_206_7, x_canT, cal_v, ka, e_206_11, d10, cond_false, e_206_14, m_tie (i := 1) (by decide) (by omega), cal_v, ka, hw0, e_206_21, decide_eq_true (rfl), cond_true, e_206_29, e_206_30, x_canF, cal_v, ka, uu, e_206_34, d01, cond_false, e_206_37]
          · rw [uIs, uUs]
        · obtain ⟨I1, e1, lo, hi, nx⟩ := act_all (inv_to h) J D
          obtain ⟨I4, e2, w4, r4, s4, fin⟩ := nx _ (cfar_ups (p := 13) (k := s) (v := -1) (cfar_ups (p := 18) (k := b) (v := -1) cfar_0 (by decide)) (by decide)) (upsL J 335 0 (nI s).toInt64) D
          have hne : I 18 b ≠ -1 := by rw [hd]; exact ne_m1 (by omega)
          refine yk_22 (r := nI s) (I1 := ups (ups I1 18 b (-1)) 13 s (-1)) (J1 := J) (D1 := D) (I2 := ups (ups I4 317 (605 + b) (-1)) 317 (589 + s) (-1)) (J2 := upsL J 335 0 (nI s).toInt64) (D2 := D) sc hx1 hx2 ?_ ?_ ?_ ?_ ?_ upsL_s ?_
          · rw [e_112_0, x_row hx, cal_v, kn, e_112_5, c_bandT1 hy', cal_v, kn, e_112_11, x_rw1, cal_v, krw _, e_112_19_15, inb_n (show b < 16 by omega) (by decide), cond_true, decide_eq_false (by rw [nI_clamp (by omega), hd]; exact nI_pos (by omega)), cond_false, nI_clamp (n := b) (by omega), hd, e_112_29, decide_eq_true (show nI s < 16 from (nI_ltI (b := 16) (by omega) (by decide)).mpr (by omega)), cond_true, e_112_45, e1, cal_v, kn, e_112_49, x_rw1, cal_v, krw _, e_112_57_15, inb_n (show b < 16 by omega) (by decide), cond_true, show (1 : Int32) - nI 1 = nI 0 by decide, x_rw0, nI_clamp (n := b) (by omega), cal_v, krw _, e_112_73_10, inb_n (show s < 16 by omega) (by decide), cond_true, nI_clamp (n := s) (by omega)]
          · rw [uI (by decide), uI (by decide), hi _ (by decide)]
          · rw [uI (by decide), uI (by decide), hi _ (by decide)]
          · have hwn : I4 317 (589 + 16 * 1 + b) = nI s := by rw [w4, hw, hd]
            have hw0 : ups (ups (ups I1 18 b (-1)) 13 s (-1)) 316 0 0 317 (589 + 16 * 1 + b) = I 18 b := by rw [uI (by decide), uI (by decide), uI (by decide), hi 317 (by decide), hw]
            rw [e_206_0, m_bandT (i := 1) (by decide) (by rw [uI (by decide), uI (by decide), hi 317 (by decide)]; exact wn) hn hy, cal_v, ka, e_206_7, x_canT, cal_v, ka, e_206_11, d10, cond_false, e_206_14, m_tie (i := 1) (by decide) (by omega), cal_v, ka, hw0, e_206_21, decide_eq_false (hne), cond_false, e_206_25, e_206_30, x_canT, cal_v, ka, uu, e_206_34, d11, cond_true, e_206_39, e2, cal_v, kn, e_206_43, m_tie (i := 1) (by decide) (by omega), cal_v, ka, hwn, e_206_49, show (589 : Int32) + 16 * nI 1 = nI 605 by decide, show (589 : Int32) + 16 * (1 - nI 1) = nI 589 by decide, nI_add, nI_add, inb_n (show 605 + b < 850 by omega) (by decide), inb_n (show 589 + s < 850 by omega) (by decide), cond_true, cond_true, nI_clamp (n := 605 + b) (by omega), nI_clamp (n := 589 + s) (by omega)]
          · rw [uI (by decide), uI (by decide)]; exact r4
          · refine inv_of h (fin _ (mfar_ups (mfar_ups mfar_0 (by decide)) (by decide)) ?_)
            unfold PgRel
            rw [g_ups (o := 12) rfl (Nat.blt_eq.mpr (by omega)), g_ups (o := 17) rfl (Nat.blt_eq.mpr (by omega)), g_same lo, n_upd (by omega), n_upd (by omega), w4]
            have c1 : ups (ups (nrm (pgF I 1)) 17 b (-1)) 12 s (-1) = ups (ups (nrm (pgF I 1)) 12 s (-1)) 17 b (-1) := by
              funext q k
              by_cases h12 : q = 12
              · subst h12; rw [uIs, uI (by decide), uI (by decide), uIs]
              · by_cases h17 : q = 17
                · subst h17; rw [uI (by decide), uIs, uIs, uI (by decide)]
                · rw [uI h12, uI h17, uI h17, uI h12]
            have c2 : upd (upd (nrw (I 317)) (605 + b) (-1)) (589 + s) (-1) = upd (upd (nrw (I 317)) (589 + s) (-1)) (605 + b) (-1) := by
              funext k
              by_cases h12 : k = 589 + s
              · subst h12; rw [uUs, uU (by omega), uUs]
              · by_cases h17 : k = 605 + b
                · subst h17; rw [uU h12, uUs, uUs]
                · rw [uU h12, uU h17, uU h17, uU h12]
            rw [c1, c2]
            exact pg_untie (n := n0) (m := n1) h.2.1 (by rw [nrm_at (by rfl)]; exact cn0) (by rw [nrm_at (by rfl)]; exact cn1) hn0 hn1 hs hb2 (by rw [nrm_at (show rl 12 s = true from Nat.blt_eq.mpr (by omega))]; exact hd2) (by rw [nrm_at (show rl 17 b = true from Nat.blt_eq.mpr (by omega))]; exact hd)
      · refine ye_22_2 (s := 0) (I1 := I) (J1 := J) (D1 := D) (I2 := ups I 316 0 1) (J2 := J) (D2 := D) sc hx1 hx2 ?_ rfl rfl ?_ ?_ (inv_r h)
        · rw [e_112_0, x_row hx, cal_v, kn, e_112_5, c_bandF1 (by rw [cn]; exact hy), cal_e]
        · rw [e_206_0, m_bandF (i := 1) (by decide) wn hn hy, cal_v, ka, e_206_7, x_canF, cal_v, ka, e_206_11, d00, cond_true, e_206_37]
        · rw [uIs, uUs]
  · refine ye_22_2 (s := 0) (I1 := I) (J1 := J) (D1 := D) (I2 := ups I 316 0 1) (J2 := J) (D2 := D) sc hx1 hx2 ?_ rfl rfl ?_ ?_ (inv_r h)
    · rw [e_112_0, x_row1 hx, cal_e]
    · rw [e_206_0, m_bandR (fun q => hx (p2.mpr q)), cal_v, ka, e_206_7, x_canF, cal_v, ka, e_206_11, d00, cond_true, e_206_37]
    · rw [uIs, uUs]
theorem y_10 {L kk : Nat} {I : Nat → Nat → Int32} {J : Nat → Nat → Int64} {D : Nat → Nat → UInt64} (v : Int32) (h : Inv L kk I J D) : TurnY L kk 805 v I J D := by
  obtain ⟨n, hn, cn, wn, hk, hc, h01, -⟩ := inv_bou h.2.1
  refine yq_10 (r := nI (cntN (fun k => decide (I 6 k = 1)) n)) (I1 := I) (J1 := J) (D1 := D) (I2 := ups I 316 0 0) (J2 := J) (D2 := D) ?_ ?_ (inv_r h)
  · rw [e_100_0, hc]
  · rw [e_184_0, m_left (g := I 6) (by rw [uI (by decide)]; exact wn) hn (fun k hk2 => by rw [uI (by decide)]; exact (hk k hk2).1.2.2.2) (fun k hk2 => h01 k (by omega)), cal_v, ka, e_184_9]
theorem y_3 {L kk : Nat} {I : Nat → Nat → Int32} {J : Nat → Nat → Int64} {D : Nat → Nat → UInt64} (v : Int32) (h : Inv L kk I J D) (sc : ScOK v I) : TurnY L kk 468 v I J D := by
  obtain ⟨x, hx1⟩ : ∃ q, I 1000002 (v + 1).toNatClampNeg = q := ⟨_, rfl⟩
  obtain ⟨n, hn, cn, wn, hk, hcc, h01, -⟩ := inv_bou h.2.1
  by_cases hx : 0 ≤ x ∧ x < nI n
  · obtain ⟨c, hc, rfl⟩ := ix_of (m := n) (nI_toInt (by omega)) hx
    have hw := (hk c hc).1.2.2.2
    rcases h01 c (by omega) with q | q
    · refine ye_3_0 (s := 0) (I1 := I) (J1 := J) (D1 := D) (I2 := ups I 316 0 2) (J2 := J) (D2 := D) sc hx1 ?_ rfl rfl ?_ ?_ (inv_r h)
      · rw [e_93_0, c_nbF cn hn hc q, cal_e]
      · rw [e_176_0, m_nbF wn hn hc (hw.trans q), cal_v, ka, e_176_5, d01, cond_false, e_176_8]
      · rw [uIs, uUs]
    · obtain ⟨I1, e1, lo, hi, nx⟩ := act_all (inv_to h) J D
      obtain ⟨I2, hI2⟩ : ∃ I2, I2 = ups (ups I1 6 c 0) 2 6 (I 2 6 - 1) := ⟨_, rfl⟩
      have cf : CFar I1 I2 := by rw [hI2]; exact cfar_ups (cfar_ups cfar_0 (by decide)) (by decide)
      obtain ⟨I4, e2, w4, r4, s4, fin⟩ := nx _ cf (upsL J 335 0 (I 2 6 - 1).toInt64) D
      have h2 : I2 317 = I 317 := by rw [cf.2.2.2 317 (by decide), hi 317 (by decide)]
      refine yk_3 (r := I 2 6 - 1) (I1 := I2) (J1 := J) (D1 := D) (I2 := ups I4 317 (152 + c) 0) (J2 := upsL J 335 0 (I 2 6 - 1).toInt64) (D2 := D) sc hx1 ?_ ?_ ?_ ?_ ?_ upsL_s ?_
      · rw [e_93_0, c_nbT cn hn hc q, cal_v, kn, e_93_5, e1, cal_v, kn, e_93_9, e_2_0, inb_n (by omega) (by decide), cond_true, nI_clamp (by omega), show vp_nar .boolean 0 = 0 from rfl, uI (by decide), lo 2 (by decide) (by decide), ← hI2, cal_v, kn, e_93_20, hI2, uIs, uUs]
      · rw [hI2, uI (by decide), uI (by decide), hi _ (by decide)]
      · rw [hI2, uI (by decide), uI (by decide), hi _ (by decide)]
      · have ml := m_left (I := ups I4 317 (152 + c) 0) (J := upsL J 335 0 (I 2 6 - 1).toInt64) (D := D) (n := n) (g := upd (I 6) c 0) (by rw [uIs, uU (by omega), w4]; exact wn) hn (fun k hk2 => by
          rw [uIs]
          by_cases e : k = c
          · subst e; rw [uUs, uUs]
          · rw [uU (by omega), uU e, w4]; exact (hk k hk2).1.2.2.2) (fun k hk2 => by
          by_cases e : k = c
          · subst e; rw [uUs]; exact Or.inl rfl
          · rw [uU e]; exact h01 k (by omega))
        have e3 := cnt_clear (f := fun k => decide (I 6 k = 1)) (c := c) (n := n) hc (decide_eq_true q)
        have e4 : cntN (fun k => decide (upd (I 6) c 0 k = 1)) n = cntN (fun k => if k = c then false else decide (I 6 k = 1)) n := cnt_congr (fun k hk => by
          by_cases e : k = c
          · subst e; rw [uUs, if_pos rfl]; decide
          · rw [uU e, if_neg e])
        rw [e4] at ml
        rw [e_176_0, m_nbT (by rw [h2]; exact wn) hn hc (by rw [h2]; exact hw.trans q), cal_v, ka, e_176_5, d11, cond_true, e_176_10, e2, cal_v, kn, e_176_14, show (152 : Int32) + nI c = nI (152 + c) from nI_add 152 c, inb_n (show 152 + c < 850 by omega) (by decide), cond_true, nI_clamp (n := 152 + c) (by omega), ml, cal_v, ka, e_176_29, hcc, ← e3, nI_pred]
      · rw [uI (by decide)]; exact r4
      · refine inv_of h (fin _ (mfar_ups mfar_0 (by decide)) ?_)
        unfold PgRel
        rw [hI2, g_ups (o := 1) rfl rfl, g_ups (o := 5) rfl (Nat.blt_eq.mpr (by omega)), g_same lo, n_upd (by omega), w4]
        have := pg_back (c := c) (n := n) h.2.1 (by rw [nrm_at (by rfl)]; exact cn) hn hc (by rw [nrm_at (show rl 5 c = true from Nat.blt_eq.mpr (by omega))]; exact q)
        rw [show nrm (pgF I 1) 1 6 = I 2 6 from nrm_at rfl] at this
        exact this
  · refine ye_3_2 (s := 0) (I1 := I) (J1 := J) (D1 := D) (I2 := ups I 316 0 1) (J2 := J) (D2 := D) sc hx1 ?_ rfl rfl ?_ ?_ (inv_r h)
    · rw [e_93_0, c_nbO cn hx, cal_e]
    · rw [e_176_0, m_nbO wn hn hx, cal_v, ka, e_176_5, d01, cond_false, e_176_8]
    · rw [uIs, uUs]
theorem y_40 {L kk : Nat} {I : Nat → Nat → Int32} {J : Nat → Nat → Int64} {D : Nat → Nat → UInt64} (v : Int32) (h : Inv L kk I J D) (sc : ScOK v I) (hkk : kk ≤ 6000) : TurnY L kk 2615 v I J D := by
  obtain ⟨x, hx1⟩ : ∃ q, I 1000002 (v + 1).toNatClampNeg = q := ⟨_, rfl⟩
  obtain ⟨y, hx2⟩ : ∃ q, I 1000002 (v + 2).toNatClampNeg = q := ⟨_, rfl⟩
  obtain ⟨z, hx3⟩ : ∃ q, I 1000002 (v + 3).toNatClampNeg = q := ⟨_, rfl⟩
  obtain ⟨u, hx4⟩ : ∃ q, I 1000002 (v + 4).toNatClampNeg = q := ⟨_, rfl⟩
  by_cases h1 : 1 ≤ x ∧ x ≤ 50
  · by_cases h2 : 0 ≤ y ∧ y ≤ 2000
    · by_cases h3 : 0 ≤ z ∧ z ≤ 20
      · by_cases h4 : 0 ≤ u ∧ u ≤ 20
        · obtain ⟨N, hN, rfl⟩ := rg_nI (b := 50) (v := x) ⟨Int.le_trans (by decide) (rgl h1).1, (rgl h1).2⟩ (by decide)
          obtain ⟨ok, bd, g0⟩ := inv_ice h.2.1
          obtain ⟨I1, e1, lo, hi, nx⟩ := act_all (inv_to h) J D
          obtain ⟨I2, e2, o1, o2, o3, o4⟩ := c_steps (b := I 25) (a := I 26) (g := I 24 3) (l := y) (s := z) (m := u) (J := J) (D := D) hN N 0 (by omega) I1 (lo 25 (by decide) (by decide)) (lo 26 (by decide) (by decide)) (by rw [lo 24 (by decide) (by decide)]; rfl)
          obtain ⟨r, hr⟩ : ∃ r, r = totN (itA (I 25) y z u N (I 26, I 24 3)).1 12 := ⟨_, rfl⟩
          obtain ⟨I4, e3, w4, r4, s4, fin⟩ := nx I2 (cfar_of o1) (upsL J 335 0 r.toInt64) D
          obtain ⟨I5, e4, p1, p2, p3, p4⟩ := m_steps (b := I 25) (a := I 26) (g := I 24 3) (l := y) (s := z) (m := u) (J := upsL J 335 0 r.toInt64) (D := D) hN ok (by omega) (rgl h3) (rgl h4) N 0 (by omega) I4 (fun j hj => by rw [w4]; exact bd j hj) (by rw [w4, g0]; rfl)
          have ok2 := it_ok (x := (I 26, I 24 3)) (l := y) ok (by omega) (rgl h3) (rgl h4) N hN
          refine yk_40 (r := r) (I1 := I2) (J1 := J) (D1 := D) (I2 := I5) (J2 := upsL J 335 0 r.toInt64) (D2 := D) sc hx1 hx2 hx3 hx4 ?_ ?_ ?_ ?_ ?_ upsL_s ?_
          · have ht := c_tot (I := I2) (J := J) (D := D) (a := (itA (I 25) y z u N (I 26, I 24 3)).1) (fun j _ => by rw [o3]) 12 0 (by omega)
            rw [e_130_0, x_nr h1, cal_v, kn, e_130_7, x_nr h2, cal_v, kn, e_130_15, x_nr h3, cal_v, kn, e_130_22, x_nr h4, cal_v, kn, e_130_30, e1, cal_v, kn, e_130_34, show (Value.int 0) = Value.int (nI 0) from rfl, e2, e_130_73, e_32_0]
            have ht2 : ex (32, 4, [.ref 24, .int 0, .int 0], [], mm I2 J D) = _ := ht
            rw [ht2, cal_v, ka, e_130_83, hr]
          · rw [o1 iSCL (by decide) (by decide) (by decide), hi _ (by decide)]
          · rw [o1 1000002 (by decide) (by decide) (by decide), hi _ (by decide)]
          · have ht := m_tot (I := I5) (J := upsL J 335 0 r.toInt64) (D := D) (a := (itA (I 25) y z u N (I 26, I 24 3)).1) (fun j hj => (p3 j hj).2) 12 0 (by omega)
            rw [e_248_0, x_inT h1, cal_v, ka, e_248_8, d10, cond_false, e_248_11, x_inT h2, cal_v, ka, e_248_19, d10, cond_false, e_248_22, x_inT h3, cal_v, ka, e_248_29, d10, cond_false, e_248_32, x_inT h4, cal_v, ka, e_248_40, d10, cond_false, e_248_43, e_248_48, x_canT, cal_v, ka, e_248_52, d11, cond_true, e_248_57, e3, cal_v, kn, e_248_61, show (Value.int 0) = Value.int (nI 0) from rfl, e4, e_248_84]
            rw [show (ex (248, 90, [.ref 316, dv, dv, dv, dv, .int 0, .int 0], [], mm I5 (upsL J 335 0 r.toInt64) D)) = some (.inl (some (.int r)), mm I5 (upsL J 335 0 r.toInt64) D) from by rw [hr]; rw [hr] at ht; exact ht]
          · rw [p1 316 (by decide) (by decide) (by decide)]; exact r4
          · refine inv_of h (fin _ (mfar_of (fun p hp => p1 p ?_ ?_ ?_)) ?_)
            · rcases hp with hp | hp | hp | hp | hp <;> first | omega | (subst hp; decide)
            · rcases hp with hp | hp | hp | hp | hp <;> first | omega | (subst hp; decide)
            · rcases hp with hp | hp | hp | hp | hp <;> first | omega | (subst hp; decide)
            · exact pg_ice h.2.1 (fun p h1 h2 h3 h4 h5 => (o1 p h3 h4 h5).trans (lo p (by omega) h2)) o3 o4 (fun y hy => (p2 y hy).trans (by rw [w4])) p3 p4 ok2 (by omega)
        · refine ye_40_1 (s := 0) (I1 := I) (J1 := J) (D1 := D) (I2 := ups I 316 0 1) (J2 := J) (D2 := D) sc hx1 hx2 hx3 hx4 ?_ rfl rfl ?_ ?_ (inv_r h)
          · rw [e_130_0, x_nr h1, cal_v, kn, e_130_7, x_nr h2, cal_v, kn, e_130_15, x_nr h3, cal_v, kn, e_130_22, x_nr1 h4, cal_e]
          · rw [e_248_0, x_inT h1, cal_v, ka, e_248_8, d10, cond_false, e_248_11, x_inT h2, cal_v, ka, e_248_19, d10, cond_false, e_248_22, x_inT h3, cal_v, ka, e_248_29, d10, cond_false, e_248_32, x_inF h4, cal_v, ka, e_248_40, d00, cond_true, e_248_47, e_248_48, x_canF, cal_v, ka, e_248_52, d01, cond_false, e_248_55]
          · rw [uIs, uUs]
      · refine ye_40_1 (s := 0) (I1 := I) (J1 := J) (D1 := D) (I2 := ups I 316 0 1) (J2 := J) (D2 := D) sc hx1 hx2 hx3 hx4 ?_ rfl rfl ?_ ?_ (inv_r h)
        · rw [e_130_0, x_nr h1, cal_v, kn, e_130_7, x_nr h2, cal_v, kn, e_130_15, x_nr1 h3, cal_e]
        · rw [e_248_0, x_inT h1, cal_v, ka, e_248_8, d10, cond_false, e_248_11, x_inT h2, cal_v, ka, e_248_19, d10, cond_false, e_248_22, x_inF h3, cal_v, ka, e_248_29, d00, cond_true, e_248_47, e_248_48, x_canF, cal_v, ka, e_248_52, d01, cond_false, e_248_55]
        · rw [uIs, uUs]
    · refine ye_40_1 (s := 0) (I1 := I) (J1 := J) (D1 := D) (I2 := ups I 316 0 1) (J2 := J) (D2 := D) sc hx1 hx2 hx3 hx4 ?_ rfl rfl ?_ ?_ (inv_r h)
      · rw [e_130_0, x_nr h1, cal_v, kn, e_130_7, x_nr1 h2, cal_e]
      · rw [e_248_0, x_inT h1, cal_v, ka, e_248_8, d10, cond_false, e_248_11, x_inF h2, cal_v, ka, e_248_19, d00, cond_true, e_248_47, e_248_48, x_canF, cal_v, ka, e_248_52, d01, cond_false, e_248_55]
      · rw [uIs, uUs]
  · refine ye_40_1 (s := 0) (I1 := I) (J1 := J) (D1 := D) (I2 := ups I 316 0 1) (J2 := J) (D2 := D) sc hx1 hx2 hx3 hx4 ?_ rfl rfl ?_ ?_ (inv_r h)
    · rw [e_130_0, x_nr1 h1, cal_e]
    · rw [e_248_0, x_inF h1, cal_v, ka, e_248_8, d00, cond_true, e_248_47, e_248_48, x_canF, cal_v, ka, e_248_52, d01, cond_false, e_248_55]
    · rw [uIs, uUs]
theorem y_11 {L kk : Nat} {I : Nat → Nat → Int32} {J : Nat → Nat → Int64} {D : Nat → Nat → UInt64} (v : Int32) (h : Inv L kk I J D) (sc : ScOK v I) : TurnY L kk 818 v I J D := by
  obtain ⟨x, hx1⟩ : ∃ q, I 1000002 (v + 1).toNatClampNeg = q := ⟨_, rfl⟩
  obtain ⟨y, hx2⟩ : ∃ q, I 1000002 (v + 2).toNatClampNeg = q := ⟨_, rfl⟩
  obtain ⟨I1, qq, hcase⟩ := a_11 (J := J) (D := D) (inv_to h) x y
  have q1 : I1 iSCL 0 = I iSCL 0 := by rw [qq iSCL (by decide)]
  have q2 := qq 1000002 (by decide)
  rcases hcase with ⟨r, e1, nx⟩ | ⟨E, c, hE, e1, nx⟩
  · obtain ⟨I2, e2, q3, i2⟩ := nx (upsL J 335 0 r.toInt64) D I1 MPt.z
    exact yk_11 sc hx1 hx2 e1 q1 q2 e2 q3 upsL_s (inv_of h i2)
  · obtain ⟨s, I2, e2, q3, i2⟩ := nx J D I1 MPt.z
    rcases hE with ⟨rfl, rfl⟩ | ⟨rfl, rfl⟩ | ⟨rfl, rfl⟩
    · exact ye_11_2 sc hx1 hx2 e1 q1 q2 e2 q3 (inv_of h i2)
    · exact ye_11_1 sc hx1 hx2 e1 q1 q2 e2 q3 (inv_of h i2)
    · exact ye_11_0 sc hx1 hx2 e1 q1 q2 e2 q3 (inv_of h i2)
theorem y_12 {L kk : Nat} {I : Nat → Nat → Int32} {J : Nat → Nat → Int64} {D : Nat → Nat → UInt64} (v : Int32) (h : Inv L kk I J D) (sc : ScOK v I) : TurnY L kk 886 v I J D := by
  obtain ⟨x, hx1⟩ : ∃ q, I 1000002 (v + 1).toNatClampNeg = q := ⟨_, rfl⟩
  obtain ⟨y, hx2⟩ : ∃ q, I 1000002 (v + 2).toNatClampNeg = q := ⟨_, rfl⟩
  have h0 := inv_to h
  obtain ⟨n, h16, c8, w0, hin, hT, hW, hr⟩ := inv_pil h.2.1
  by_cases hx : 1 ≤ x ∧ x ≤ nI n
  · obtain ⟨a, ha, rfl⟩ := ly_of h16 hx
    by_cases hy : 1 ≤ y ∧ y ≤ nI n
    · obtain ⟨b, hb, rfl⟩ := ly_of h16 hy
      have cx : 1 ≤ nI a ∧ nI a ≤ I 8 1 := by rw [c8]; exact hx
      have cy : 1 ≤ nI b ∧ nI b ≤ I 8 1 := by rw [c8]; exact hy
      have mx : 1 ≤ nI a ∧ nI a ≤ I 317 0 := by rw [w0]; exact hx
      have my : 1 ≤ nI b ∧ nI b ≤ I 317 0 := by rw [w0]; exact hy
      have ht := tld_c (J := J) (D := D) hT (a := a) (b := b) (by omega) hb.1 (by omega)
      have hw := hW a b (by omega) (by omega)
      cases hR : TI I a b with
      | false =>
        rw [hR, show b2i false = 0 from rfl] at ht hw
        refine ye_12_3 (s := 0) (I1 := I) (J1 := J) (D1 := D) (I2 := ups I 316 0 2) (J2 := J) (D2 := D) sc hx1 hx2 ?_ rfl rfl ?_ ?_ (inv_r h)
        · rw [e_102_0, c_lyT cx, cal_v, kn, e_102_5, c_lyT cy, cal_v, kn, e_102_10, ht, cal_v, ka, e_102_22, d01, cond_false, e_102_25]
        · rw [e_190_0, m_lyT mx, cal_v, ka, e_190_6, d10, cond_false, e_190_9, m_lyT my, cal_v, ka, e_190_14, d10, cond_false, e_190_17, e_190_22, x_canT, cal_v, ka, e_190_26, d10, cond_false, e_190_29, m17', inb_n (show 202 + 17 * a + b < 850 by omega) (by decide), cond_true, nI_clamp (by omega), uI (show 317 ≠ 316 by decide), hw, decide_eq_true (show (0 : Int32) ≠ 1 by decide), cond_true, e_190_53, e_190_54, x_canF, cal_v, ka, uu, e_190_58, d01, cond_false, e_190_61]
        · rw [uIs, uUs]
      | true =>
        rw [hR, show b2i true = 1 from rfl] at ht hw
        obtain ⟨I2, e1, lo, hi, nx⟩ := act_all h0 J D
        obtain ⟨I3, hI3⟩ : ∃ I3, I3 = ups I2 9 a (I2 9 a &&& ((1 <<< ((nI b - 1) &&& 31)) ^^^ (-1))) := ⟨_, rfl⟩
        have hT2 : RwF (I3 9) (delT (TI I) a b) := by rw [hI3, uIs, lo 9 (by decide) (by decide)]; exact rw_del hT hb.1 (by omega)
        have c83 : I3 8 1 = nI n := by rw [hI3, uI (by decide), lo 8 (by decide) (by decide), c8]
        have hin2 : In n (delT (TI I) a b) := fun x y e => hin x y (del_s e)
        obtain ⟨I4, g1, g2, g3⟩ := c_draw (J := J) (D := D) c83 h16 hin2 hT2
        have ln := c_lines (J := J) (D := D) g3 h16
        have el : lnN (clo (delT (TI I) a b)) n = lnN (clo (delT (TI I) a b)) 16 := by
          have := lnN_n (wsh_in hin2 16) (16 - n)
          rw [show n + (16 - n) = 16 by omega] at this
          exact this.symm
        have i4s : ∀ p, 316 ≤ p → I4 p = I p := fun p hp => by rw [g2 p (by omega) (by omega) (by omega) (by omega), hI3, uI (by omega), hi p (by omega)]
        have w4 : I4 317 = I 317 := i4s 317 (by decide)
        obtain ⟨r, er⟩ : ∃ r, r = nI (lnN (clo (delT (TI I) a b)) n) := ⟨_, rfl⟩
        obtain ⟨I5, k1, k2, k3, k4, fin⟩ := nx I4 (cfar_tr (cfar_ups (p := 9) (k := a) cfar_0 (by decide)) (by rw [hI3] at g2; exact cfar_o g2)) (upsL J 335 0 r.toInt64) D
        have hW5 : Wab (delT (TI I) a b) (upd (I5 317) (202 + 17 * a + b) 0) := by rw [k2]; exact wab_del (by omega) hW
        obtain ⟨F2, m1, m2⟩ := m_lines (I := ups I5 317 (202 + 17 * a + b) 0) (J := upsL J 335 0 r.toInt64) (D := D) hin2 (by rw [uIs]; exact hW5)
        have mx4 : 1 ≤ nI a ∧ nI a ≤ I4 317 0 := by rw [w4]; exact mx
        have my4 : 1 ≤ nI b ∧ nI b ≤ I4 317 0 := by rw [w4]; exact my
        have hw4 : I4 317 (202 + 17 * a + b) = 1 := by rw [w4]; exact hw
        refine yk_12 (r := r) (I1 := I4) (J1 := J) (D1 := D) (I2 := upR (ups I5 317 (202 + 17 * a + b) 0) 324 F2) (J2 := upsL J 335 0 r.toInt64) (D2 := D) sc hx1 hx2 ?_ (by rw [i4s iSCL (by decide)]) (i4s 1000002 (by decide)) ?_ ?_ upsL_s ?_
        · rw [e_102_0, c_lyT cx, cal_v, kn, e_102_5, c_lyT cy, cal_v, kn, e_102_10, ht, cal_v, ka, e_102_22, d11, cond_true, e_102_35, e1, cal_v, kn, e_102_39, c_untell (by omega), cal_v, kn, ← hI3, e_102_51, g1, cal_v, krw _, e_102_55, ln, cal_v, ka, e_102_58, er]
        · rw [e_190_0, m_lyT mx4, cal_v, ka, e_190_6, d10, cond_false, e_190_9, m_lyT my4, cal_v, ka, e_190_14, d10, cond_false, e_190_17, e_190_22, x_canT, cal_v, ka, e_190_26, d10, cond_false, e_190_29, m17', inb_n (show 202 + 17 * a + b < 850 by omega) (by decide), cond_true, nI_clamp (by omega), uI (show 317 ≠ 316 by decide), hw4, decide_eq_false (show ¬ (1 : Int32) ≠ 1 by decide), cond_false, e_190_49, e_190_54, x_canT, cal_v, ka, uu, e_190_58, d11, cond_true, e_190_63, k1, cal_v, kn, e_190_67, m17', inb_n (show 202 + 17 * a + b < 850 by omega) (by decide), cond_true, nI_clamp (by omega), m1, cal_v, ka, e_190_87, er, el]
        · rw [uR (by decide), uI (by decide), k3]
        · refine inv_of h (fin (upR (ups I5 317 (202 + 17 * a + b) 0) 324 F2) (mfar_R (mfar_ups mfar_0 (by decide)) (by decide)) ?_)
          rw [uR (by decide), uIs]
          refine pg_pil h.2.1 (fun p h1 h2 h3 => ?_) (fun y hy h2 => by rw [uU (by omega), k2]) c8 h16 hin2 ?_ hW5 ?_
          · rw [g2 p (by omega) (by omega) (by omega) (by omega), hI3, uI h3, lo p (by omega) (by omega)]
          · rw [g2 9 (by decide) (by decide) (by decide) (by decide)]; exact hT2
          · obtain ⟨r, hr⟩ := hr
            exact ⟨r, fun x y e => hr x y (del_s e)⟩
    · have cx : 1 ≤ nI a ∧ nI a ≤ I 8 1 := by rw [c8]; exact hx
      have cy : ¬ (1 ≤ y ∧ y ≤ I 8 1) := by rw [c8]; exact hy
      have mx : 1 ≤ nI a ∧ nI a ≤ I 317 0 := by rw [w0]; exact hx
      have my : ¬ (1 ≤ y ∧ y ≤ I 317 0) := by rw [w0]; exact hy
      refine ye_12_2 (s := 0) (I1 := I) (J1 := J) (D1 := D) (I2 := ups I 316 0 1) (J2 := J) (D2 := D) sc hx1 hx2 ?_ rfl rfl ?_ ?_ (inv_r h)
      · rw [e_102_0, c_lyT cx, cal_v, kn, e_102_5, c_lyF cy, cal_e]
      · rw [e_190_0, m_lyT mx, cal_v, ka, e_190_6, d10, cond_false, e_190_9, m_lyF my, cal_v, ka, e_190_14, d00, cond_true, e_190_21, e_190_22, x_canF, cal_v, ka, e_190_26, d00, cond_true, e_190_61]
      · rw [uIs, uUs]
  · have cx : ¬ (1 ≤ x ∧ x ≤ I 8 1) := by rw [c8]; exact hx
    have mx : ¬ (1 ≤ x ∧ x ≤ I 317 0) := by rw [w0]; exact hx
    refine ye_12_2 (s := 0) (I1 := I) (J1 := J) (D1 := D) (I2 := ups I 316 0 1) (J2 := J) (D2 := D) sc hx1 hx2 ?_ rfl rfl ?_ ?_ (inv_r h)
    · rw [e_102_0, c_lyF cx, cal_e]
    · rw [e_190_0, m_lyF mx, cal_v, ka, e_190_6, d00, cond_true, e_190_21, e_190_22, x_canF, cal_v, ka, e_190_26, d00, cond_true, e_190_61]
    · rw [uIs, uUs]
theorem y_13 {L kk : Nat} {I : Nat → Nat → Int32} {J : Nat → Nat → Int64} {D : Nat → Nat → UInt64} (v : Int32) (h : Inv L kk I J D) (sc : ScOK v I) : TurnY L kk 954 v I J D := by
  obtain ⟨x, hx1⟩ : ∃ q, I 1000002 (v + 1).toNatClampNeg = q := ⟨_, rfl⟩
  obtain ⟨y, hx2⟩ : ∃ q, I 1000002 (v + 2).toNatClampNeg = q := ⟨_, rfl⟩
  obtain ⟨n, h16, c8, w0, hin, hT, hW, hr⟩ := inv_pil h.2.1
  by_cases hx : 1 ≤ x ∧ x ≤ nI n
  · obtain ⟨a, ha, rfl⟩ := ly_of h16 hx
    by_cases hy : 1 ≤ y ∧ y ≤ nI n
    · obtain ⟨b, hb, rfl⟩ := ly_of h16 hy
      have cx : 1 ≤ nI a ∧ nI a ≤ I 8 1 := by rw [c8]; exact hx
      have cy : 1 ≤ nI b ∧ nI b ≤ I 8 1 := by rw [c8]; exact hy
      obtain ⟨I1, d1, d2, d3⟩ := c_draw (J := J) (D := D) c8 h16 hin hT
      have w1 : I1 317 = I 317 := d2 317 (by decide) (by decide) (by decide) (by decide)
      have mx : 1 ≤ nI a ∧ nI a ≤ I1 317 0 := by rw [w1, w0]; exact hx
      have my : 1 ≤ nI b ∧ nI b ≤ I1 317 0 := by rw [w1, w0]; exact hy
      have has := c_has (J := J) (D := D) d3.2.1 (a := a) (b := b) (by omega) hb.1 (by omega)
      obtain ⟨r, er⟩ : ∃ r, r = clo (TI I) a b := ⟨_, rfl⟩
      rw [← er, show b2i r = bI r from rfl] at has
      obtain ⟨F, f1, f2⟩ := m_abv (I := ups I1 316 0 0) (J := upsL J 335 0 (bI r).toInt64) (D := D) hin (by rw [uI (by decide), w1]; exact hW)
      have l := m_lies (I := upR (ups I1 316 0 0) 324 F) (J := upsL J 335 0 (bI r).toInt64) (D := D) (by rw [uRs]; exact f2) (a := a) (b := b) (by omega) (by omega)
      rw [← er, show b2i r = bI r from rfl] at l
      have h01 : bI r = 0 ∨ bI r = 1 := by cases r; exact Or.inl rfl; exact Or.inr rfl
      refine yk_13 (r := r) (I1 := I1) (J1 := J) (D1 := D) (I2 := upR (ups I1 316 0 0) 324 F) (J2 := upsL J 335 0 (bI r).toInt64) (D2 := D) sc hx1 hx2 ?_ (by rw [d2 iSCL (by decide) (by decide) (by decide) (by decide)]) (d2 1000002 (by decide) (by decide) (by decide) (by decide)) ?_ ?_ upsL_s ?_
      · rw [e_103_0, c_lyT cx, cal_v, kn, e_103_5, c_lyT cy, cal_v, kn, e_103_10, d1, cal_v, krw _, e_103_14, has, cal_v, ka, e_103_19, decide_eq_true (h01), cond_true]
      · rw [e_191_0, m_lyT mx, cal_v, ka, e_191_6, d10, cond_false, e_191_9, m_lyT my, cal_v, ka, e_191_14, d10, cond_false, e_191_17, e_191_22, x_canT, cal_v, ka, e_191_26, d11, cond_true, e_191_31, f1, cal_v, kn, e_191_35, l, cal_v, ka, e_191_41, decide_eq_true (h01), cond_true]
      · rw [uR (by decide), uIs, uUs]
      · exact inv_st h (((Same.o d2).tr Same.r).tr (Same.R (by decide)))
    · have cx : 1 ≤ nI a ∧ nI a ≤ I 8 1 := by rw [c8]; exact hx
      have cy : ¬ (1 ≤ y ∧ y ≤ I 8 1) := by rw [c8]; exact hy
      have mx : 1 ≤ nI a ∧ nI a ≤ I 317 0 := by rw [w0]; exact hx
      have my : ¬ (1 ≤ y ∧ y ≤ I 317 0) := by rw [w0]; exact hy
      refine ye_13_2 (s := 0) (I1 := I) (J1 := J) (D1 := D) (I2 := ups I 316 0 1) (J2 := J) (D2 := D) sc hx1 hx2 ?_ rfl rfl ?_ ?_ (inv_r h)
      · rw [e_103_0, c_lyT cx, cal_v, kn, e_103_5, c_lyF cy, cal_e]
      · rw [e_191_0, m_lyT mx, cal_v, ka, e_191_6, d10, cond_false, e_191_9, m_lyF my, cal_v, ka, e_191_14, d00, cond_true, e_191_21, e_191_22, x_canF, cal_v, ka, e_191_26, d01, cond_false, e_191_29]
      · rw [uIs, uUs]
  · have cx : ¬ (1 ≤ x ∧ x ≤ I 8 1) := by rw [c8]; exact hx
    have mx : ¬ (1 ≤ x ∧ x ≤ I 317 0) := by rw [w0]; exact hx
    refine ye_13_2 (s := 0) (I1 := I) (J1 := J) (D1 := D) (I2 := ups I 316 0 1) (J2 := J) (D2 := D) sc hx1 hx2 ?_ rfl rfl ?_ ?_ (inv_r h)
    · rw [e_103_0, c_lyF cx, cal_e]
    · rw [e_191_0, m_lyF mx, cal_v, ka, e_191_6, d00, cond_true, e_191_21, e_191_22, x_canF, cal_v, ka, e_191_26, d01, cond_false, e_191_29]
    · rw [uIs, uUs]
theorem y_14 {L kk : Nat} {I : Nat → Nat → Int32} {J : Nat → Nat → Int64} {D : Nat → Nat → UInt64} (v : Int32) (h : Inv L kk I J D) : TurnY L kk 1029 v I J D := by
  obtain ⟨n, h16, c8, w0, hin, hT, hW, hr⟩ := inv_pil h.2.1
  obtain ⟨I1, d1, d2, d3⟩ := c_draw (J := J) (D := D) c8 h16 hin hT
  have w1 : I1 317 = I 317 := d2 317 (by decide) (by decide) (by decide) (by decide)
  have ln := c_lines (J := J) (D := D) d3 h16
  have el : lnN (clo (TI I)) n = lnN (clo (TI I)) 16 := by
    have := lnN_n (wsh_in hin 16) (16 - n)
    rw [show n + (16 - n) = 16 by omega] at this
    exact this.symm
  obtain ⟨F, f1, f2⟩ := m_lines (I := ups I1 316 0 0) (J := J) (D := D) hin (by rw [uI (by decide), w1]; exact hW)
  refine yq_14 (r := nI (lnN (clo (TI I)) n)) (I1 := I1) (J1 := J) (D1 := D) (I2 := upR (ups I1 316 0 0) 324 F) (J2 := J) (D2 := D) ?_ ?_ (inv_st h (((Same.o d2).tr Same.r).tr (Same.R (by decide))))
  · rw [e_104_0, d1, cal_v, krw _, e_104_4, ln, cal_v, ka, e_104_7]
  · rw [e_192_0, f1, cal_v, ka, e_192_9, el]
theorem y_15 {L kk : Nat} {I : Nat → Nat → Int32} {J : Nat → Nat → Int64} {D : Nat → Nat → UInt64} (v : Int32) (h : Inv L kk I J D) (sc : ScOK v I) : TurnY L kk 1042 v I J D := by
  obtain ⟨x, hx1⟩ : ∃ q, I 1000002 (v + 1).toNatClampNeg = q := ⟨_, rfl⟩
  obtain ⟨n, h16, c8, w0, hin, hT, hW, hr⟩ := inv_pil h.2.1
  obtain ⟨I1, d1, d2, d3⟩ := c_draw (J := J) (D := D) c8 h16 hin hT
  have w1 : I1 317 = I 317 := d2 317 (by decide) (by decide) (by decide) (by decide)
  have ln := c_lines (J := J) (D := D) d3 h16
  have hin2 : In n (clo (TI I)) := wsh_in hin 16
  have el : lnN (clo (TI I)) n = lnN (clo (TI I)) 16 := by
    have := lnN_n hin2 (16 - n)
    rw [show n + (16 - n) = 16 by omega] at this
    exact this.symm
  have bd := lnN_bd (R := clo (TI I)) 16
  rw [el] at ln
  obtain ⟨N, hN⟩ : ∃ N, N = lnN (clo (TI I)) 16 := ⟨_, rfl⟩
  rw [← hN] at ln bd
  have q1 : I1 iSCL 0 = I iSCL 0 := by rw [d2 iSCL (by decide) (by decide) (by decide) (by decide)]
  have q2 : I1 1000002 = I 1000002 := d2 1000002 (by decide) (by decide) (by decide) (by decide)
  by_cases hx : 0 ≤ x ∧ x < nI N
  · obtain ⟨m, hm, rfl⟩ := ix_of (m := N) (nI_toInt (by omega)) hx
    obtain ⟨t, t1, t2, t3⟩ := cnt_find (f := Lc (clo (TI I))) (n := 289) (m := m) (by rw [Lc_all hin2, ← hN]; exact hm)
    have ht := dr_in hin2 _ _ t2
    obtain ⟨r, er⟩ : ∃ r, r = nI (32 * (t / 17) + t % 17) := ⟨_, rfl⟩
    obtain ⟨F, f1, f2⟩ := m_lines (I := I1) (J := upsL J 335 0 r.toInt64) (D := D) hin (by rw [w1]; exact hW)
    rw [← hN] at f1
    have hle : 0 ≤ nI m ∧ nI m ≤ nI N - 1 := ⟨hx.1, by rw [show (1 : Int32) = nI 1 from rfl, nI_sub (by omega)]; exact (nI_leI (by omega) (by omega)).mpr (by omega)⟩
    have c0 : cntN (Lc (clo (TI I))) (17 * 1 + 1) = 0 := cnt_0 (fun k hk => by unfold Lc; exact (dr_in hin2).f (by omega))
    have cl := c_lat (J := J) (D := D) d3 h16 hin2 t2 t3 (t - 18) 1 1 (by omega) (by omega) (by omega) (by omega) (by omega)
    rw [c0] at cl
    have ml := m_lat (n := n) (I := ups (upR I1 324 F) 316 0 0) (J := upsL J 335 0 r.toInt64) (D := D) (by rw [uI (by decide), uRs]; exact f2) t1 t2 t3 t 0 (by omega)
    refine yk_15 (r := r) (I1 := I1) (J1 := J) (D1 := D) (I2 := ups (upR I1 324 F) 316 0 0) (J2 := upsL J 335 0 r.toInt64) (D2 := D) sc hx1 ?_ q1 q2 ?_ ?_ upsL_s ?_
    · rw [e_105_0, d1, cal_v, krw _, e_105_4, decide_eq_false (Int32.not_lt.mpr hx.1), cond_false, e_105_9, ln, cal_v, ka, e_105_14, decide_eq_true hx.2, cond_true, e_105_27, e_19_0, e_19_4, d3.1, decide_eq_false (show ¬ nI n < 1 from nI_nlt (b := 1) (by omega) (by omega)), cond_false, e_19_12]
      rw [show ex (19, 15, [.ref 265, .int (nI m), .int 0, .int 1, .int 1], [], mm I1 J D) = _ from cl, cal_v, ka, e_105_32, er]
    · rw [e_193_0, f1, cal_v, ka, e_193_7, x_inT hle, cal_v, ka, e_193_12, x_canT, cal_v, ka, e_193_16, d11, cond_true, e_193_21]
      rw [er] at ml ⊢
      exact ml
    · rw [uIs, uUs]
    · exact inv_st h (((Same.o d2).tr (Same.R (by decide))).tr Same.r)
  · obtain ⟨F, f1, f2⟩ := m_lines (I := I1) (J := J) (D := D) hin (by rw [w1]; exact hW)
    rw [← hN] at f1
    have hle : ¬ (0 ≤ x ∧ x ≤ nI N - 1) := fun q => hx ⟨q.1, by
      have := Int32.le_iff_toInt_le.mp q.2
      rw [pred_i (by omega)] at this
      exact Int32.lt_iff_toInt_lt.mpr (by rw [nI_toInt (by omega)]; omega)⟩
    refine ye_15_2 (s := 0) (I1 := I1) (J1 := J) (D1 := D) (I2 := ups (upR I1 324 F) 316 0 1) (J2 := J) (D2 := D) sc hx1 ?_ q1 q2 ?_ ?_ (inv_st h (((Same.o d2).tr (Same.R (by decide))).tr Same.r))
    · by_cases h0 : x < 0
      · rw [e_105_0, d1, cal_v, krw _, e_105_4, decide_eq_true h0, cond_true, e_105_17]
      · rw [e_105_0, d1, cal_v, krw _, e_105_4, decide_eq_false h0, cond_false, e_105_9, ln, cal_v, ka, e_105_14, decide_eq_false (fun q => hx ⟨Int32.not_lt.mp h0, q⟩), cond_false, e_105_17]
    · rw [e_193_0, f1, cal_v, ka, e_193_7, x_inF hle, cal_v, ka, e_193_12, x_canF, cal_v, ka, e_193_16, d01, cond_false, e_193_19]
    · rw [uIs, uUs]
theorem y_17 {L kk : Nat} {I : Nat → Nat → Int32} {J : Nat → Nat → Int64} {D : Nat → Nat → UInt64} (v : Int32) (h : Inv L kk I J D) (sc : ScOK v I) : TurnY L kk 1141 v I J D := by
  obtain ⟨x, hx1⟩ : ∃ q, I 1000002 (v + 1).toNatClampNeg = q := ⟨_, rfl⟩
  obtain ⟨n, h16, c8, w0, hin, hT, hW, hr⟩ := inv_pil h.2.1
  obtain ⟨rk, hr⟩ := clo_rank hr
  have hin2 : In n (clo (TI I)) := wsh_in hin 16
  by_cases hx : 0 ≤ x ∧ x < nI n
  · obtain ⟨m, hm, rfl⟩ := ix_of (m := n) (nI_toInt (by omega)) hx
    obtain ⟨I1, d1, d2, d3⟩ := c_draw (J := J) (D := D) c8 h16 hin hT
    obtain ⟨A, B, a1, a2, a3⟩ := c_arr0 (J := J) (D := D) hin2 hr h16 d3
    have w1 : (upR (upR I1 270 A) 271 B) 317 = I 317 := by rw [uR (by decide), uR (by decide), d2 317 (by decide) (by decide) (by decide) (by decide)]
    obtain ⟨r, er⟩ : ∃ r, r = nI (ord (clo (TI I)) n m) := ⟨_, rfl⟩
    obtain ⟨F, f1, f2⟩ := m_abv (I := ups (upR (upR I1 270 A) 271 B) 316 0 0) (J := upsL J 335 0 r.toInt64) (D := D) hin (by rw [uI (by decide), w1]; exact hW)
    have mo := m_ord (I := upR (ups (upR (upR I1 270 A) 271 B) 316 0 0) 324 F) (J := upsL J 335 0 r.toInt64) (D := D) hin2 hr h16 (by rw [uR (by decide), uI (by decide), w1]; exact w0) (by rw [uRs]; exact f2) hm (m + 1) 0 (by omega) 0 0 (Bt.z.cg (fun i => by unfold sbt; show false = (_ && false); simp)) (fun h => absurd h (by decide))
    have hle : 0 ≤ nI m ∧ nI m ≤ (upR (upR I1 270 A) 271 B) 317 0 - 1 := by
      rw [w1, w0]
      exact ⟨hx.1, by rw [show (1 : Int32) = nI 1 from rfl, nI_sub (by omega)]; exact (nI_leI (by omega) (by omega)).mpr (by omega)⟩
    refine yk_17 (r := r) (I1 := upR (upR I1 270 A) 271 B) (J1 := J) (D1 := D) (I2 := upR (ups (upR (upR I1 270 A) 271 B) 316 0 0) 324 F) (J2 := upsL J 335 0 r.toInt64) (D2 := D) sc hx1 ?_ ?_ ?_ ?_ ?_ upsL_s ?_
    · rw [e_107_0, decide_eq_false (Int32.not_lt.mpr hx.1), cond_false, e_107_4, c8, decide_eq_true hx.2, cond_true, e_107_28, d1, cal_v, krw _, e_107_32, a1, cal_v, kn, e_107_37, inb_n (show m < 16 by omega) (by decide), cond_true, nI_clamp (by omega), uR (by decide), uRs, a2 m hm, er]
    · rw [uR (by decide), uR (by decide), d2 iSCL (by decide) (by decide) (by decide) (by decide)]
    · rw [uR (by decide), uR (by decide), d2 1000002 (by decide) (by decide) (by decide) (by decide)]
    · rw [e_196_0, x_inT hle, cal_v, ka, e_196_14, x_canT, cal_v, ka, e_196_18, d11, cond_true, e_196_23, f1, cal_v, kn, e_196_27]
      rw [er] at mo ⊢
      exact mo
    · rw [uR (by decide), uIs, uUs]
    · exact inv_st h (((((Same.o d2).tr (Same.R (by decide))).tr (Same.R (by decide))).tr Same.r).tr (Same.R (by decide)))
  · have hle : ¬ (0 ≤ x ∧ x ≤ I 317 0 - 1) := fun q => hx ⟨q.1, by
      have := Int32.le_iff_toInt_le.mp q.2
      rw [w0, pred_i (by omega)] at this
      exact Int32.lt_iff_toInt_lt.mpr (by rw [nI_toInt (by omega)]; omega)⟩
    refine ye_17_2 (s := 0) (I1 := I) (J1 := J) (D1 := D) (I2 := ups I 316 0 1) (J2 := J) (D2 := D) sc hx1 ?_ rfl rfl ?_ ?_ (inv_r h)
    · by_cases h0 : x < 0
      · rw [e_107_0, decide_eq_true h0, cond_true, e_107_18]
      · rw [e_107_0, decide_eq_false h0, cond_false, e_107_4, c8, decide_eq_false (fun q => hx ⟨Int32.not_lt.mp h0, q⟩), cond_false, e_107_18]
    · rw [e_196_0, x_inF hle, cal_v, ka, e_196_14, x_canF, cal_v, ka, e_196_18, d01, cond_false, e_196_21]
    · rw [uIs, uUs]
theorem y_18 {L kk : Nat} {I : Nat → Nat → Int32} {J : Nat → Nat → Int64} {D : Nat → Nat → UInt64} (v : Int32) (h : Inv L kk I J D) (sc : ScOK v I) : TurnY L kk 1197 v I J D := by
  obtain ⟨x, hx1⟩ : ∃ q, I 1000002 (v + 1).toNatClampNeg = q := ⟨_, rfl⟩
  obtain ⟨n, h16, c8, w0, hin, hT, hW, hr⟩ := inv_pil h.2.1
  obtain ⟨rk, hr⟩ := clo_rank hr
  have hin2 : In n (clo (TI I)) := wsh_in hin 16
  by_cases hx : 1 ≤ x ∧ x ≤ nI n
  · obtain ⟨a, ha, rfl⟩ := ly_of h16 hx
    have cx : 1 ≤ nI a ∧ nI a ≤ I 8 1 := by rw [c8]; exact hx
    obtain ⟨I1, d1, d2, d3⟩ := c_draw (J := J) (D := D) c8 h16 hin hT
    obtain ⟨A, B, a1, a2, a3⟩ := c_arr0 (J := J) (D := D) hin2 hr h16 d3
    have w1 : (upR (upR I1 270 A) 271 B) 317 = I 317 := by rw [uR (by decide), uR (by decide), d2 317 (by decide) (by decide) (by decide) (by decide)]
    obtain ⟨r, er⟩ : ∃ r, r = nI (dep (clo (TI I)) n a) := ⟨_, rfl⟩
    obtain ⟨F, f1, f2⟩ := m_abv (I := ups (upR (upR I1 270 A) 271 B) 316 0 0) (J := upsL J 335 0 r.toInt64) (D := D) hin (by rw [uI (by decide), w1]; exact hW)
    obtain ⟨F2, g1⟩ := m_ph (I := upR (ups (upR (upR I1 270 A) 271 B) 316 0 0) 324 F) (J := upsL J 335 0 r.toInt64) (D := D) hin2 hr h16 (by rw [uRs]; exact f2) (a := a) (by omega)
    have mx : 1 ≤ nI a ∧ nI a ≤ (upR (upR I1 270 A) 271 B) 317 0 := by rw [w1, w0]; exact hx
    refine yk_18 (r := r) (I1 := upR (upR I1 270 A) 271 B) (J1 := J) (D1 := D) (I2 := upR (upR (ups (upR (upR I1 270 A) 271 B) 316 0 0) 324 F) 326 F2) (J2 := upsL J 335 0 r.toInt64) (D2 := D) sc hx1 ?_ ?_ ?_ ?_ ?_ upsL_s ?_
    · rw [e_108_0, c_lyT cx, cal_v, kn, e_108_5, d1, cal_v, krw _, e_108_9, a1, cal_v, kn, e_108_14, inb_n (show a < 17 by omega) (by decide), cond_true, nI_clamp (by omega), uRs, a3 a ha.1 ha.2, er]
    · rw [uR (by decide), uR (by decide), d2 iSCL (by decide) (by decide) (by decide) (by decide)]
    · rw [uR (by decide), uR (by decide), d2 1000002 (by decide) (by decide) (by decide) (by decide)]
    · rw [e_197_0, m_lyT mx, cal_v, ka, e_197_6, x_canT, cal_v, ka, e_197_10, d11, cond_true, e_197_15, f1, cal_v, kn]
      rw [er] at g1 ⊢
      exact g1
    · rw [uR (by decide), uR (by decide), uIs, uUs]
    · exact inv_st h ((((((Same.o d2).tr (Same.R (by decide))).tr (Same.R (by decide))).tr Same.r).tr (Same.R (by decide))).tr (Same.R (by decide)))
  · have cx : ¬ (1 ≤ x ∧ x ≤ I 8 1) := by rw [c8]; exact hx
    have mx : ¬ (1 ≤ x ∧ x ≤ I 317 0) := by rw [w0]; exact hx
    refine ye_18_2 (s := 0) (I1 := I) (J1 := J) (D1 := D) (I2 := ups I 316 0 1) (J2 := J) (D2 := D) sc hx1 ?_ rfl rfl ?_ ?_ (inv_r h)
    · rw [e_108_0, c_lyF cx, cal_e]
    · rw [e_197_0, m_lyF mx, cal_v, ka, e_197_6, x_canF, cal_v, ka, e_197_10, d01, cond_false, e_197_13]
    · rw [uIs, uUs]
theorem y_24 {L kk : Nat} {I : Nat → Nat → Int32} {J : Nat → Nat → Int64} {D : Nat → Nat → UInt64} (v : Int32) (h : Inv L kk I J D) : TurnY L kk 1605 v I J D := by
  obtain ⟨n0, n1, g, tx, lm, c0, c1⟩ := inv_lay h.2.1
  obtain ⟨I1, J1, e1, f1, lc, t1⟩ := c_lay (J := J) (D := D) (b0 := -1) (b1 := -1) g c0 c1
  have w1 : I1 317 = I 317 := f1 317 (Or.inr (by decide))
  obtain ⟨I2, J2, e2, f2, f3, t2⟩ := m_lay (I := ups I1 316 0 0) (J := J1) (D := D) (b0 := -1) (b1 := -1) g tx (lm.go (by rw [uI (by decide), w1]))
  obtain ⟨b, hb, hp⟩ := PP_00 g tx
  have r1 := (t1 0 0 (Nat.zero_le _) (Nat.zero_le _)).1
  have r2 := (t2 0 0 (Nat.zero_le _) (Nat.zero_le _)).1
  rw [hp] at r1 r2
  refine yq_24 (r := nI b) (I1 := I1) (J1 := J1) (D1 := D) (I2 := I2) (J2 := J2) (D2 := D) ?_ ?_ (inv_st h (((Same.l f1).tr Same.r).tr (Same.q (by decide) f2)))
  · rw [e_114_0, e1, cal_v, kn, e_114_9, show I1 275 0 = nI b from r1]
  · rw [e_217_0, e2, cal_v, kn, e_217_11, show I2 328 0 = nI b from r2]
theorem y_25 {L kk : Nat} {I : Nat → Nat → Int32} {J : Nat → Nat → Int64} {D : Nat → Nat → UInt64} (v : Int32) (h : Inv L kk I J D) : TurnY L kk 1618 v I J D := by
  obtain ⟨n0, n1, g, tx, lm, c0, c1⟩ := inv_lay h.2.1
  obtain ⟨I1, J1, e1, f1, lc, t1⟩ := c_lay (J := J) (D := D) (b0 := -1) (b1 := -1) g c0 c1
  have w1 : I1 317 = I 317 := f1 317 (Or.inr (by decide))
  obtain ⟨I2, J2, e2, f2, f3, t2⟩ := m_lay (I := ups I1 316 0 0) (J := J1) (D := D) (b0 := -1) (b1 := -1) g tx (lm.go (by rw [uI (by decide), w1]))
  have r1 := (t1 0 0 (Nat.zero_le _) (Nat.zero_le _)).2
  have r2 := (t2 0 0 (Nat.zero_le _) (Nat.zero_le _)).2
  refine yq_25 (r := (PP I n0 n1 (-1) (-1) 0 0).2) (I1 := I1) (J1 := J1) (D1 := D) (I2 := I2) (J2 := J2) (D2 := D) ?_ ?_ (inv_st h (((Same.l f1).tr Same.r).tr (Same.q (by decide) f2)))
  · rw [e_115_0, e1, cal_v, kn, e_115_9, show J1 293 0 = _ from r1]
  · rw [e_218_0, e2, cal_v, kn, e_218_11, show J2 329 0 = _ from r2]
theorem y_27 {L kk : Nat} {I : Nat → Nat → Int32} {J : Nat → Nat → Int64} {D : Nat → Nat → UInt64} (v : Int32) (h : Inv L kk I J D) (sc : ScOK v I) : TurnY L kk 1700 v I J D := by
  obtain ⟨x, hx1⟩ : ∃ q, I 1000002 (v + 1).toNatClampNeg = q := ⟨_, rfl⟩
  obtain ⟨y, hx2⟩ : ∃ q, I 1000002 (v + 2).toNatClampNeg = q := ⟨_, rfl⟩
  obtain ⟨n0, n1, g, tx, lm, c0, c1⟩ := inv_lay h.2.1
  have hn := g.1
  by_cases hx : 0 ≤ x ∧ x < nI n0
  · have bx : 0 ≤ x ∧ x < I 10 4 := by rw [c0]; exact hx
    by_cases hy : 0 ≤ y ∧ y < nI n1
    · have by_ : 0 ≤ y ∧ y < I 15 4 := by rw [c1]; exact hy
      obtain ⟨I1, J1, e1, f1, lc, t1⟩ := c_lay (J := J) (D := D) (b0 := -1) (b1 := -1) g c0 c1
      obtain ⟨I2, J2, e2, f2, t2⟩ := c_lay2 (J1 := J1) (D := D) (b0 := x) (b1 := y) g c0 c1 f1
      obtain ⟨b, hb, hp⟩ := PP_00 g tx
      have r1 := (t1 0 0 (Nat.zero_le _) (Nat.zero_le _)).1
      have r2 := t2 0 0 (Nat.zero_le _) (Nat.zero_le _)
      rw [hp] at r1
      have r1 : I1 275 0 = nI b := r1
      obtain ⟨z, hz, hz4⟩ : ∃ z, z = (PP I n0 n1 x y 0 0).1 ∧ Bnd 4000 z := ⟨_, rfl, PP_bd g 0 0⟩
      rw [← hz] at r2
      have r2 : I2 275 0 = encO 1000000000 z := r2
      obtain ⟨r, er⟩ : ∃ r : Bool, r = !decide (encO 1000000000 z ≤ nI b) := ⟨_, rfl⟩
      have er2 : decide (encO 100000000 z ≤ nI b) = decide (encO 1000000000 z ≤ nI b) := by
        cases z with
        | none => rw [decide_eq_false (show ¬ encO 100000000 none ≤ nI b from nI_ge (a := b) (b := 100000000) (by omega) (by decide)), decide_eq_false (show ¬ encO 1000000000 none ≤ nI b from nI_ge (a := b) (b := 1000000000) (by omega) (by decide))]
        | some q => rfl
      have w2 : I2 317 = I 317 := f2 317 (Or.inr (by decide))
      obtain ⟨I3, J3, e3, f3, g3, t3⟩ := m_lay (I := ups I2 316 0 0) (J := upsL J2 335 0 (bI r).toInt64) (D := D) (b0 := -1) (b1 := -1) g tx (lm.go (by rw [uI (by decide), w2]))
      obtain ⟨I4, J4, e4, f4, g4, t4⟩ := m_lay (I := I3) (J := J3) (D := D) (b0 := x) (b1 := y) g tx (lm.go (by rw [f3 317 (by decide), uI (by decide), w2]))
      have r3 := (t3 0 0 (Nat.zero_le _) (Nat.zero_le _)).1
      have r4 := (t4 0 0 (Nat.zero_le _) (Nat.zero_le _)).1
      rw [hp] at r3
      rw [← hz] at r4
      have r3 : I3 328 0 = nI b := r3
      have r4 : I4 328 0 = encO 100000000 z := r4
      have bn0 := c_bandT0 (I := I) (J := J) (D := D) bx
      have bn1 := c_bandT1 (I := I) (J := J) (D := D) by_
      have bn0' : ex (150, 0, [.ref 0, .int 0, .int x], [], mm I J D) = _ := bn0
      have bn1' : ex (150, 0, [.ref 0, .int 1, .int y], [], mm I J D) = _ := bn1
      have mb0 : ex (199, 0, [.ref 316, .int 0, .int x], [], mm I2 (upsL J2 335 0 (bI r).toInt64) D) = _ := m_bandT (i := 0) (by decide) (by rw [w2]; exact lm.1.1) hn.1 hx
      have mb1 : ex (199, 0, [.ref 316, .int 1, .int y], [], mm I2 (upsL J2 335 0 (bI r).toInt64) D) = _ := m_bandT (i := 1) (by decide) (by rw [w2]; exact lm.1.2) hn.2 hy
      refine yk_27 (r := r) (I1 := I2) (J1 := J2) (D1 := D) (I2 := I4) (J2 := J4) (D2 := D) sc hx1 hx2 ?_ (by rw [f2 iSCL (Or.inr (by decide))]) (f2 1000002 (Or.inr (by decide))) ?_ ?_ ?_ ?_
      · rw [e_117_0, bn0', cal_v, kn, e_117_6, bn1', cal_v, kn, e_117_12, e1, cal_v, kn, e_117_21, r1, e2, cal_v, kn, e_117_42, r2]
        cases hd : decide (encO 1000000000 z ≤ nI b) with
        | true => rw [cond_true, e_117_61, e_117_62, decide_eq_true (show (0 : Int32) = 0 ∨ (0 : Int32) = 1 by decide), cond_true, er, hd]; rfl
        | false => rw [cond_false, e_117_57, e_117_62, decide_eq_true (show (1 : Int32) = 0 ∨ (1 : Int32) = 1 by decide), cond_true, er, hd]; rfl
      · rw [e_221_0, mb0, cal_v, ka, e_221_7, d10, cond_false, e_221_10, mb1, cal_v, ka, e_221_16, d10, cond_false, e_221_19, e_221_24, x_canT, cal_v, ka, e_221_28, d11, cond_true, e_221_33, e3, cal_v, kn, e_221_39, r3, e4, cal_v, kn, e_221_52, r4, er2]
        cases hd : decide (encO 1000000000 z ≤ nI b) with
        | true => rw [cond_true, e_221_66, e_221_67, decide_eq_true (show (0 : Int32) = 0 ∨ (0 : Int32) = 1 by decide), cond_true, er, hd]; rfl
        | false => rw [cond_false, e_221_62, e_221_67, decide_eq_true (show (1 : Int32) = 0 ∨ (1 : Int32) = 1 by decide), cond_true, er, hd]; rfl
      · rw [f4 316 (by decide), f3 316 (by decide), uIs, uUs]
      · rw [g4 335 (by decide), g3 335 (by decide)]; exact upsL_s
      · exact inv_st h ((((Same.l f2).tr Same.r).tr (Same.q (by decide) f3)).tr (Same.q (by decide) f4))
    · have by_ : ¬ (0 ≤ y ∧ y < I 15 4) := by rw [c1]; exact hy
      have bn0' : ex (150, 0, [.ref 0, .int 0, .int x], [], mm I J D) = _ := c_bandT0 (I := I) (J := J) (D := D) bx
      have bn1' : ex (150, 0, [.ref 0, .int 1, .int y], [], mm I J D) = _ := c_bandF1 (I := I) (J := J) (D := D) by_
      have mb0 : ex (199, 0, [.ref 316, .int 0, .int x], [], mm I J D) = _ := m_bandT (i := 0) (by decide) lm.1.1 hn.1 hx
      have mb1 : ex (199, 0, [.ref 316, .int 1, .int y], [], mm I J D) = _ := m_bandF (i := 1) (by decide) lm.1.2 hn.2 hy
      refine ye_27_2 (s := 0) (I1 := I) (J1 := J) (D1 := D) (I2 := ups I 316 0 1) (J2 := J) (D2 := D) sc hx1 hx2 ?_ rfl rfl ?_ ?_ (inv_r h)
      · rw [e_117_0, bn0', cal_v, kn, e_117_6, bn1', cal_e]
      · rw [e_221_0, mb0, cal_v, ka, e_221_7, d10, cond_false, e_221_10, mb1, cal_v, ka, e_221_16, d00, cond_true, e_221_23, e_221_24, x_canF, cal_v, ka, e_221_28, d01, cond_false, e_221_31]
      · rw [uIs, uUs]
  · have bx : ¬ (0 ≤ x ∧ x < I 10 4) := by rw [c0]; exact hx
    have bn0' : ex (150, 0, [.ref 0, .int 0, .int x], [], mm I J D) = _ := c_bandF0 (I := I) (J := J) (D := D) bx
    have mb0 : ex (199, 0, [.ref 316, .int 0, .int x], [], mm I J D) = _ := m_bandF (i := 0) (by decide) lm.1.1 hn.1 hx
    refine ye_27_2 (s := 0) (I1 := I) (J1 := J) (D1 := D) (I2 := ups I 316 0 1) (J2 := J) (D2 := D) sc hx1 hx2 ?_ rfl rfl ?_ ?_ (inv_r h)
    · rw [e_117_0, bn0', cal_e]
    · rw [e_221_0, mb0, cal_v, ka, e_221_7, d00, cond_true, e_221_23, e_221_24, x_canF, cal_v, ka, e_221_28, d01, cond_false, e_221_31]
    · rw [uIs, uUs]
theorem y_26 {L kk : Nat} {I : Nat → Nat → Int32} {J : Nat → Nat → Int64} {D : Nat → Nat → UInt64} (v : Int32) (h : Inv L kk I J D) (sc : ScOK v I) : TurnY L kk 1632 v I J D := by
  obtain ⟨x, hx1⟩ : ∃ q, I 1000002 (v + 1).toNatClampNeg = q := ⟨_, rfl⟩
  obtain ⟨y, hx2⟩ : ∃ q, I 1000002 (v + 2).toNatClampNeg = q := ⟨_, rfl⟩
  obtain ⟨n0, n1, g, tx, lm, c0, c1⟩ := inv_lay h.2.1
  have hn := g.1
  have p2 := le_pred (v := x) (b := 1) (B := 2) (B1 := 1) rfl rfl (by decide)
  by_cases hx : 0 ≤ x ∧ x < 2
  · obtain ⟨w, hw, rfl⟩ := ix_of (m := 2) (n := 2) rfl hx
    obtain ⟨n, hnn, bnd⟩ : ∃ n, n ≤ 16 ∧ ((0 ≤ y ∧ y < nI n) → (ex (150, 0, [.ref 0, .int (nI w), .int y], [], mm I J D) = some (.inl none, mm I J D)) ∧ ∀ I2 J2 D2, I2 317 = I 317 → ex (199, 0, [.ref 316, .int (nI w), .int y], [], mm I2 J2 D2) = some (.inl (some (.int 1)), mm I2 J2 D2)) ∧ (¬ (0 ≤ y ∧ y < nI n) → (ex (150, 0, [.ref 0, .int (nI w), .int y], [], mm I J D) = some (.inr (.inl 2), mm I J D)) ∧ ex (199, 0, [.ref 316, .int (nI w), .int y], [], mm I J D) = some (.inl (some (.int 0)), mm I J D)) := by
      rcases (show w = 0 ∨ w = 1 by omega) with rfl | rfl
      · exact ⟨n0, hn.1, fun hy => ⟨c_bandT0 (by rw [c0]; exact hy), fun I2 J2 D2 e => m_bandT (i := 0) (by decide) (by rw [e]; exact lm.1.1) hn.1 hy⟩, fun hy => ⟨c_bandF0 (by rw [c0]; exact hy), m_bandF (i := 0) (by decide) lm.1.1 hn.1 hy⟩⟩
      · exact ⟨n1, hn.2, fun hy => ⟨c_bandT1 (by rw [c1]; exact hy), fun I2 J2 D2 e => m_bandT (i := 1) (by decide) (by rw [e]; exact lm.1.2) hn.2 hy⟩, fun hy => ⟨c_bandF1 (by rw [c1]; exact hy), m_bandF (i := 1) (by decide) lm.1.2 hn.2 hy⟩⟩
    by_cases hy : 0 ≤ y ∧ y < nI n
    · obtain ⟨q, hq, rfl⟩ := ix_of (m := n) (nI_toInt (by omega)) hy
      obtain ⟨bn, mb⟩ := bnd.1 hy
      obtain ⟨I1, J1, e1, f1, lc, t1⟩ := c_lay (J := J) (D := D) (b0 := -1) (b1 := -1) g c0 c1
      obtain ⟨A, B, e2, hAB⟩ := c_go0 (J := J1) (D := D) g tx lc (fun x y hx hy => (t1 x y hx hy).1)
      have w2 : (upR (upR I1 310 A) 311 B) 317 = I 317 := by rw [uR (by decide), uR (by decide)]; exact f1 317 (Or.inr (by decide))
      obtain ⟨r, er⟩ : ∃ r : Int32, r = if w = 0 then (goW I n0 n1 32 0 0 (fun _ => -1, fun _ => -1)).1 q else (goW I n0 n1 32 0 0 (fun _ => -1, fun _ => -1)).2 q := ⟨_, rfl⟩
      obtain ⟨I3, J3, e3, f3, g3, t3⟩ := m_lay (I := ups (upR (upR I1 310 A) 311 B) 316 0 0) (J := upsL J1 335 0 r.toInt64) (D := D) (b0 := -1) (b1 := -1) g tx (lm.go (by rw [uI (by decide), w2]))
      obtain ⟨F, e4, hF⟩ := m_go0 (I := I3) (J := J3) (D := D) g tx (lm.go (by rw [f3 317 (by decide), uI (by decide), w2])) (fun x y hx hy => (t3 x y hx hy).1)
      have mb' := mb (upR (upR I1 310 A) 311 B) (upsL J1 335 0 r.toInt64) D w2
      refine yk_26 (r := r) (I1 := upR (upR I1 310 A) 311 B) (J1 := J1) (D1 := D) (I2 := upR I3 330 F) (J2 := J3) (D2 := D) sc hx1 hx2 ?_ ?_ ?_ ?_ ?_ ?_ ?_
      · rw [e_116_0, x_row hx, cal_v, kn, e_116_5, bn, cal_v, kn, e_116_11, e1, cal_v, kn, e_116_20, e2, cal_v, kn, e_116_27]
        rcases (show w = 0 ∨ w = 1 by omega) with rfl | rfl
        · rw [decide_eq_false (show ¬ nI 0 ≠ 0 by decide), cond_false, e_116_31, inb_n (show q < 16 by omega) (by decide), cond_true, nI_clamp (by omega), uR (by decide), uRs, e_116_52, (hAB q (by omega)).1, er, if_pos rfl]
        · rw [decide_eq_true (show nI 1 ≠ 0 by decide), cond_true, e_116_43, inb_n (show q < 16 by omega) (by decide), cond_true, nI_clamp (by omega), uRs, e_116_52, (hAB q (by omega)).2, er, if_neg (by decide)]
      · rw [uR (by decide), uR (by decide), f1 iSCL (Or.inr (by decide))]
      · rw [uR (by decide), uR (by decide), f1 1000002 (Or.inr (by decide))]
      · rw [e_220_0, mb', cal_v, ka, e_220_7, x_canT, cal_v, ka, e_220_11, d11, cond_true, e_220_16, e3, cal_v, kn, e_220_22, e4, cal_v, kn, e_220_26, show (16 : Int32) * nI w = nI (16 * w) from pk_mul 16 w, nI_add, inb_n (show 16 * w + q < 32 by omega) (by decide), cond_true, nI_clamp (by omega), uRs]
        rcases (show w = 0 ∨ w = 1 by omega) with rfl | rfl
        · rw [show 16 * 0 + q = q by omega, (hF q (by omega)).1, er, if_pos rfl]
        · rw [show 16 * 1 + q = 16 + q by omega, (hF q (by omega)).2, er, if_neg (by decide)]
      · rw [uR (by decide), f3 316 (by decide), uIs, uUs]
      · rw [g3 335 (by decide)]; exact upsL_s
      · exact inv_st h ((((((Same.l f1).tr (Same.R (by decide))).tr (Same.R (by decide))).tr Same.r).tr (Same.q (by decide) f3)).tr (Same.R (by decide)))
    · obtain ⟨bn, mb⟩ := bnd.2 hy
      refine ye_26_2 (s := 0) (I1 := I) (J1 := J) (D1 := D) (I2 := ups I 316 0 1) (J2 := J) (D2 := D) sc hx1 hx2 ?_ rfl rfl ?_ ?_ (inv_r h)
      · rw [e_116_0, x_row hx, cal_v, kn, e_116_5, bn, cal_e]
      · rw [e_220_0, mb, cal_v, ka, e_220_7, x_canF, cal_v, ka, e_220_11, d01, cond_false, e_220_14]
      · rw [uIs, uUs]
  · have mb := m_bandR (I := I) (J := J) (D := D) (x := x) (v := y) (fun q => hx (p2.mpr q))
    refine ye_26_2 (s := 0) (I1 := I) (J1 := J) (D1 := D) (I2 := ups I 316 0 1) (J2 := J) (D2 := D) sc hx1 hx2 ?_ rfl rfl ?_ ?_ (inv_r h)
    · rw [e_116_0, x_row1 hx, cal_e]
    · rw [e_220_0, mb, cal_v, ka, e_220_7, x_canF, cal_v, ka, e_220_11, d01, cond_false, e_220_14]
    · rw [uIs, uUs]
theorem y_5 {L kk : Nat} {I : Nat → Nat → Int32} {J : Nat → Nat → Int64} {D : Nat → Nat → UInt64} (v : Int32) (h : Inv L kk I J D) (sc : ScOK v I) : TurnY L kk 587 v I J D := by
  obtain ⟨x, hx1⟩ : ∃ q, I 1000002 (v + 1).toNatClampNeg = q := ⟨_, rfl⟩
  obtain ⟨y, hx2⟩ : ∃ q, I 1000002 (v + 2).toNatClampNeg = q := ⟨_, rfl⟩
  obtain ⟨n, g, bo, mo, hf0, hf⟩ := inv_bds h.2.1
  obtain ⟨m, h16, c8, w0, -⟩ := inv_pil h.2.1
  by_cases hx : 0 ≤ x ∧ x ≤ nI m
  · have cx : 0 ≤ x ∧ x ≤ I 8 1 := by rw [c8]; exact hx
    by_cases hy : 0 ≤ y ∧ y ≤ nI m
    · have cy : 0 ≤ y ∧ y ≤ I 8 1 := by rw [c8]; exact hy
      obtain ⟨a, ha, rfl⟩ := pt_of h16 hx
      obtain ⟨b, hb, rfl⟩ := pt_of h16 hy
      obtain ⟨I1, e1, f1⟩ := c_lsum (J := J) (D := D) (th := bT I) (a := b) (b := a) g bo (hth1 g.1) (by omega) (by omega)
      have w1 : I1 317 = I 317 := f1 317 (by decide)
      have far : ∀ J' : Nat → Nat → Int64, ∃ F, ex (167, 0, [.ref 316, .int (-1), dv, dv, dv, dv, dv], [], mm (ups I1 316 0 0) J' D) = some (.inl none, mm (upR (ups I1 316 0 0) 321 F) J' D) ∧ ∀ a b, a < 17 → b < 17 → F (17 * a + b) = fO 100000000 (LSu n (bP I) (bQ I) (bW I) (bT I) b a 16) := fun J' => m_far (th := bT I) g (by rw [uI (by decide), w1]; exact mo) (hth1 g.1) hf
      have mx : 0 ≤ nI a ∧ nI a ≤ I1 317 0 := by rw [w1, w0]; exact hx
      have my : 0 ≤ nI b ∧ nI b ≤ I1 317 0 := by rw [w1, w0]; exact hy
      cases eL : LSu n (bP I) (bQ I) (bW I) (bT I) a b 16 with
      | none =>
        rw [eL] at e1
        obtain ⟨F, e2, f2⟩ := far J
        have f3 := f2 b a (by omega) (by omega)
        rw [eL] at f3
        refine ye_5_3 (s := 0) (I1 := I1) (J1 := J) (D1 := D) (I2 := ups (upR (ups I1 316 0 0) 321 F) 316 0 2) (J2 := J) (D2 := D) sc hx1 hx2 ?_ (by rw [f1 iSCL (by decide)]) (f1 1000002 (by decide)) ?_ (by rw [uIs, uUs]) (inv_st h ((((Same.c f1).tr Same.r).tr (Same.R (by decide))).tr Same.r))
        · rw [e_95_0, e_143_0, c_ptT cy, cal_v, kn, e_143_5, c_ptT cx, cal_v, kn, e_143_10, e1, cal_v, ka, e_143_20, decide_eq_false (show ¬ fO 1000000000 none ≠ 1000000000 from fun w => w rfl), cond_false, e_143_28, cal_e]
        · rw [e_179_0, m_ptT mx, cal_v, ka, e_179_6, d10, cond_false, e_179_9, m_ptT my, cal_v, ka, e_179_14, d10, cond_false, e_179_17, e_179_22, x_canT, cal_v, ka, e_179_26, d11, cond_true, e_179_31, e_178_0, e2, cal_v, kn, e_178_5, m17, inb_n (show 17 * b + a < 289 by omega) (by decide), cond_true, nI_clamp (show 17 * b + a < 2 ^ 31 by omega), uRs, f3, cal_v, ka, e_179_37, decide_eq_true (show fO 100000000 none = 100000000 from rfl), cond_true, e_179_49, e_179_50, x_canF, cal_v, ka, e_179_54, d00, cond_true, e_179_62, e_179_63]
      | some s =>
        have sb := LSu_Bo g 16 b s eL
        have e9 := okF9.1
        have e8 := okF8.1
        rw [eL] at e1
        obtain ⟨r, hr⟩ : ∃ r, r = -Int32.ofInt s := ⟨_, rfl⟩
        obtain ⟨F, e2, f2⟩ := far (upsL J 335 0 r.toInt64)
        have f3 := f2 b a (by omega) (by omega)
        rw [eL] at f3
        refine yk_5 (r := r) (I1 := I1) (J1 := J) (D1 := D) (I2 := ups (upR (ups I1 316 0 0) 321 F) 316 0 0) (J2 := upsL J 335 0 r.toInt64) (D2 := D) sc hx1 hx2 ?_ (by rw [f1 iSCL (by decide)]) (f1 1000002 (by decide)) ?_ (by rw [uIs, uUs]) upsL_s (inv_st h ((((Same.c f1).tr Same.r).tr (Same.R (by decide))).tr Same.r))
        · rw [e_95_0, e_143_0, c_ptT cy, cal_v, kn, e_143_5, c_ptT cx, cal_v, kn, e_143_10, e1, cal_v, ka, e_143_20, decide_eq_true (show fO 1000000000 (some s) ≠ 1000000000 from fO_ne okF9 ⟨by omega, by omega⟩), cond_true, e_143_39, cal_v, ka, e_95_6, hr]; rfl
        · rw [e_179_0, m_ptT mx, cal_v, ka, e_179_6, d10, cond_false, e_179_9, m_ptT my, cal_v, ka, e_179_14, d10, cond_false, e_179_17, e_179_22, x_canT, cal_v, ka, e_179_26, d11, cond_true, e_179_31, e_178_0, e2, cal_v, kn, e_178_5, m17, inb_n (show 17 * b + a < 289 by omega) (by decide), cond_true, nI_clamp (show 17 * b + a < 2 ^ 31 by omega), uRs, f3, cal_v, ka, e_179_37, decide_eq_false (show ¬ fO 100000000 (some s) = 100000000 from fO_ne okF8 ⟨by omega, by omega⟩), cond_false, e_179_45, e_179_50, x_canT, cal_v, ka, e_179_54, d10, cond_false, e_179_57, e_179_63, hr]; rfl
    · have cy : ¬ (0 ≤ y ∧ y ≤ I 8 1) := by rw [c8]; exact hy
      have my : ¬ (0 ≤ y ∧ y ≤ I 317 0) := by rw [w0]; exact hy
      have mx : 0 ≤ x ∧ x ≤ I 317 0 := by rw [w0]; exact hx
      refine ye_5_2 (s := 0) (I1 := I) (J1 := J) (D1 := D) (I2 := ups I 316 0 1) (J2 := J) (D2 := D) sc hx1 hx2 ?_ rfl rfl ?_ (by rw [uIs, uUs]) (inv_r h)
      · rw [e_95_0, e_143_0, c_ptF cy, cal_e, cal_e]
      · rw [e_179_0, m_ptT mx, cal_v, ka, e_179_6, d10, cond_false, e_179_9, m_ptF my, cal_v, ka, e_179_14, d00, cond_true, e_179_21, e_179_22, x_canF, cal_v, ka, e_179_26, d01, cond_false, e_179_29]
  · have cx : ¬ (0 ≤ x ∧ x ≤ I 8 1) := by rw [c8]; exact hx
    have mx : ¬ (0 ≤ x ∧ x ≤ I 317 0) := by rw [w0]; exact hx
    refine ye_5_2 (s := 0) (I1 := I) (J1 := J) (D1 := D) (I2 := ups I 316 0 1) (J2 := J) (D2 := D) sc hx1 hx2 ?_ rfl rfl ?_ (by rw [uIs, uUs]) (inv_r h)
    · by_cases hy : 0 ≤ y ∧ y ≤ I 8 1
      · rw [e_95_0, e_143_0, c_ptT hy, cal_v, kn, e_143_5, c_ptF cx, cal_e, cal_e]
      · rw [e_95_0, e_143_0, c_ptF hy, cal_e, cal_e]
    · rw [e_179_0, m_ptF mx, cal_v, ka, e_179_6, d00, cond_true, e_179_21, e_179_22, x_canF, cal_v, ka, e_179_26, d01, cond_false, e_179_29]
theorem y_6 {L kk : Nat} {I : Nat → Nat → Int32} {J : Nat → Nat → Int64} {D : Nat → Nat → UInt64} (v : Int32) (h : Inv L kk I J D) (sc : ScOK v I) : TurnY L kk 655 v I J D := by
  obtain ⟨x, hx1⟩ : ∃ q, I 1000002 (v + 1).toNatClampNeg = q := ⟨_, rfl⟩
  obtain ⟨y, hx2⟩ : ∃ q, I 1000002 (v + 2).toNatClampNeg = q := ⟨_, rfl⟩
  obtain ⟨n, g, bo, mo, hf0, hf⟩ := inv_bds h.2.1
  obtain ⟨m, h16, c8, w0, -⟩ := inv_pil h.2.1
  by_cases hx : 0 ≤ x ∧ x ≤ nI m
  · have cx : 0 ≤ x ∧ x ≤ I 8 1 := by rw [c8]; exact hx
    by_cases hy : 0 ≤ y ∧ y ≤ nI m
    · have cy : 0 ≤ y ∧ y ≤ I 8 1 := by rw [c8]; exact hy
      obtain ⟨a, ha, rfl⟩ := pt_of h16 hx
      obtain ⟨b, hb, rfl⟩ := pt_of h16 hy
      obtain ⟨I1, e1, f1⟩ := c_lsum (J := J) (D := D) (th := bT I) (a := a) (b := b) g bo (hth1 g.1) (by omega) (by omega)
      have w1 : I1 317 = I 317 := f1 317 (by decide)
      have far : ∀ J' : Nat → Nat → Int64, ∃ F, ex (167, 0, [.ref 316, .int (-1), dv, dv, dv, dv, dv], [], mm (ups I1 316 0 0) J' D) = some (.inl none, mm (upR (ups I1 316 0 0) 321 F) J' D) ∧ ∀ a b, a < 17 → b < 17 → F (17 * a + b) = fO 100000000 (LSu n (bP I) (bQ I) (bW I) (bT I) b a 16) := fun J' => m_far (th := bT I) g (by rw [uI (by decide), w1]; exact mo) (hth1 g.1) hf
      have mx : 0 ≤ nI a ∧ nI a ≤ I1 317 0 := by rw [w1, w0]; exact hx
      have my : 0 ≤ nI b ∧ nI b ≤ I1 317 0 := by rw [w1, w0]; exact hy
      cases eL : LSu n (bP I) (bQ I) (bW I) (bT I) b a 16 with
      | none =>
        rw [eL] at e1
        obtain ⟨F, e2, f2⟩ := far J
        have f3 := f2 a b (by omega) (by omega)
        rw [eL] at f3
        refine ye_6_3 (s := 0) (I1 := I1) (J1 := J) (D1 := D) (I2 := ups (upR (ups I1 316 0 0) 321 F) 316 0 2) (J2 := J) (D2 := D) sc hx1 hx2 ?_ (by rw [f1 iSCL (by decide)]) (f1 1000002 (by decide)) ?_ (by rw [uIs, uUs]) (inv_st h ((((Same.c f1).tr Same.r).tr (Same.R (by decide))).tr Same.r))
        · rw [e_96_0, e_143_0, c_ptT cx, cal_v, kn, e_143_5, c_ptT cy, cal_v, kn, e_143_10, e1, cal_v, ka, e_143_20, decide_eq_false (show ¬ fO 1000000000 none ≠ 1000000000 from fun w => w rfl), cond_false, e_143_28, cal_e]
        · rw [e_180_0, m_ptT mx, cal_v, ka, e_180_6, d10, cond_false, e_180_9, m_ptT my, cal_v, ka, e_180_14, d10, cond_false, e_180_17, e_180_22, x_canT, cal_v, ka, e_180_26, d11, cond_true, e_180_31, e_178_0, e2, cal_v, kn, e_178_5, m17, inb_n (show 17 * a + b < 289 by omega) (by decide), cond_true, nI_clamp (show 17 * a + b < 2 ^ 31 by omega), uRs, f3, cal_v, ka, e_180_37, decide_eq_true (show fO 100000000 none = 100000000 from rfl), cond_true, e_180_49, e_180_50, x_canF, cal_v, ka, e_180_54, d00, cond_true, e_180_61, e_180_62]
      | some s =>
        have sb := LSu_Bo g 16 a s eL
        have e9 := okF9.1
        have e8 := okF8.1
        rw [eL] at e1
        obtain ⟨r, hr⟩ : ∃ r, r = Int32.ofInt s := ⟨_, rfl⟩
        obtain ⟨F, e2, f2⟩ := far (upsL J 335 0 r.toInt64)
        have f3 := f2 a b (by omega) (by omega)
        rw [eL] at f3
        refine yk_6 (r := r) (I1 := I1) (J1 := J) (D1 := D) (I2 := ups (upR (ups I1 316 0 0) 321 F) 316 0 0) (J2 := upsL J 335 0 r.toInt64) (D2 := D) sc hx1 hx2 ?_ (by rw [f1 iSCL (by decide)]) (f1 1000002 (by decide)) ?_ (by rw [uIs, uUs]) upsL_s (inv_st h ((((Same.c f1).tr Same.r).tr (Same.R (by decide))).tr Same.r))
        · rw [e_96_0, e_143_0, c_ptT cx, cal_v, kn, e_143_5, c_ptT cy, cal_v, kn, e_143_10, e1, cal_v, ka, e_143_20, decide_eq_true (show fO 1000000000 (some s) ≠ 1000000000 from fO_ne okF9 ⟨by omega, by omega⟩), cond_true, e_143_39, cal_v, ka, e_96_6, hr]; rfl
        · rw [e_180_0, m_ptT mx, cal_v, ka, e_180_6, d10, cond_false, e_180_9, m_ptT my, cal_v, ka, e_180_14, d10, cond_false, e_180_17, e_180_22, x_canT, cal_v, ka, e_180_26, d11, cond_true, e_180_31, e_178_0, e2, cal_v, kn, e_178_5, m17, inb_n (show 17 * a + b < 289 by omega) (by decide), cond_true, nI_clamp (show 17 * a + b < 2 ^ 31 by omega), uRs, f3, cal_v, ka, e_180_37, decide_eq_false (show ¬ fO 100000000 (some s) = 100000000 from fO_ne okF8 ⟨by omega, by omega⟩), cond_false, e_180_45, e_180_50, x_canT, cal_v, ka, e_180_54, d10, cond_false, e_180_57, e_180_62, hr]; rfl
    · have cy : ¬ (0 ≤ y ∧ y ≤ I 8 1) := by rw [c8]; exact hy
      have my : ¬ (0 ≤ y ∧ y ≤ I 317 0) := by rw [w0]; exact hy
      have mx : 0 ≤ x ∧ x ≤ I 317 0 := by rw [w0]; exact hx
      refine ye_6_2 (s := 0) (I1 := I) (J1 := J) (D1 := D) (I2 := ups I 316 0 1) (J2 := J) (D2 := D) sc hx1 hx2 ?_ rfl rfl ?_ (by rw [uIs, uUs]) (inv_r h)
      · rw [e_96_0, e_143_0, c_ptT cx, cal_v, kn, e_143_5, c_ptF cy, cal_e, cal_e]
      · rw [e_180_0, m_ptT mx, cal_v, ka, e_180_6, d10, cond_false, e_180_9, m_ptF my, cal_v, ka, e_180_14, d00, cond_true, e_180_21, e_180_22, x_canF, cal_v, ka, e_180_26, d01, cond_false, e_180_29]
  · have cx : ¬ (0 ≤ x ∧ x ≤ I 8 1) := by rw [c8]; exact hx
    have mx : ¬ (0 ≤ x ∧ x ≤ I 317 0) := by rw [w0]; exact hx
    refine ye_6_2 (s := 0) (I1 := I) (J1 := J) (D1 := D) (I2 := ups I 316 0 1) (J2 := J) (D2 := D) sc hx1 hx2 ?_ rfl rfl ?_ (by rw [uIs, uUs]) (inv_r h)
    · rw [e_96_0, e_143_0, c_ptF cx, cal_e, cal_e]
    · rw [e_180_0, m_ptF mx, cal_v, ka, e_180_6, d00, cond_true, e_180_21, e_180_22, x_canF, cal_v, ka, e_180_26, d01, cond_false, e_180_29]
theorem y_4 {L kk : Nat} {I : Nat → Nat → Int32} {J : Nat → Nat → Int64} {D : Nat → Nat → UInt64} (v : Int32) (h : Inv L kk I J D) (sc : ScOK v I) : TurnY L kk 524 v I J D := by
  obtain ⟨x, hx1⟩ : ∃ q, I 1000002 (v + 1).toNatClampNeg = q := ⟨_, rfl⟩
  obtain ⟨n, g, bo, mo, hf0, hf⟩ := inv_bds h.2.1
  have n50 := g.1
  by_cases hx : 0 ≤ x ∧ x < nI n
  · obtain ⟨c, hc, rfl⟩ := ix_of (m := n) (nI_toInt (by omega)) hx
    obtain ⟨b3, b4, b5, b6⟩ := bo.2 c hc
    obtain ⟨-, -, -, w6⟩ := mo.2 c hc
    obtain ⟨⟨p17, q17, pq⟩, w1, w2⟩ := g.2 c hc
    cases ht : bT I c with
    | false =>
      rw [ht] at b6 w6
      refine ye_4_0 (s := 0) (I1 := I) (J1 := J) (D1 := D) (I2 := ups I 316 0 2) (J2 := J) (D2 := D) sc hx1 ?_ rfl rfl ?_ (by rw [uIs, uUs]) (inv_r h)
      · rw [e_94_0, c_nbF bo.1 n50 hc b6, cal_e]
      · rw [e_177_0, m_nbF mo.1 n50 hc w6, cal_v, ka, e_177_5, d01, cond_false, e_177_8]
    | true =>
      rw [ht] at b6 w6
      have hs : ∀ k, k < n → (fun k => bT I k && !decide (nI k = nI c)) k = (bT I k && !decide (nI k = nI c)) := fun _ _ => rfl
      obtain ⟨I1, e1, f1⟩ := c_lsum (J := J) (D := D) (a := bP I c) (b := bQ I c) g bo hs p17 q17
      have key := fol_iff (tc := fun k => bT I k && !decide (nI k = nI c)) hf g hc ht hs
      have wI1 : I1 317 = I 317 := f1 317 (by decide)
      -- the book's answer
      have okb : ∀ r : Bool, ((∃ s, LSu n (bP I) (bQ I) (bW I) (fun k => bT I k && !decide (nI k = nI c)) (bQ I c) (bP I c) 16 = some s ∧ s ≤ bW I c) ↔ r = true) → ex (94, 0, [.ref 0, .int (nI c), dv], [], mm I J D) = some (.inl (some (.int (bI r))), mm I1 J D) := fun r hr => by
        have lt := fO_lt okF9 ((LSu_Bo (th := fun k => bT I k && !decide (nI k = nI c)) (b := bQ I c) g 16 (bP I c)).fr okF9 (by omega)) (v := bW I c) ⟨by omega, by have := okF9.1; omega⟩
        rw [e_94_0, c_nbT bo.1 n50 hc b6, cal_v, kn, e_94_5, inb_n (show c < 50 by omega) (by decide), cond_true, cond_true, nI_clamp (show c < 2 ^ 31 by omega), b3, b4, e1, cal_v, ka, e_94_33, inb_n (show c < 50 by omega) (by decide), cond_true, nI_clamp (show c < 2 ^ 31 by omega), f1 5 (by decide), b5]
        cases r with
        | true =>
          obtain ⟨s, e2, l2⟩ := hr.mpr rfl
          rw [decide_eq_false (fun w => by have := lt.mp w s e2; omega), cond_false, e_94_42, e_94_47, decide_eq_true (Or.inr rfl), cond_true]; rfl
        | false =>
          rw [decide_eq_true (lt.mpr (fun s e2 => by
            by_cases q : bW I c < s
            · exact q
            · exact absurd (hr.mp ⟨s, e2, by omega⟩) (by decide))), cond_true, e_94_46, e_94_47, decide_eq_true (Or.inl rfl), cond_true]; rfl
      have hf2 : Feas n (bP I) (bQ I) (bW I) (fun k => bT I k && !decide (nI k = nI c)) hf0 := fun k hk e => hf k hk (by
        have e : (bT I k && !decide (nI k = nI c)) = true := e
        rw [Bool.and_eq_true] at e; exact e.1)
      -- the model's tables
      have tabs : ∀ J' : Nat → Nat → Int64, ∃ I2 : Nat → Nat → Int32, (∀ r : Int32, ex (177, 49, [.ref 316, dv, .int (nI 0)], [], mm I2 J' D) = some (.inl (some (.int r)), mm I2 J' D) → ex (177, 0, [.ref 316, .int (nI c), dv], [], mm I1 J' D) = some (.inl (some (.int r)), mm I2 J' D)) ∧ I2 316 0 = 0 ∧ Same I1 I2 ∧ (∀ a b, a < 17 → b < 17 → I2 322 (17 * a + b) = fO 100000000 (LSu n (bP I) (bQ I) (bW I) (fun k => bT I k && !decide (nI k = nI c)) b a 16)) ∧ ∀ a b, a < 17 → b < 17 → I2 321 (17 * a + b) = fO 100000000 (LSu n (bP I) (bQ I) (bW I) (bT I) b a 16) := fun J' => by
        obtain ⟨F1, m1, k1⟩ := m_far (I := ups I1 316 0 0) (J := J') (D := D) g (by rw [uI (by decide), wI1]; exact mo) hs hf2
        have m2 := m_cpy (I := upR (ups I1 316 0 0) 321 F1) (J := J') (D := D) 289 0 (by omega)
        rw [lpN_z0] at m2
        obtain ⟨I3, hI3⟩ : ∃ I3, I3 = upR (upR (ups I1 316 0 0) 321 F1) 322 (lpN ((upR (ups I1 316 0 0) 321 F1) 321) ((upR (ups I1 316 0 0) 321 F1) 322) 289) := ⟨_, rfl⟩
        rw [← hI3] at m2
        obtain ⟨F2, m3, k2⟩ := m_far (I := I3) (J := J') (D := D) (th := bT I) g (by rw [hI3, uR (by decide), uR (by decide), uI (by decide), wI1]; exact mo) (hth1 n50) hf
        refine ⟨upR I3 321 F2, fun r m4 => ?_, ?_, ?_, fun a b ha hb => ?_, fun a b ha hb => ?_⟩
        · rw [e_177_0, m_nbT (by rw [wI1]; exact mo.1) n50 hc (by rw [wI1]; exact w6), cal_v, ka, e_177_5, d11, cond_true, e_177_10, m1, cal_v, kn, e_177_15]
          rw [show ex (177, 17, [.ref 316, dv, .int 0], [], mm (upR (ups I1 316 0 0) 321 F1) J' D) = _ from m2, e_177_42, m3, cal_v, kn, e_177_47]
          exact m4
        · rw [uR (by decide), hI3, uR (by decide), uR (by decide), uIs, uUs]
        · rw [hI3]; exact ((Same.r.tr (Same.R (by decide))).tr (Same.R (by decide))).tr (Same.R (by decide))
        · rw [uR (by decide), hI3, uRs]
          unfold lpN
          rw [if_pos (by omega), uRs, k1 a b ha hb]
        · rw [uRs, k2 a b ha hb]
      by_cases hall : ∀ a b, a < 17 → b < 17 → LSu n (bP I) (bQ I) (bW I) (fun k => bT I k && !decide (nI k = nI c)) b a 16 = LSu n (bP I) (bQ I) (bW I) (bT I) b a 16
      · obtain ⟨I2, m1, m2, m3, m4, m5⟩ := tabs (upsL J 335 0 (bI true).toInt64)
        refine yk_4 (r := true) (I1 := I1) (J1 := J) (D1 := D) (I2 := I2) (J2 := upsL J 335 0 (bI true).toInt64) (D2 := D) sc hx1 (okb true ⟨fun _ => rfl, fun _ => key.mpr hall⟩) (by rw [f1 iSCL (by decide)]) (f1 1000002 (by decide)) (m1 1 (m_cmpT (fun j hj => ?_) 289 0 (by omega))) m2 upsL_s (inv_st h ((Same.c f1).tr m3))
        have e : j = 17 * (j / 17) + j % 17 := by omega
        rw [e, m4 _ _ (by omega) (by omega), m5 _ _ (by omega) (by omega), hall _ _ (by omega) (by omega)]
      · obtain ⟨I2, m1, m2, m3, m4, m5⟩ := tabs (upsL J 335 0 (bI false).toInt64)
        have hex : ∃ a b, (a < 17 ∧ b < 17) ∧ LSu n (bP I) (bQ I) (bW I) (fun k => bT I k && !decide (nI k = nI c)) b a 16 ≠ LSu n (bP I) (bQ I) (bW I) (bT I) b a 16 := Classical.byContradiction (fun hno => hall (fun a b ha hb => Classical.byContradiction (fun hne => hno ⟨a, b, ⟨ha, hb⟩, hne⟩)))
        obtain ⟨a, b, ⟨ha, hb⟩, hne⟩ := hex
        refine yk_4 (r := false) (I1 := I1) (J1 := J) (D1 := D) (I2 := I2) (J2 := upsL J 335 0 (bI false).toInt64) (D2 := D) sc hx1 (okb false ⟨fun q => absurd (key.mp q) hall, fun q => by cases q⟩) (by rw [f1 iSCL (by decide)]) (f1 1000002 (by decide)) (m1 0 (m_cmpF (j := 17 * a + b) (by omega) (fun e => hne ?_) 289 0 (by omega) (Nat.zero_le _))) m2 upsL_s (inv_st h ((Same.c f1).tr m3))
        rw [m4 _ _ ha hb, m5 _ _ ha hb] at e
        exact (fO_inj okF8 ((LSu_Bo g 16 a).fr okF8 (by omega)) ((LSu_Bo g 16 a).fr okF8 (by omega))).mp e
  · refine ye_4_2 (s := 0) (I1 := I) (J1 := J) (D1 := D) (I2 := ups I 316 0 1) (J2 := J) (D2 := D) sc hx1 ?_ rfl rfl ?_ (by rw [uIs, uUs]) (inv_r h)
    · rw [e_94_0, c_nbO bo.1 hx, cal_e]
    · rw [e_177_0, m_nbO mo.1 n50 hx, cal_v, ka, e_177_5, d01, cond_false, e_177_8]
theorem y_1 {L kk : Nat} {I : Nat → Nat → Int32} {J : Nat → Nat → Int64} {D : Nat → Nat → UInt64} (v : Int32) (h : Inv L kk I J D) (sc : ScOK v I) : TurnY L kk 308 v I J D := by
  obtain ⟨x, hx1⟩ : ∃ q, I 1000002 (v + 1).toNatClampNeg = q := ⟨_, rfl⟩
  obtain ⟨y, hx2⟩ : ∃ q, I 1000002 (v + 2).toNatClampNeg = q := ⟨_, rfl⟩
  obtain ⟨z, hx3⟩ : ∃ q, I 1000002 (v + 3).toNatClampNeg = q := ⟨_, rfl⟩
  obtain ⟨I1, qq, hcase⟩ := a_1 (J := J) (D := D) (inv_to h) x y z
  have q1 : I1 iSCL 0 = I iSCL 0 := by rw [qq iSCL (by decide)]
  have q2 := qq 1000002 (by decide)
  rcases hcase with ⟨r, e1, nx⟩ | ⟨E, c, hE, e1, nx⟩
  · obtain ⟨I2, e2, q3, i2⟩ := nx (upsL J 335 0 r.toInt64) D I1 MPt.z
    exact yk_1 sc hx1 hx2 hx3 e1 q1 q2 e2 q3 upsL_s (inv_of h i2)
  · obtain ⟨s, I2, e2, q3, i2⟩ := nx J D I1 MPt.z
    rcases hE with ⟨rfl, rfl⟩ | ⟨rfl, rfl⟩ | ⟨rfl, rfl⟩
    · exact ye_1_2 sc hx1 hx2 hx3 e1 q1 q2 e2 q3 (inv_of h i2)
    · exact ye_1_1 sc hx1 hx2 hx3 e1 q1 q2 e2 q3 (inv_of h i2)
    · exact ye_1_0 sc hx1 hx2 hx3 e1 q1 q2 e2 q3 (inv_of h i2)
theorem y_2 {L kk : Nat} {I : Nat → Nat → Int32} {J : Nat → Nat → Int64} {D : Nat → Nat → UInt64} (v : Int32) (h : Inv L kk I J D) (sc : ScOK v I) : TurnY L kk 388 v I J D := by
  obtain ⟨x, hx1⟩ : ∃ q, I 1000002 (v + 1).toNatClampNeg = q := ⟨_, rfl⟩
  obtain ⟨y, hx2⟩ : ∃ q, I 1000002 (v + 2).toNatClampNeg = q := ⟨_, rfl⟩
  obtain ⟨z, hx3⟩ : ∃ q, I 1000002 (v + 3).toNatClampNeg = q := ⟨_, rfl⟩
  obtain ⟨I1, qq, hcase⟩ := a_2 (J := J) (D := D) (inv_to h) x y z
  have q1 : I1 iSCL 0 = I iSCL 0 := by rw [qq iSCL (by decide)]
  have q2 := qq 1000002 (by decide)
  rcases hcase with ⟨r, e1, nx⟩ | ⟨E, c, hE, e1, nx⟩
  · obtain ⟨I2, e2, q3, i2⟩ := nx (upsL J 335 0 r.toInt64) D I1 MPt.z
    exact yk_2 sc hx1 hx2 hx3 e1 q1 q2 e2 q3 upsL_s (inv_of h i2)
  · obtain ⟨s, I2, e2, q3, i2⟩ := nx J D I1 MPt.z
    rcases hE with ⟨rfl, rfl⟩ | ⟨rfl, rfl⟩ | ⟨rfl, rfl⟩
    · exact ye_2_2 sc hx1 hx2 hx3 e1 q1 q2 e2 q3 (inv_of h i2)
    · exact ye_2_1 sc hx1 hx2 hx3 e1 q1 q2 e2 q3 (inv_of h i2)
    · exact ye_2_0 sc hx1 hx2 hx3 e1 q1 q2 e2 q3 (inv_of h i2)
theorem y_44 {L kk : Nat} {I : Nat → Nat → Int32} {J : Nat → Nat → Int64} {D : Nat → Nat → UInt64} (v : Int32) (h : Inv L kk I J D) : TurnY L kk 2864 v I J D := by
  obtain ⟨n, c, ch, h3, h8, tb, tm⟩ := inv_txt0 h.2.2.2.1
  obtain ⟨I1, e1, f1, f2, wd⟩ := c_words (J := J) (D := D) ch h3 tb
  have tb1 : Txt c n (I1 313) := by rw [f1 313 (by decide) (by decide) (by decide)]; exact tb
  have i16 : I1 316 = I 316 := f1 316 (by decide) (by decide) (by decide)
  obtain ⟨I2, e2, g1, g2, -⟩ := m_flt (I := ups I1 316 0 0) (J := J) (D := D) ch (by rw [uIs, uU (by decide), i16]; exact h8) (by rw [uI (by decide), f1 320 (by decide) (by decide) (by decide)]; exact tm)
  have far : ∀ p, p ≠ 312 → p ≠ 314 → p ≠ 315 → p ≠ 316 → p ≠ 333 → p ≠ 334 → I2 p = I p := fun p h1 h2 h3 h4 h5 h6 => by rw [g1 p h4 h5 h6, uI h4, f1 p h1 h2 h3]
  refine yq_44 (r := fltV c n) (I1 := I1) (J1 := J) (D1 := D) (I2 := I2) (J2 := J) (D2 := D) ?_ ?_ (inv_txt h (fun p hp => far p (by omega) (by omega) (by omega) (by omega) (by omega) (by omega)) (fun p hp hp2 => far p (by omega) (by omega) (by omega) (by omega) (by omega) (by omega)) (fun j h1 _ h4 => by rw [g2 j h4, uIs, uU h1, i16]) (by rw [far iSCL (by decide) (by decide) (by decide) (by decide) (by decide) (by decide)]) ?_)
  · rw [e_134_0, e1, cal_v, kn, e_134_7, c_flt ch tb1 wd, cal_v, ka, e_134_14]
  · rw [e_263_0, e2, cal_v, ka, e_263_9]
  · refine txt_stay h.2.2.2.1 ?_ ?_ ?_ ?_
    · rw [g1 312 (by decide) (by decide) (by decide), uI (by decide), f2 3 (by decide)]
    · rw [far 313 (by decide) (by decide) (by decide) (by decide) (by decide) (by decide)]
    · rw [g2 8 (by decide), uIs, uU (by decide), i16]
    · rw [far 320 (by decide) (by decide) (by decide) (by decide) (by decide) (by decide)]
theorem y_45 {L kk : Nat} {I : Nat → Nat → Int32} {J : Nat → Nat → Int64} {D : Nat → Nat → UInt64} (v : Int32) (h : Inv L kk I J D) : TurnY L kk 2877 v I J D := by
  obtain ⟨n, c, ch, h3, h8, tb, tm⟩ := inv_txt0 h.2.2.2.1
  obtain ⟨I1, e1, f1, f2, wd⟩ := c_words (J := J) (D := D) ch h3 tb
  have tb1 : Txt c n (I1 313) := by rw [f1 313 (by decide) (by decide) (by decide)]; exact tb
  obtain ⟨Ib, hIb⟩ : ∃ Ib, Ib = ups I1 312 3 0 := ⟨_, rfl⟩
  have fb : ∀ p, p ≠ 312 → p ≠ 314 → p ≠ 315 → Ib p = I p := fun p q1 q2 q3 => by rw [hIb, uI q1, f1 p q1 q2 q3]
  have b0 : Ib 312 3 = 0 := by rw [hIb, uIs, uUs]
  have h0 : Inv0 L kk Ib := inv0_312 (inv_to h) fb
  have i16 : Ib 316 = I 316 := fb 316 (by decide) (by decide) (by decide)
  have i20 : Ib 320 = I 320 := fb 320 (by decide) (by decide) (by decide)
  have nr : ∀ j, j < 40 → ex (88, 0, [.ref 312, .int (nI j), dv, dv], [], mm I1 J D) = some (.inl (some (.int (nor c n j))), mm I1 J D) := fun j hj => c_nor ch tb1 wd hj
  -- the book, as far as its line
  have bk : ∀ (s : Int32), (fltV c n = -1 → s = 0) → (fltV c n ≠ -1 → s = 1) → ex (135, 0, [.ref 0, dv, dv, dv, dv, dv], [], mm I J D) = bif decide (s = 0) then ex (135, 84, [.ref 0, dv, .int (kdI (kdo c n)), .int (nor c n 1), .int (nor c n 2), .int (nor c n 3)], [], mm Ib J D) else ex (135, 73, [dv, dv, dv, dv, dv, dv], [], mm Ib J D) := fun s s1 s2 => by
    have t : ex (135, 14, [.ref 0, dv, dv, dv, dv, dv], [.int (fltV c n)], mm I1 J D) = ex (135, 23, [.ref 0, dv, dv, dv, dv, dv], [.int s], mm I1 J D) := by
      rw [e_135_14]
      by_cases q : fltV c n = -1
      · rw [decide_eq_true q, cond_true, e_135_22, s1 q]
      · rw [decide_eq_false q, cond_false, e_135_18, s2 q]
    rw [e_135_0, e1, cal_v, kn, e_135_7, c_flt ch tb1 wd, cal_v, ka, t, e_135_23, c_kind ch tb1 wd, cal_v, ka, e_135_31]
    rw [show ex (88, 0, [.ref 312, .int 1, dv, dv], [], mm I1 J D) = _ from nr 1 (by decide), cal_v, ka, e_135_40]
    rw [show ex (88, 0, [.ref 312, .int 2, dv, dv], [], mm I1 J D) = _ from nr 2 (by decide), cal_v, ka, e_135_49]
    rw [show ex (88, 0, [.ref 312, .int 3, dv, dv], [], mm I1 J D) = _ from nr 3 (by decide), cal_v, ka, e_135_59, ← hIb]
  by_cases hf : fltV c n = -1
  · obtain ⟨k, hk, k6, hW, hz⟩ := flt_no hf
    have bk := bk 0 (fun _ => rfl) (fun w => absurd hf w)
    rw [decide_eq_true rfl, cond_true, hk, show kdI (some k) = nI k from rfl, e_135_84] at bk
    -- the model, as far as its line
    have md : ∀ (Ia : Nat → Nat → Int32) (J2 : Nat → Nat → Int64) (D2 : Nat → Nat → UInt64), (∀ p, 316 ≤ p → Ia p = Ib p) → ∃ I7, MPt Ia I7 ∧ ∀ (r : Int32) (I2 : Nat → Nat → Int32) (cc : Int32), ex (264, 52, [.ref 316, .int (nI k), .int (nor c n 1), .int (nor c n 2), .int (nor c n 3)], [.int (nI k)], mm I7 J2 D2) = some (.inl (some (.int r)), mm I2 J2 D2) → I2 316 0 = cc → ex (265, 0, [.ref 316, dv, dv, dv], [], mm Ia J2 D2) = some (.inl (some (.int r)), mm (ups (ups I2 316 8 0) 316 0 (rmp k cc)) J2 D2) := fun Ia J2 D2 hI => by
      obtain ⟨I6, m1, m2, m3, m4⟩ := m_flt (I := Ia) (J := J2) (D := D2) ch (by rw [hI 316 (by decide), i16]; exact h8) (by rw [hI 320 (by decide), i20]; exact tm)
      have t6 : Txt c n (I6 320) := by rw [m2 320 (by decide) (by decide) (by decide), hI 320 (by decide), i20]; exact tm
      have wd6 : WdM c n (ups I6 316 0 0) := ⟨by rw [uIs, uU (by decide)]; exact m4.1, fun j hj => by rw [uI (by decide), uI (by decide)]; exact m4.2 j hj⟩
      refine ⟨ups I6 316 0 0, ⟨fun p q1 q2 q3 => by rw [uI q1]; exact m2 p q1 q2 q3, fun j q1 q2 => by rw [uIs, uU q1]; exact m3 j q2⟩, fun r I2 cc e2 q => ?_⟩
      rw [e_265_0, m1, cal_v, ka, e_265_4, hf, decide_eq_false (show ¬ (-1 : Int32) ≠ -1 from fun w => w rfl), cond_false, e_265_8, e_265_13, m_kind ch t6 m4, hk, show kdI (some k) = nI k from rfl, cal_v, ka, e_265_18, x_canT, cal_v, ka, e_265_25, d11, cond_true, e_265_35, m_does ch (by rw [uI (by decide)]; exact t6) wd6 k6 hW hz, e2, cal_v, ka]
      exact m_aft k6 q
    have fin : ∀ (I2 : Nat → Nat → Int32) (q : Int32) (J2 : Nat → Nat → Int64) (D2 : Nat → Nat → UInt64), Inv0 L (kk + 1) I2 ∧ TxtKeep Ib I2 → Inv L (kk + 1) (ups (ups I2 316 8 0) 316 0 q) J2 D2 := fun I2 q J2 D2 w => inv_fin w.1 w.2 b0 (fun p hp => by rw [uI hp, uI hp]) (fun j q1 q2 => by rw [uIs, uU q1, uIs, uU q2]) (by rw [uIs, uU (by decide), uIs, uUs])
    obtain ⟨Ia, qa, ⟨r, g1, nx⟩ | ⟨E, cc, hE, g1, nx⟩⟩ := ln_ok (J := J) (D := D) h0 k6 (nor c n 1) (nor c n 2) (nor c n 3)
    · obtain ⟨I7, p7, m7⟩ := md Ia (upsL J 335 0 r.toInt64) D qa
      obtain ⟨I2, g2, g3, g4⟩ := nx (upsL J 335 0 r.toInt64) D I7 p7
      have m8 := m7 r I2 0 g2 g3
      have z : rmp k 0 = 0 := by
        unfold rmp
        rw [if_neg (fun w => absurd w.2 (by decide)), if_neg (by decide), if_neg (by decide)]
      refine yk_45 (r := r) (I1 := Ia) (J1 := J) (D1 := D) (I2 := ups (ups I2 316 8 0) 316 0 (rmp k 0)) (J2 := upsL J 335 0 r.toInt64) (D2 := D) ?_ ?_ ?_ m8 (by rw [uIs, uUs, z]) upsL_s (fin I2 _ _ _ g4)
      · rw [bk, g1, cal_v, ka, e_135_94]
      · rw [qa iSCL (by decide), fb iSCL (by decide) (by decide) (by decide)]
      · rw [qa 1000002 (by decide), fb 1000002 (by decide) (by decide) (by decide)]
    · obtain ⟨I7, p7, m7⟩ := md Ia J D qa
      obtain ⟨s, I2, g2, g3, g4⟩ := nx J D I7 p7
      have m8 := m7 s I2 cc g2 g3
      have bk2 : ex (135, 0, [.ref 0, dv, dv, dv, dv, dv], [], mm I J D) = some (.inr (.inl E), mm Ia J D) := by rw [bk, g1, cal_e]
      have q1 : Ia iSCL 0 = I iSCL 0 := by rw [qa iSCL (by decide), fb iSCL (by decide) (by decide) (by decide)]
      have q2 : Ia 1000002 = I 1000002 := by rw [qa 1000002 (by decide), fb 1000002 (by decide) (by decide) (by decide)]
      rcases hE with ⟨k5, ⟨rfl, rfl⟩ | ⟨rfl, rfl⟩ | ⟨rfl, rfl⟩⟩ | ⟨k5, rfl, rfl⟩
      · refine ye_45_2 bk2 q1 q2 m8 ?_ (fin I2 _ _ _ g4)
        rw [uIs, uUs]; unfold rmp; rw [if_neg (fun w => by omega), if_pos rfl]
      · refine ye_45_1 bk2 q1 q2 m8 ?_ (fin I2 _ _ _ g4)
        rw [uIs, uUs]; unfold rmp; rw [if_neg (fun w => by omega), if_neg (by decide), if_pos rfl]
      · refine ye_45_0 bk2 q1 q2 m8 ?_ (fin I2 _ _ _ g4)
        rw [uIs, uUs]; unfold rmp; rw [if_neg (fun w => by omega), if_neg (by decide), if_neg (by decide)]
      · refine ye_45_0 bk2 q1 q2 m8 ?_ (fin I2 _ _ _ g4)
        rw [uIs, uUs]; unfold rmp; rw [if_pos ⟨k5, rfl⟩]
  · have bk := bk 1 (fun w => absurd w hf) (fun _ => rfl)
    rw [d10, cond_false, e_135_73] at bk
    obtain ⟨I6, m1, m2, m3, m4⟩ := m_flt (I := Ib) (J := J) (D := D) ch (by rw [i16]; exact h8) (by rw [i20]; exact tm)
    have t6 : Txt c n (I6 320) := by rw [m2 320 (by decide) (by decide) (by decide), i20]; exact tm
    have w := inv0_mpt (r := 1) h0 (⟨m2, fun j _ q => m3 j q⟩ : MPt Ib I6)
    refine ye_45_1 (s := 0) (I2 := ups (ups I6 316 0 1) 316 8 0) (J2 := J) (D2 := D) bk (by rw [fb iSCL (by decide) (by decide) (by decide)]) (fb 1000002 (by decide) (by decide) (by decide)) ?_ (by rw [uIs, uU (by decide), uIs, uUs]) (inv_fin w.1 w.2 b0 (fun p hp => by rw [uI hp]) (fun j _ q2 => by rw [uIs, uU q2]) (by rw [uIs, uUs]))
    rw [e_265_0, m1, cal_v, ka, e_265_4, decide_eq_true hf, cond_true, e_265_12, e_265_13, m_kind ch t6 m4, cal_v, ka, e_265_18, x_canF, cal_v, ka, e_265_25, d01, cond_false, e_265_28]
theorem y_16 {L kk : Nat} {I : Nat → Nat → Int32} {J : Nat → Nat → Int64} {D : Nat → Nat → UInt64} (v : Int32) (h : Inv L kk I J D) : TurnY L kk 1098 v I J D := by
  obtain ⟨n, h16, c8, w0, hin, hT, hW, hr⟩ := inv_pil h.2.1
  obtain ⟨rk, hr⟩ := clo_rank hr
  have hin2 : In n (clo (TI I)) := wsh_in hin 16
  by_cases h14 : n ≤ 14
  · have b14 := p14 h14
    obtain ⟨I1, d1, d2, d3⟩ := c_draw (J := J) (D := D) c8 h16 hin hT
    obtain ⟨J1, o1⟩ := c_ords (J := J) (D := D) d3 h14 hin2 (fun a => by
      cases e : clo (TI I) a a with
      | false => rfl
      | true => have := hr _ _ e; omega)
    have w1 : I1 317 = I 317 := d2 317 (by decide) (by decide) (by decide) (by decide)
    obtain ⟨r, er⟩ : ∃ r, r = lN (EE (clo (TI I)) n (fun j => decide (j < n))) := ⟨_, rfl⟩
    rw [← er] at o1
    obtain ⟨F, f1, f2⟩ := m_abv (I := ups I1 316 0 0) (J := upsL J1 335 0 r) (D := D) hin (by rw [uI (by decide), w1]; exact hW)
    have wn : upR (ups I1 316 0 0) 324 F 317 0 = nI n := by rw [uR (by decide), uI (by decide), w1, w0]
    obtain ⟨J2, g1, g2, g3⟩ := m_oin (R := clo (TI I)) (I := upR (ups I1 316 0 0) 324 F) (D := D) h14 (2 ^ n) 0 (by omega) (upsL J1 335 0 r) (fun t ht => by omega)
    obtain ⟨J3, k1, k2⟩ := m_oa (I := upR (ups I1 316 0 0) 324 F) (D := D) hin2 hr h14 wn (by rw [uRs]; exact f2) (2 ^ n) 0 (by omega) J2 g2
    refine yk_16 (r := r) (I1 := I1) (J1 := J1) (D1 := D) (I2 := upR (ups I1 316 0 0) 324 F) (J2 := J3) (D2 := D) ?_ ?_ ?_ ?_ ?_ ?_ ?_
    · rw [e_106_0, c8, decide_eq_true (show nI n ≤ 14 from (nI_leI (b := 14) (by omega) (by omega)).mpr h14), cond_true, e_106_25, d1, cal_v, krw _, e_106_29, o1, cal_v]
      exact e_106_32 _ _ _ _
    · rw [d2 iSCL (by decide) (by decide) (by decide) (by decide)]
    · rw [d2 1000002 (by decide) (by decide) (by decide) (by decide)]
    · rw [e_195_0, w1, w0, decide_eq_false (show ¬ (14 : Int32) < nI n from nI_nlt (a := 14) h14 (by omega)), cond_false, e_195_12, e_195_17, x_canT, cal_v, ka, e_195_21, d11, cond_true, e_195_26, f1, cal_v, kn, e_195_30, wn, sh_lit n (by omega)]
      refine (show ex (195, 41, [.ref 316, .int (nI (2 ^ n)), .int 0, dv], [], mm (upR (ups I1 316 0 0) 324 F) (upsL J1 335 0 r) D) = _ from g1).trans ?_
      rw [e_195_67, er]
      exact k1
    · rw [uR (by decide), uIs, uUs]
    · rw [k2, g3, uJs]
    · exact inv_st h (((Same.o d2).tr Same.r).tr (Same.R (by decide)))
  · refine ye_16_0 (s := 0) (I1 := I) (J1 := J) (D1 := D) (I2 := ups I 316 0 1) (J2 := J) (D2 := D) ?_ rfl rfl ?_ ?_ (inv_r h)
    · rw [e_106_0, c8, decide_eq_false (show ¬ nI n ≤ 14 from nI_ge (a := 14) (by omega) (by omega)), cond_false, e_106_15]
    · rw [e_195_0, w0, decide_eq_true (show (14 : Int32) < nI n from (nI_ltI (a := 14) (by omega) (by omega)).mpr (by omega)), cond_true, e_195_16, e_195_17, x_canF, cal_v, ka, e_195_21, d01, cond_false, e_195_24]
    · rw [uIs, uUs]
