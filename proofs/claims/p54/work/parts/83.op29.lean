/-! noDate, tie, untie -/
theorem t_29 {L kk : Nat} {I : Nat → Nat → Int32} {J : Nat → Nat → Int64} {D : Nat → Nat → UInt64} (v : Int32) (h : Inv L kk I J D) (sc : ScOK v I) : Turn L kk 1855 v I J D := by
  obtain ⟨x, hx1⟩ : ∃ q, I 1000002 (v + 1).toNatClampNeg = q := ⟨_, rfl⟩
  obtain ⟨y, hx2⟩ : ∃ q, I 1000002 (v + 2).toNatClampNeg = q := ⟨_, rfl⟩
  have p2 := le_pred (v := x) (b := 1) (B := 2) (B1 := 1) rfl rfl (by decide)
  by_cases hx : 0 ≤ x ∧ x < 2
  · obtain ⟨c, hc, rfl⟩ := ix_of (m := 2) (n := 2) rfl hx
    rcases (show c = 0 ∨ c = 1 by omega) with rfl | rfl
    · obtain ⟨n, hn, cn, wn, hk, hb, hs⟩ := inv_row h.2.1 (i := 0) (by decide)
      have cn : I 10 4 = nI n := cn
      have wn : I 317 491 = nI n := wn
      by_cases hy : 0 ≤ y ∧ y < nI n
      · obtain ⟨b, hb2, rfl⟩ := ix_of (m := n) (nI_toInt (by omega)) hy
        have hy' : 0 ≤ nI b ∧ nI b < I 10 4 := by rw [cn]; exact hy
        have hw : I 317 (557 + 16 * 0 + b) = I 14 b := (hk b hb2).2.2.2.1
        by_cases hd : I 14 b = -1
        · refine te_29_3 (s := 0) (I1 := I) (J1 := J) (D1 := D) (I2 := ups I 316 0 2) (J2 := J) (D2 := D) sc hx1 hx2 ?_ rfl rfl ?_ ?_ (inv_r h)
          · rw [e_119_0, x_row hx, cal_v, kn, e_119_5, c_bandT0 hy', cal_v, kn, e_119_11, x_rw0, cal_v, krw _, e_119_19_10, inb_n (show b < 16 by omega) (by decide), cond_true, decide_eq_false (by rw [nI_clamp (by omega)]; exact fun q => q hd), cond_false, e_119_28]
          · have hw0 : ups I 316 0 0 317 (557 + 16 * 0 + b) = -1 := by rw [uI (by decide), hw]; exact hd
            rw [e_225_0, m_bandT (i := 0) (by decide) wn hn hy, cal_v, ka, e_225_7, x_canT, cal_v, ka, e_225_11, d10, cond_false, e_225_14, m_date (i := 0) (by decide) (by omega), cal_v, ka, hw0, e_225_21, decide_eq_true (rfl), cond_true, e_225_29, e_225_30, x_canF, cal_v, ka, uu, e_225_34, d01, cond_false, e_225_37]
          · rw [uIs, uUs]
        · obtain ⟨I1, e1, lo, hi, nx⟩ := act_all (inv_to h) J D
          obtain ⟨I4, e2, w4, r4, s4, fin⟩ := nx _ (cfar_ups (p := 14) (k := b) (v := -1) cfar_0 (by decide)) (upsL J 335 0 (I 14 b).toInt64) D
          refine tk_29 (r := I 14 b) (I1 := ups I1 14 b (-1)) (J1 := J) (D1 := D) (I2 := ups I4 317 (557 + b) (-1)) (J2 := upsL J 335 0 (I 14 b).toInt64) (D2 := D) sc hx1 hx2 ?_ ?_ ?_ ?_ ?_ upsL_s ?_
          · rw [e_119_0, x_row hx, cal_v, kn, e_119_5, c_bandT0 hy', cal_v, kn, e_119_11, x_rw0, cal_v, krw _, e_119_19_10, inb_n (show b < 16 by omega) (by decide), cond_true, decide_eq_true (by rw [nI_clamp (by omega)]; exact hd), cond_true, e_119_39, e1, cal_v, kn, e_119_43, x_rw0, cal_v, krw _, e_119_51_10, e_58_0_10, inb_n (show b < 16 by omega) (by decide), cond_true, cond_true, nI_clamp (by omega), lo 14 (by decide) (by decide), cal_v, ka, e_119_56]
          · rw [uI (by decide), hi _ (by decide)]
          · rw [uI (by decide), hi _ (by decide)]
          · have hwn : I4 317 (557 + 16 * 0 + b) = I 14 b := by rw [w4]; exact hw
            have hw0 : ups (ups I1 14 b (-1)) 316 0 0 317 (557 + 16 * 0 + b) = I 14 b := by rw [uI (by decide), uI (by decide), hi 317 (by decide), hw]
            rw [e_225_0, m_bandT (i := 0) (by decide) (by rw [uI (by decide), hi 317 (by decide)]; exact wn) hn hy, cal_v, ka, e_225_7, x_canT, cal_v, ka, e_225_11, d10, cond_false, e_225_14, m_date (i := 0) (by decide) (by omega), cal_v, ka, hw0, e_225_21, decide_eq_false (hd), cond_false, e_225_25, e_225_30, x_canT, cal_v, ka, uu, e_225_34, d11, cond_true, e_225_39, e2, cal_v, kn, e_225_43, m_date (i := 0) (by decide) (by omega), cal_v, ka, hwn, e_225_49, show (557 : Int32) + 16 * nI 0 = nI 557 by decide, nI_add, inb_n (by omega) (by decide), cond_true, nI_clamp (n := 557 + b) (by omega)]
          · rw [uI (by decide)]; exact r4
          · refine inv_of h (fin _ (mfar_ups mfar_0 (by decide)) ?_)
            unfold PgRel
            rw [g_ups (o := 13) rfl (Nat.blt_eq.mpr (by omega)), g_same lo, n_upd (by omega), w4]
            exact pg_date0 (n := n) h.2.1 (by rw [nrm_at (by rfl)]; exact cn) hn hb2 (Or.inl rfl) (fun q => absurd rfl q)
      · refine te_29_2 (s := 0) (I1 := I) (J1 := J) (D1 := D) (I2 := ups I 316 0 1) (J2 := J) (D2 := D) sc hx1 hx2 ?_ rfl rfl ?_ ?_ (inv_r h)
        · rw [e_119_0, x_row hx, cal_v, kn, e_119_5, c_bandF0 (by rw [cn]; exact hy), cal_e]
        · rw [e_225_0, m_bandF (i := 0) (by decide) wn hn hy, cal_v, ka, e_225_7, x_canF, cal_v, ka, e_225_11, d00, cond_true, e_225_37]
        · rw [uIs, uUs]
    · obtain ⟨n, hn, cn, wn, hk, hb, hs⟩ := inv_row h.2.1 (i := 1) (by decide)
      have cn : I 15 4 = nI n := cn
      have wn : I 317 492 = nI n := wn
      by_cases hy : 0 ≤ y ∧ y < nI n
      · obtain ⟨b, hb2, rfl⟩ := ix_of (m := n) (nI_toInt (by omega)) hy
        have hy' : 0 ≤ nI b ∧ nI b < I 15 4 := by rw [cn]; exact hy
        have hw : I 317 (557 + 16 * 1 + b) = I 19 b := (hk b hb2).2.2.2.1
        by_cases hd : I 19 b = -1
        · refine te_29_3 (s := 0) (I1 := I) (J1 := J) (D1 := D) (I2 := ups I 316 0 2) (J2 := J) (D2 := D) sc hx1 hx2 ?_ rfl rfl ?_ ?_ (inv_r h)
          · rw [e_119_0, x_row hx, cal_v, kn, e_119_5, c_bandT1 hy', cal_v, kn, e_119_11, x_rw1, cal_v, krw _, e_119_19_15, inb_n (show b < 16 by omega) (by decide), cond_true, decide_eq_false (by rw [nI_clamp (by omega)]; exact fun q => q hd), cond_false, e_119_28]
          · have hw0 : ups I 316 0 0 317 (557 + 16 * 1 + b) = -1 := by rw [uI (by decide), hw]; exact hd
            rw [e_225_0, m_bandT (i := 1) (by decide) wn hn hy, cal_v, ka, e_225_7, x_canT, cal_v, ka, e_225_11, d10, cond_false, e_225_14, m_date (i := 1) (by decide) (by omega), cal_v, ka, hw0, e_225_21, decide_eq_true (rfl), cond_true, e_225_29, e_225_30, x_canF, cal_v, ka, uu, e_225_34, d01, cond_false, e_225_37]
          · rw [uIs, uUs]
        · obtain ⟨I1, e1, lo, hi, nx⟩ := act_all (inv_to h) J D
          obtain ⟨I4, e2, w4, r4, s4, fin⟩ := nx _ (cfar_ups (p := 19) (k := b) (v := -1) cfar_0 (by decide)) (upsL J 335 0 (I 19 b).toInt64) D
          refine tk_29 (r := I 19 b) (I1 := ups I1 19 b (-1)) (J1 := J) (D1 := D) (I2 := ups I4 317 (573 + b) (-1)) (J2 := upsL J 335 0 (I 19 b).toInt64) (D2 := D) sc hx1 hx2 ?_ ?_ ?_ ?_ ?_ upsL_s ?_
          · rw [e_119_0, x_row hx, cal_v, kn, e_119_5, c_bandT1 hy', cal_v, kn, e_119_11, x_rw1, cal_v, krw _, e_119_19_15, inb_n (show b < 16 by omega) (by decide), cond_true, decide_eq_true (by rw [nI_clamp (by omega)]; exact hd), cond_true, e_119_39, e1, cal_v, kn, e_119_43, x_rw1, cal_v, krw _, e_119_51_15, e_58_0_15, inb_n (show b < 16 by omega) (by decide), cond_true, cond_true, nI_clamp (by omega), lo 19 (by decide) (by decide), cal_v, ka, e_119_56]
          · rw [uI (by decide), hi _ (by decide)]
          · rw [uI (by decide), hi _ (by decide)]
          · have hwn : I4 317 (557 + 16 * 1 + b) = I 19 b := by rw [w4]; exact hw
            have hw0 : ups (ups I1 19 b (-1)) 316 0 0 317 (557 + 16 * 1 + b) = I 19 b := by rw [uI (by decide), uI (by decide), hi 317 (by decide), hw]
            rw [e_225_0, m_bandT (i := 1) (by decide) (by rw [uI (by decide), hi 317 (by decide)]; exact wn) hn hy, cal_v, ka, e_225_7, x_canT, cal_v, ka, e_225_11, d10, cond_false, e_225_14, m_date (i := 1) (by decide) (by omega), cal_v, ka, hw0, e_225_21, decide_eq_false (hd), cond_false, e_225_25, e_225_30, x_canT, cal_v, ka, uu, e_225_34, d11, cond_true, e_225_39, e2, cal_v, kn, e_225_43, m_date (i := 1) (by decide) (by omega), cal_v, ka, hwn, e_225_49, show (557 : Int32) + 16 * nI 1 = nI 573 by decide, nI_add, inb_n (by omega) (by decide), cond_true, nI_clamp (n := 573 + b) (by omega)]
          · rw [uI (by decide)]; exact r4
          · refine inv_of h (fin _ (mfar_ups mfar_0 (by decide)) ?_)
            unfold PgRel
            rw [g_ups (o := 18) rfl (Nat.blt_eq.mpr (by omega)), g_same lo, n_upd (by omega), w4]
            exact pg_date1 (n := n) h.2.1 (by rw [nrm_at (by rfl)]; exact cn) hn hb2 (Or.inl rfl) (fun q => absurd rfl q)
      · refine te_29_2 (s := 0) (I1 := I) (J1 := J) (D1 := D) (I2 := ups I 316 0 1) (J2 := J) (D2 := D) sc hx1 hx2 ?_ rfl rfl ?_ ?_ (inv_r h)
        · rw [e_119_0, x_row hx, cal_v, kn, e_119_5, c_bandF1 (by rw [cn]; exact hy), cal_e]
        · rw [e_225_0, m_bandF (i := 1) (by decide) wn hn hy, cal_v, ka, e_225_7, x_canF, cal_v, ka, e_225_11, d00, cond_true, e_225_37]
        · rw [uIs, uUs]
  · refine te_29_2 (s := 0) (I1 := I) (J1 := J) (D1 := D) (I2 := ups I 316 0 1) (J2 := J) (D2 := D) sc hx1 hx2 ?_ rfl rfl ?_ ?_ (inv_r h)
    · rw [e_119_0, x_row1 hx, cal_e]
    · rw [e_225_0, m_bandR (fun q => hx (p2.mpr q)), cal_v, ka, e_225_7, x_canF, cal_v, ka, e_225_11, d00, cond_true, e_225_37]
    · rw [uIs, uUs]
