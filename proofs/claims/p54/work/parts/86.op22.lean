/-! untie -/
theorem t_22 {L kk : Nat} {I : Nat → Nat → Int32} {J : Nat → Nat → Int64} {D : Nat → Nat → UInt64} (v : Int32) (h : Inv L kk I J D) (sc : ScOK v I) : Turn L kk 1481 v I J D := by
  obtain ⟨x, hx1⟩ : ∃ q, I 1000002 (v + 1).toNatClampNeg = q := ⟨_, rfl⟩
  obtain ⟨y, hx2⟩ : ∃ q, I 1000002 (v + 2).toNatClampNeg = q := ⟨_, rfl⟩
  have p2 := le_pred (v := x) (b := 1) (B := 2) (B1 := 1) rfl rfl (by decide)
  obtain ⟨n0, hn0, cn0, wn0, hk0, -, -⟩ := inv_row h.2.1 (i := 0) (by decide)
  obtain ⟨n1, hn1, cn1, wn1, hk1, -, -⟩ := inv_row h.2.1 (i := 1) (by decide)
  have tx := inv_tie h.2.1 hn0 hn1 cn0 cn1
  by_cases hx : 0 ≤ x ∧ x < 2
  · obtain ⟨c, hc, rfl⟩ := ix_of (m := 2) (n := 2) rfl hx
    rcases (show c = 0 ∨ c = 1 by omega) with rfl | rfl
    · have cn : I 10 4 = nI n0 := cn0
      have wn : I 317 491 = nI n0 := wn0
      have hn := hn0
      by_cases hy : 0 ≤ y ∧ y < nI n0
      · obtain ⟨b, hb2, rfl⟩ := ix_of (m := n0) (nI_toInt (by omega)) hy
        have hy' : 0 ≤ nI b ∧ nI b < I 10 4 := by rw [cn]; exact hy
        have hw : I 317 (589 + 16 * 0 + b) = I 13 b := (hk0 b hb2).2.2.1
        rcases tx.1 b hb2 with hd | ⟨s, hs, hd, hd2⟩
        · refine te_22_3 (s := 0) (I1 := I) (J1 := J) (D1 := D) (I2 := ups I 316 0 2) (J2 := J) (D2 := D) sc hx1 hx2 ?_ rfl rfl ?_ ?_ (inv_r h)
          · rw [e_112_0, x_row hx, cal_v, kn, e_112_5, c_bandT0 hy', cal_v, kn, e_112_11, x_rw0, cal_v, krw _, e_112_19_10, inb_n (show b < 16 by omega) (by decide), cond_true, decide_eq_true (by rw [nI_clamp (by omega), hd]; decide), cond_true, e_112_35]
          · have hw0 : ups I 316 0 0 317 (589 + 16 * 0 + b) = -1 := by rw [uI (by decide), hw]; exact hd
            rw [e_206_0, m_bandT (i := 0) (by decide) wn hn hy, cal_v, ka, e_206_7, x_canT, cal_v, ka, e_206_11, d10, cond_false, e_206_14, m_tie (i := 0) (by decide) (by omega), cal_v, ka, hw0, e_206_21, decide_eq_true (rfl), cond_true, e_206_29, e_206_30, x_canF, cal_v, ka, uu, e_206_34, d01, cond_false, e_206_37]
          · rw [uIs, uUs]
        · obtain ⟨I1, e1, lo, hi, nx⟩ := act_all (inv_to h) J D
          obtain ⟨I4, e2, w4, r4, s4, fin⟩ := nx _ (cfar_ups (p := 18) (k := s) (v := -1) (cfar_ups (p := 13) (k := b) (v := -1) cfar_0 (by decide)) (by decide)) (upsL J 335 0 (nI s).toInt64) D
          have hne : I 13 b ≠ -1 := by rw [hd]; exact ne_m1 (by omega)
          refine tk_22 (r := nI s) (I1 := ups (ups I1 13 b (-1)) 18 s (-1)) (J1 := J) (D1 := D) (I2 := ups (ups I4 317 (589 + b) (-1)) 317 (605 + s) (-1)) (J2 := upsL J 335 0 (nI s).toInt64) (D2 := D) sc hx1 hx2 ?_ ?_ ?_ ?_ ?_ upsL_s ?_
          · rw [e_112_0, x_row hx, cal_v, kn, e_112_5, c_bandT0 hy', cal_v, kn, e_112_11, x_rw0, cal_v, krw _, e_112_19_10, inb_n (show b < 16 by omega) (by decide), cond_true, decide_eq_false (by rw [nI_clamp (by omega), hd]; exact nI_pos (by omega)), cond_false, nI_clamp (n := b) (by omega), hd, e_112_29, decide_eq_true (show nI s < 16 from (nI_ltI (b := 16) (by omega) (by decide)).mpr (by omega)), cond_true, e_112_45, e1, cal_v, kn, e_112_49, x_rw0, cal_v, krw _, e_112_57_10, inb_n (show b < 16 by omega) (by decide), cond_true, show (1 : Int32) - nI 0 = nI 1 by decide, x_rw1, nI_clamp (n := b) (by omega), cal_v, krw _, e_112_73_15, inb_n (show s < 16 by omega) (by decide), cond_true, nI_clamp (n := s) (by omega)]
          · rw [uI (by decide), uI (by decide), hi _ (by decide)]
          · rw [uI (by decide), uI (by decide), hi _ (by decide)]
          · have hwn : I4 317 (589 + 16 * 0 + b) = nI s := by rw [w4, hw, hd]
            have hw0 : ups (ups (ups I1 13 b (-1)) 18 s (-1)) 316 0 0 317 (589 + 16 * 0 + b) = I 13 b := by rw [uI (by decide), uI (by decide), uI (by decide), hi 317 (by decide), hw]
            rw [e_206_0, m_bandT (i := 0) (by decide) (by rw [uI (by decide), uI (by decide), hi 317 (by decide)]; exact wn) hn hy, cal_v, ka, e_206_7, x_canT, cal_v, ka, e_206_11, d10, cond_false, e_206_14, m_tie (i := 0) (by decide) (by omega), cal_v, ka, hw0, e_206_21, decide_eq_false (hne), cond_false, e_206_25, e_206_30, x_canT, cal_v, ka, uu, e_206_34, d11, cond_true, e_206_39, e2, cal_v, kn, e_206_43, m_tie (i := 0) (by decide) (by omega), cal_v, ka, hwn, e_206_49, show (589 : Int32) + 16 * nI 0 = nI 589 by decide, show (589 : Int32) + 16 * (1 - nI 0) = nI 605 by decide, nI_add, nI_add, inb_n (show 589 + b < 850 by omega) (by decide), inb_n (show 605 + s < 850 by omega) (by decide), cond_true, cond_true, nI_clamp (n := 589 + b) (by omega), nI_clamp (n := 605 + s) (by omega)]
          · rw [uI (by decide), uI (by decide)]; exact r4
          · refine inv_of h (fin _ (mfar_ups (mfar_ups mfar_0 (by decide)) (by decide)) ?_)
            unfold PgRel
            rw [g_ups (o := 17) rfl (Nat.blt_eq.mpr (by omega)), g_ups (o := 12) rfl (Nat.blt_eq.mpr (by omega)), g_same lo, n_upd (by omega), n_upd (by omega), w4]
            exact pg_untie (n := n0) (m := n1) h.2.1 (by rw [nrm_at (by rfl)]; exact cn0) (by rw [nrm_at (by rfl)]; exact cn1) hn0 hn1 hb2 hs (by rw [nrm_at (show rl 12 b = true from Nat.blt_eq.mpr (by omega))]; exact hd) (by rw [nrm_at (show rl 17 s = true from Nat.blt_eq.mpr (by omega))]; exact hd2)
      · refine te_22_2 (s := 0) (I1 := I) (J1 := J) (D1 := D) (I2 := ups I 316 0 1) (J2 := J) (D2 := D) sc hx1 hx2 ?_ rfl rfl ?_ ?_ (inv_r h)
        · rw [e_112_0, x_row hx, cal_v, kn, e_112_5, c_bandF0 (by rw [cn]; exact hy), cal_e]
        · rw [e_206_0, m_bandF (i := 0) (by decide) wn hn hy, cal_v, ka, e_206_7, x_canF, cal_v, ka, e_206_11, d00, cond_true, e_206_37]
        · rw [uIs, uUs]
    · have cn : I 15 4 = nI n1 := cn1
      have wn : I 317 492 = nI n1 := wn1
      have hn := hn1
      by_cases hy : 0 ≤ y ∧ y < nI n1
      · obtain ⟨b, hb2, rfl⟩ := ix_of (m := n1) (nI_toInt (by omega)) hy
        have hy' : 0 ≤ nI b ∧ nI b < I 15 4 := by rw [cn]; exact hy
        have hw : I 317 (589 + 16 * 1 + b) = I 18 b := (hk1 b hb2).2.2.1
        rcases tx.2.1 b hb2 with hd | ⟨s, hs, hd, hd2⟩
        · refine te_22_3 (s := 0) (I1 := I) (J1 := J) (D1 := D) (I2 := ups I 316 0 2) (J2 := J) (D2 := D) sc hx1 hx2 ?_ rfl rfl ?_ ?_ (inv_r h)
          · rw [e_112_0, x_row hx, cal_v, kn, e_112_5, c_bandT1 hy', cal_v, kn, e_112_11, x_rw1, cal_v, krw _, e_112_19_15, inb_n (show b < 16 by omega) (by decide), cond_true, decide_eq_true (by rw [nI_clamp (by omega), hd]; decide), cond_true, e_112_35]
          · have hw0 : ups I 316 0 0 317 (589 + 16 * 1 + b) = -1 := by rw [uI (by decide), hw]; exact hd
            rw [e_206_0, m_bandT (i := 1) (by decide) wn hn hy, cal_v, ka, e_206_7, x_canT, cal_v, ka, e_206_11, d10, cond_false, e_206_14, m_tie (i := 1) (by decide) (by omega), cal_v, ka, hw0, e_206_21, decide_eq_true (rfl), cond_true, e_206_29, e_206_30, x_canF, cal_v, ka, uu, e_206_34, d01, cond_false, e_206_37]
          · rw [uIs, uUs]
        · obtain ⟨I1, e1, lo, hi, nx⟩ := act_all (inv_to h) J D
          obtain ⟨I4, e2, w4, r4, s4, fin⟩ := nx _ (cfar_ups (p := 13) (k := s) (v := -1) (cfar_ups (p := 18) (k := b) (v := -1) cfar_0 (by decide)) (by decide)) (upsL J 335 0 (nI s).toInt64) D
          have hne : I 18 b ≠ -1 := by rw [hd]; exact ne_m1 (by omega)
          refine tk_22 (r := nI s) (I1 := ups (ups I1 18 b (-1)) 13 s (-1)) (J1 := J) (D1 := D) (I2 := ups (ups I4 317 (605 + b) (-1)) 317 (589 + s) (-1)) (J2 := upsL J 335 0 (nI s).toInt64) (D2 := D) sc hx1 hx2 ?_ ?_ ?_ ?_ ?_ upsL_s ?_
          · rw [e_112_0, x_row hx, cal_v, kn, e_112_5, c_bandT1 hy', cal_v, kn, e_112_11, x_rw1, cal_v, krw _, e_112_19_15, inb_n (show b < 16 by omega) (by decide), cond_true, decide_eq_false (by rw [nI_clamp (by omega), hd]; exact nI_pos (by omega)), cond_false, nI_clamp (n := b) (by omega), hd, e_112_29, decide_eq_true (show nI s < 16 from (nI_ltI (b := 16) (by omega) (by decide)).mpr (by omega)), cond_true, e_112_45, e1, cal_v, kn, e_112_49, x_rw1, cal_v, krw _, e_112_57_15, inb_n (show b < 16 by omega) (by decide), cond_true, show (1 : Int32) - nI 1 = nI 0 by decide, x_rw0, nI_clamp (n := b) (by omega), cal_v, krw _, e_112_73_10, inb_n (show s < 16 by omega) (by decide), cond_true, nI_clamp (n := s) (by omega)]
          · rw [uI (by decide), uI (by decide), hi _ (by decide)]
          · rw [uI (by decide), uI (by decide), hi _ (by decide)]
          · have hwn : I4 317 (589 + 16 * 1 + b) = nI s := by rw [w4, hw, hd]
            have hw0 : ups (ups (ups I1 18 b (-1)) 13 s (-1)) 316 0 0 317 (589 + 16 * 1 + b) = I 18 b := by rw [uI (by decide), uI (by decide), uI (by decide), hi 317 (by decide), hw]
            rw [e_206_0, m_bandT (i := 1) (by decide) (by rw [uI (by decide), uI (by decide), hi 317 (by decide)]; exact wn) hn hy, cal_v, ka, e_206_7, x_canT, cal_v, ka, e_206_11, d10, cond_false, e_206_14, m_tie (i := 1) (by decide) (by omega), cal_v, ka, hw0, e_206_21, decide_eq_false (hne), cond_false, e_206_25, e_206_30, x_canT, cal_v, ka, uu, e_206_34, d11, cond_true, e_206_39, e2, cal_v, kn, e_206_43, m_tie (i := 1) (by decide) (by omega), cal_v, ka, hwn, e_206_49, show (589 : Int32) + 16 * nI 1 = nI 605 by decide, show (589 : Int32) + 16 * (1 - nI 1) = nI 589 by decide, nI_add, nI_add, inb_n (show 605 + b < 850 by omega) (by decide), inb_n (show 589 + s < 850 by omega) (by decide), cond_true, cond_true, nI_clamp (n := 605 + b) (by omega), nI_clamp (n := 589 + s) (by omega)]
          · rw [uI (by decide), uI (by decide)]; exact r4
          · refine inv_of h (fin _ (mfar_ups (mfar_ups mfar_0 (by decide)) (by decide)) ?_)
            unfold PgRel
            rw [g_ups (o := 12) rfl (Nat.blt_eq.mpr (by omega)), g_ups (o := 17) rfl (Nat.blt_eq.mpr (by omega)), g_same lo, n_upd (by omega), n_upd (by omega), w4]
            have c1 : ups (ups (nrm (pgF I 1)) 17 b (-1)) 12 s (-1) = ups (ups (nrm (pgF I 1)) 12 s (-1)) 17 b (-1) := by
              funext q k
              by_cases h12 : q = 12
              · subst h12; rw [uIs, uI (by decide), uI (by decide), uIs]
              · by_cases h17 : q = 17
                · subst h17; rw [uI (by decide), uIs, uIs, uI (by decide)]
                · rw [uI h12, uI h17, uI h17, uI h12]
            have c2 : upd (upd (nrw (I 317)) (605 + b) (-1)) (589 + s) (-1) = upd (upd (nrw (I 317)) (589 + s) (-1)) (605 + b) (-1) := by
              funext k
              by_cases h12 : k = 589 + s
              · subst h12; rw [uUs, uU (by omega), uUs]
              · by_cases h17 : k = 605 + b
                · subst h17; rw [uU h12, uUs, uUs]
                · rw [uU h12, uU h17, uU h17, uU h12]
            rw [c1, c2]
            exact pg_untie (n := n0) (m := n1) h.2.1 (by rw [nrm_at (by rfl)]; exact cn0) (by rw [nrm_at (by rfl)]; exact cn1) hn0 hn1 hs hb2 (by rw [nrm_at (show rl 12 s = true from Nat.blt_eq.mpr (by omega))]; exact hd2) (by rw [nrm_at (show rl 17 b = true from Nat.blt_eq.mpr (by omega))]; exact hd)
      · refine te_22_2 (s := 0) (I1 := I) (J1 := J) (D1 := D) (I2 := ups I 316 0 1) (J2 := J) (D2 := D) sc hx1 hx2 ?_ rfl rfl ?_ ?_ (inv_r h)
        · rw [e_112_0, x_row hx, cal_v, kn, e_112_5, c_bandF1 (by rw [cn]; exact hy), cal_e]
        · rw [e_206_0, m_bandF (i := 1) (by decide) wn hn hy, cal_v, ka, e_206_7, x_canF, cal_v, ka, e_206_11, d00, cond_true, e_206_37]
        · rw [uIs, uUs]
  · refine te_22_2 (s := 0) (I1 := I) (J1 := J) (D1 := D) (I2 := ups I 316 0 1) (J2 := J) (D2 := D) sc hx1 hx2 ?_ rfl rfl ?_ ?_ (inv_r h)
    · rw [e_112_0, x_row1 hx, cal_e]
    · rw [e_206_0, m_bandR (fun q => hx (p2.mpr q)), cal_v, ka, e_206_7, x_canF, cal_v, ka, e_206_11, d00, cond_true, e_206_37]
    · rw [uIs, uUs]
