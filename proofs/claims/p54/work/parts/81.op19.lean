/-! acts for any numbers; addBand, setDate -/
def ActOK (L kk : Nat) (I : Nat → Nat → Int32) (J : Nat → Nat → Int64) (D : Nat → Nat → UInt64) (μ1 : Nat) (a1 : List Value) (μ2 : Nat) (a2 : List Value) : Prop := ∃ I1 : Nat → Nat → Int32, (∀ p, 316 ≤ p → I1 p = I p) ∧
  ((∃ r : Int32, ex (μ1, 0, a1, [], mm I J D) = some (.inl (some (.int r)), mm I1 J D) ∧ ∀ J2 D2 I7, MPt I1 I7 → ∃ I2, ex (μ2, 0, a2, [], mm I7 J2 D2) = some (.inl (some (.int r)), mm I2 J2 D2) ∧ I2 316 0 = 0 ∧ Inv0 L (kk + 1) I2 ∧ TxtKeep I I2) ∨
   ∃ (E : Nat) (c : Int32), ((E = 2 ∧ c = 1) ∨ (E = 1 ∧ c = 2) ∨ (E = 0 ∧ c = 3)) ∧ ex (μ1, 0, a1, [], mm I J D) = some (.inr (.inl E), mm I1 J D) ∧ ∀ J2 D2 I7, MPt I1 I7 → ∃ (s : Int32) (I2 : Nat → Nat → Int32), ex (μ2, 0, a2, [], mm I7 J2 D2) = some (.inl (some (.int s)), mm I2 J2 D2) ∧ I2 316 0 = c ∧ Inv0 L (kk + 1) I2 ∧ TxtKeep I I2)
/-- a call that both refuse, and nothing else -/
theorem ActOK.no {L kk : Nat} {I : Nat → Nat → Int32} {J : Nat → Nat → Int64} {D : Nat → Nat → UInt64} {μ1 μ2 : Nat} {a1 a2 : List Value} (h : Inv0 L kk I) (E : Nat) (c s : Int32) (hE : (E = 2 ∧ c = 1) ∨ (E = 1 ∧ c = 2) ∨ (E = 0 ∧ c = 3)) (e1 : ex (μ1, 0, a1, [], mm I J D) = some (.inr (.inl E), mm I J D)) (e2 : ∀ J2 D2 I7, MPt I I7 → ex (μ2, 0, a2, [], mm I7 J2 D2) = some (.inl (some (.int s)), mm (ups I7 316 0 c) J2 D2)) : ActOK L kk I J D μ1 a1 μ2 a2 :=
  ⟨I, fun _ _ => rfl, Or.inr ⟨E, c, hE, e1, fun J2 D2 I7 h7 => ⟨s, _, e2 J2 D2 I7 h7, by rw [uIs, uUs], inv0_mpt h h7⟩⟩⟩
section RV
variable {I : Nat → Nat → Int32} {J : Nat → Nat → Int64} {D : Nat → Nat → UInt64}
theorem x_198T {v : Int32} (h : 0 ≤ v ∧ v ≤ 1) : ex (198, 0, [.int v], [], mm I J D) = some (.inl (some (.int 1)), mm I J D) := by rw [y_row, bI1 h]
theorem x_198F {v : Int32} (h : ¬ (0 ≤ v ∧ v ≤ 1)) : ex (198, 0, [.int v], [], mm I J D) = some (.inl (some (.int 0)), mm I J D) := by rw [y_row, bI0 h]
theorem x_rw0 : ex (45, 0, [.ref 1, .int (nI 0)], [], mm I J D) = some (.inl (some (.ref 10)), mm I J D) := x_rowOf (c := 0) (by decide) I J D
theorem x_rw1 : ex (45, 0, [.ref 1, .int (nI 1)], [], mm I J D) = some (.inl (some (.ref 15)), mm I J D) := x_rowOf (c := 1) (by decide) I J D
theorem c_bandT0 {v : Int32} (h : 0 ≤ v ∧ v < I 10 4) : ex (150, 0, [.ref 0, .int (nI 0), .int v], [], mm I J D) = some (.inl none, mm I J D) := by
  rw [e_150_0, x_rw0, cal_v, krw, e_150_9_10, x_ni h, cal_v, kn, e_150_15]
theorem c_bandF0 {v : Int32} (h : ¬ (0 ≤ v ∧ v < I 10 4)) : ex (150, 0, [.ref 0, .int (nI 0), .int v], [], mm I J D) = some (.inr (.inl 2), mm I J D) := by
  rw [e_150_0, x_rw0, cal_v, krw, e_150_9_10, x_ni1 h, cal_e]
theorem c_bnd0 {n : Nat} {t m : Int32} (hn : I 10 4 = nI n) (h16 : n < 16) : ex (55, 0, [.ref 10, .int t, .int m, dv], [], mm I J D) = some (.inl (some (.int (nI n))), mm (ups (ups (ups (ups (ups I 11 n t) 12 n m) 13 n (-1)) 14 n (-1)) 10 4 (nI (n + 1))) J D) := by
  rw [e_55_0_10, hn, inb_n h16 (by decide), cond_true, cond_true, cond_true, cond_true, nI_clamp (by omega), uI (by decide), uI (by decide), uI (by decide), uI (by decide), hn, nI_1]
theorem c_bandT1 {v : Int32} (h : 0 ≤ v ∧ v < I 15 4) : ex (150, 0, [.ref 0, .int (nI 1), .int v], [], mm I J D) = some (.inl none, mm I J D) := by
  rw [e_150_0, x_rw1, cal_v, krw, e_150_9_15, x_ni h, cal_v, kn, e_150_15]
theorem c_bandF1 {v : Int32} (h : ¬ (0 ≤ v ∧ v < I 15 4)) : ex (150, 0, [.ref 0, .int (nI 1), .int v], [], mm I J D) = some (.inr (.inl 2), mm I J D) := by
  rw [e_150_0, x_rw1, cal_v, krw, e_150_9_15, x_ni1 h, cal_e]
theorem c_bnd1 {n : Nat} {t m : Int32} (hn : I 15 4 = nI n) (h16 : n < 16) : ex (55, 0, [.ref 15, .int t, .int m, dv], [], mm I J D) = some (.inl (some (.int (nI n))), mm (ups (ups (ups (ups (ups I 16 n t) 17 n m) 18 n (-1)) 19 n (-1)) 15 4 (nI (n + 1))) J D) := by
  rw [e_55_0_15, hn, inb_n h16 (by decide), cond_true, cond_true, cond_true, cond_true, nI_clamp (by omega), uI (by decide), uI (by decide), uI (by decide), uI (by decide), hn, nI_1]
theorem m_bandT {i n : Nat} {v : Int32} (hi : i < 2) (hn : I 317 (491 + i) = nI n) (h16 : n ≤ 16) (h : 0 ≤ v ∧ v < nI n) : ex (199, 0, [.ref 316, .int (nI i), .int v], [], mm I J D) = some (.inl (some (.int 1)), mm I J D) := by
  have hv : 0 ≤ v ∧ v ≤ nI n - 1 := by
    refine ⟨h.1, Int32.le_iff_toInt_le.mpr ?_⟩
    rw [pred_i (by omega)]
    have := Int32.lt_iff_toInt_lt.mp h.2
    rw [nI_toInt (by omega)] at this
    omega
  rw [e_199_0, x_198T ⟨nI_pos' (by omega), (nI_leI (b := 1) (by omega) (by decide)).mpr (by omega)⟩, cal_v, ka, e_199_4, d10, cond_false, e_199_7, show (491 : Int32) + nI i = nI (491 + i) from nI_add 491 i, inb_n (by omega) (by decide), cond_true, nI_clamp (by omega), hn, x_inT hv, cal_v, ka, e_199_24, d10, cond_false, e_199_27, e_199_32, decide_eq_true (Or.inr rfl), cond_true]
theorem m_bandF {i n : Nat} {v : Int32} (hi : i < 2) (hn : I 317 (491 + i) = nI n) (h16 : n ≤ 16) (h : ¬ (0 ≤ v ∧ v < nI n)) : ex (199, 0, [.ref 316, .int (nI i), .int v], [], mm I J D) = some (.inl (some (.int 0)), mm I J D) := by
  have hv : ¬ (0 ≤ v ∧ v ≤ nI n - 1) := fun q => h ⟨q.1, by
    have := Int32.le_iff_toInt_le.mp q.2
    rw [pred_i (by omega)] at this
    exact Int32.lt_iff_toInt_lt.mpr (by rw [nI_toInt (by omega)]; omega)⟩
  rw [e_199_0, x_198T ⟨nI_pos' (by omega), (nI_leI (b := 1) (by omega) (by decide)).mpr (by omega)⟩, cal_v, ka, e_199_4, d10, cond_false, e_199_7, show (491 : Int32) + nI i = nI (491 + i) from nI_add 491 i, inb_n (by omega) (by decide), cond_true, nI_clamp (by omega), hn, x_inF hv, cal_v, ka, e_199_24, d00, cond_true, e_199_31, e_199_32, decide_eq_true (Or.inl rfl), cond_true]
theorem m_bandR {x v : Int32} (h : ¬ (0 ≤ x ∧ x ≤ 1)) : ex (199, 0, [.ref 316, .int x, .int v], [], mm I J D) = some (.inl (some (.int 0)), mm I J D) := by
  rw [e_199_0, x_198F h, cal_v, ka, e_199_4, d00, cond_true, e_199_31, e_199_32, decide_eq_true (Or.inl rfl), cond_true]
theorem m_date {i k : Nat} (hi : i < 2) (hk : k < 16) : ex (222, 0, [.ref 316, .int (nI i), .int (nI k)], [], mm I J D) = some (.inl (some (.int (I 317 (557 + 16 * i + k)))), mm I J D) := by
  rw [e_222_0, show (557 : Int32) + 16 * nI i + nI k = nI (557 + 16 * i + k) by rw [show (16 : Int32) * nI i = nI (16 * i) from pk_mul 16 i, show (557 : Int32) = nI 557 from rfl, nI_add, nI_add], inb_n (by omega) (by decide), cond_true, nI_clamp (by omega)]
theorem m_tie {i k : Nat} (hi : i < 2) (hk : k < 16) : ex (202, 0, [.ref 316, .int (nI i), .int (nI k)], [], mm I J D) = some (.inl (some (.int (I 317 (589 + 16 * i + k)))), mm I J D) := by
  rw [e_202_0, show (589 : Int32) + 16 * nI i + nI k = nI (589 + 16 * i + k) by rw [show (16 : Int32) * nI i = nI (16 * i) from pk_mul 16 i, show (589 : Int32) = nI 589 from rfl, nI_add, nI_add], inb_n (by omega) (by decide), cond_true, nI_clamp (by omega)]
end RV
theorem a_19 {L kk : Nat} {I : Nat → Nat → Int32} {J : Nat → Nat → Int64} {D : Nat → Nat → UInt64} (h : Inv0 L kk I) (x y z : Int32) : ActOK L kk I J D 109 [.ref 0, .int x, .int y, .int z] 200 [.ref 316, .int x, .int y, .int z, dv] := by
  have p2 := le_pred (v := x) (b := 1) (B := 2) (B1 := 1) rfl rfl (by decide)
  by_cases hx : 0 ≤ x ∧ x < 2
  · have hx1 := p2.mp hx
    by_cases h2 : (1 ≤ y ∧ y ≤ 9) ∧ (0 ≤ z ∧ z ≤ 3)
    · obtain ⟨c, hc, rfl⟩ := ix_of (m := 2) (n := 2) rfl hx
      rcases (show c = 0 ∨ c = 1 by omega) with rfl | rfl
      · obtain ⟨n, hn, cn, wn, -, -, -⟩ := inv_row h.2.1 (i := 0) (by decide)
        have cn : I 10 4 = nI n := cn
        have wn : I 317 491 = nI n := wn
        by_cases h16 : n < 16
        · obtain ⟨I1, e1, lo, hi, nx⟩ := act_all3 h J D
          have cn1 : I1 10 4 = nI n := by rw [lo 10 (by decide) (by decide)]; exact cn
          obtain ⟨I1', hI1'⟩ : ∃ q, q = ups (ups (ups (ups (ups I1 11 n y) 12 n z) 13 n (-1)) 14 n (-1)) 10 4 (nI (n + 1)) := ⟨_, rfl⟩
          have cf : CFar I1 I1' := by rw [hI1']; exact cfar_ups (cfar_ups (cfar_ups (cfar_ups (cfar_ups cfar_0 (by decide)) (by decide)) (by decide)) (by decide)) (by decide)
          refine ⟨I1', ?_, Or.inl ⟨nI n, ?_, fun J2 D2 I7 h7 => ?_⟩⟩
          · intro p hp; rw [cf.2.2.2 p hp, hi p (by omega)]
          · rw [e_109_0, x_row hx, cal_v, kn, e_109_5, x_nr h2.1, cal_v, kn, e_109_12, x_nr h2.2, cal_v, kn, e_109_18, x_rw0, cal_v, krw _, e_109_26_10, decide_eq_true (by rw [cn]; exact (nI_ltI (b := 16) (by omega) (by decide)).mpr h16), cond_true, e_109_44, e1, cal_v, kn, e_109_48, x_rw0, cal_v, krw _, e_109_56_10, c_bnd0 cn1 h16, cal_v, ka, e_109_61, hI1']
          · have w1 : ups I7 316 0 0 317 491 = nI n := by rw [uI (by decide), h7.w, cf.2.2.2 317 (by decide), hi 317 (by decide)]; exact wn
            obtain ⟨I4, e2, w4, r4, s4, fin⟩ := nx _ (ups I7 316 0 0) cf h7.far.r (by rw [uI (by decide), h7.w]) J2 D2
            refine ⟨ups (ups (ups I4 317 491 (nI (n + 1))) 317 (493 + n) y) 317 (525 + n) z, ?_, ?_, ?_⟩
            · rw [e_200_0, x_198T hx1, cal_v, ka, e_200_5, x_canT, cal_v, ka, e_200_9, d10, cond_false, e_200_12, x_inT h2.1, cal_v, ka, e_200_20, d10, cond_false, e_200_23, x_inT h2.2, cal_v, ka, e_200_29, d10, cond_false, e_200_32, e_200_37, x_canT, cal_v, ka, uu, e_200_41, d10, cond_false, e_200_44, show (491 : Int32) + nI 0 = nI 491 by decide, inb_n (k := 491) (by decide) (by decide), cond_true, nI_clamp (n := 491) (by decide), w1, decide_eq_false (show ¬ (16 : Int32) ≤ nI n from nI_ge (a := n) (b := 16) h16 (by decide)), cond_false, e_200_60, e_200_65, x_canT, cal_v, ka, uu, e_200_69, d11, cond_true, e_200_74, e2, cal_v, kn, e_200_78, show (491 : Int32) + nI 0 = nI 491 by decide, inb_n (k := 491) (by decide) (by decide), cond_true, cond_true, cond_true, nI_clamp (n := 491) (by decide), w4, wn, show (493 : Int32) + 16 * nI 0 = nI 493 by decide, show (525 : Int32) + 16 * nI 0 = nI 525 by decide, nI_add, nI_add, inb_n (by omega) (by decide), inb_n (by omega) (by decide), cond_true, cond_true, nI_clamp (n := 493 + n) (by omega), nI_clamp (n := 525 + n) (by omega), nI_1]
            · rw [uI (by decide), uI (by decide), uI (by decide), r4, uIs, uUs]
            · refine fin _ (((MFw.z.u (by decide)).u (by decide)).u (by decide)) ?_
              unfold PgRel
              rw [hI1', g_ups (o := 9) rfl rfl, g_ups (o := 13) rfl (Nat.blt_eq.mpr h16), g_ups (o := 12) rfl (Nat.blt_eq.mpr h16), g_ups (o := 11) rfl (Nat.blt_eq.mpr h16), g_ups (o := 10) rfl (Nat.blt_eq.mpr h16), g_same lo, n_upd (by omega), n_upd (by omega), n_upd (by omega), w4]
              exact pg_band0 h.2.1 (by rw [nrm_at (by rfl)]; exact cn) h16 (rgl h2.1) (rgl h2.2)
        · refine ActOK.no h 0 3 0 (by decide) ?_ (fun J2 D2 I7 h7 => ?_)
          · rw [e_109_0, x_row hx, cal_v, kn, e_109_5, x_nr h2.1, cal_v, kn, e_109_12, x_nr h2.2, cal_v, kn, e_109_18, x_rw0, cal_v, krw _, e_109_26_10, decide_eq_false (by rw [cn]; exact fun q => h16 ((nI_ltI (b := 16) (by omega) (by decide)).mp q)), cond_false, e_109_34]
          · have w0 : ups I7 316 0 0 317 491 = nI n := by rw [uI (by decide), h7.w]; exact wn
            rw [e_200_0, x_198T hx1, cal_v, ka, e_200_5, x_canT, cal_v, ka, e_200_9, d10, cond_false, e_200_12, x_inT h2.1, cal_v, ka, e_200_20, d10, cond_false, e_200_23, x_inT h2.2, cal_v, ka, e_200_29, d10, cond_false, e_200_32, e_200_37, x_canT, cal_v, ka, uu, e_200_41, d10, cond_false, e_200_44, show (491 : Int32) + nI 0 = nI 491 by decide, inb_n (k := 491) (by decide) (by decide), cond_true, nI_clamp (n := 491) (by decide), w0, decide_eq_true (show (16 : Int32) ≤ nI n from (nI_leI (a := 16) (by decide) (by omega)).mpr (by omega)), cond_true, e_200_64, e_200_65, x_canF, cal_v, ka, uu, e_200_69, d01, cond_false, e_200_72]
      · obtain ⟨n, hn, cn, wn, -, -, -⟩ := inv_row h.2.1 (i := 1) (by decide)
        have cn : I 15 4 = nI n := cn
        have wn : I 317 492 = nI n := wn
        by_cases h16 : n < 16
        · obtain ⟨I1, e1, lo, hi, nx⟩ := act_all3 h J D
          have cn1 : I1 15 4 = nI n := by rw [lo 15 (by decide) (by decide)]; exact cn
          obtain ⟨I1', hI1'⟩ : ∃ q, q = ups (ups (ups (ups (ups I1 16 n y) 17 n z) 18 n (-1)) 19 n (-1)) 15 4 (nI (n + 1)) := ⟨_, rfl⟩
          have cf : CFar I1 I1' := by rw [hI1']; exact cfar_ups (cfar_ups (cfar_ups (cfar_ups (cfar_ups cfar_0 (by decide)) (by decide)) (by decide)) (by decide)) (by decide)
          refine ⟨I1', ?_, Or.inl ⟨nI n, ?_, fun J2 D2 I7 h7 => ?_⟩⟩
          · intro p hp; rw [cf.2.2.2 p hp, hi p (by omega)]
          · rw [e_109_0, x_row hx, cal_v, kn, e_109_5, x_nr h2.1, cal_v, kn, e_109_12, x_nr h2.2, cal_v, kn, e_109_18, x_rw1, cal_v, krw _, e_109_26_15, decide_eq_true (by rw [cn]; exact (nI_ltI (b := 16) (by omega) (by decide)).mpr h16), cond_true, e_109_44, e1, cal_v, kn, e_109_48, x_rw1, cal_v, krw _, e_109_56_15, c_bnd1 cn1 h16, cal_v, ka, e_109_61, hI1']
          · have w1 : ups I7 316 0 0 317 492 = nI n := by rw [uI (by decide), h7.w, cf.2.2.2 317 (by decide), hi 317 (by decide)]; exact wn
            obtain ⟨I4, e2, w4, r4, s4, fin⟩ := nx _ (ups I7 316 0 0) cf h7.far.r (by rw [uI (by decide), h7.w]) J2 D2
            refine ⟨ups (ups (ups I4 317 492 (nI (n + 1))) 317 (509 + n) y) 317 (541 + n) z, ?_, ?_, ?_⟩
            · rw [e_200_0, x_198T hx1, cal_v, ka, e_200_5, x_canT, cal_v, ka, e_200_9, d10, cond_false, e_200_12, x_inT h2.1, cal_v, ka, e_200_20, d10, cond_false, e_200_23, x_inT h2.2, cal_v, ka, e_200_29, d10, cond_false, e_200_32, e_200_37, x_canT, cal_v, ka, uu, e_200_41, d10, cond_false, e_200_44, show (491 : Int32) + nI 1 = nI 492 by decide, inb_n (k := 492) (by decide) (by decide), cond_true, nI_clamp (n := 492) (by decide), w1, decide_eq_false (show ¬ (16 : Int32) ≤ nI n from nI_ge (a := n) (b := 16) h16 (by decide)), cond_false, e_200_60, e_200_65, x_canT, cal_v, ka, uu, e_200_69, d11, cond_true, e_200_74, e2, cal_v, kn, e_200_78, show (491 : Int32) + nI 1 = nI 492 by decide, inb_n (k := 492) (by decide) (by decide), cond_true, cond_true, cond_true, nI_clamp (n := 492) (by decide), w4, wn, show (493 : Int32) + 16 * nI 1 = nI 509 by decide, show (525 : Int32) + 16 * nI 1 = nI 541 by decide, nI_add, nI_add, inb_n (by omega) (by decide), inb_n (by omega) (by decide), cond_true, cond_true, nI_clamp (n := 509 + n) (by omega), nI_clamp (n := 541 + n) (by omega), nI_1]
            · rw [uI (by decide), uI (by decide), uI (by decide), r4, uIs, uUs]
            · refine fin _ (((MFw.z.u (by decide)).u (by decide)).u (by decide)) ?_
              unfold PgRel
              rw [hI1', g_ups (o := 14) rfl rfl, g_ups (o := 18) rfl (Nat.blt_eq.mpr h16), g_ups (o := 17) rfl (Nat.blt_eq.mpr h16), g_ups (o := 16) rfl (Nat.blt_eq.mpr h16), g_ups (o := 15) rfl (Nat.blt_eq.mpr h16), g_same lo, n_upd (by omega), n_upd (by omega), n_upd (by omega), w4]
              exact pg_band1 h.2.1 (by rw [nrm_at (by rfl)]; exact cn) h16 (rgl h2.1) (rgl h2.2)
        · refine ActOK.no h 0 3 0 (by decide) ?_ (fun J2 D2 I7 h7 => ?_)
          · rw [e_109_0, x_row hx, cal_v, kn, e_109_5, x_nr h2.1, cal_v, kn, e_109_12, x_nr h2.2, cal_v, kn, e_109_18, x_rw1, cal_v, krw _, e_109_26_15, decide_eq_false (by rw [cn]; exact fun q => h16 ((nI_ltI (b := 16) (by omega) (by decide)).mp q)), cond_false, e_109_34]
          · have w0 : ups I7 316 0 0 317 492 = nI n := by rw [uI (by decide), h7.w]; exact wn
            rw [e_200_0, x_198T hx1, cal_v, ka, e_200_5, x_canT, cal_v, ka, e_200_9, d10, cond_false, e_200_12, x_inT h2.1, cal_v, ka, e_200_20, d10, cond_false, e_200_23, x_inT h2.2, cal_v, ka, e_200_29, d10, cond_false, e_200_32, e_200_37, x_canT, cal_v, ka, uu, e_200_41, d10, cond_false, e_200_44, show (491 : Int32) + nI 1 = nI 492 by decide, inb_n (k := 492) (by decide) (by decide), cond_true, nI_clamp (n := 492) (by decide), w0, decide_eq_true (show (16 : Int32) ≤ nI n from (nI_leI (a := 16) (by decide) (by omega)).mpr (by omega)), cond_true, e_200_64, e_200_65, x_canF, cal_v, ka, uu, e_200_69, d01, cond_false, e_200_72]
    · refine ActOK.no h 1 2 0 (by decide) ?_ (fun J2 D2 I7 h7 => ?_)
      · by_cases hy : 1 ≤ y ∧ y ≤ 9
        · rw [e_109_0, x_row hx, cal_v, kn, e_109_5, x_nr hy, cal_v, kn, e_109_12, x_nr1 (fun hz => h2 ⟨hy, hz⟩), cal_e]
        · rw [e_109_0, x_row hx, cal_v, kn, e_109_5, x_nr1 hy, cal_e]
      · by_cases hy : 1 ≤ y ∧ y ≤ 9
        · rw [e_200_0, x_198T hx1, cal_v, ka, e_200_5, x_canT, cal_v, ka, e_200_9, d10, cond_false, e_200_12, x_inT hy, cal_v, ka, e_200_20, d10, cond_false, e_200_23, x_inF (fun hz => h2 ⟨hy, hz⟩), cal_v, ka, e_200_29, d00, cond_true, e_200_36, e_200_37, x_canF, cal_v, ka, uu, e_200_41, d00, cond_true, e_200_72]
        · rw [e_200_0, x_198T hx1, cal_v, ka, e_200_5, x_canT, cal_v, ka, e_200_9, d10, cond_false, e_200_12, x_inF hy, cal_v, ka, e_200_20, d00, cond_true, e_200_36, e_200_37, x_canF, cal_v, ka, uu, e_200_41, d00, cond_true, e_200_72]
  · refine ActOK.no h 2 1 0 (by decide) ?_ (fun J2 D2 I7 h7 => ?_)
    · rw [e_109_0, x_row1 hx, cal_e]
    · rw [e_200_0, x_198F (fun q => hx (p2.mpr q)), cal_v, ka, e_200_5, x_canF, cal_v, ka, e_200_9, d00, cond_true, e_200_72]
theorem t_19 {L kk : Nat} {I : Nat → Nat → Int32} {J : Nat → Nat → Int64} {D : Nat → Nat → UInt64} (v : Int32) (h : Inv L kk I J D) (sc : ScOK v I) : Turn L kk 1253 v I J D := by
  obtain ⟨x, hx1⟩ : ∃ q, I 1000002 (v + 1).toNatClampNeg = q := ⟨_, rfl⟩
  obtain ⟨y, hx2⟩ : ∃ q, I 1000002 (v + 2).toNatClampNeg = q := ⟨_, rfl⟩
  obtain ⟨z, hx3⟩ : ∃ q, I 1000002 (v + 3).toNatClampNeg = q := ⟨_, rfl⟩
  obtain ⟨I1, qq, hcase⟩ := a_19 (J := J) (D := D) (inv_to h) x y z
  have q1 : I1 iSCL 0 = I iSCL 0 := by rw [qq iSCL (by decide)]
  have q2 := qq 1000002 (by decide)
  rcases hcase with ⟨r, e1, nx⟩ | ⟨E, c, hE, e1, nx⟩
  · obtain ⟨I2, e2, q3, i2⟩ := nx (upsL J 335 0 r.toInt64) D I1 MPt.z
    exact tk_19 sc hx1 hx2 hx3 e1 q1 q2 e2 q3 upsL_s (inv_of h i2)
  · obtain ⟨s, I2, e2, q3, i2⟩ := nx J D I1 MPt.z
    rcases hE with ⟨rfl, rfl⟩ | ⟨rfl, rfl⟩ | ⟨rfl, rfl⟩
    · exact te_19_2 sc hx1 hx2 hx3 e1 q1 q2 e2 q3 (inv_of h i2)
    · exact te_19_1 sc hx1 hx2 hx3 e1 q1 q2 e2 q3 (inv_of h i2)
    · exact te_19_0 sc hx1 hx2 hx3 e1 q1 q2 e2 q3 (inv_of h i2)
