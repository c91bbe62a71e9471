/-! setCell, setZone -/
theorem t_39 {L kk : Nat} {I : Nat → Nat → Int32} {J : Nat → Nat → Int64} {D : Nat → Nat → UInt64} (v : Int32) (h : Inv L kk I J D) (sc : ScOK v I) : Turn L kk 2535 v I J D := by
  obtain ⟨x, hx1⟩ : ∃ q, I 1000002 (v + 1).toNatClampNeg = q := ⟨_, rfl⟩
  obtain ⟨y, hx2⟩ : ∃ q, I 1000002 (v + 2).toNatClampNeg = q := ⟨_, rfl⟩
  obtain ⟨z, hx3⟩ : ∃ q, I 1000002 (v + 3).toNatClampNeg = q := ⟨_, rfl⟩
  have m0 : ∀ (x y z : Int32), ¬ (0 ≤ x ∧ x < 12) → ex (245, 0, [.ref 316, .int x, .int y, .int z, dv], [], mm I J D) = some (.inl (some (.int 0)), mm (ups I 316 0 1) J D) := by
    intro x y z hx
    have hx : ¬ (0 ≤ x ∧ x ≤ 11) := fun q => hx ⟨q.1, Int32.lt_of_le_of_lt q.2 (by decide)⟩
    rw [e_245_0, x_inF hx, cal_v, ka, e_245_8, x_canF, cal_v, ka, e_245_12, d00, cond_true, e_245_50]
  by_cases h1 : 0 ≤ x ∧ x < 12
  · obtain ⟨c, hc, rfl⟩ := ix_of (m := 12) (n := 12) rfl h1
    have h11 : 0 ≤ nI c ∧ nI c ≤ 11 := ⟨h1.1, (nI_leI (b := 11) (by omega) (by decide)).mpr (by omega)⟩
    by_cases h2 : in999 y ∧ in999 z
    · obtain ⟨I1, e1, lo, hi, nx⟩ := act_all (inv_to h) J D
      obtain ⟨I4, e2, w4, r4, s4, fin⟩ := nx _ (cfar_ups (p := 26) (k := c) (v := z) (cfar_ups (p := 25) (k := c) (v := y) cfar_0 (by decide)) (by decide)) (upsL J 335 0 (I 26 c).toInt64) D
      have q : I1 26 = I 26 := lo 26 (by decide) (by decide)
      have hw : I 317 (812 + c) = I 26 c := by
        have := (h.2.1.2.2.2.2.2.2.1 c hc).2.1
        rw [nrw_at (by omega), nrm_at (show rl 25 c = true from Nat.blt_eq.mpr hc)] at this
        exact this
      refine tk_39 (r := I 26 c) (I1 := ups (ups I1 25 c y) 26 c z) (J1 := J) (D1 := D) (I2 := ups (ups I4 317 (800 + c) y) 317 (812 + c) z) (J2 := upsL J 335 0 (I 26 c).toInt64) (D2 := D) sc hx1 hx2 hx3 ?_ ?_ ?_ ?_ ?_ upsL_s ?_
      · rw [e_129_0, x_ni h1, cal_v, kn, e_129_6, x_nr h2.1, cal_v, kn, e_129_14, x_nr h2.2, cal_v, kn, e_129_22, e1, cal_v, kn, e_129_26, inb_n hc (by decide), cond_true, cond_true, cond_true, nI_clamp (by omega), q]
      · rw [uI (by decide), uI (by decide), hi _ (by decide)]
      · rw [uI (by decide), uI (by decide), hi _ (by decide)]
      · rw [e_245_0, x_inT h11, cal_v, ka, e_245_8, x_canT, cal_v, ka, e_245_12, d10, cond_false, e_245_15, x_inT h2.1, cal_v, ka, e_245_24, d10, cond_false, e_245_27, x_inT h2.2, cal_v, ka, e_245_35, d10, cond_false, e_245_38, e_245_43, x_canT, cal_v, ka, uu, e_245_47, d11, cond_true, e_245_52, e2, cal_v, kn, e_245_56, show (812 : Int32) + nI c = nI (812 + c) from nI_add 812 c, show (800 : Int32) + nI c = nI (800 + c) from nI_add 800 c, inb_n (by omega) (by decide), inb_n (by omega) (by decide), cond_true, cond_true, cond_true, nI_clamp (by omega), nI_clamp (by omega), w4, hw]
      · rw [uI (by decide), uI (by decide)]; exact r4
      · refine inv_of h (fin _ (mfar_ups (mfar_ups mfar_0 (by decide)) (by decide)) ?_)
        unfold PgRel
        rw [g_ups (o := 25) rfl (Nat.blt_eq.mpr hc), g_ups (o := 24) rfl (Nat.blt_eq.mpr hc), g_same lo, n_upd (by omega), n_upd (by omega), w4]
        exact pg_cell h.2.1 hc (rg999 h2.1) (rg999 h2.2)
    · refine te_39_1 (s := 0) (I1 := I) (J1 := J) (D1 := D) (I2 := ups I 316 0 2) (J2 := J) (D2 := D) sc hx1 hx2 hx3 ?_ rfl rfl ?_ ?_ (inv_r h)
      · by_cases hy : in999 y
        · rw [e_129_0, x_ni h1, cal_v, kn, e_129_6, x_nr hy, cal_v, kn, e_129_14, x_nr1 (fun hz => h2 ⟨hy, hz⟩), cal_e]
        · rw [e_129_0, x_ni h1, cal_v, kn, e_129_6, x_nr1 hy, cal_e]
      · by_cases hy : in999 y
        · rw [e_245_0, x_inT h11, cal_v, ka, e_245_8, x_canT, cal_v, ka, e_245_12, d10, cond_false, e_245_15, x_inT hy, cal_v, ka, e_245_24, d10, cond_false, e_245_27, x_inF (fun hz => h2 ⟨hy, hz⟩), cal_v, ka, e_245_35, d00, cond_true, e_245_42, e_245_43, x_canF, cal_v, ka, uu, e_245_47, d01, cond_false, e_245_50]
        · rw [e_245_0, x_inT h11, cal_v, ka, e_245_8, x_canT, cal_v, ka, e_245_12, d10, cond_false, e_245_15, x_inF hy, cal_v, ka, e_245_24, d00, cond_true, e_245_42, e_245_43, x_canF, cal_v, ka, uu, e_245_47, d01, cond_false, e_245_50]
      · rw [uIs, uUs]
  · refine te_39_2 (s := 0) (I1 := I) (J1 := J) (D1 := D) (I2 := ups I 316 0 1) (J2 := J) (D2 := D) sc hx1 hx2 hx3 ?_ rfl rfl (m0 x y z h1) ?_ (inv_r h)
    · rw [e_129_0, x_ni1 h1, cal_e]
    · rw [uIs, uUs]
