/-! reason -/
def rsn (f : Nat → Int32) (y z : Nat) : Int32 :=
  bif hasN f y z then 0 else match highN (hasN f y) (7 - z) (z + 1), lowN (hasN f y) z with
  | none, _ => 2
  | some _, none => 3
  | some _, some _ => 1
section RS
variable {I : Nat → Nat → Int32} {J : Nat → Nat → Int64} {D : Nat → Nat → UInt64}
theorem c_rsn {z y : Nat} (hz : z < 8) (hy : y < 10) : ex (69, 0, [.ref 20, .int (nI z), .int (nI y)], [], mm I J D) = some (.inl (some (.int (rsn (I 23) y z))), mm I J D) := by
  rw [e_69_0, c_rd hz hy, cal_v, ka, e_69_6]
  unfold rsn
  by_cases hk : I 23 (10 * z + y) = 1000
  · rw [decide_eq_true hk, cond_true, e_69_14, c_high hz hy, cal_v, ka, e_69_20, show hasN (I 23) y z = false from decide_eq_false (fun q => q hk), cond_false]
    cases hh : highN (hasN (I 23) y) (7 - z) (z + 1) with
    | none => rw [show enc none = -1 from rfl, decide_eq_false (fun q => q rfl), cond_false, e_69_24]
    | some h =>
      have hb := highN_s hh
      rw [show enc (some h) = nI h from rfl, decide_eq_true (ne_m1 (by omega)), cond_true, e_69_26, c_low hz hy, cal_v, ka, e_69_32]
      cases hl : lowN (hasN (I 23) y) z with
      | none => rw [show enc none = -1 from rfl, decide_eq_false (fun q => q rfl), cond_false, e_69_36, e_69_41]
      | some l =>
        have lb := lowN_s hl
        rw [show enc (some l) = nI l from rfl, decide_eq_true (ne_m1 (by omega)), cond_true, e_69_40, e_69_41]
  · rw [decide_eq_false hk, cond_false, e_69_12, show hasN (I 23) y z = true from decide_eq_true hk, cond_true]
theorem m_rsn {z y : Nat} {f : Nat → Int32} (hz : z < 8) (hy : y < 10) (c : Cor f y I) (ne : ∃ j, j < 8 ∧ hasN f y j = true) : ex (240, 11, [.ref 316, .int (nI z), .int (nI y), dv, dv], [], mm I J D) = some (.inl (some (.int (rsn f y z))), mm I J D) := by
  rw [e_240_11, m_low hz hy c, cal_v, ka, e_240_18]
  unfold rsn
  have hs : highN (hasN f y) (8 - z) z = bif hasN f y z then some z else highN (hasN f y) (7 - z) (z + 1) := by
    rw [show 8 - z = (7 - z) + 1 by omega]; rfl
  have hl1 : lowN (hasN f y) (z + 1) = bif hasN f y z then some z else lowN (hasN f y) z := rfl
  rw [hl1]
  have hg := m_high (J := J) (D := D) hz hy c
  rw [hs] at hg
  cases hp : hasN f y z with
  | true =>
    have h1 : I 317 (640 + 8 * y + z) = 1 := by
      rcases c z hz with ⟨q1, q2⟩ | ⟨q1, q2, q3⟩
      · exact absurd q1 (of_decide_eq_true hp)
      · exact q2
    rw [hp, cond_true] at hg
    rw [cond_true, cond_true, show enc (some z) = nI z from rfl, decide_eq_false (ne_m1 (by omega)), cond_false, e_240_22, e_240_27, hg, cal_v, ka, e_240_35, show enc (some z) = nI z from rfl, decide_eq_false (ne_m1 (by omega)), cond_false, e_240_39, e_240_44, m_hasT hz hy h1, cal_v, ka, e_240_52, d10, cond_false, e_240_55, e_240_81]
  | false =>
    have h1 : I 317 (640 + 8 * y + z) = 0 := by
      rcases c z hz with ⟨q1, q2⟩ | ⟨q1, q2, q3⟩
      · exact q2
      · exact absurd (ne1000 q1) (of_decide_eq_false hp)
    rw [hp, cond_false] at hg
    rw [cond_false, cond_false]
    cases hl : lowN (hasN f y) z with
    | none =>
      rw [show enc none = -1 from rfl, decide_eq_true rfl, cond_true, e_240_26, e_240_27, hg, cal_v, ka, e_240_35]
      cases hh : highN (hasN f y) (7 - z) (z + 1) with
      | none =>
        obtain ⟨j, hj, hj2⟩ := ne
        by_cases hjz : j = z
        · subst hjz; rw [hp] at hj2; cases hj2
        · by_cases hlt : j < z
          · rw [lowN_n hl j hlt] at hj2; cases hj2
          · rw [highN_n hh j (by omega) (by omega)] at hj2; cases hj2
      | some h =>
        have hb := highN_s hh
        rw [show enc (some h) = nI h from rfl, decide_eq_false (ne_m1 (by omega)), cond_false, e_240_39, e_240_44, m_hasF hz hy h1, cal_v, ka, e_240_52, d00, cond_true, e_240_59, d00, cond_true, e_240_72, d00, cond_true, e_240_80, e_240_81]
    | some l =>
      have lb := lowN_s hl
      rw [show enc (some l) = nI l from rfl, decide_eq_false (ne_m1 (by omega)), cond_false, e_240_22, e_240_27, hg, cal_v, ka, e_240_35]
      cases hh : highN (hasN f y) (7 - z) (z + 1) with
      | none =>
        rw [show enc none = -1 from rfl, decide_eq_true rfl, cond_true, e_240_43, e_240_44, m_hasF hz hy h1, cal_v, ka, e_240_52, d00, cond_true, e_240_59, d10, cond_false, e_240_63, d00, cond_true, e_240_72, d10, cond_false, e_240_76, e_240_81]
      | some h =>
        have hb := highN_s hh
        rw [show enc (some h) = nI h from rfl, decide_eq_false (ne_m1 (by omega)), cond_false, e_240_39, e_240_44, m_hasF hz hy h1, cal_v, ka, e_240_52, d00, cond_true, e_240_59, d10, cond_false, e_240_63, d10, cond_false, e_240_68, e_240_81]
end RS
theorem t_35 {L kk : Nat} {I : Nat → Nat → Int32} {J : Nat → Nat → Int64} {D : Nat → Nat → UInt64} (v : Int32) (h : Inv L kk I J D) (sc : ScOK v I) : Turn L kk 2287 v I J D := by
  obtain ⟨x, hx1⟩ : ∃ q, I 1000002 (v + 1).toNatClampNeg = q := ⟨_, rfl⟩
  obtain ⟨y, hx2⟩ : ∃ q, I 1000002 (v + 2).toNatClampNeg = q := ⟨_, rfl⟩
  have p8 := le_pred (v := x) (b := 7) (B := 8) (B1 := 7) rfl rfl (by decide)
  have p10 := le_pred (v := y) (b := 9) (B := 10) (B1 := 9) rfl rfl (by decide)
  by_cases h1 : (0 ≤ x ∧ x < 8) ∧ (0 ≤ y ∧ y < 10)
  · obtain ⟨h1, h2⟩ := h1
    obtain ⟨c, hc, rfl⟩ := ix_of (m := 8) (n := 8) rfl h1
    obtain ⟨d, hd, rfl⟩ := ix_of (m := 10) (n := 10) rfl h2
    have h11 := p8.mp h1
    have hk := inv_cor h hd
    by_cases ne : ∃ j, j < 8 ∧ hasN (I 23) d j = true
    · obtain ⟨r, hr⟩ : ∃ r, r = rsn (I 23) d c := ⟨_, rfl⟩
      refine tk_35 (r := r) (I1 := I) (J1 := J) (D1 := D) (I2 := ups I 316 0 0) (J2 := upsL J 335 0 r.toInt64) (D2 := D) sc hx1 hx2 ?_ rfl rfl ?_ ?_ upsL_s (inv_r h)
      · rw [e_125_0, x_ni h1, cal_v, kn, e_125_6, c_readT hd ne, cal_v, kn, e_125_11, c_rsn hc hd, cal_v, ka, e_125_23, hr]
      · rw [e_240_0, m_readT h11 hd hk ne, cal_v, ka, e_240_6, d11, cond_true, m_rsn hc hd hk.r ne, hr]
      · rw [uIs, uUs]
    · refine te_35_3 (s := 0) (I1 := I) (J1 := J) (D1 := D) (I2 := ups I 316 0 2) (J2 := J) (D2 := D) sc hx1 hx2 ?_ rfl rfl ?_ ?_ (inv_r h)
      · rw [e_125_0, x_ni h1, cal_v, kn, e_125_6, c_readF hd ne, cal_e]
      · rw [e_240_0, m_readF h11 hd hk ne, cal_v, ka, e_240_6, d01, cond_false, e_240_9]
      · rw [uIs, uUs]
  · refine te_35_2 (s := 0) (I1 := I) (J1 := J) (D1 := D) (I2 := ups I 316 0 1) (J2 := J) (D2 := D) sc hx1 hx2 ?_ rfl rfl ?_ ?_ (inv_r h)
    · by_cases h2 : 0 ≤ x ∧ x < 8
      · rw [e_125_0, x_ni h2, cal_v, kn, e_125_6, c_readO (fun q => h1 ⟨h2, q⟩), cal_e]
      · rw [e_125_0, x_ni1 h2, cal_e]
    · rw [e_240_0, m_readO (fun q => h1 ⟨p8.mpr q.1, p10.mpr q.2⟩), cal_v, ka, e_240_6, d01, cond_false, e_240_9]
    · rw [uIs, uUs]
