/-! balances, the line; the turns of valueOf, reason, balance, partBalance, lineOf -/
def balN (a f : Nat → Int32) (y : Nat) (q : Nat → Bool) : Nat → Int32
  | 0 => 0
  | n + 1 => balN a f y q n + (bif q n then a n * valN f y n else 0)
def lin : Option Nat → Int32
  | none => 0
  | some z => nI (z + 1)
theorem cnt_pos {p : Nat → Bool} : ∀ {n : Nat}, (∃ j, j < n ∧ p j = true) → 0 < cntN p n
  | 0, ⟨j, h, _⟩ => by omega
  | n + 1, ⟨j, h, e⟩ => by
    show 0 < cntN p n + _
    by_cases hj : j = n
    · subst hj; rw [e]; exact Nat.succ_pos _
    · have := cnt_pos (p := p) (n := n) ⟨j, by omega, e⟩
      omega
theorem cnt_zero {p : Nat → Bool} : ∀ {n : Nat}, (¬ ∃ j, j < n ∧ p j = true) → cntN p n = 0
  | 0, _ => rfl
  | n + 1, h => by
    show cntN p n + _ = 0
    rw [cnt_zero (p := p) (n := n) (fun ⟨j, hj, e⟩ => h ⟨j, by omega, e⟩)]
    cases e : p n with
    | true => exact absurd ⟨n, by omega, e⟩ h
    | false => rfl
theorem Cor.r {f : Nat → Int32} {y : Nat} {I : Nat → Nat → Int32} {r : Int32} (c : Cor f y I) : Cor f y (ups I 316 0 r) := fun z hz => by
  rw [uI (by decide)]; exact c z hz
theorem Cor.hf {f : Nat → Int32} {y : Nat} {I : Nat → Nat → Int32} (c : Cor f y I) : ∀ z, z < 8 → (f (10 * z + y) = 1000 ∧ I 317 (640 + 8 * y + z) = 0) ∨ (f (10 * z + y) ≠ 1000 ∧ I 317 (640 + 8 * y + z) = 1) := fun z hz => by
  rcases c z hz with h | ⟨h1, h2, -⟩
  · exact Or.inl h
  · exact Or.inr ⟨ne1000 h1, h2⟩
section VT
variable {I : Nat → Nat → Int32} {J : Nat → Nat → Int64} {D : Nat → Nat → UInt64}
theorem c_bal {y : Nat} (hy : y < 10) : ∀ r k, k + r = 8 → ex (71, 4, [.ref 20, .int (nI y), .int (balN (I 21) (I 23) y (fun _ => true) k), .int (nI k)], [], mm I J D) = some (.inl (some (.int (balN (I 21) (I 23) y (fun _ => true) 8))), mm I J D)
  | 0, k, h => by
    have : k = 8 := by omega
    subst this
    rw [e_71_4, decide_eq_true (show (8 : Int32) ≤ nI 8 by decide), cond_true, e_71_32]
  | r + 1, k, h => by
    have ih := c_bal hy r (k + 1) (by omega)
    rw [e_71_4, decide_eq_false (show ¬ (8 : Int32) ≤ nI k from nI_ge (a := k) (b := 8) (by omega) (by decide)), cond_false, e_71_10, inb_n (by omega) (by decide), cond_true, nI_clamp (by omega), c_val (by omega) hy, cal_v, ka, e_71_23, nI_1]
    exact ih
theorem c_balP {y : Nat} {pt : Int32} (hy : y < 10) : ∀ r k, k + r = 8 → ex (72, 5, [.ref 20, .int pt, .int (nI y), .int (balN (I 21) (I 23) y (fun n => decide (I 22 n = pt)) k), .int (nI k)], [], mm I J D) = some (.inl (some (.int (balN (I 21) (I 23) y (fun n => decide (I 22 n = pt)) 8))), mm I J D)
  | 0, k, h => by
    have : k = 8 := by omega
    subst this
    rw [e_72_5, decide_eq_true (show (8 : Int32) ≤ nI 8 by decide), cond_true, e_72_47]
  | r + 1, k, h => by
    have ih := c_balP hy r (k + 1) (pt := pt) (by omega)
    have hs : balN (I 21) (I 23) y (fun n => decide (I 22 n = pt)) (k + 1) = balN (I 21) (I 23) y (fun n => decide (I 22 n = pt)) k + (bif decide (I 22 k = pt) then I 21 k * valN (I 23) y k else 0) := rfl
    rw [e_72_5, decide_eq_false (show ¬ (8 : Int32) ≤ nI k from nI_ge (a := k) (b := 8) (by omega) (by decide)), cond_false, e_72_12, inb_n (by omega) (by decide), cond_true, nI_clamp (by omega)]
    by_cases hp : I 22 k = pt
    · rw [decide_eq_false (fun q => q hp), cond_false, e_72_23, inb_n (by omega) (by decide), cond_true, nI_clamp (by omega), c_val (by omega) hy, cal_v, ka, e_72_38, e_72_41, nI_1]
      rw [hs, decide_eq_true hp, cond_true] at ih
      exact ih
    · rw [decide_eq_true hp, cond_true, e_72_41, nI_1]
      rw [hs, decide_eq_false hp, cond_false, Int32.add_zero] at ih
      exact ih
theorem m_bal {y : Nat} {pt : Int32} {a f g : Nat → Int32} {q : Nat → Bool} (hy : y < 10) (c : Cor f y I) (ne : ∃ j, j < 8 ∧ hasN f y j = true) (hA : ∀ z, z < 8 → I 317 (624 + z) = a z) (hP : ∀ z, z < 8 → I 317 (632 + z) = g z) (hq : ∀ z, q z = true ↔ (pt = -1 ∨ g z = pt)) : ∀ r k, k + r = 8 → ex (241, 5, [.ref 316, .int pt, .int (nI y), .int (balN a f y q k), .int (nI k)], [], mm I J D) = some (.inl (some (.int (balN a f y q 8))), mm I J D)
  | 0, k, h => by
    have : k = 8 := by omega
    subst this
    rw [e_241_5, decide_eq_true (show (8 : Int32) ≤ nI 8 by decide), cond_true, e_241_64]
  | r + 1, k, h => by
    have ih := m_bal hy c ne hA hP hq r (k + 1) (by omega)
    have hs : balN a f y q (k + 1) = balN a f y q k + (bif q k then a k * valN f y k else 0) := rfl
    have fin : q k = true → ex (241, 33, [.ref 316, .int pt, .int (nI y), dv, .int (nI k)], [.int (balN a f y q k)], mm I J D) = some (.inl (some (.int (balN a f y q 8))), mm I J D) := by
      intro hk
      rw [e_241_33, show (624 : Int32) + nI k = nI (624 + k) from nI_add 624 k, inb_n (by omega) (by decide), cond_true, nI_clamp (by omega), m_fill (by omega) hy c ne, cal_v, ka, e_241_51, e_241_56, nI_1, hA k (by omega)]
      rw [hs, hk, cond_true] at ih
      exact ih
    rw [e_241_5, decide_eq_false (show ¬ (8 : Int32) ≤ nI k from nI_ge (a := k) (b := 8) (by omega) (by decide)), cond_false, e_241_12]
    by_cases h1 : pt = -1
    · rw [decide_eq_true h1, cond_true, fin ((hq k).mpr (Or.inl h1))]
    · rw [decide_eq_false h1, cond_false, e_241_18, show (632 : Int32) + nI k = nI (632 + k) from nI_add 632 k, inb_n (by omega) (by decide), cond_true, nI_clamp (by omega), hP k (by omega)]
      by_cases h2 : g k = pt
      · rw [decide_eq_false (fun q => q h2), cond_false, fin ((hq k).mpr (Or.inr h2))]
      · rw [decide_eq_true h2, cond_true, e_241_55, e_241_56, nI_1]
        rw [hs, show q k = false from by rw [← Bool.not_eq_true]; exact fun t => ((hq k).mp t).elim h1 h2, cond_false] at ih
        exact ih
theorem c_lin {y : Nat} (hy : y < 10) : ∀ n, n ≤ 8 → ex (73, 3, [.ref 20, .int (nI y), .int (nI n - 1)], [], mm I J D) = some (.inl (some (.int (lin (lowN (fun z => decide (valN (I 23) y z < 0)) n)))), mm I J D)
  | 0, _ => by
    rw [e_73_3, decide_eq_true (show nI 0 - 1 < 0 by decide), cond_true, e_73_26]
    rfl
  | n + 1, hn => by
    have ih := c_lin hy n (by omega)
    have hs : lowN (fun z => decide (valN (I 23) y z < 0)) (n + 1) = bif decide (valN (I 23) y n < 0) then some n else lowN (fun z => decide (valN (I 23) y z < 0)) n := rfl
    rw [nI_pred, e_73_3, decide_eq_false (nI_pos (by omega)), cond_false, e_73_7, c_val (by omega) hy, cal_v, ka, e_73_13, hs]
    by_cases hk : valN (I 23) y n < 0
    · rw [decide_eq_false (Int32.not_le.mpr hk), cond_false, e_73_16, decide_eq_true hk, cond_true, nI_1]
      rfl
    · rw [decide_eq_true (Int32.not_lt.mp hk), cond_true, e_73_20, decide_eq_false hk, cond_false, nI_m1, ih]
theorem m_lin {y : Nat} {f : Nat → Int32} (hy : y < 10) (c : Cor f y I) (ne : ∃ j, j < 8 ∧ hasN f y j = true) : ∀ n, n ≤ 8 → ex (244, 14, [.ref 316, .int (nI y), .int (nI n)], [], mm I J D) = some (.inl (some (.int (lin (lowN (fun z => decide (valN f y z < 0)) n)))), mm I J D)
  | 0, _ => by
    rw [e_244_14, decide_eq_true (show nI 0 ≤ 0 by decide), cond_true, e_244_35]
    rfl
  | n + 1, hn => by
    have ih := m_lin hy c ne n (by omega)
    have hs : lowN (fun z => decide (valN f y z < 0)) (n + 1) = bif decide (valN f y n < 0) then some n else lowN (fun z => decide (valN f y z < 0)) n := rfl
    rw [e_244_14, decide_eq_false (nI_nle (by omega) (by omega)), cond_false, e_244_18, nI_pred, m_fill (by omega) hy c ne, cal_v, ka, e_244_26, hs]
    by_cases hk : valN f y n < 0
    · rw [decide_eq_true hk, cond_true, e_244_35, cond_true]
      rfl
    · rw [decide_eq_false hk, cond_false, e_244_29, cond_false, pk_m1, ih]
theorem c_readT {d : Nat} (hd : d < 10) (ne : ∃ j, j < 8 ∧ hasN (I 23) d j = true) : ex (151, 0, [.ref 0, .int (nI d)], [], mm I J D) = some (.inl none, mm I J D) := by
  have hp : 0 < rdN (I 23) d 8 := cnt_pos ne
  have hl : rdN (I 23) d 8 ≤ 8 := cnt_le _ 8
  rw [e_151_0, x_ni (show 0 ≤ nI d ∧ nI d < 10 from ⟨nI_pos' (by omega), (nI_ltI (b := 10) (by omega) (by decide)).mpr hd⟩), cal_v, kn, e_151_6, c_rds hd, cal_v, ka, e_151_17, decide_eq_true (nI_ne0 hp (by omega)), cond_true, e_151_31]
theorem c_readF {d : Nat} (hd : d < 10) (ne : ¬ ∃ j, j < 8 ∧ hasN (I 23) d j = true) : ex (151, 0, [.ref 0, .int (nI d)], [], mm I J D) = some (.inr (.inl 3), mm I J D) := by
  have hp : rdN (I 23) d 8 = 0 := cnt_zero ne
  rw [e_151_0, x_ni (show 0 ≤ nI d ∧ nI d < 10 from ⟨nI_pos' (by omega), (nI_ltI (b := 10) (by omega) (by decide)).mpr hd⟩), cal_v, kn, e_151_6, c_rds hd, cal_v, ka, e_151_17, hp, decide_eq_false (fun q => q rfl), cond_false, e_151_20]
theorem c_readO {x : Int32} (hx : ¬ (0 ≤ x ∧ x < 10)) : ex (151, 0, [.ref 0, .int x], [], mm I J D) = some (.inr (.inl 2), mm I J D) := by
  rw [e_151_0, x_ni1 hx, cal_e]
theorem m_readT {x : Int32} {d : Nat} {f : Nat → Int32} (hx : 0 ≤ x ∧ x ≤ 7) (hd : d < 10) (c : Cor f d I) (ne : ∃ j, j < 8 ∧ hasN f d j = true) : ex (238, 0, [.ref 316, .int x, .int (nI d)], [], mm I J D) = some (.inl (some (.int 1)), mm (ups I 316 0 0) J D) := by
  have hp : 0 < rdN f d 8 := cnt_pos ne
  have hl : rdN f d 8 ≤ 8 := cnt_le _ 8
  have hd9 : 0 ≤ nI d ∧ nI d ≤ 9 := ⟨nI_pos' (by omega), (nI_leI (b := 9) (by omega) (by decide)).mpr (by omega)⟩
  rw [e_238_0, x_zoneT hx, cal_v, ka, e_238_5, d10, cond_false, e_238_8, x_yearT hd9, cal_v, ka, e_238_12, d10, cond_false, e_238_15, e_238_20, x_canT, cal_v, ka, e_238_24, d10, cond_false, e_238_27, m_rds hd c.r.hf, cal_v, ka, e_238_33, decide_eq_false (nI_nle hp (by omega)), cond_false, e_238_36, e_238_41, x_canT, cal_v, ka, uu, e_238_45, d10, cond_false, e_238_48, e_238_53, decide_eq_true (Or.inr rfl), cond_true]
theorem m_readF {x : Int32} {d : Nat} {f : Nat → Int32} (hx : 0 ≤ x ∧ x ≤ 7) (hd : d < 10) (c : Cor f d I) (ne : ¬ ∃ j, j < 8 ∧ hasN f d j = true) : ex (238, 0, [.ref 316, .int x, .int (nI d)], [], mm I J D) = some (.inl (some (.int 0)), mm (ups I 316 0 2) J D) := by
  have hp : rdN f d 8 = 0 := cnt_zero ne
  have hd9 : 0 ≤ nI d ∧ nI d ≤ 9 := ⟨nI_pos' (by omega), (nI_leI (b := 9) (by omega) (by decide)).mpr (by omega)⟩
  rw [e_238_0, x_zoneT hx, cal_v, ka, e_238_5, d10, cond_false, e_238_8, x_yearT hd9, cal_v, ka, e_238_12, d10, cond_false, e_238_15, e_238_20, x_canT, cal_v, ka, e_238_24, d10, cond_false, e_238_27, m_rds hd c.r.hf, cal_v, ka, hp, e_238_33, decide_eq_true (show nI 0 ≤ 0 by decide), cond_true, e_238_40, e_238_41, x_canF, cal_v, ka, uu, e_238_45, d00, cond_true, e_238_52, e_238_53, decide_eq_true (Or.inl rfl), cond_true]
theorem m_readO {x y : Int32} (h : ¬ ((0 ≤ x ∧ x ≤ 7) ∧ (0 ≤ y ∧ y ≤ 9))) : ex (238, 0, [.ref 316, .int x, .int y], [], mm I J D) = some (.inl (some (.int 0)), mm (ups I 316 0 1) J D) := by
  by_cases hx : 0 ≤ x ∧ x ≤ 7
  · rw [e_238_0, x_zoneT hx, cal_v, ka, e_238_5, d10, cond_false, e_238_8, x_yearF (fun q => h ⟨hx, q⟩), cal_v, ka, e_238_12, d00, cond_true, e_238_19, e_238_20, x_canF, cal_v, ka, e_238_24, d00, cond_true, e_238_52, e_238_53, decide_eq_true (Or.inl rfl), cond_true]
  · rw [e_238_0, x_zoneF hx, cal_v, ka, e_238_5, d00, cond_true, e_238_19, e_238_20, x_canF, cal_v, ka, e_238_24, d00, cond_true, e_238_52, e_238_53, decide_eq_true (Or.inl rfl), cond_true]
end VT
theorem inv_cor {L kk : Nat} {I : Nat → Nat → Int32} {J : Nat → Nat → Int64} {D : Nat → Nat → UInt64} (h : Inv L kk I J D) {d : Nat} (hd : d < 10) : Cor (I 23) d I := fun z hz => (inv_sta h.2.1).2 z d hz hd
theorem t_34 {L kk : Nat} {I : Nat → Nat → Int32} {J : Nat → Nat → Int64} {D : Nat → Nat → UInt64} (v : Int32) (h : Inv L kk I J D) (sc : ScOK v I) : Turn L kk 2219 v I J D := by
  obtain ⟨x, hx1⟩ : ∃ q, I 1000002 (v + 1).toNatClampNeg = q := ⟨_, rfl⟩
  obtain ⟨y, hx2⟩ : ∃ q, I 1000002 (v + 2).toNatClampNeg = q := ⟨_, rfl⟩
  have p8 := le_pred (v := x) (b := 7) (B := 8) (B1 := 7) rfl rfl (by decide)
  have p10 := le_pred (v := y) (b := 9) (B := 10) (B1 := 9) rfl rfl (by decide)
  by_cases h1 : (0 ≤ x ∧ x < 8) ∧ (0 ≤ y ∧ y < 10)
  · obtain ⟨h1, h2⟩ := h1
    obtain ⟨c, hc, rfl⟩ := ix_of (m := 8) (n := 8) rfl h1
    obtain ⟨d, hd, rfl⟩ := ix_of (m := 10) (n := 10) rfl h2
    have h11 := p8.mp h1
    have hk := inv_cor h hd
    by_cases ne : ∃ j, j < 8 ∧ hasN (I 23) d j = true
    · obtain ⟨r, hr⟩ : ∃ r, r = valN (I 23) d c := ⟨_, rfl⟩
      refine tk_34 (r := r) (I1 := I) (J1 := J) (D1 := D) (I2 := ups I 316 0 0) (J2 := upsL J 335 0 r.toInt64) (D2 := D) sc hx1 hx2 ?_ rfl rfl ?_ ?_ upsL_s (inv_r h)
      · rw [e_124_0, x_ni h1, cal_v, kn, e_124_6, c_readT hd ne, cal_v, kn, e_124_11, c_val hc hd, cal_v, ka, e_124_23, hr]
      · rw [e_239_0, m_readT h11 hd hk ne, cal_v, ka, e_239_6, d10, cond_false, e_239_9, m_fill hc hd hk.r ne, cal_v, ka, e_239_15, e_239_19, hr]
      · rw [uIs, uUs]
    · refine te_34_3 (s := 0) (I1 := I) (J1 := J) (D1 := D) (I2 := ups I 316 0 2) (J2 := J) (D2 := D) sc hx1 hx2 ?_ rfl rfl ?_ ?_ (inv_r h)
      · rw [e_124_0, x_ni h1, cal_v, kn, e_124_6, c_readF hd ne, cal_e]
      · rw [e_239_0, m_readF h11 hd hk ne, cal_v, ka, e_239_6, d00, cond_true, e_239_18, e_239_19]
      · rw [uIs, uUs]
  · refine te_34_2 (s := 0) (I1 := I) (J1 := J) (D1 := D) (I2 := ups I 316 0 1) (J2 := J) (D2 := D) sc hx1 hx2 ?_ rfl rfl ?_ ?_ (inv_r h)
    · by_cases h2 : 0 ≤ x ∧ x < 8
      · rw [e_124_0, x_ni h2, cal_v, kn, e_124_6, c_readO (fun q => h1 ⟨h2, q⟩), cal_e]
      · rw [e_124_0, x_ni1 h2, cal_e]
    · rw [e_239_0, m_readO (fun q => h1 ⟨p8.mpr q.1, p10.mpr q.2⟩), cal_v, ka, e_239_6, d00, cond_true, e_239_18, e_239_19]
    · rw [uIs, uUs]
theorem t_36 {L kk : Nat} {I : Nat → Nat → Int32} {J : Nat → Nat → Int64} {D : Nat → Nat → UInt64} (v : Int32) (h : Inv L kk I J D) (sc : ScOK v I) : Turn L kk 2355 v I J D := by
  obtain ⟨x, hx1⟩ : ∃ q, I 1000002 (v + 1).toNatClampNeg = q := ⟨_, rfl⟩
  have p10 := le_pred (v := x) (b := 9) (B := 10) (B1 := 9) rfl rfl (by decide)
  by_cases h2 : 0 ≤ x ∧ x < 10
  · obtain ⟨d, hd, rfl⟩ := ix_of (m := 10) (n := 10) rfl h2
    have hk := inv_cor h hd
    by_cases ne : ∃ j, j < 8 ∧ hasN (I 23) d j = true
    · obtain ⟨r, hr⟩ : ∃ r, r = balN (I 21) (I 23) d (fun _ => true) 8 := ⟨_, rfl⟩
      refine tk_36 (r := r) (I1 := I) (J1 := J) (D1 := D) (I2 := ups I 316 0 0) (J2 := upsL J 335 0 r.toInt64) (D2 := D) sc hx1 ?_ rfl rfl ?_ ?_ upsL_s (inv_r h)
      · have := c_bal (I := I) (J := J) (D := D) hd 8 0 rfl
        rw [e_126_0, c_readT hd ne, cal_v, kn, e_126_5, e_71_0, (show ex (71, 4, [.ref 20, .int (nI d), .int 0, .int 0], [], mm I J D) = _ from this), cal_v, ka, e_126_16, hr]
      · have := m_bal (I := ups I 316 0 0) (J := upsL J 335 0 r.toInt64) (D := D) (pt := -1) (a := I 21) (g := I 22) (q := fun _ => true) hd hk.r ne (fun z hz => by rw [uI (by decide)]; exact ((inv_sta h.2.1).1 z hz).1.1) (fun z hz => by rw [uI (by decide)]; exact ((inv_sta h.2.1).1 z hz).2.1) (fun z => ⟨fun _ => Or.inl rfl, fun _ => rfl⟩) 8 0 rfl
        rw [e_242_0, m_readT (by decide) hd hk ne, cal_v, ka, e_242_6, d10, cond_false, e_242_9, e_241_0, (show ex (241, 5, [.ref 316, .int (-1), .int (nI d), .int 0, .int 0], [], mm _ _ D) = _ from this), cal_v, ka, e_242_15, e_242_19, hr]
      · rw [uIs, uUs]
    · refine te_36_3 (s := 0) (I1 := I) (J1 := J) (D1 := D) (I2 := ups I 316 0 2) (J2 := J) (D2 := D) sc hx1 ?_ rfl rfl ?_ ?_ (inv_r h)
      · rw [e_126_0, c_readF hd ne, cal_e]
      · rw [e_242_0, m_readF (by decide) hd hk ne, cal_v, ka, e_242_6, d00, cond_true, e_242_18, e_242_19]
      · rw [uIs, uUs]
  · refine te_36_2 (s := 0) (I1 := I) (J1 := J) (D1 := D) (I2 := ups I 316 0 1) (J2 := J) (D2 := D) sc hx1 ?_ rfl rfl ?_ ?_ (inv_r h)
    · rw [e_126_0, c_readO h2, cal_e]
    · rw [e_242_0, m_readO (fun q => h2 (p10.mpr q.2)), cal_v, ka, e_242_6, d00, cond_true, e_242_18, e_242_19]
    · rw [uIs, uUs]
theorem t_37 {L kk : Nat} {I : Nat → Nat → Int32} {J : Nat → Nat → Int64} {D : Nat → Nat → UInt64} (v : Int32) (h : Inv L kk I J D) (sc : ScOK v I) : Turn L kk 2411 v I J D := by
  obtain ⟨x, hx1⟩ : ∃ q, I 1000002 (v + 1).toNatClampNeg = q := ⟨_, rfl⟩
  obtain ⟨y, hx2⟩ : ∃ q, I 1000002 (v + 2).toNatClampNeg = q := ⟨_, rfl⟩
  have p8 := le_pred (v := x) (b := 3) (B := 4) (B1 := 3) rfl rfl (by decide)
  have p10 := le_pred (v := y) (b := 9) (B := 10) (B1 := 9) rfl rfl (by decide)
  by_cases h1 : (0 ≤ x ∧ x < 4) ∧ (0 ≤ y ∧ y < 10)
  · obtain ⟨h1, h2⟩ := h1
    obtain ⟨c, hc, rfl⟩ := ix_of (m := 4) (n := 4) rfl h1
    obtain ⟨d, hd, rfl⟩ := ix_of (m := 10) (n := 10) rfl h2
    have h11 := p8.mp h1
    have hk := inv_cor h hd
    by_cases ne : ∃ j, j < 8 ∧ hasN (I 23) d j = true
    · obtain ⟨r, hr⟩ : ∃ r, r = balN (I 21) (I 23) d (fun n => decide (I 22 n = nI c)) 8 := ⟨_, rfl⟩
      refine tk_37 (r := r) (I1 := I) (J1 := J) (D1 := D) (I2 := ups I 316 0 0) (J2 := upsL J 335 0 r.toInt64) (D2 := D) sc hx1 hx2 ?_ rfl rfl ?_ ?_ upsL_s (inv_r h)
      · have := c_balP (I := I) (J := J) (D := D) (pt := nI c) hd 8 0 rfl
        rw [e_127_0, x_ni h1, cal_v, kn, e_127_5, c_readT hd ne, cal_v, kn, e_127_10, e_72_0, (show ex (72, 5, [.ref 20, .int (nI c), .int (nI d), .int 0, .int 0], [], mm I J D) = _ from this), cal_v, ka, e_127_22, hr]
      · have := m_bal (I := ups I 316 0 0) (J := upsL J 335 0 r.toInt64) (D := D) (pt := nI c) (a := I 21) (g := I 22) (q := fun n => decide (I 22 n = nI c)) hd hk.r ne (fun z hz => by rw [uI (by decide)]; exact ((inv_sta h.2.1).1 z hz).1.1) (fun z hz => by rw [uI (by decide)]; exact ((inv_sta h.2.1).1 z hz).2.1) (fun z => ⟨fun t => Or.inr (of_decide_eq_true t), fun t => decide_eq_true (t.resolve_left (ne_m1 (by omega)))⟩) 8 0 rfl
        rw [e_243_0, x_inT h11, cal_v, ka, e_243_7, x_canT, cal_v, ka, e_243_11, d10, cond_false, e_243_14, m_readT (by decide) hd hk.r ne, cal_v, ka, uu, e_243_20, d10, cond_false, e_243_23, e_241_0, (show ex (241, 5, [.ref 316, .int (nI c), .int (nI d), .int 0, .int 0], [], mm _ _ D) = _ from this), cal_v, ka, e_243_29, e_243_33, hr]
      · rw [uIs, uUs]
    · refine te_37_3 (s := 0) (I1 := I) (J1 := J) (D1 := D) (I2 := ups I 316 0 2) (J2 := J) (D2 := D) sc hx1 hx2 ?_ rfl rfl ?_ ?_ (inv_r h)
      · rw [e_127_0, x_ni h1, cal_v, kn, e_127_5, c_readF hd ne, cal_e]
      · rw [e_243_0, x_inT h11, cal_v, ka, e_243_7, x_canT, cal_v, ka, e_243_11, d10, cond_false, e_243_14, m_readF (by decide) hd hk.r ne, cal_v, ka, uu, e_243_20, d00, cond_true, e_243_32, e_243_33]
      · rw [uIs, uUs]
  · refine te_37_2 (s := 0) (I1 := I) (J1 := J) (D1 := D) (I2 := ups I 316 0 1) (J2 := J) (D2 := D) sc hx1 hx2 ?_ rfl rfl ?_ ?_ (inv_r h)
    · by_cases h2 : 0 ≤ x ∧ x < 4
      · rw [e_127_0, x_ni h2, cal_v, kn, e_127_5, c_readO (fun q => h1 ⟨h2, q⟩), cal_e]
      · rw [e_127_0, x_ni1 h2, cal_e]
    · by_cases h2 : 0 ≤ x ∧ x < 4
      · rw [e_243_0, x_inT (p8.mp h2), cal_v, ka, e_243_7, x_canT, cal_v, ka, e_243_11, d10, cond_false, e_243_14, m_readO (fun q => h1 ⟨h2, p10.mpr q.2⟩), cal_v, ka, uu, e_243_20, d00, cond_true, e_243_32, e_243_33]
      · rw [e_243_0, x_inF (fun q => h2 (p8.mpr q)), cal_v, ka, e_243_7, x_canF, cal_v, ka, e_243_11, d00, cond_true, e_243_32, e_243_33]
    · rw [uIs, uUs]
theorem t_38 {L kk : Nat} {I : Nat → Nat → Int32} {J : Nat → Nat → Int64} {D : Nat → Nat → UInt64} (v : Int32) (h : Inv L kk I J D) (sc : ScOK v I) : Turn L kk 2479 v I J D := by
  obtain ⟨x, hx1⟩ : ∃ q, I 1000002 (v + 1).toNatClampNeg = q := ⟨_, rfl⟩
  have p10 := le_pred (v := x) (b := 9) (B := 10) (B1 := 9) rfl rfl (by decide)
  by_cases h2 : 0 ≤ x ∧ x < 10
  · obtain ⟨d, hd, rfl⟩ := ix_of (m := 10) (n := 10) rfl h2
    have hk := inv_cor h hd
    by_cases ne : ∃ j, j < 8 ∧ hasN (I 23) d j = true
    · obtain ⟨r, hr⟩ : ∃ r, r = lin (lowN (fun z => decide (valN (I 23) d z < 0)) 8) := ⟨_, rfl⟩
      refine tk_38 (r := r) (I1 := I) (J1 := J) (D1 := D) (I2 := ups I 316 0 0) (J2 := upsL J 335 0 r.toInt64) (D2 := D) sc hx1 ?_ rfl rfl ?_ ?_ upsL_s (inv_r h)
      · have := c_lin (I := I) (J := J) (D := D) hd 8 (by decide)
        rw [e_128_0, c_readT hd ne, cal_v, kn, e_128_5, e_73_0, (show ex (73, 3, [.ref 20, .int (nI d), .int 7], [], mm I J D) = _ from this), cal_v, ka, e_128_16, hr]
      · have := m_lin (I := ups I 316 0 0) (J := upsL J 335 0 r.toInt64) (D := D) hd hk.r ne 8 (by decide)
        rw [e_244_0, m_readT (by decide) hd hk ne, cal_v, ka, e_244_6, d11, cond_true, e_244_11, (show ex (244, 14, [.ref 316, .int (nI d), .int 8], [], mm _ _ D) = _ from this), hr]
      · rw [uIs, uUs]
    · refine te_38_3 (s := 0) (I1 := I) (J1 := J) (D1 := D) (I2 := ups I 316 0 2) (J2 := J) (D2 := D) sc hx1 ?_ rfl rfl ?_ ?_ (inv_r h)
      · rw [e_128_0, c_readF hd ne, cal_e]
      · rw [e_244_0, m_readF (by decide) hd hk ne, cal_v, ka, e_244_6, d01, cond_false, e_244_9]
      · rw [uIs, uUs]
  · refine te_38_2 (s := 0) (I1 := I) (J1 := J) (D1 := D) (I2 := ups I 316 0 1) (J2 := J) (D2 := D) sc hx1 ?_ rfl rfl ?_ ?_ (inv_r h)
    · rw [e_128_0, c_readO h2, cal_e]
    · rw [e_244_0, m_readO (fun q => h2 (p10.mpr q.2)), cal_v, ka, e_244_6, d01, cond_false, e_244_9]
    · rw [uIs, uUs]
