/-! meanValue -/
def areN (a : Nat → Int32) : Nat → Nat
  | 0 => 0
  | n + 1 => areN a n + (a n).toNatClampNeg
theorem are_b {a : Nat → Int32} : ∀ {n : Nat}, (∀ z, z < n → rg 1 99 (a z)) → n ≤ areN a n ∧ areN a n ≤ 99 * n
  | 0, _ => ⟨Nat.le_refl _, Nat.le_refl _⟩
  | n + 1, h => by
    have ih := are_b (n := n) (fun z hz => h z (by omega))
    obtain ⟨m, hm, hm2, e⟩ := rg_nN (h n (by omega)) (by decide)
    have h1 := (h n (by omega)).1
    rw [e, nI_toInt hm2] at h1
    show n + 1 ≤ areN a n + (a n).toNatClampNeg ∧ areN a n + (a n).toNatClampNeg ≤ 99 * (n + 1)
    rw [e, nI_clamp hm2]
    omega
section MV
variable {I : Nat → Nat → Int32} {J : Nat → Nat → Int64} {D : Nat → Nat → UInt64}
theorem are_s {a : Nat → Int32} (ha : ∀ z, z < 8 → rg 1 99 (a z)) {k : Nat} (hk : k < 8) : nI (areN a k) + a k = nI (areN a (k + 1)) := by
  obtain ⟨m, hm, hm2, e⟩ := rg_nN (ha k hk) (by decide)
  show _ = nI (areN a k + (a k).toNatClampNeg)
  rw [e, nI_clamp hm2, nI_add]
theorem c_arel (ha : ∀ z, z < 8 → rg 1 99 (I 21 z)) : ∀ r k, k + r = 8 → ex (74, 4, [.ref 20, .int (nI (areN (I 21) k)), .int (nI k)], [], mm I J D) = some (.inl (some (.int (nI (areN (I 21) 8)))), mm I J D)
  | 0, k, h => by
    have : k = 8 := by omega
    subst this
    rw [e_74_4, decide_eq_true (show (8 : Int32) ≤ nI 8 by decide), cond_true, e_74_25]
  | r + 1, k, h => by
    have ih := c_arel ha r (k + 1) (by omega)
    rw [e_74_4, decide_eq_false (show ¬ (8 : Int32) ≤ nI k from nI_ge (a := k) (b := 8) (by omega) (by decide)), cond_false, e_74_10, inb_n (by omega) (by decide), cond_true, nI_clamp (by omega), are_s ha (by omega), nI_1]
    exact ih
theorem m_arel {a : Nat → Int32} {s : Int32} (ha : ∀ z, z < 8 → rg 1 99 (a z)) (hA : ∀ z, z < 8 → I 317 (624 + z) = a z) : ∀ r k, k + r = 8 → ex (266, 28, [.ref 316, dv, dv, .int s, .int (nI (areN a k)), .int (nI k)], [], mm I J D) = ex (266, 57, [dv, dv, dv, .int s, .int (nI (areN a 8)), dv], [], mm I J D)
  | 0, k, h => by
    have : k = 8 := by omega
    subst this
    rw [e_266_28, decide_eq_true (show (8 : Int32) ≤ nI 8 by decide), cond_true]
  | r + 1, k, h => by
    have ih := m_arel (s := s) ha hA r (k + 1) (by omega)
    rw [e_266_28, decide_eq_false (show ¬ (8 : Int32) ≤ nI k from nI_ge (a := k) (b := 8) (by omega) (by decide)), cond_false, e_266_35, show (624 : Int32) + nI k = nI (624 + k) from nI_add 624 k, inb_n (by omega) (by decide), cond_true, nI_clamp (by omega), hA k (by omega), are_s ha (by omega), nI_1]
    exact ih
theorem m_mean {a : Nat → Int32} {s : Int32} (ha : ∀ z, z < 8 → rg 1 99 (a z)) (hA : ∀ z, z < 8 → I 317 (624 + z) = a z) : ex (266, 21, [.ref 316, dv, dv, dv, dv, dv], [.int s], mm I J D) = some (.inl (some (.double (FP.ddiv (FP.i2d s) (FP.i2d (nI (areN a 8)))))), mm I J D) := by
  have hb := are_b ha
  rw [e_266_21, (show ex (266, 28, [.ref 316, dv, dv, .int s, .int 0, .int 0], [], mm I J D) = _ from m_arel (s := s) ha hA 8 0 rfl), e_266_57, div_ok (by omega) (by omega), cond_true]
end MV
theorem tc_48_2 : ctc 308 4 2 = some 11 := by decide +kernel
theorem tc_48_3 : ctc 308 4 3 = some 14 := by decide +kernel
theorem t_48e {L kk : Nat} {I I2 : Nat → Nat → Int32} {J : Nat → Nat → Int64} {D : Nat → Nat → UInt64} {v x1 c : Int32} {s : UInt64} (sc : ScOK v I) (hx1 : I 1000002 (v + 1).toNatClampNeg = x1) (hc : c ≠ 0) (w : ex (308, 0, [.ref 0, .int x1, .ref 336, dv], [], mm I J D) = some (.inl (some (.int c)), mm I J D)) (e2 : ex (266, 0, [.ref 316, .int x1, dv, dv, dv, dv], [], mm I J D) = some (.inl (some (.double s)), mm I2 J D)) (q3 : I2 316 0 = c) (hi : Inv L (kk + 1) I2 J D) : Turn L kk 2978 v I J D := by
  refine ⟨I2, J, D, (e_309_2978 I J D v).trans ?_, hi⟩
  rw [sc1 sc, cond_true, hx1, w, cal_v, ka]
  refine (e_309_2990 I _ D v c).trans ?_
  rw [sc1 sc, cond_true, hx1, e2, cal_v]
  refine (e_309_3002 _ _ _ v _ _).trans ?_
  rw [e_155_0, cal_v, ka, q3]
  refine (e_309_3008 _ _ _ v _ _ _).trans ?_
  rw [decide_eq_true rfl, cond_true]
  refine (e_309_3015 _ _ _ v _ _).trans ?_
  rw [decide_eq_true hc, cond_true]
  refine (e_309_3052 _ _ _ v).trans ?_
  exact e_309_3111 _ _ _ v
theorem t_48 {L kk : Nat} {I : Nat → Nat → Int32} {J : Nat → Nat → Int64} {D : Nat → Nat → UInt64} (v : Int32) (h : Inv L kk I J D) (sc : ScOK v I) : Turn L kk 2978 v I J D := by
  obtain ⟨x, hx1⟩ : ∃ q, I 1000002 (v + 1).toNatClampNeg = q := ⟨_, rfl⟩
  have p10 := le_pred (v := x) (b := 9) (B := 10) (B1 := 9) rfl rfl (by decide)
  have ha : ∀ z, z < 8 → rg 1 99 (I 21 z) := fun z hz => ((inv_sta h.2.1).1 z hz).1.2
  have hA : ∀ z, z < 8 → ups I 316 0 0 317 (624 + z) = I 21 z := fun z hz => by rw [uI (by decide)]; exact ((inv_sta h.2.1).1 z hz).1.1
  have hA2 : ∀ c, ∀ z, z < 8 → ups I 316 0 c 317 (624 + z) = I 21 z := fun c z hz => by rw [uI (by decide)]; exact ((inv_sta h.2.1).1 z hz).1.1
  have hb := are_b ha
  by_cases h2 : 0 ≤ x ∧ x < 10
  · obtain ⟨d, hd, rfl⟩ := ix_of (m := 10) (n := 10) rfl h2
    have hk := inv_cor h hd
    by_cases ne : ∃ j, j < 8 ∧ hasN (I 23) d j = true
    · obtain ⟨b, hbl⟩ : ∃ r, r = balN (I 21) (I 23) d (fun _ => true) 8 := ⟨_, rfl⟩
      obtain ⟨r, hr⟩ : ∃ r, r = FP.ddiv (FP.i2d b) (FP.i2d (nI (areN (I 21) 8))) := ⟨_, rfl⟩
      have c1 := c_bal (I := I) (J := J) (D := D) hd 8 0 rfl
      have c2 := c_arel (J := J) (D := D) ha 8 0 rfl
      have e1 : ex (138, 0, [.ref 0, .int (nI d)], [], mm I J D) = some (.inl (some (.double r)), mm I J D) := by
        rw [e_138_0, c_readT hd ne, cal_v, kn, e_138_5, e_71_0, (show ex (71, 4, [.ref 20, .int (nI d), .int 0, .int 0], [], mm I J D) = _ from c1), cal_v, ka, e_138_16, e_74_0, (show ex (74, 4, [.ref 20, .int 0, .int 0], [], mm I J D) = _ from c2), cal_v, ka, e_138_27, ← hbl, div_ok (by omega) (by omega), cond_true, hr]
      obtain ⟨D1, hD1⟩ : ∃ D1, D1 = upR D 336 (va_up (D 336) (0 : Int32).toNatClampNeg r) := ⟨_, rfl⟩
      have w : ex (308, 0, [.ref 0, .int (nI d), .ref 336, dv], [], mm I J D) = some (.inl (some (.int 0)), mm I J D1) := by
        rw [e_308_0, e1, calH_v]
        show ex (308, 7, [dv, dv, dv, dv], [.double r, .int 0, .ref 336], mm I J D) = _
        rw [e_308_7, show inb 0 1 = true by decide, cond_true, e_308_17, hD1]
      have dr : D1 336 0 = r := by rw [hD1, uRs]; rfl
      have m1 := m_bal (I := ups I 316 0 0) (J := J) (D := D1) (pt := -1) (a := I 21) (g := I 22) (q := fun _ => true) hd hk.r ne (fun z hz => by rw [uI (by decide)]; exact ((inv_sta h.2.1).1 z hz).1.1) (fun z hz => by rw [uI (by decide)]; exact ((inv_sta h.2.1).1 z hz).2.1) (fun z => ⟨fun _ => Or.inl rfl, fun _ => rfl⟩) 8 0 rfl
      have e2 : ex (266, 0, [.ref 316, .int (nI d), dv, dv, dv, dv], [], mm I J D1) = some (.inl (some (.double r)), mm (ups I 316 0 0) J D1) := by
        rw [e_266_0, m_readT (by decide) hd hk ne, cal_v, ka, e_266_6, d10, cond_false, e_266_11, e_241_0, (show ex (241, 5, [.ref 316, .int (-1), .int (nI d), .int 0, .int 0], [], mm _ _ D1) = _ from m1), cal_v, ka, e_266_17, m_mean ha hA, ← hbl, hr]
      refine ⟨ups I 316 0 0, J, D1, (e_309_2978 I J D v).trans ?_, inv_r h⟩
      rw [sc1 sc, cond_true, hx1, w, cal_v, ka]
      refine (e_309_2990 I _ D1 v 0).trans ?_
      rw [sc1 sc, cond_true, hx1, e2, cal_v]
      refine (e_309_3002 _ _ _ v _ _).trans ?_
      rw [e_155_0, cal_v, ka, uIs, uUs]
      refine (e_309_3008 _ _ _ v _ _ _).trans ?_
      rw [decide_eq_true rfl, cond_true]
      refine (e_309_3015 _ _ _ v _ _).trans ?_
      rw [decide_eq_false (by decide), cond_false]
      refine (e_309_3020 _ _ _ v _).trans ?_
      rw [dr]
      by_cases hc : (Op.cmpValue (FP.dcmp r r) .l) = 0
      · rw [decide_eq_true hc, cond_true]
        refine (e_309_3052 _ _ _ v).trans ?_
        exact e_309_3111 _ _ _ v
      · rw [decide_eq_false hc, cond_false]
        refine (e_309_3030 _ _ _ v _).trans ?_
        rw [dr, decide_eq_false hc, cond_false]
        refine (e_309_3042 _ _ _ v _).trans ?_
        rw [decide_eq_true hc, cond_true]
        refine (e_309_3052 _ _ _ v).trans ?_
        exact e_309_3111 _ _ _ v
    · refine t_48e (c := 2) (s := FP.ddiv (FP.i2d 0) (FP.i2d (nI (areN (I 21) 8)))) (I2 := ups I 316 0 2) sc hx1 (by decide) ?_ ?_ (by rw [uIs, uUs]) (inv_r h)
      · have e1 : ex (138, 0, [.ref 0, .int (nI d)], [], mm I J D) = some (.inr (.inl 3), mm I J D) := by rw [e_138_0, c_readF hd ne, cal_e]
        rw [e_308_0, e1, calH_x tc_48_3]
        exact e_308_14 _ _ _
      · rw [e_266_0, m_readF (by decide) hd hk ne, cal_v, ka, e_266_6, d00, cond_true, e_266_20, m_mean ha (hA2 2)]
  · refine t_48e (c := 1) (s := FP.ddiv (FP.i2d 0) (FP.i2d (nI (areN (I 21) 8)))) (I2 := ups I 316 0 1) sc hx1 (by decide) ?_ ?_ (by rw [uIs, uUs]) (inv_r h)
    · have e1 : ex (138, 0, [.ref 0, .int x], [], mm I J D) = some (.inr (.inl 2), mm I J D) := by rw [e_138_0, c_readO h2, cal_e]
      rw [e_308_0, e1, calH_x tc_48_2]
      exact e_308_11 _ _ _
    · rw [e_266_0, m_readO (fun q => h2 (p10.mpr q.2)), cal_v, ka, e_266_6, d00, cond_true, e_266_20, m_mean ha (hA2 1)]
