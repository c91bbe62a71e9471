/-! setPrices: the law's turn -/
theorem sc1 {v : Int32} {I : Nat → Nat → Int32} (h : ScOK v I) : (decide (0 ≤ v + 1) && decide (v + 1 < I iSCL 0)) = true := sc_d h (j := 1) (by decide)
theorem sc2 {v : Int32} {I : Nat → Nat → Int32} (h : ScOK v I) : (decide (0 ≤ v + 2) && decide (v + 2 < I iSCL 0)) = true := sc_d h (j := 2) (by decide)
theorem sc3 {v : Int32} {I : Nat → Nat → Int32} (h : ScOK v I) : (decide (0 ≤ v + 3) && decide (v + 3 < I iSCL 0)) = true := sc_d h (j := 3) (by decide)
theorem sc4 {v : Int32} {I : Nat → Nat → Int32} (h : ScOK v I) : (decide (0 ≤ v + 4) && decide (v + 4 < I iSCL 0)) = true := sc_d h (j := 4) (by decide)
theorem t_20 {L kk : Nat} {I : Nat → Nat → Int32} {J : Nat → Nat → Int64} {D : Nat → Nat → UInt64} (v : Int32) (h : Inv L kk I J D) (sc : ScOK v I) : Turn L kk 1333 v I J D := by
  obtain ⟨i0, i1, ⟨a, xx, e, r1, r2, r3, r4, r5, r6, r7, r8, r9⟩, i3, i4⟩ := id h
  obtain ⟨x, hx⟩ : ∃ x, x = I 1000002 (v + 1).toNatClampNeg := ⟨_, rfl⟩
  obtain ⟨y, hy⟩ : ∃ y, y = I 1000002 (v + 2).toNatClampNeg := ⟨_, rfl⟩
  obtain ⟨z, hz⟩ : ∃ z, z = I 1000002 (v + 3).toNatClampNeg := ⟨_, rfl⟩
  by_cases hok : in20 x ∧ in20 y ∧ in20 z
  · obtain ⟨I1, e1, c⟩ := c_20 hok r2 r1 r5 r6 (fun k hk => i1.th k hk) J D
    have far1 : ∀ p, p ≠ 0 → 245 ≤ p → I1 p = I p := fun p h0 hp => c.2.2.2 p h0 (Or.inr (by omega))
    obtain ⟨I2, hI2⟩ : ∃ I2, I2 = ups (ups (ups I1 1 6 x) 1 7 y) 1 8 z := ⟨_, rfl⟩
    have cf0 : ∀ p, p ≠ 1 → I2 p = I1 p := fun p hp => by rw [hI2, uI hp, uI hp, uI hp]
    rw [← hI2] at e1
    have far2 : ∀ p, 245 ≤ p → I2 p = I p := fun p hp => (cf0 p (by omega)).trans (far1 p (by omega) hp)
    obtain ⟨I4, e2, e3, k⟩ := m_20 hok (I := I2) r3 r1 (by rw [far2 316 (by decide)]; exact r8) (by rw [far2 316 (by decide)]; exact r7) (upsL J 335 0 (I 1 6 + I 1 7 + I 1 8).toInt64) D
    have q4 : I4 317 = I 317 := by rw [k.2.2.2.2.2.1 317 (by decide) (by decide), uI (by decide), far2 317 (by decide)]
    have pri := i1.2.2.2.2.1
    have w1 : I 317 621 = I 1 6 := by have := pri.1.1; rw [nrw_at (by decide), nrm_at (by decide)] at this; exact this
    have w2 : I 317 622 = I 1 7 := by have := pri.2.1.1; rw [nrw_at (by decide), nrm_at (by decide)] at this; exact this
    have w3 : I 317 623 = I 1 8 := by have := pri.2.2.1; rw [nrw_at (by decide), nrm_at (by decide)] at this; exact this
    rw [far2 317 (by decide), w1, w2, w3] at e3
    refine ⟨ups (ups (ups I4 317 621 x) 317 622 y) 317 623 z, upsL J 335 0 (I 1 6 + I 1 7 + I 1 8).toInt64, D, (e_309_1333 I J D v).trans ?_, ?_⟩
    · have f1 : I2 iSCL 0 = I iSCL 0 := by rw [far2 iSCL (by decide)]
      have f2 : I2 1000002 = I 1000002 := far2 _ (by decide)
      rw [sc1 sc, sc2 sc, sc3 sc, cond_true, cond_true, cond_true, ← hx, ← hy, ← hz, e1, cal_v, ka]
      refine (e_309_1356 I2 _ D v 0).trans ?_
      rw [f1, f2, sc1 sc, sc2 sc, sc3 sc, cond_true, cond_true, cond_true, ← hx, ← hy, ← hz, e3, cal_v, ka]
      refine (e_309_1380 _ _ D v _ _).trans ?_
      have r0 : ups (ups (ups I4 317 621 x) 317 622 y) 317 623 z 316 0 = 0 := by
        rw [uI (by decide), uI (by decide), uI (by decide), k.2.2.2.2.1 0 (by decide) (by decide), uIs, uUs]
      rw [e_155_0, cal_v, ka, r0]
      refine (e_309_1386 _ _ D v _ _ _).trans ?_
      rw [decide_eq_true rfl, cond_true]
      refine (e_309_1393 _ _ D v _ _).trans ?_
      rw [decide_eq_false (by decide), cond_false]
      refine (e_309_1398 _ _ D v _).trans ?_
      rw [upsL_s, decide_eq_true (lgc _), cond_true]
      refine (e_309_1410 _ _ D v).trans ?_
      exact e_309_3111 _ _ D v
    · refine act_inv h r1 r2 r4 r9 c (I2 := I2) (I3 := ups I2 316 0 0) (I4 := I4) ⟨?_, ?_, ?_, ?_⟩ ⟨⟨fun p hp => uI (by omega), fun j hj => by rw [uIs, uU hj], uI (by decide), uI (by decide), uI (by decide), by rw [uI (by decide)]⟩, uI (by decide)⟩ k
        ⟨fun p hp => by rw [uI (by omega), uI (by omega), uI (by omega)], fun j _ => by rw [uI (by decide), uI (by decide), uI (by decide)], by rw [uI (by decide), uI (by decide), uI (by decide)], by rw [uI (by decide), uI (by decide), uI (by decide)], by rw [uI (by decide), uI (by decide), uI (by decide)], by rw [uI (by decide), uI (by decide), uI (by decide)]⟩ ?_
      · exact ⟨by rw [cf0 0 (by decide)], by rw [cf0 0 (by decide)]⟩
      · exact fun p h1 _ => cf0 p (by omega)
      · exact ⟨by rw [cf0 245 (by decide)], cf0 264 (by decide), by rw [cf0 312 (by decide)], cf0 313 (by decide)⟩
      · exact fun p hp => cf0 p (by omega)
      · unfold PgRel
        have g1 : nrm (pgF I2 1) = ups (ups (ups (nrm (pgF I 1)) 0 6 x) 0 7 y) 0 8 z := by
          rw [← nrm_ups (F := pgF I 1) (F' := ups (pgF I 1) 0 6 x) (by decide) (fun _ _ _ => rfl), ← nrm_ups (F := ups (pgF I 1) 0 6 x) (F' := ups (ups (pgF I 1) 0 6 x) 0 7 y) (by decide) (fun _ _ _ => rfl), ← nrm_ups (F := ups (ups (pgF I 1) 0 6 x) 0 7 y) (F' := pgF I2 1) (by decide) (fun o k hr => ?_)]
          have ho := rl_lt hr
          have hI1 : I1 (1 + o) = I (1 + o) := c.2.2.2 (1 + o) (by omega) (Or.inl (by omega))
          show I2 (1 + o) k = _
          by_cases h0 : o = 0
          · subst h0
            rw [hI2]
            simp only [uIs]
            show upd (upd (upd (I1 1) 6 x) 7 y) 8 z k = upd (upd (upd (I 1) 6 x) 7 y) 8 z k
            rw [show I1 1 = I 1 from hI1]
          · rw [cf0 (1 + o) (by omega), hI1, uI h0, uI h0, uI h0]
        have g2 : nrw (ups (ups (ups I4 317 621 x) 317 622 y) 317 623 z 317) = upd (upd (upd (nrw (I 317)) 621 x) 622 y) 623 z := by
          rw [← nrw_upd (w := I 317) (w' := upd (I 317) 621 x) (by decide) (fun _ _ => rfl), ← nrw_upd (w := upd (I 317) 621 x) (w' := upd (upd (I 317) 621 x) 622 y) (by decide) (fun _ _ => rfl), ← nrw_upd (w := upd (upd (I 317) 621 x) 622 y) (by decide) (fun k _ => ?_)]
          rw [uIs, uIs, uIs, q4]
        rw [g1, g2]
        exact pg_pri i1 (rg20 hok.1) (rg20 hok.2.1) (rg20 hok.2.2)
  · refine ⟨ups I 316 0 1, J, D, (e_309_1333 I J D v).trans ?_, inv_r h⟩
    rw [sc1 sc, sc2 sc, sc3 sc, cond_true, cond_true, cond_true, ← hx, ← hy, ← hz, c_20f hok, cal_v, ka]
    refine (e_309_1356 I _ D v 1).trans ?_
    rw [sc1 sc, sc2 sc, sc3 sc, cond_true, cond_true, cond_true, ← hx, ← hy, ← hz, m_20f hok, cal_v, ka]
    refine (e_309_1380 _ _ D v _ _).trans ?_
    rw [e_155_0, cal_v, ka, uIs, uUs]
    refine (e_309_1386 _ _ D v _ _ _).trans ?_
    rw [decide_eq_true rfl, cond_true]
    refine (e_309_1393 _ _ D v _ _).trans ?_
    rw [decide_eq_true (by decide), cond_true]
    refine (e_309_1410 _ _ D v).trans ?_
    exact e_309_3111 _ _ D v
