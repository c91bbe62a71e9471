/-! addLayer -/
theorem i16 {n : Nat} (h : n ≤ 16) : (nI n < (16 : Int32)) ↔ n < 16 := nI_ltI (a := n) (b := 16) (by omega) (by decide)
theorem i16l {n : Nat} (h : n ≤ 16) : ((16 : Int32) ≤ nI n) ↔ 16 ≤ n := nI_leI (a := 16) (b := n) (by decide) (by omega)
theorem c_add1 {n : Nat} (h : 16 ≤ n) (h16 : n ≤ 16) {I : Nat → Nat → Int32} (hn : I 8 1 = nI n) (J : Nat → Nat → Int64) (D : Nat → Nat → UInt64) : ex (269, 0, [.ref 0, .ref 335, dv], [], mm I J D) = some (.inl (some (.int 1)), mm I J D) := by
  rw [e_269_0, e_90_0, hn, decide_eq_false (fun q => by have := (i16 h16).mp q; omega), cond_false, e_90_15, calH_e ctc269]
  exact e_269_11 I J D
theorem c_add {kk n x a : Nat} (h : n < 16) (hx : x < 8) (ha : a ≤ 8) {I : Nat → Nat → Int32} (hn : I 8 1 = nI n) (h2 : I 0 2 = nI x) (h3 : I 0 3 = nI a) (h5 : ∀ k, k < 50 → I 6 k = 0 ∨ I 6 k = 1) (J : Nat → Nat → Int64) (D : Nat → Nat → UInt64) :
    ∃ I1, ex (269, 0, [.ref 0, .ref 335, dv], [], mm I J D) = some (.inl (some (.int 0)), mm (ups I1 8 1 (nI (n + 1))) (upsL J 335 0 (nI (n + 1)).toInt64) D) ∧ CRem x a I I1 := by
  obtain ⟨I1, e1, c⟩ := c_rem (kk := kk) hx ha h2 h3 h5 J D
  have q : I1 8 1 = nI n := by rw [c.2.2.2 8 (by decide) (Or.inl (by omega))]; exact hn
  refine ⟨I1, ?_, c⟩
  rw [e_269_0, e_90_0, hn, decide_eq_true ((i16 (by omega)).mpr h), cond_true, e_90_25, e1, cal_v, kn, e_90_29, q, nI_1, uIs, uUs, calH_v, ka]
  show ex (269, 6, [dv, dv, dv], [.int (nI (n + 1)), .int 0, .ref 335], mm _ J D) = _
  rw [e_269_6, show inb 0 1 = true by decide, cond_true, e_269_14]
  rfl
theorem m_add1 {n : Nat} (h : 16 ≤ n) (h16 : n ≤ 16) {I : Nat → Nat → Int32} (hn : I 317 0 = nI n) (J : Nat → Nat → Int64) (D : Nat → Nat → UInt64) : ex (164, 0, [.ref 316], [], mm I J D) = some (.inl (some (.int 0)), mm (ups I 316 0 1) J D) := by
  rw [e_164_0, hn, decide_eq_true ((i16l h16).mpr h), cond_true, e_164_16, e_164_17, show (.int 0 : Value) = .int (bI false) from rfl, x_can, cal_v, ka, e_164_21, decide_eq_false (show ¬ bI false ≠ 0 by decide), cond_false, e_164_24]
  rfl
theorem m_add {n e a : Nat} (h : n < 16) (he : e < 8) (ha : a ≤ 8) {I : Nat → Nat → Int32} (hn : I 317 0 = nI n) (h4 : I 316 4 = nI e) (h3 : I 316 3 = nI a) (J : Nat → Nat → Int64) (D : Nat → Nat → UInt64) :
    ∃ I1 e2, ex (164, 0, [.ref 316], [], mm I J D) = some (.inl (some (.int (nI (n + 1)))), mm (ups I1 317 0 (nI (n + 1))) J D) ∧ KeepOK e a (ups I 316 0 0) I1 e2 := by
  obtain ⟨I1, e2, e1, c⟩ := x_keep he ha (I := ups I 316 0 0) (by rw [uIs, uU (by decide)]; exact h4) (by rw [uIs, uU (by decide)]; exact h3) J D
  have q : I1 317 0 = nI n := by rw [c.2.2.2.2.2.1 317 (by decide) (by decide), uI (by decide)]; exact hn
  refine ⟨I1, e2, ?_, c⟩
  rw [e_164_0, hn, decide_eq_false (fun q => by have := (i16l (by omega)).mp q; omega), cond_false, e_164_12, e_164_17, show (.int 1 : Value) = .int (bI true) from rfl, x_can, cal_v, ka, e_164_21, decide_eq_true (show bI true ≠ 0 by decide), cond_true, e_164_26]
  show cal 164 30 [.ref 316] [] (ex (161, 0, [.ref 316, dv, dv], [], mm (ups I 316 0 0) J D)) = _
  rw [e1, cal_v, kn, e_164_30, q, nI_1, uIs, uUs]
/-- a call that both refuse, or that only asks: the model's 'raised' and out apart, nothing is another -/
theorem inv_same {L kk : Nat} {I I2 : Nat → Nat → Int32} {J J2 : Nat → Nat → Int64} {D D2 : Nat → Nat → UInt64} (h : Inv L kk I J D) (h1 : ∀ p, p < 245 → I2 p = I p) (h2 : I2 312 = I 312) (h3 : I2 313 = I 313) (h4 : I2 264 = I 264) (h5 : I2 245 3 = I 245 3)
    (m1 : ∀ p, 317 ≤ p → p < 321 → I2 p = I p) (m2 : ∀ j, j ≠ 0 → I2 316 j = I 316 j) (hs : I2 iSCL 0 = I iSCL 0) : Inv L (kk + 1) I2 J2 D2 := by
  obtain ⟨i0, i1, i2, i3, i4⟩ := h
  refine ⟨hs.trans i0, i1.go (Nat.le_succ kk) (fun o k hr => ?_) (fun y hy => by rw [m1 317 (by omega) (by omega)]), his_stay i2 (by rw [h1 0 (by omega)]) (by rw [h1 0 (by omega)]) (fun p hp hq => h1 p hq) (m2 3 (by decide)) (m2 4 (by decide)) (m1 318 (by omega) (by omega)), txt_stay i3 (by rw [h2]) h3 (m2 8 (by decide)) (m1 320 (by omega) (by omega)), rng_stay i4 h5 h4 (m2 6 (by decide)) (m1 319 (by omega) (by omega))⟩
  have := rl_lt hr
  show I2 (1 + o) k = I (1 + o) k
  rw [h1 (1 + o) (by omega)]
theorem t_0 {L kk : Nat} {I : Nat → Nat → Int32} {J : Nat → Nat → Int64} {D : Nat → Nat → UInt64} (v : Int32) (h : Inv L kk I J D) : Turn L kk 264 v I J D := by
  obtain ⟨i0, i1, ⟨a, x, e, r1, r2, r3, r4, r5, r6, r7, r8, r9⟩, i3, i4⟩ := id h
  have g1 := i1.1
  obtain ⟨n, hn16, hn⟩ := rg_nI g1.2 (by decide)
  have hn1 : I 8 1 = nI n := by rw [nrm_at (by decide)] at hn; exact hn
  have hn2 : I 317 0 = nI n := by have := g1.1; rw [nrw_at (by decide), hn] at this; exact this
  by_cases h16 : 16 ≤ n
  · refine ⟨ups I 316 0 1, J, D, ?_, inv_same h (fun p hp => uI (by omega)) (uI (by decide)) (uI (by decide)) (uI (by decide)) (by rw [uI (by decide)]) (fun p h1 h2 => uI (by omega)) (fun j hj => by rw [uIs, uU hj]) (by rw [uI (by decide)])⟩
    refine (e_309_264 I J D v).trans ?_
    rw [c_add1 h16 hn16 hn1, cal_v, ka, e_309_269, m_add1 h16 hn16 hn2, cal_v, ka, e_309_275, e_155_0, cal_v, ka, uIs, uUs, e_309_281, decide_eq_true rfl, cond_true, e_309_288, decide_eq_true (by decide), cond_true, e_309_305]
    exact e_309_3111 _ J D v
  · have h16 : n < 16 := Nat.lt_of_not_le h16
    obtain ⟨I1, e1, c⟩ := c_add (kk := kk) h16 r2 r1 hn1 r5 r6 (fun k hk => i1.th k hk) J D
    have cf : ∀ p, p ≠ 0 → 245 ≤ p → I1 p = I p := fun p h0 hp => c.2.2.2 p h0 (Or.inr (by omega))
    obtain ⟨I2, e2, e3, k⟩ := m_add (I := ups I1 8 1 (nI (n + 1))) h16 r3 r1 (by rw [uI (by decide), cf 317 (by decide) (by decide)]; exact hn2) (by rw [uI (by decide), cf 316 (by decide) (by decide)]; exact r8) (by rw [uI (by decide), cf 316 (by decide) (by decide)]; exact r7) (upsL J 335 0 (nI (n + 1)).toInt64) D
    obtain ⟨k1, k2, k3, k4, k5, k6, k7, k8⟩ := k
    rw [r4] at k4 k7 k8
    have d1 : ∀ p, p ≠ 316 → p ≠ 318 → p ≠ 317 → p ≠ 8 → ups I2 317 0 (nI (n + 1)) p = I1 p := fun p h1 h2 h3 h4 => by rw [uI h3, k6 p h1 h2, uI h1, uI h4]
    refine ⟨ups I2 317 0 (nI (n + 1)), upsL J 335 0 (nI (n + 1)).toInt64, D, ?_, ?_, ?_, ?_, ?_, ?_⟩
    · refine (e_309_264 I J D v).trans ?_
      rw [e1, cal_v, ka, e_309_269, e3, cal_v, ka, e_309_275, e_155_0, cal_v, ka, uI (by decide), k5 0 (by decide) (by decide), uIs, uUs, e_309_281, decide_eq_true rfl, cond_true, e_309_288, decide_eq_false (by decide), cond_false, e_309_293, upsL_s, decide_eq_true (lgc0 _), cond_true, e_309_305]
      exact e_309_3111 _ _ D v
    · rw [d1 iSCL (by decide) (by decide) (by decide) (by decide), cf iSCL (by decide) (by decide)]; exact i0
    · unfold PgRel
      rw [nrm_ups (F := pgF I 1) (o := 7) (k := 1) (x := nI (n + 1)) (by decide) (fun o k hr => ?_), nrw_upd (w := I 317) (y := 0) (x := nI (n + 1)) (by decide) (fun z hz => ?_)]
      · exact pg_layer i1 hn h16
      · rw [uIs]
        by_cases hz0 : z = 0
        · subst hz0; rw [uUs, uUs]
        · rw [uU hz0, uU hz0, k6 317 (by decide) (by decide), uI (by decide), uI (by decide), cf 317 (by decide) (by decide)]
      · have ho := rl_lt hr
        show ups I2 317 0 (nI (n + 1)) (1 + o) k = _
        by_cases h7 : o = 7
        · subst h7
          rw [uI (by decide), k6 _ (by decide) (by decide), uI (by decide), uIs, uIs]
          by_cases hk : k = 1
          · subst hk; rw [uUs, uUs]
          · rw [uU hk, uU hk, c.2.2.2 8 (by decide) (Or.inl (by omega))]
        · rw [d1 (1 + o) (by omega) (by omega) (by omega) (by omega), uI h7, c.2.2.2 (1 + o) (by omega) (Or.inl (by omega))]
    · refine his_act r1 r2 r4 r9 i1 ?_ ?_ (fun o k hr => ?_) (fun p h1 h2 h3 => ?_) k1 ?_ ?_ k4 (fun y hy => ?_) (fun z hz => ?_)
      · rw [d1 0 (by decide) (by decide) (by decide) (by decide)]; exact c.1
      · rw [d1 0 (by decide) (by decide) (by decide) (by decide)]; exact c.2.1
      · have ho := rl_lt hr
        show ups I2 317 0 (nI (n + 1)) (29 + 27 * x + o) k = _
        rw [d1 (29 + 27 * x + o) (by omega) (by omega) (by omega) (by omega)]
        exact c.2.2.1 o k hr
      · rw [d1 p (by omega) (by omega) (by omega) (by omega), c.2.2.2 p (by omega) h3]
      · rw [uI (by decide)]; exact k2
      · rw [uI (by decide)]; exact k3
      · rw [uI (by decide), k7 y hy, uI (by decide), uI (by decide), cf 317 (by decide) (by decide)]
      · rw [uI (by decide), k8 z hz, uI (by decide), uI (by decide), cf 318 (by decide) (by decide)]
    · refine txt_stay i3 ?_ ?_ ?_ ?_
      · rw [d1 312 (by decide) (by decide) (by decide) (by decide), cf 312 (by decide) (by decide)]
      · rw [d1 313 (by decide) (by decide) (by decide) (by decide), cf 313 (by decide) (by decide)]
      · rw [uI (by decide), k5 8 (by decide) (by decide), uIs, uU (by decide), uI (by decide), cf 316 (by decide) (by decide)]
      · rw [d1 320 (by decide) (by decide) (by decide) (by decide), cf 320 (by decide) (by decide)]
    · refine rng_stay i4 ?_ ?_ ?_ ?_
      · rw [d1 245 (by decide) (by decide) (by decide) (by decide), cf 245 (by decide) (by decide)]
      · rw [d1 264 (by decide) (by decide) (by decide) (by decide), cf 264 (by decide) (by decide)]
      · rw [uI (by decide), k5 6 (by decide) (by decide), uIs, uU (by decide), uI (by decide), cf 316 (by decide) (by decide)]
      · rw [d1 319 (by decide) (by decide) (by decide) (by decide), cf 319 (by decide) (by decide)]
