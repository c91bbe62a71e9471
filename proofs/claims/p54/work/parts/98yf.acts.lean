/-! acts and questions that end without the ends of part 98yd -/
/-- a call of the book's: its run, and a ghost of the reference beside the book behind it -/
def CallY (L kk μ : Nat) (as : List Value) (I : Nat → Nat → Int32) (J : Nat → Nat → Int64) (D : Nat → Nat → UInt64) : Prop :=
  ∃ o I1 J1 D1, ex (μ, 0, as, [], mm I J D) = some (o, mm I1 J1 D1) ∧ ∃ Ig Jg Dg, Kp I1 J1 D1 Ig Jg Dg ∧ Inv L (kk + 1) Ig Jg Dg
theorem callY {L kk pc : Nat} {v : Int32} {I : Nat → Nat → Int32} {J : Nat → Nat → Int64} {D : Nat → Nat → UInt64} {μ : Nat} {as : List Value} (h : TurnY L kk pc v I J D) (e : opY pc v I = (μ, as)) : CallY L kk μ as I J D := by
  obtain ⟨o, I1, J1, D1, h1, h2⟩ := h
  rw [e] at h1
  exact ⟨o, I1, J1, D1, h1, h2⟩
theorem y_0 {L kk : Nat} {I : Nat → Nat → Int32} {J : Nat → Nat → Int64} {D : Nat → Nat → UInt64} (h : Inv L kk I J D) : CallY L kk 90 [.ref 0] I J D := by
  obtain ⟨i0, i1, ⟨a, x, e, r1, r2, r3, r4, r5, r6, r7, r8, r9⟩, i3, i4⟩ := id h
  have g1 := i1.1
  obtain ⟨n, hn16, hn⟩ := rg_nI g1.2 (by decide)
  have hn1 : I 8 1 = nI n := by rw [nrm_at (by decide)] at hn; exact hn
  have hn2 : I 317 0 = nI n := by have := g1.1; rw [nrw_at (by decide), hn] at this; exact this
  by_cases h16 : 16 ≤ n
  · refine ⟨.inr (.inl 0), I, J, D, ?_, ups I 316 0 1, J, D, kpI (p := 316) (Nat.le_refl _), inv_same h (fun p hp => uI (by omega)) (uI (by decide)) (uI (by decide)) (uI (by decide)) (by rw [uI (by decide)]) (fun p h1 h2 => uI (by omega)) (fun j hj => by rw [uIs, uU hj]) (by rw [uI (by decide)])⟩
    rw [e_90_0, hn1, decide_eq_false (fun q => by have := (i16 hn16).mp q; omega), cond_false, e_90_15]
  · have h16 : n < 16 := Nat.lt_of_not_le h16
    obtain ⟨I1, e1, c⟩ := c_rem (kk := kk) r2 r1 r5 r6 (fun k hk => i1.th k hk) J D
    have q8 : I1 8 1 = nI n := by rw [c.2.2.2 8 (by decide) (Or.inl (by omega))]; exact hn1
    have e0 : ex (90, 0, [.ref 0], [], mm I J D) = some (.inl (some (.int (nI (n + 1)))), mm (ups I1 8 1 (nI (n + 1))) J D) := by
      rw [e_90_0, hn1, decide_eq_true ((i16 (by omega)).mpr h16), cond_true, e_90_25, e1, cal_v, kn, e_90_29, q8, nI_1, uIs, uUs]
    have cf : ∀ p, p ≠ 0 → 245 ≤ p → I1 p = I p := fun p h0 hp => c.2.2.2 p h0 (Or.inr (by omega))
    obtain ⟨I2, e2, e3, k⟩ := m_add (I := ups I1 8 1 (nI (n + 1))) h16 r3 r1 (by rw [uI (by decide), cf 317 (by decide) (by decide)]; exact hn2) (by rw [uI (by decide), cf 316 (by decide) (by decide)]; exact r8) (by rw [uI (by decide), cf 316 (by decide) (by decide)]; exact r7) (upsL J 335 0 (nI (n + 1)).toInt64) D
    obtain ⟨k1, k2, k3, k4, k5, k6, k7, k8⟩ := k
    rw [r4] at k4 k7 k8
    have d1 : ∀ p, p ≠ 316 → p ≠ 318 → p ≠ 317 → p ≠ 8 → ups I2 317 0 (nI (n + 1)) p = I1 p := fun p h1 h2 h3 h4 => by rw [uI h3, k6 p h1 h2, uI h1, uI h4]
    refine ⟨_, ups I1 8 1 (nI (n + 1)), J, D, e0, ups I2 317 0 (nI (n + 1)), upsL J 335 0 (nI (n + 1)).toInt64, D, fun p hp => ⟨?_, by unfold upsL; rw [nbeq (by omega)]; rfl, rfl⟩, ?_, ?_, ?_, ?_, ?_⟩
    · rw [uI (by omega), k6 p (by omega) (by omega), uI (by omega)]
    · rw [d1 iSCL (by decide) (by decide) (by decide) (by decide), cf iSCL (by decide) (by decide)]; exact i0
    · unfold PgRel
      rw [nrm_ups (F := pgF I 1) (o := 7) (k := 1) (x := nI (n + 1)) (by decide) (fun o k hr => ?_), nrw_upd (w := I 317) (y := 0) (x := nI (n + 1)) (by decide) (fun z hz => ?_)]
      · exact pg_layer i1 hn h16
      · rw [uIs]
        by_cases hz0 : z = 0
        · subst hz0; rw [uUs, uUs]
        · rw [uU hz0, uU hz0, k6 317 (by decide) (by decide), uI (by decide), uI (by decide), cf 317 (by decide) (by decide)]
      · have ho := rl_lt hr
        show ups I2 317 0 (nI (n + 1)) (1 + o) k = _
        by_cases h7 : o = 7
        · subst h7
          rw [uI (by decide), k6 _ (by decide) (by decide), uI (by decide), uIs, uIs]
          by_cases hk : k = 1
          · subst hk; rw [uUs, uUs]
          · rw [uU hk, uU hk, c.2.2.2 8 (by decide) (Or.inl (by omega))]
        · rw [d1 (1 + o) (by omega) (by omega) (by omega) (by omega), uI h7, c.2.2.2 (1 + o) (by omega) (Or.inl (by omega))]
    · refine his_act r1 r2 r4 r9 i1 ?_ ?_ (fun o k hr => ?_) (fun p h1 h2 h3 => ?_) k1 ?_ ?_ k4 (fun y hy => ?_) (fun z hz => ?_)
      · rw [d1 0 (by decide) (by decide) (by decide) (by decide)]; exact c.1
      · rw [d1 0 (by decide) (by decide) (by decide) (by decide)]; exact c.2.1
      · have ho := rl_lt hr
        show ups I2 317 0 (nI (n + 1)) (29 + 27 * x + o) k = _
        rw [d1 (29 + 27 * x + o) (by omega) (by omega) (by omega) (by omega)]
        exact c.2.2.1 o k hr
      · rw [d1 p (by omega) (by omega) (by omega) (by omega), c.2.2.2 p (by omega) h3]
      · rw [uI (by decide)]; exact k2
      · rw [uI (by decide)]; exact k3
      · rw [uI (by decide), k7 y hy, uI (by decide), uI (by decide), cf 317 (by decide) (by decide)]
      · rw [uI (by decide), k8 z hz, uI (by decide), uI (by decide), cf 318 (by decide) (by decide)]
    · refine txt_stay i3 ?_ ?_ ?_ ?_
      · rw [d1 312 (by decide) (by decide) (by decide) (by decide), cf 312 (by decide) (by decide)]
      · rw [d1 313 (by decide) (by decide) (by decide) (by decide), cf 313 (by decide) (by decide)]
      · rw [uI (by decide), k5 8 (by decide) (by decide), uIs, uU (by decide), uI (by decide), cf 316 (by decide) (by decide)]
      · rw [d1 320 (by decide) (by decide) (by decide) (by decide), cf 320 (by decide) (by decide)]
    · refine rng_stay i4 ?_ ?_ ?_ ?_
      · rw [d1 245 (by decide) (by decide) (by decide) (by decide), cf 245 (by decide) (by decide)]
      · rw [d1 264 (by decide) (by decide) (by decide) (by decide), cf 264 (by decide) (by decide)]
      · rw [uI (by decide), k5 6 (by decide) (by decide), uIs, uU (by decide), uI (by decide), cf 316 (by decide) (by decide)]
      · rw [d1 319 (by decide) (by decide) (by decide) (by decide), cf 319 (by decide) (by decide)]
theorem y_46 {L kk : Nat} {I : Nat → Nat → Int32} {J : Nat → Nat → Int64} {D : Nat → Nat → UInt64} (h : Inv L kk I J D) : CallY L kk 136 [.ref 0, dv] I J D := by
  obtain ⟨i0, i1, ⟨a, x, e, r1, r2, r3, r4, r5, r6, r7, r8, r9⟩, i3, i4⟩ := id h
  by_cases h0 : a = 0
  · subst h0
    exact ⟨_, I, J, D, x_undo0 r6 J D, ups I 316 0 1, J, D, kpI (p := 316) (Nat.le_refl _), inv_r h⟩
  · have h0 : 0 < a := Nat.pos_of_ne_zero h0
    obtain ⟨I2, I1, e1, q2, q3, q4, c⟩ := x_undo r2 h0 r1 r5 r6 J D
    have far : ∀ p, 28 ≤ p → I2 p = I p := fun p h1 => by rw [c.1 p (Or.inr (by omega)), q4 p (by omega)]
    obtain ⟨I3, e3, m0, m1, m2, m3, m4, -⟩ := y_undo (I := I2) r3 h0 r1 (by rw [far 316 (by decide)]; exact r8) (by rw [far 316 (by decide)]; exact r7) (upsL J 335 0 (nI (a - 1)).toInt64) D
    have far3 : ∀ p, 28 ≤ p → p ≠ 316 → p ≠ 317 → I3 p = I p := fun p h1 h2 h3 => by rw [m3 p h2 h3, far p h1]
    obtain ⟨g1, g2⟩ := t_46a r9 r2 h0 r1 r3 r4 q2 q3 q4 c m1 (by rw [m2 4 (by decide) (by decide), far 316 (by decide)]; exact r8) m3 m4
    refine ⟨_, I2, J, D, e1, I3, upsL J 335 0 (nI (a - 1)).toInt64, D, fun p hp => ⟨m3 p (by omega) (by omega), by unfold upsL; rw [nbeq (by omega)]; rfl, rfl⟩, ?_, g1, g2, ?_, ?_⟩
    · rw [far3 iSCL (by decide) (by decide) (by decide)]; exact i0
    · refine txt_stay i3 ?_ ?_ ?_ ?_
      · rw [far3 312 (by decide) (by decide) (by decide)]
      · rw [far3 313 (by decide) (by decide) (by decide)]
      · rw [m2 8 (by decide) (by decide), far 316 (by decide)]
      · rw [far3 320 (by decide) (by decide) (by decide)]
    · refine rng_stay i4 ?_ ?_ ?_ ?_
      · rw [far3 245 (by decide) (by decide) (by decide)]
      · rw [far3 264 (by decide) (by decide) (by decide)]
      · rw [m2 6 (by decide) (by decide), far 316 (by decide)]
      · rw [far3 319 (by decide) (by decide) (by decide)]
theorem y_50 {L kk : Nat} {I : Nat → Nat → Int32} {J : Nat → Nat → Int64} {D : Nat → Nat → UInt64} (h : Inv L kk I J D) : ∃ I1 Ig : Nat → Nat → Int32, ex (140, 0, [.ref 0], [], mm I J D) = some (.inl (some (.int 0)), mm I1 J D) ∧ Kp I1 J D Ig J D ∧ Inv L (kk + 1) Ig J D := by
  obtain ⟨n, h16, c8, w0, hin, hT, hW, hr⟩ := inv_pil h.2.1
  obtain ⟨rk, hr⟩ := clo_rank hr
  have hin2 : In n (clo (TI I)) := wsh_in hin 16
  obtain ⟨nb, b, d, hd⟩ := inv_bfi h.2.1
  obtain ⟨F, u1⟩ := c_fit (J := J) (D := D) b hd hd.2.1
  have hT2 : RwF ((upR I 7 F) 9) (TI I) := hT
  obtain ⟨I1, d1, d2, d3⟩ := c_draw (I := upR I 7 F) (J := J) (D := D) c8 h16 hin hT2
  obtain ⟨F2, u2⟩ := c_unlike (J := J) (D := D) d3 hin2 h16 (fun a j b h1 h2 => clo_tr hin h16 h1 h2) hr
  have s1 : Same I (upR I1 269 F2) := ((Same.R (by decide)).tr (Same.o d2)).tr (Same.R (by decide))
  have hg : ∀ z, z < 8 → rg 0 3 ((upR I1 269 F2) 22 z) := fun z hz => by
    rw [uR (by decide), d2 22 (by decide) (by decide) (by decide) (by decide), uR (by decide)]
    exact ((inv_sta h.2.1).1 z hz).2.2
  have u3 := c_uly (J := J) (D := D) hg 10 0 (by omega)
  have e1 : ex (140, 0, [.ref 0], [], mm I J D) = some (.inl (some (.int 0)), mm (upR I1 269 F2) J D) := by
    rw [e_140_0, u1, cal_v, ka, e_140_10, d1, cal_v, krw _, e_140_14, u2, cal_v, ka, e_140_17, e_75_0]
    rw [show ex (75, 4, [.ref 20, .int 0, .int 0], [], mm (upR I1 269 F2) J D) = _ from u3, cal_v, ka, e_140_28]
    rfl
  exact ⟨upR I1 269 F2, ups (upR I1 269 F2) 316 0 0, e1, kpI (p := 316) (Nat.le_refl _), inv_st h (s1.tr Same.r)⟩
