/-! least, most -/
theorem inv0_ring {L kk : Nat} {I I2 : Nat → Nat → Int32} (h : Inv0 L kk I) (h1 : ∀ p, p < 245 → I2 p = I p) (h2 : I2 312 = I 312) (h3 : I2 313 = I 313) (m2 : ∀ j, j ≠ 0 → j ≠ 6 → j ≠ 23 → I2 316 j = I 316 j) (m7 : I2 317 = I 317) (m8 : I2 318 = I 318) (m0 : I2 320 = I 320) (hs : I2 iSCL 0 = I iSCL 0) (hr : RRng I2) : Inv0 L (kk + 1) I2 ∧ TxtKeep I I2 := by
  obtain ⟨i0, i1, i2, i4⟩ := h
  refine ⟨⟨hs.trans i0, i1.go (Nat.le_succ kk) (fun o k hr => ?_) (fun y hy => by rw [m7]), his_stay i2 (by rw [h1 0 (by omega)]) (by rw [h1 0 (by omega)]) (fun p hp hq => h1 p hq) (m2 3 (by decide) (by decide) (by decide)) (m2 4 (by decide) (by decide) (by decide)) m8, hr⟩, by rw [h2], h3, m2 8 (by decide) (by decide) (by decide), m0⟩
  have := rl_lt hr
  show I2 (1 + o) k = I (1 + o) k
  rw [h1 (1 + o) (by omega)]
/-- one more bound, on both pages -/
theorem pg_put {kk n p q : Nat} {G : Nat → Nat → Int32} {w : Nat → Int32} {wv : Int} (h : PgR kk G w) (hn : G 1 5 = nI n) (h50 : n < 50) (hp : rg 0 (G 7 1).toInt (nI p)) (hq : rg 0 (G 7 1).toInt (nI q)) (p17 : p < 17) (q17 : q < 17) (hpq : p ≠ q) (hw : -9999 ≤ wv ∧ wv ≤ 9999)
    (hpot : ∃ e : Nat → Int, (∀ k, k < n → G 5 k = 1 → e (rN (G 2 k)) - e (rN (G 3 k)) ≤ (G 4 k).toInt) ∧ e p - e q ≤ wv) :
    PgR (kk + 1) (ups (ups (ups (ups (ups (ups G 2 n (nI p)) 3 n (nI q)) 4 n (Int32.ofInt wv)) 5 n 1) 1 5 (nI (n + 1))) 1 6 (G 1 6 + 1)) (upd (upd (upd (upd (upd w 1 (nI (n + 1))) (2 + n) (nI p)) (52 + n) (nI q)) (102 + n) (Int32.ofInt wv)) (152 + n) 1) := by
  obtain ⟨⟨b1, b2⟩, b3, b4, b5, -⟩ := h.2.1
  rw [hn, rN_nI (by omega)] at b4 b5
  obtain ⟨e, he1, he2⟩ := hpot
  obtain ⟨G', hG⟩ : ∃ G', G' = ups (ups (ups (ups (ups (ups G 2 n (nI p)) 3 n (nI q)) 4 n (Int32.ofInt wv)) 5 n 1) 1 5 (nI (n + 1))) 1 6 (G 1 6 + 1) := ⟨_, rfl⟩
  rw [← hG]
  have g0 : ∀ o, o < 1 ∨ 6 ≤ o → G' o = G o := fun o ho => by rw [hG, uI (by omega), uI (by omega), uI (by omega), uI (by omega), uI (by omega), uI (by omega)]
  have g2 : G' 2 = upd (G 2) n (nI p) := by rw [hG, uI (by decide), uI (by decide), uI (by decide), uI (by decide), uI (by decide), uIs]
  have g3 : G' 3 = upd (G 3) n (nI q) := by rw [hG, uI (by decide), uI (by decide), uI (by decide), uI (by decide), uIs, uI (by decide)]
  have g4 : G' 4 = upd (G 4) n (Int32.ofInt wv) := by rw [hG, uI (by decide), uI (by decide), uI (by decide), uIs, uI (by decide), uI (by decide)]
  have g5 : G' 5 = upd (G 5) n 1 := by rw [hG, uI (by decide), uI (by decide), uIs, uI (by decide), uI (by decide), uI (by decide)]
  have g15 : G' 1 5 = nI (n + 1) := by rw [hG, uIs, uU (by decide), uIs, uUs]
  have g16 : G' 1 6 = G 1 6 + 1 := by rw [hG, uIs, uUs]
  have e7 : G' 7 = G 7 := g0 7 (by decide)
  refine pgx_bou h g0 (fun y _ hy => by rw [uU (by omega), uU (by omega), uU (by omega), uU (by omega), uU (by omega)]) ⟨⟨?_, ?_⟩, fun k hk => ?_, fun k hk => ?_, ?_, e, fun k hk q2 => ?_⟩
  · rw [g15, uU (by omega), uU (by omega), uU (by omega), uU (by omega), uUs]
  · rw [g15]
    have := nI_toInt (n := n + 1) (by omega)
    exact ⟨by omega, by omega⟩
  · rw [g5]
    by_cases c : k = n
    · subst c; rw [uUs]; exact Or.inr rfl
    · rw [uU c]; exact b3 k hk
  · rw [g15, rN_nI (by omega)] at hk
    rw [g2, g3, g4, g5, e7]
    by_cases c : k = n
    · subst c
      rw [uUs, uUs, uUs, uUs]
      refine ⟨⟨by rw [uU (by omega), uU (by omega), uU (by omega), uUs], by rw [uU (by omega), uU (by omega), uUs], by rw [uU (by omega), uUs], by rw [uUs]⟩, hp, hq, fun c => hpq ((nI_eq (by omega) (by omega)).mp c), ?_⟩
      unfold rg
      rw [oI_t (by omega)]; exact hw
    · obtain ⟨⟨q1, q2, q3, q4⟩, q5⟩ := b4 k (by omega)
      rw [uU c, uU c, uU c, uU c]
      refine ⟨⟨?_, ?_, ?_, ?_⟩, q5⟩
      · rw [uU (by omega), uU (by omega), uU (by omega), uU (by omega), uU (by omega)]; exact q1
      · rw [uU (by omega), uU (by omega), uU (by omega), uU (by omega), uU (by omega)]; exact q2
      · rw [uU (by omega), uU (by omega), uU (by omega), uU (by omega), uU (by omega)]; exact q3
      · rw [uU (by omega), uU (by omega), uU (by omega), uU (by omega), uU (by omega)]; exact q4
  · rw [g16, g15, rN_nI (by omega), b5, nI_1, g5]
    refine congrArg nI ?_
    show _ = cntN (fun k => decide (upd (G 5) n 1 k = 1)) n + (bif decide (upd (G 5) n 1 n = 1) then 1 else 0)
    rw [uUs, cnt_congr (f := fun k => decide (upd (G 5) n 1 k = 1)) (g := fun k => decide (G 5 k = 1)) (n := n) (fun k hk => by rw [uU (by omega)])]
    rfl
  · rw [g15, rN_nI (by omega)] at hk
    rw [g5] at q2
    rw [g2, g3, g4]
    by_cases c : k = n
    · subst c
      rw [uUs, uUs, uUs, rN_nI (by omega), rN_nI (by omega), oI_t (by omega)]
      exact he2
    · rw [uU c] at q2
      rw [uU c, uU c, uU c]
      exact he1 k (by omega) q2
theorem neg_rg (v : Int32) : (-9999 ≤ -v ∧ -v ≤ 9999) ↔ (-9999 ≤ v ∧ v ≤ 9999) := by
  have e1 : (-9999 : Int32).toInt = -9999 := by decide
  have e2 : (9999 : Int32).toInt = 9999 := by decide
  rw [Int32.le_iff_toInt_le, Int32.le_iff_toInt_le, Int32.le_iff_toInt_le, Int32.le_iff_toInt_le, e1, e2, Int32.toInt_neg, Int.bmod_def]
  have h1 := Int32.le_toInt v
  have h2 := Int32.toInt_lt v
  omega
section M1
variable {I : Nat → Nat → Int32} {J : Nat → Nat → Int64} {D : Nat → Nat → UInt64} {m n : Nat} {o yg yr il : Int32}
theorem m171N (w0 : I 317 0 = nI m) (hn : ¬ ((0 ≤ o ∧ o ≤ nI m) ∧ (0 ≤ yg ∧ yg ≤ nI m))) : ex (171, 0, [.ref 316, .int o, .int yg, .int yr, .int il, dv, dv, dv, dv, dv], [], mm I J D) = some (.inl (some (.int 0)), mm (ups I 316 0 1) J D) := by
  by_cases h1 : 0 ≤ o ∧ o ≤ nI m
  · have h2 : ¬ (0 ≤ yg ∧ yg ≤ nI m) := fun q => hn ⟨h1, q⟩
    rw [← w0] at h1 h2
    rw [e_171_0, m_ptT h1, cal_v, ka, e_171_6, d10, cond_false, e_171_9, m_ptF h2, cal_v, ka, e_171_14, d00, cond_true, e_171_21, e_171_22, x_canF, cal_v, ka, e_171_26, d00, cond_true, e_171_84]
  · rw [← w0] at h1
    rw [e_171_0, m_ptF h1, cal_v, ka, e_171_6, d00, cond_true, e_171_21, e_171_22, x_canF, cal_v, ka, e_171_26, d00, cond_true, e_171_84]
theorem m171E (w0 : I 317 0 = nI m) (h1 : 0 ≤ o ∧ o ≤ nI m) (h2 : 0 ≤ yg ∧ yg ≤ nI m) (hb : o = yg ∨ ¬ (-9999 ≤ yr ∧ yr ≤ 9999)) : ex (171, 0, [.ref 316, .int o, .int yg, .int yr, .int il, dv, dv, dv, dv, dv], [], mm I J D) = some (.inl (some (.int 0)), mm (ups I 316 0 2) J D) := by
  rw [← w0] at h1 h2
  have e0 : ex (171, 0, [.ref 316, .int o, .int yg, .int yr, .int il, dv, dv, dv, dv, dv], [], mm I J D) = ex (171, 29, [.ref 316, .int o, .int yg, .int yr, .int il, dv, dv, dv, dv, dv], [], mm (ups I 316 0 0) J D) := by
    rw [e_171_0, m_ptT h1, cal_v, ka, e_171_6, d10, cond_false, e_171_9, m_ptT h2, cal_v, ka, e_171_14, d10, cond_false, e_171_17, e_171_22, x_canT, cal_v, ka, e_171_26, d10, cond_false]
  by_cases q : o = yg
  · rw [e0, e_171_29, decide_eq_true q, cond_true, e_171_52, e_171_53, x_canF, cal_v, ka, uu, e_171_57, d00, cond_true, e_171_84]
  · have h3 : ¬ (-9999 ≤ yr ∧ yr ≤ 9999) := by
      rcases hb with w | w
      · exact absurd w q
      · exact w
    rw [e0, e_171_29, decide_eq_false q, cond_false, e_171_35, x_inF h3, cal_v, ka, e_171_45, d00, cond_true, e_171_52, e_171_53, x_canF, cal_v, ka, uu, e_171_57, d00, cond_true, e_171_84]
theorem m171G (w0 : I 317 0 = nI m) (h1 : 0 ≤ o ∧ o ≤ nI m) (h2 : 0 ≤ yg ∧ yg ≤ nI m) (hne : o ≠ yg) (hr : -9999 ≤ yr ∧ yr ≤ 9999) : ex (171, 0, [.ref 316, .int o, .int yg, .int yr, .int il, dv, dv, dv, dv, dv], [], mm I J D) = ex (171, 60, [.ref 316, .int o, .int yg, .int yr, .int il, dv, dv, dv, dv, dv], [], mm (ups I 316 0 0) J D) := by
  rw [← w0] at h1 h2
  rw [e_171_0, m_ptT h1, cal_v, ka, e_171_6, d10, cond_false, e_171_9, m_ptT h2, cal_v, ka, e_171_14, d10, cond_false, e_171_17, e_171_22, x_canT, cal_v, ka, e_171_26, d10, cond_false, e_171_29, decide_eq_false hne, cond_false, e_171_35, x_inT hr, cal_v, ka, e_171_45, d10, cond_false, e_171_48, e_171_53, x_canT, cal_v, ka, uu, e_171_57, d10, cond_false]
theorem m171F (w0 : I 317 0 = nI m) (w1 : I 317 1 = nI n) (hn : n = 50) (h1 : 0 ≤ o ∧ o ≤ nI m) (h2 : 0 ≤ yg ∧ yg ≤ nI m) (hne : o ≠ yg) (hr : -9999 ≤ yr ∧ yr ≤ 9999) : ex (171, 0, [.ref 316, .int o, .int yg, .int yr, .int il, dv, dv, dv, dv, dv], [], mm I J D) = some (.inl (some (.int 0)), mm (ups I 316 0 3) J D) := by
  rw [m171G w0 h1 h2 hne hr, e_171_60, uI (show 317 ≠ 316 by decide), w1, hn, decide_eq_true (show (50 : Int32) ≤ nI 50 by decide), cond_true, e_171_76, e_171_77, x_canF, cal_v, ka, uu, e_171_81, d01, cond_false, e_171_84]
theorem m171A {x y w : Int32} (hm : (il = 1 ∧ o = y ∧ yg = x ∧ w = -yr) ∨ (il = 0 ∧ o = x ∧ yg = y ∧ w = yr)) (w0 : I 317 0 = nI m) (w1 : I 317 1 = nI n) (hn : n < 50) (h1 : 0 ≤ o ∧ o ≤ nI m) (h2 : 0 ≤ yg ∧ yg ≤ nI m) (hne : o ≠ yg) (hr : -9999 ≤ yr ∧ yr ≤ 9999) : ex (171, 0, [.ref 316, .int o, .int yg, .int yr, .int il, dv, dv, dv, dv, dv], [], mm I J D) = cal 171 128 [.ref 316, dv, dv, dv, dv, .int x, .int y, .int w, dv, dv] [] (ex (167, 0, [.ref 316, .int (-1), dv, dv, dv, dv, dv], [], mm (ups I 316 0 0) J D)) := by
  rw [m171G w0 h1 h2 hne hr, e_171_60, uI (show 317 ≠ 316 by decide), w1, decide_eq_false (show ¬ (50 : Int32) ≤ nI n from nI_ge (a := n) (b := 50) (by omega) (by decide)), cond_false, e_171_72, e_171_77, x_canT, cal_v, ka, uu, e_171_81, d11, cond_true, e_171_86]
  rcases hm with ⟨rfl, rfl, rfl, rfl⟩ | ⟨rfl, rfl, rfl, rfl⟩
  · rw [d10, cond_false, e_171_91, e_171_96, d10, cond_false, e_171_103, e_171_108, d10, cond_false, e_171_115, e_171_121]
  · rw [d00, cond_true, e_171_95, e_171_96, d00, cond_true, e_171_107, e_171_108, d00, cond_true, e_171_120, e_171_121]
end M1
theorem a_bd {L kk : Nat} {I : Nat → Nat → Int32} {J : Nat → Nat → Int64} {D : Nat → Nat → UInt64} (h : Inv0 L kk I) (x y w o yg yr il : Int32) (hm : (il = 1 ∧ o = y ∧ yg = x ∧ w = -yr) ∨ (il = 0 ∧ o = x ∧ yg = y ∧ w = yr)) : ActOK L kk I J D 142 [.ref 0, .int x, .int y, .int w, dv] 171 [.ref 316, .int o, .int yg, .int yr, .int il, dv, dv, dv, dv, dv] := by
  obtain ⟨n, g, bo, mo, hf0, hf⟩ := inv_bds h.2.1
  obtain ⟨m, h16, c8, w0, -⟩ := inv_pil h.2.1
  have n50 := g.1
  have nd : ((0 ≤ o ∧ o ≤ nI m) ∧ (0 ≤ yg ∧ yg ≤ nI m)) ↔ ((0 ≤ x ∧ x ≤ nI m) ∧ (0 ≤ y ∧ y ≤ nI m)) := by
    rcases hm with ⟨-, rfl, rfl, -⟩ | ⟨-, rfl, rfl, -⟩
    · exact And.comm
    · exact Iff.rfl
  have rgw : (-9999 ≤ yr ∧ yr ≤ 9999) ↔ (-9999 ≤ w ∧ w ≤ 9999) := by
    rcases hm with ⟨-, -, -, rfl⟩ | ⟨-, -, -, rfl⟩
    · exact (neg_rg yr).symm
    · exact Iff.rfl
  have neq : o = yg ↔ x = y := by
    rcases hm with ⟨-, rfl, rfl, -⟩ | ⟨-, rfl, rfl, -⟩
    · exact eq_comm
    · exact Iff.rfl
  by_cases hx : 0 ≤ x ∧ x ≤ nI m
  · have cx : 0 ≤ x ∧ x ≤ I 8 1 := by rw [c8]; exact hx
    by_cases hy : 0 ≤ y ∧ y ≤ nI m
    · have cy : 0 ≤ y ∧ y ≤ I 8 1 := by rw [c8]; exact hy
      obtain ⟨ho, hg⟩ := nd.mpr ⟨hx, hy⟩
      by_cases hxy : x = y
      · refine ActOK.no h 1 2 0 (by decide) ?_ (fun J2 D2 I7 h7 => m171E (by rw [h7.w]; exact w0) ho hg (Or.inl (neq.mpr hxy)))
        rw [e_142_0, c_ptT cx, cal_v, kn, e_142_5, c_ptT cy, cal_v, kn, e_142_10, decide_eq_false (fun q => q hxy), cond_false, e_142_15]
      · have hne : o ≠ yg := fun q => hxy (neq.mp q)
        by_cases hw : -9999 ≤ w ∧ w ≤ 9999
        · have hr := rgw.mpr hw
          by_cases h50 : n = 50
          · refine ActOK.no h 0 3 0 (by decide) ?_ (fun J2 D2 I7 h7 => m171F (by rw [h7.w]; exact w0) (by rw [h7.w]; exact mo.1) h50 ho hg hne hr)
            rw [e_142_0, c_ptT cx, cal_v, kn, e_142_5, c_ptT cy, cal_v, kn, e_142_10, decide_eq_true hxy, cond_true, e_142_26, x_nr hw, cal_v, kn, e_142_36, bo.1, h50, decide_eq_false (show ¬ nI 50 < (50 : Int32) by decide), cond_false, e_142_51]
          · have hn50 : n < 50 := by omega
            obtain ⟨a, ha, rfl⟩ := pt_of h16 hx
            obtain ⟨b, hb, rfl⟩ := pt_of h16 hy
            have hab : a ≠ b := fun e => hxy (by rw [e])
            obtain ⟨wv, hwv⟩ : ∃ wv, wv = w.toInt := ⟨_, rfl⟩
            have ew : w = Int32.ofInt wv := by rw [hwv]; exact (Int32.ofInt_toInt w).symm
            have hwb : -9999 ≤ wv ∧ wv ≤ 9999 := by
              have e1 : (-9999 : Int32).toInt = -9999 := by decide
              have e2 : (9999 : Int32).toInt = 9999 := by decide
              have h1 := Int32.le_iff_toInt_le.mp hw.1
              have h2 := Int32.le_iff_toInt_le.mp hw.2
              rw [e1] at h1
              rw [e2] at h2
              omega
            have SS0 : SS n (bP I) (bQ I) (bW I) (bT I) a 0 b = none := if_neg (fun e => hab e.symm)
            obtain ⟨I1, e1, f1, hs⟩ := c_meas (J := J) (D := D) (th := bT I) (b := a) g bo (hth1 n50) (by omega)
            have bo1 : BoP n (bP I) (bQ I) (bW I) (bT I) I1 := bo.go (fun p _ hp => f1 p (by omega))
            have wI1 : I1 317 = I 317 := f1 317 (by decide)
            -- what both ask first
            have bk : ∀ u : Int32, ex (8, 9, [.ref 245, dv, .int (nI b), .int (Int32.ofInt wv), .int (nI 1)], [], mm I1 J D) = some (.inl (some (.int u)), mm I1 J D) → ex (142, 0, [.ref 0, .int (nI a), .int (nI b), .int w, dv], [], mm I J D) = ex (142, 72, [.ref 0, .int (nI a), .int (nI b), .int w, dv], [.int u], mm I1 J D) := fun u eu => by
              rw [e_142_0, c_ptT cx, cal_v, kn, e_142_5, c_ptT cy, cal_v, kn, e_142_10, decide_eq_true hxy, cond_true, e_142_26, x_nr hw, cal_v, kn, e_142_36, bo.1, decide_eq_true (show nI n < (50 : Int32) from (nI_ltI (a := n) (b := 50) (by omega) (by decide)).mpr hn50), cond_true, e_142_62, e_8_0, e1, cal_v, kn, e_8_6, ew]
              rw [show ex (8, 9, [.ref 245, dv, .int (nI b), .int (Int32.ofInt wv), .int 1], [], mm I1 J D) = _ from eu, cal_v, ka]
            by_cases hcn : ∃ u, (1 ≤ u ∧ u < 17) ∧ CnB n (bP I) (bQ I) (bW I) (bT I) a b wv u
            · obtain ⟨u, hu, hcu⟩ := hcn
              obtain ⟨u0, -, ⟨⟨k1, k2⟩, k3⟩, k4⟩ := least_ex (P := fun u => (1 ≤ u ∧ u < 17) ∧ CnB n (bP I) (bQ I) (bW I) (bT I) a b wv u) u u (Nat.le_refl _) ⟨hu, hcu⟩
              have k5 : ∀ u, 1 ≤ u → u < u0 → ¬ CnB n (bP I) (bQ I) (bW I) (bT I) a b wv u := fun u h1 h2 q => k4 u h2 ⟨⟨h1, by omega⟩, q⟩
              obtain ⟨s0, k6, k7⟩ := id k3
              obtain ⟨ks, fr, hp⟩ := path_ex g u0 b s0 (by omega) k6
              obtain ⟨v0, k8, k9⟩ := LSu_le k6 (m := 16) (by omega)
              obtain ⟨I2, e2, f2, f3, f4, f5⟩ := c_ring (J := J) (D := D) g (by omega) hp bo1 hs
              have far2 : ∀ p, p < 245 ∨ 265 ≤ p → I2 p = I p := fun p hp => by rw [f2 p (by omega) (by omega), f1 p (by omega)]
              refine ⟨I2, fun p hp => far2 p (by omega), Or.inr ⟨0, 3, by decide, ?_, fun J2 D2 I7 h7 => ?_⟩⟩
              · rw [bk (nI u0) (c_oaY g hs (by omega) hwb k2 k3 k5 (u0 - 1) 1 (by omega) (Nat.le_refl _)), e_142_72, decide_eq_false (show ¬ nI u0 ≤ 0 from nI_nle (by omega) (by omega)), cond_false, e_142_79, e2, cal_v, kn, e_142_89]
              · have w2 : I7 317 = I 317 := by rw [h7.w]; exact far2 317 (by decide)
                obtain ⟨F, m1, m2⟩ := m_far (I := ups I7 316 0 0) (J := J2) (D := D2) (th := bT I) g (by rw [uI (by decide), w2]; exact mo) (hth1 n50) hf
                have m3 := m2 b a (by omega) (by omega)
                rw [k8] at m3
                have sb := LSu_Bo g 16 b v0 k8
                have e8 := okF8.1
                obtain ⟨I3, m4, m5, m6, m7, m8, m9⟩ := m_ring (I := ups (upR (ups I7 316 0 0) 321 F) 316 0 3) (J := J2) (D := D2) g (by rw [uI (by decide), uR (by decide), uI (by decide), w2]; exact mo) (show a < 17 by omega) (show b < 17 by omega) hwb k2 k1 k3 k5 hp
                have i3 : ∀ p, p ≠ 316 → p ≠ 319 → (p < 321 ∨ 335 ≤ p) → I3 p = I2 p := fun p h1 h2 h3 => by rw [m5 p h1 h2 (by omega), uI h1, uR (by omega), uI h1, h7.go h1 (by omega) (by omega)]
                refine ⟨0, I3, ?_, by rw [m6 0 (by decide), uIs, uUs], ?_⟩
                · rw [m171A hm (by rw [w2]; exact w0) (by rw [w2]; exact mo.1) hn50 ho hg hne hr, m1, cal_v, kn, e_171_128, m17, inb_n (show 17 * b + a < 289 by omega) (by decide), cond_true, nI_clamp (show 17 * b + a < 2 ^ 31 by omega), uRs, m3, decide_eq_false (show ¬ fO 100000000 (some v0) = 100000000 from fO_ne okF8 ⟨by omega, by omega⟩), cond_false, e_171_151, ew, show fO 100000000 (some v0) = Int32.ofInt v0 from rfl, oI_a, decide_eq_true (show Int32.ofInt (v0 + wv) < 0 by rw [oI_0, oI_lt (by omega) (by omega)]; omega), cond_true, e_171_163, e_171_164, x_canF, cal_v, ka, e_171_168, d01, cond_false, e_171_171, m4, cal_v, kn, e_171_181]
                · refine inv0_ring h (fun p hp => by rw [i3 p (by omega) (by omega) (by omega), far2 p (by omega)]) (by rw [i3 312 (by decide) (by decide) (by decide), far2 312 (by decide)]) (by rw [i3 313 (by decide) (by decide) (by decide), far2 313 (by decide)]) (fun j h1 h2 h8 => by rw [m6 j h2, uIs, uU h1, uR (by decide), uIs, uU h1, h7.2 j h1 h8, far2 316 (by decide)]) (by rw [i3 317 (by decide) (by decide) (by decide), far2 317 (by decide)]) (by rw [i3 318 (by decide) (by decide) (by decide), far2 318 (by decide)]) (by rw [i3 320 (by decide) (by decide) (by decide), far2 320 (by decide)]) (by rw [i3 iSCL (by decide) (by decide) (by decide), far2 iSCL (by decide)]) ⟨?_, ?_, fun k hk => ?_⟩
                  · rw [m7, i3 245 (by decide) (by decide) (by decide), f3]
                  · rw [i3 245 (by decide) (by decide) (by decide), f3]
                    have := nI_toInt (n := 1 + u0) (by omega)
                    exact ⟨by omega, by omega⟩
                  · rw [i3 245 (by decide) (by decide) (by decide), f3, rN_nI (by omega)] at hk
                    rw [i3 264 (by decide) (by decide) (by decide)]
                    cases k with
                    | zero => rw [m8, f4]
                    | succ k => rw [m9 k (by omega), f5 k (by omega)]
            · have hno : ∀ u, 1 ≤ u → u < 17 → ¬ CnB n (bP I) (bQ I) (bW I) (bT I) a b wv u := fun u h1 h2 q => hcn ⟨u, ⟨h1, h2⟩, q⟩
              have hok : ∀ s, LSu n (bP I) (bQ I) (bW I) (bT I) a b 16 = some s → 0 ≤ s + wv := fun s es => by
                obtain ⟨u, hu, eu⟩ := LSu_ch es
                cases u with
                | zero => rw [SS0] at eu; cases eu
                | succ u =>
                  by_cases q : s + wv < 0
                  · exact absurd ⟨s, eu, q⟩ (hno (u + 1) (by omega) (by omega))
                  · omega
              have hP : ∀ k, k < n → bP I k < 17 ∧ bQ I k < 17 := fun k hk => ⟨(g.2 k hk).1.1, (g.2 k hk).1.2.1⟩
              obtain ⟨ep, q1, q2⟩ := feas_add hf hP (show a < 17 by omega) (show b < 17 by omega) hok
              obtain ⟨I2, e2, lo, hi, nx⟩ := act_all3 (inv0_same h (Same.c f1)) J D
              have lo2 : ∀ p, 1 ≤ p → p < 28 → I2 p = I p := fun p h1 h2 => by rw [lo p (by omega) (by omega), f1 p (by omega)]
              obtain ⟨I3, hI3⟩ : ∃ I3, I3 = ups (ups (ups (ups (ups (ups I2 3 n (nI a)) 4 n (nI b)) 5 n (Int32.ofInt wv)) 6 n 1) 2 5 (nI (n + 1))) 2 6 (I 2 6 + 1) := ⟨_, rfl⟩
              have cf : CFar I2 I3 := by rw [hI3]; exact cfar_ups (cfar_ups (cfar_ups (cfar_ups (cfar_ups (cfar_ups cfar_0 (by decide)) (by decide)) (by decide)) (by decide)) (by decide)) (by decide)
              have put : ex (1, 0, [.ref 2, .int (nI a), .int (nI b), .int (Int32.ofInt wv), dv], [], mm I2 J D) = some (.inl (some (.int (nI n))), mm I3 J D) := by
                have i25 : I2 2 5 = nI n := by rw [lo2 2 (by decide) (by decide)]; exact bo.1
                rw [e_1_0, i25, inb_n hn50 (by decide), cond_true, cond_true, cond_true, cond_true, nI_clamp (show n < 2 ^ 31 by omega), show vp_nar .boolean 1 = 1 from rfl]
                rw [show (ups (ups (ups (ups I2 3 n (nI a)) 4 n (nI b)) 5 n (Int32.ofInt wv)) 6 n 1) 2 5 = nI n by rw [uI (by decide), uI (by decide), uI (by decide), uI (by decide)]; exact i25, nI_1]
                rw [show (ups (ups (ups (ups (ups I2 3 n (nI a)) 4 n (nI b)) 5 n (Int32.ofInt wv)) 6 n 1) 2 5 (nI (n + 1))) 2 6 = I 2 6 by rw [uIs, uU (by decide), uI (by decide), uI (by decide), uI (by decide), uI (by decide), lo2 2 (by decide) (by decide)], ← hI3]
              have i3f : ∀ p, 316 ≤ p → I3 p = I p := fun p hp => by rw [cf.2.2.2 p hp, hi p (by omega), f1 p (by omega)]
              refine ⟨I3, i3f, Or.inl ⟨nI n, ?_, fun J2 D2 I7 h7 => ?_⟩⟩
              · rw [bk 0 (c_oaN g hs (by omega) hwb hno 16 1 (by omega) (Nat.le_refl _)), e_142_72, decide_eq_true (show (0 : Int32) ≤ 0 by decide), cond_true, e_142_100, e2, cal_v, kn, e_142_104, ew, put, cal_v, ka, e_142_117]
              · have w3 : I7 317 = I 317 := by rw [h7.w]; exact i3f 317 (by decide)
                obtain ⟨F, m1, m2⟩ := m_far (I := ups I7 316 0 0) (J := J2) (D := D2) (th := bT I) g (by rw [uI (by decide), w3]; exact mo) (hth1 n50) hf
                have m3 := m2 b a (by omega) (by omega)
                obtain ⟨I4, k1, k2, k3, k4, fin⟩ := nx I3 (ups (upR (ups I7 316 0 0) 321 F) 316 0 0) cf ((h7.far.r.R (by decide)).r) (by rw [uI (by decide), uR (by decide), uI (by decide), h7.w]) J2 D2
                have w4 : I4 317 = I 317 := by rw [k2, f1 317 (by decide)]
                have tail : ex (171, 159, [.ref 316, dv, dv, dv, dv, .int (nI a), .int (nI b), .int (Int32.ofInt wv), dv, dv], [.ref 316], mm (upR (ups I7 316 0 0) 321 F) J2 D2) = some (.inl (some (.int (nI n))), mm (ups (ups (ups (ups (ups I4 317 1 (nI (n + 1))) 317 (2 + n) (nI a)) 317 (52 + n) (nI b)) 317 (102 + n) (Int32.ofInt wv)) 317 (152 + n) 1) J2 D2) := by
                  rw [e_171_159, e_171_164, x_canT, cal_v, ka, e_171_168, d11, cond_true, e_171_183, k1, cal_v, kn, e_171_187, w4, mo.1, show (2 : Int32) + nI n = nI (2 + n) from nI_add 2 n, show (52 : Int32) + nI n = nI (52 + n) from nI_add 52 n, show (102 : Int32) + nI n = nI (102 + n) from nI_add 102 n, show (152 : Int32) + nI n = nI (152 + n) from nI_add 152 n, inb_n (show 2 + n < 850 by omega) (by decide), cond_true, inb_n (show 52 + n < 850 by omega) (by decide), cond_true, inb_n (show 102 + n < 850 by omega) (by decide), cond_true, inb_n (show 152 + n < 850 by omega) (by decide), cond_true, nI_clamp (show 2 + n < 2 ^ 31 by omega), nI_clamp (show 52 + n < 2 ^ 31 by omega), nI_clamp (show 102 + n < 2 ^ 31 by omega), nI_clamp (show 152 + n < 2 ^ 31 by omega), nI_1]
                refine ⟨ups (ups (ups (ups (ups I4 317 1 (nI (n + 1))) 317 (2 + n) (nI a)) 317 (52 + n) (nI b)) 317 (102 + n) (Int32.ofInt wv)) 317 (152 + n) 1, ?_, ?_, ?_⟩
                · rw [m171A hm (by rw [w3]; exact w0) (by rw [w3]; exact mo.1) hn50 ho hg hne hr, m1, cal_v, kn, e_171_128, m17, inb_n (show 17 * b + a < 289 by omega) (by decide), cond_true, nI_clamp (show 17 * b + a < 2 ^ 31 by omega), uRs, m3, ew]
                  cases eL : LSu n (bP I) (bQ I) (bW I) (bT I) a b 16 with
                  | none =>
                    rw [decide_eq_true (show fO 100000000 none = 100000000 from rfl), cond_true]
                    exact tail
                  | some v0 =>
                    have sb := LSu_Bo g 16 b v0 eL
                    have e8 := okF8.1
                    have := hok v0 eL
                    rw [decide_eq_false (show ¬ fO 100000000 (some v0) = 100000000 from fO_ne okF8 ⟨by omega, by omega⟩), cond_false, e_171_151, show fO 100000000 (some v0) = Int32.ofInt v0 from rfl, oI_a, decide_eq_false (show ¬ Int32.ofInt (v0 + wv) < 0 by rw [oI_0, oI_lt (by omega) (by omega)]; omega), cond_false]
                    exact tail
                · rw [uI (by decide), uI (by decide), uI (by decide), uI (by decide), uI (by decide), k3, uIs, uUs]
                · have q := fin (ups (ups (ups (ups (ups I4 317 1 (nI (n + 1))) 317 (2 + n) (nI a)) 317 (52 + n) (nI b)) 317 (102 + n) (Int32.ofInt wv)) 317 (152 + n) 1) (((((MFw.z.u (by decide)).u (by decide)).u (by decide)).u (by decide)).u (by decide)) (by
                    unfold PgRel
                    have i8 : (nrm (pgF I 1) 7 1).toInt = (m : Int) := by rw [nrm_at (show rl 7 1 = true from rfl)]; show (I 8 1).toInt = _; rw [c8, nI_toInt (by omega)]
                    have r50 : ∀ k, k < 50 → Nat.blt k 50 = true := fun k hk => Nat.blt_eq.mpr hk
                    have pp := pg_put (n := n) (p := a) (q := b) (wv := wv) h.2.1 (by rw [nrm_at (show rl 1 5 = true from rfl)]; exact bo.1) hn50 (by rw [i8]; have := nI_toInt (n := a) (by omega); exact ⟨by omega, by omega⟩) (by rw [i8]; have := nI_toInt (n := b) (by omega); exact ⟨by omega, by omega⟩) (by omega) (by omega) hab hwb ⟨ep, fun k hk ht => by
                      rw [nrm_at (show rl 5 k = true from r50 k (by omega))] at ht
                      rw [nrm_at (show rl 2 k = true from r50 k (by omega)), nrm_at (show rl 3 k = true from r50 k (by omega)), nrm_at (show rl 4 k = true from r50 k (by omega))]
                      have := q1 k hk (decide_eq_true ht)
                      show ep (rN (I 3 k)) - ep (rN (I 4 k)) ≤ (I 5 k).toInt
                      have e3 : bP I k = rN (I 3 k) := rfl
                      have e4 : bQ I k = rN (I 4 k) := rfl
                      have e5 : bW I k = (I 5 k).toInt := rfl
                      rw [e3, e4, e5] at this
                      omega, by omega⟩
                    have gs : nrm (pgF I2 1) = nrm (pgF I 1) := nrm_e (fun o k hr => by
                      have := rl_lt hr
                      have h26 : o ≠ 26 := fun e => by rw [e, rl26] at hr; cases hr
                      show I2 (1 + o) k = I (1 + o) k
                      rw [lo2 (1 + o) (by omega) (by omega)])
                    rw [hI3, g_ups (o := 1) rfl rfl, g_ups (o := 1) rfl rfl, g_ups (o := 5) rfl (r50 n hn50), g_ups (o := 4) rfl (r50 n hn50), g_ups (o := 3) rfl (r50 n hn50), g_ups (o := 2) rfl (r50 n hn50), gs, n_upd (by omega), n_upd (by omega), n_upd (by omega), n_upd (by omega), n_upd (by omega), w4]
                    rw [show nrm (pgF I 1) 1 6 = I 2 6 from nrm_at rfl] at pp
                    exact pp)
                  exact ⟨q.1, (txt_same (Same.c f1)).tr q.2⟩
        · have hr : ¬ (-9999 ≤ yr ∧ yr ≤ 9999) := fun q => hw (rgw.mp q)
          refine ActOK.no h 1 2 0 (by decide) ?_ (fun J2 D2 I7 h7 => m171E (by rw [h7.w]; exact w0) ho hg (Or.inr hr))
          rw [e_142_0, c_ptT cx, cal_v, kn, e_142_5, c_ptT cy, cal_v, kn, e_142_10, decide_eq_true hxy, cond_true, e_142_26, x_nr1 hw, cal_e]
    · have cy : ¬ (0 ≤ y ∧ y ≤ I 8 1) := by rw [c8]; exact hy
      refine ActOK.no h 2 1 0 (by decide) ?_ (fun J2 D2 I7 h7 => m171N (by rw [h7.w]; exact w0) (fun q => hy (nd.mp q).2))
      rw [e_142_0, c_ptT cx, cal_v, kn, e_142_5, c_ptF cy, cal_e]
  · have cx : ¬ (0 ≤ x ∧ x ≤ I 8 1) := by rw [c8]; exact hx
    refine ActOK.no h 2 1 0 (by decide) ?_ (fun J2 D2 I7 h7 => m171N (by rw [h7.w]; exact w0) (fun q => hx (nd.mp q).1))
    rw [e_142_0, c_ptF cx, cal_e]
/-- an act behind a call -/
theorem ActOK.via {L kk : Nat} {I : Nat → Nat → Int32} {J : Nat → Nat → Int64} {D : Nat → Nat → UInt64} {μ1 μ2 ν1 ν2 pc1 pc2 : Nat} {a1 a2 b1 b2 l1 l2 : List Value} (h : ActOK L kk I J D μ1 a1 μ2 a2)
    (e1 : ∀ I J D, ex (ν1, 0, b1, [], mm I J D) = cal ν1 pc1 l1 [] (ex (μ1, 0, a1, [], mm I J D))) (k1 : ∀ I J D (r : Int32), ex (ν1, pc1, l1, [.int r], mm I J D) = some (.inl (some (.int r)), mm I J D))
    (e2 : ∀ I J D, ex (ν2, 0, b2, [], mm I J D) = cal ν2 pc2 l2 [] (ex (μ2, 0, a2, [], mm I J D))) (k2 : ∀ I J D (r : Int32), ex (ν2, pc2, l2, [.int r], mm I J D) = some (.inl (some (.int r)), mm I J D)) : ActOK L kk I J D ν1 b1 ν2 b2 := by
  obtain ⟨I1, q1, ⟨r, f1, nx⟩ | ⟨E, c, hE, f1, nx⟩⟩ := h
  · refine ⟨I1, q1, Or.inl ⟨r, by rw [e1, f1, cal_v, ka, k1], fun J2 D2 I7 h7 => ?_⟩⟩
    obtain ⟨I2, f2, q3, i2⟩ := nx J2 D2 I7 h7
    exact ⟨I2, by rw [e2, f2, cal_v, ka, k2], q3, i2⟩
  · refine ⟨I1, q1, Or.inr ⟨E, c, hE, by rw [e1, f1, cal_e], fun J2 D2 I7 h7 => ?_⟩⟩
    obtain ⟨s, I2, f2, q3, i2⟩ := nx J2 D2 I7 h7
    exact ⟨s, I2, by rw [e2, f2, cal_v, ka, k2], q3, i2⟩
theorem a_1 {L kk : Nat} {I : Nat → Nat → Int32} {J : Nat → Nat → Int64} {D : Nat → Nat → UInt64} (h : Inv0 L kk I) (x y z : Int32) : ActOK L kk I J D 91 [.ref 0, .int x, .int y, .int z] 172 [.ref 316, .int x, .int y, .int z] :=
  (a_bd h y x (-z) x y z 1 (Or.inl ⟨rfl, rfl, rfl, rfl⟩)).via (fun I J D => e_91_0 I J D x y z) (fun I J D r => e_91_8 I J D r) (fun I J D => e_172_0 I J D x y z) (fun I J D r => e_172_8 I J D r)
theorem a_2 {L kk : Nat} {I : Nat → Nat → Int32} {J : Nat → Nat → Int64} {D : Nat → Nat → UInt64} (h : Inv0 L kk I) (x y z : Int32) : ActOK L kk I J D 92 [.ref 0, .int x, .int y, .int z] 173 [.ref 316, .int x, .int y, .int z] :=
  (a_bd h x y z x y z 0 (Or.inr ⟨rfl, rfl, rfl, rfl⟩)).via (fun I J D => e_92_0 I J D x y z) (fun I J D r => e_92_7 I J D r) (fun I J D => e_173_0 I J D x y z) (fun I J D r => e_173_8 I J D r)
theorem t_1 {L kk : Nat} {I : Nat → Nat → Int32} {J : Nat → Nat → Int64} {D : Nat → Nat → UInt64} (v : Int32) (h : Inv L kk I J D) (sc : ScOK v I) : Turn L kk 308 v I J D := by
  obtain ⟨x, hx1⟩ : ∃ q, I 1000002 (v + 1).toNatClampNeg = q := ⟨_, rfl⟩
  obtain ⟨y, hx2⟩ : ∃ q, I 1000002 (v + 2).toNatClampNeg = q := ⟨_, rfl⟩
  obtain ⟨z, hx3⟩ : ∃ q, I 1000002 (v + 3).toNatClampNeg = q := ⟨_, rfl⟩
  obtain ⟨I1, qq, hcase⟩ := a_1 (J := J) (D := D) (inv_to h) x y z
  have q1 : I1 iSCL 0 = I iSCL 0 := by rw [qq iSCL (by decide)]
  have q2 := qq 1000002 (by decide)
  rcases hcase with ⟨r, e1, nx⟩ | ⟨E, c, hE, e1, nx⟩
  · obtain ⟨I2, e2, q3, i2⟩ := nx (upsL J 335 0 r.toInt64) D I1 MPt.z
    exact tk_1 sc hx1 hx2 hx3 e1 q1 q2 e2 q3 upsL_s (inv_of h i2)
  · obtain ⟨s, I2, e2, q3, i2⟩ := nx J D I1 MPt.z
    rcases hE with ⟨rfl, rfl⟩ | ⟨rfl, rfl⟩ | ⟨rfl, rfl⟩
    · exact te_1_2 sc hx1 hx2 hx3 e1 q1 q2 e2 q3 (inv_of h i2)
    · exact te_1_1 sc hx1 hx2 hx3 e1 q1 q2 e2 q3 (inv_of h i2)
    · exact te_1_0 sc hx1 hx2 hx3 e1 q1 q2 e2 q3 (inv_of h i2)
theorem t_2 {L kk : Nat} {I : Nat → Nat → Int32} {J : Nat → Nat → Int64} {D : Nat → Nat → UInt64} (v : Int32) (h : Inv L kk I J D) (sc : ScOK v I) : Turn L kk 388 v I J D := by
  obtain ⟨x, hx1⟩ : ∃ q, I 1000002 (v + 1).toNatClampNeg = q := ⟨_, rfl⟩
  obtain ⟨y, hx2⟩ : ∃ q, I 1000002 (v + 2).toNatClampNeg = q := ⟨_, rfl⟩
  obtain ⟨z, hx3⟩ : ∃ q, I 1000002 (v + 3).toNatClampNeg = q := ⟨_, rfl⟩
  obtain ⟨I1, qq, hcase⟩ := a_2 (J := J) (D := D) (inv_to h) x y z
  have q1 : I1 iSCL 0 = I iSCL 0 := by rw [qq iSCL (by decide)]
  have q2 := qq 1000002 (by decide)
  rcases hcase with ⟨r, e1, nx⟩ | ⟨E, c, hE, e1, nx⟩
  · obtain ⟨I2, e2, q3, i2⟩ := nx (upsL J 335 0 r.toInt64) D I1 MPt.z
    exact tk_2 sc hx1 hx2 hx3 e1 q1 q2 e2 q3 upsL_s (inv_of h i2)
  · obtain ⟨s, I2, e2, q3, i2⟩ := nx J D I1 MPt.z
    rcases hE with ⟨rfl, rfl⟩ | ⟨rfl, rfl⟩ | ⟨rfl, rfl⟩
    · exact te_2_2 sc hx1 hx2 hx3 e1 q1 q2 e2 q3 (inv_of h i2)
    · exact te_2_1 sc hx1 hx2 hx3 e1 q1 q2 e2 q3 (inv_of h i2)
    · exact te_2_0 sc hx1 hx2 hx3 e1 q1 q2 e2 q3 (inv_of h i2)
