/-! boundCount, takeBack -/
theorem cnt_congr {f g : Nat → Bool} : ∀ {n : Nat}, (∀ k, k < n → f k = g k) → cntN f n = cntN g n
  | 0, _ => rfl
  | n + 1, h => by
    show cntN f n + _ = cntN g n + _
    rw [cnt_congr (n := n) (fun k hk => h k (by omega)), h n (by omega)]
theorem inv_bou {kk : Nat} {I : Nat → Nat → Int32} (h : PgRel kk (pgF I 1) (I 317)) : ∃ n, n ≤ 50 ∧ I 2 5 = nI n ∧ I 317 1 = nI n ∧
    (∀ k, k < n → (I 317 (2 + k) = I 3 k ∧ I 317 (52 + k) = I 4 k ∧ I 317 (102 + k) = I 5 k ∧ I 317 (152 + k) = I 6 k) ∧ rg 0 (I 8 1).toInt (I 3 k) ∧ rg 0 (I 8 1).toInt (I 4 k) ∧ I 3 k ≠ I 4 k ∧ rg (-9999) 9999 (I 5 k)) ∧
    I 2 6 = nI (cntN (fun k => decide (I 6 k = 1)) n) ∧ (∀ k, k < 50 → I 6 k = 0 ∨ I 6 k = 1) ∧ ∃ p : Nat → Int, ∀ k, k < n → I 6 k = 1 → p (rN (I 3 k)) - p (rN (I 4 k)) ≤ (I 5 k).toInt := by
  obtain ⟨⟨b1, b2⟩, b3, b4, b5, p, b6⟩ := h.2.1
  have e0 : ∀ o k, rl o k = true → nrm (pgF I 1) o k = I (1 + o) k := fun o k hr => nrm_at hr
  have r1 : ∀ k, k < 50 → Nat.blt k 50 = true := fun k hk => Nat.blt_eq.mpr hk
  obtain ⟨n, hn, en⟩ := rg_nI (b := 50) b2 (by decide)
  rw [en, rN_nI (by omega)] at b4 b5 b6
  have e1 : I 2 5 = nI n := by rw [← en, e0 1 5 rfl]
  refine ⟨n, hn, e1, ?_, fun k hk => ?_, ?_, fun k hk => ?_, p, fun k hk q => ?_⟩
  · rw [← en, ← b1, nrw_at (by decide)]
  · have := b4 k hk
    rw [nrw_at (by omega), nrw_at (by omega), nrw_at (by omega), nrw_at (by omega), e0 2 k (r1 k (by omega)), e0 3 k (r1 k (by omega)), e0 4 k (r1 k (by omega)), e0 5 k (r1 k (by omega)), e0 7 1 rfl] at this
    exact this
  · rw [← e0 1 6 rfl, b5]
    exact congrArg nI (cnt_congr (fun k hk => by rw [e0 5 k (r1 k (by omega))]))
  · have := b3 k hk
    rw [e0 5 k (r1 k hk)] at this
    exact this
  · have := b6 k hk (by rw [e0 5 k (r1 k (by omega))]; exact q)
    rw [e0 2 k (r1 k (by omega)), e0 3 k (r1 k (by omega)), e0 4 k (r1 k (by omega))] at this
    exact this
theorem cnt_clear {f : Nat → Bool} {c : Nat} : ∀ {n : Nat}, c < n → f c = true → cntN (fun k => if k = c then false else f k) n + 1 = cntN f n
  | n + 1, hc, hf => by
    show (cntN (fun k => if k = c then false else f k) n + (bif (if n = c then false else f n) then 1 else 0)) + 1 = cntN f n + _
    by_cases e : n = c
    · subst e
      rw [cnt_congr (f := fun k => if k = n then false else f k) (g := f) (n := n) (fun k hk => if_neg (by omega)), if_pos rfl, hf]; rfl
    · have := cnt_clear (f := f) (c := c) (n := n) (by omega) hf
      rw [if_neg e]; omega
section BO
variable {I : Nat → Nat → Int32} {J : Nat → Nat → Int64} {D : Nat → Nat → UInt64}
theorem m_leftl {n : Nat} {g : Nat → Int32} (hn : I 317 1 = nI n) (h16 : n ≤ 50) (ht : ∀ k, k < n → I 317 (152 + k) = g k) (h01 : ∀ k, k < n → g k = 0 ∨ g k = 1) : ∀ r k, k + r = n → ex (174, 4, [.ref 316, .int (nI (cntN (fun k => decide (g k = 1)) k)), .int (nI k)], [], mm I J D) = some (.inl (some (.int (nI (cntN (fun k => decide (g k = 1)) n)))), mm I J D)
  | 0, k, h => by
    have : k = n := by omega
    subst this
    rw [e_174_4, hn, decide_eq_true (show nI k ≤ nI k from (nI_leI (by omega) (by omega)).mpr (Nat.le_refl _)), cond_true, e_174_33]
  | r + 1, k, h => by
    have ih := m_leftl hn h16 ht h01 r (k + 1) (by omega)
    have hs : cntN (fun k => decide (g k = 1)) (k + 1) = cntN (fun k => decide (g k = 1)) k + bif decide (g k = 1) then 1 else 0 := rfl
    rw [e_174_4, hn, decide_eq_false (show ¬ nI n ≤ nI k from nI_ge (a := k) (b := n) (by omega) (by omega)), cond_false, e_174_14, show (152 : Int32) + nI k = nI (152 + k) from nI_add 152 k, inb_n (by omega) (by decide), cond_true, nI_clamp (by omega), ht k (by omega), nI_1]
    rcases h01 k (by omega) with q | q
    · rw [hs, decide_eq_false (show ¬ g k = 1 by rw [q]; decide), cond_false] at ih
      rw [q, show nI (cntN (fun k => decide (g k = 1)) k) + 0 = nI (cntN (fun k => decide (g k = 1)) k) from nI_add _ 0]
      exact ih
    · rw [hs, decide_eq_true q, cond_true] at ih
      rw [q, nI_1]
      exact ih
theorem m_left {n : Nat} {g : Nat → Int32} (hn : I 317 1 = nI n) (h16 : n ≤ 50) (ht : ∀ k, k < n → I 317 (152 + k) = g k) (h01 : ∀ k, k < n → g k = 0 ∨ g k = 1) : ex (174, 0, [.ref 316, dv, dv], [], mm I J D) = some (.inl (some (.int (nI (cntN (fun k => decide (g k = 1)) n)))), mm I J D) := by
  rw [e_174_0]
  exact m_leftl hn h16 ht h01 n 0 (by omega)
end BO
theorem t_10 {L kk : Nat} {I : Nat → Nat → Int32} {J : Nat → Nat → Int64} {D : Nat → Nat → UInt64} (v : Int32) (h : Inv L kk I J D) : Turn L kk 805 v I J D := by
  obtain ⟨n, hn, cn, wn, hk, hc, h01, -⟩ := inv_bou h.2.1
  refine tq_10 (r := nI (cntN (fun k => decide (I 6 k = 1)) n)) (I1 := I) (J1 := J) (D1 := D) (I2 := ups I 316 0 0) (J2 := J) (D2 := D) ?_ ?_ (inv_r h)
  · rw [e_100_0, hc]
  · rw [e_184_0, m_left (g := I 6) (by rw [uI (by decide)]; exact wn) hn (fun k hk2 => by rw [uI (by decide)]; exact (hk k hk2).1.2.2.2) (fun k hk2 => h01 k (by omega)), cal_v, ka, e_184_9]
section BN
variable {I : Nat → Nat → Int32} {J : Nat → Nat → Int64} {D : Nat → Nat → UInt64}
theorem c_nbT {n c : Nat} (cn : I 2 5 = nI n) (h50 : n ≤ 50) (hc : c < n) (h1 : I 6 c = 1) : ex (148, 0, [.ref 0, .int (nI c)], [], mm I J D) = some (.inl none, mm I J D) := by
  rw [e_148_0, decide_eq_false (nI_pos (by omega)), cond_false, e_148_4, cn, decide_eq_true ((nI_ltI (by omega) (by omega)).mpr hc), cond_true, e_148_29, inb_n (by omega) (by decide), cond_true, nI_clamp (by omega), h1, d11, cond_true, e_148_55]
theorem c_nbF {n c : Nat} (cn : I 2 5 = nI n) (h50 : n ≤ 50) (hc : c < n) (h1 : I 6 c = 0) : ex (148, 0, [.ref 0, .int (nI c)], [], mm I J D) = some (.inr (.inl 0), mm I J D) := by
  rw [e_148_0, decide_eq_false (nI_pos (by omega)), cond_false, e_148_4, cn, decide_eq_true ((nI_ltI (by omega) (by omega)).mpr hc), cond_true, e_148_29, inb_n (by omega) (by decide), cond_true, nI_clamp (by omega), h1, d01, cond_false, e_148_44]
theorem c_nbO {n : Nat} {x : Int32} (cn : I 2 5 = nI n) (hx : ¬ (0 ≤ x ∧ x < nI n)) : ex (148, 0, [.ref 0, .int x], [], mm I J D) = some (.inr (.inl 2), mm I J D) := by
  by_cases h : x < 0
  · rw [e_148_0, decide_eq_true h, cond_true, e_148_18]
  · rw [e_148_0, decide_eq_false h, cond_false, e_148_4, cn, decide_eq_false (fun q => hx ⟨Int32.not_lt.mp h, q⟩), cond_false, e_148_18]
theorem in_pred {n : Nat} {x : Int32} (h50 : n ≤ 1000) : (0 ≤ x ∧ x < nI n) ↔ (0 ≤ x ∧ x ≤ nI n - 1) := by
  refine and_congr_right fun h0 => ?_
  rw [Int32.lt_iff_toInt_lt, Int32.le_iff_toInt_le, nI_toInt (by omega), pred_i h50]
  omega
theorem m_nbT {n c : Nat} (wn : I 317 1 = nI n) (h50 : n ≤ 50) (hc : c < n) (h1 : I 317 (152 + c) = 1) : ex (175, 0, [.ref 316, .int (nI c)], [], mm I J D) = some (.inl (some (.int 1)), mm (ups I 316 0 0) J D) := by
  have hi : 0 ≤ nI c ∧ nI c ≤ nI n - 1 := (in_pred (by omega)).mp ⟨nI_pos' (by omega), (nI_ltI (by omega) (by omega)).mpr hc⟩
  have h1' : ups I 316 0 0 317 (152 + c) = 1 := by rw [uI (by decide)]; exact h1
  rw [e_175_0, wn, x_inT hi, cal_v, ka, e_175_14, x_canT, cal_v, ka, e_175_18, d10, cond_false, e_175_21, show (152 : Int32) + nI c = nI (152 + c) from nI_add 152 c, inb_n (by omega) (by decide), cond_true, nI_clamp (by omega), h1', decide_eq_false (fun q => q rfl), cond_false, e_175_36, e_175_41, x_canT, cal_v, ka, uu, e_175_45, d10, cond_false, e_175_48, e_175_53, decide_eq_true (Or.inr rfl), cond_true]
theorem m_nbF {n c : Nat} (wn : I 317 1 = nI n) (h50 : n ≤ 50) (hc : c < n) (h1 : I 317 (152 + c) = 0) : ex (175, 0, [.ref 316, .int (nI c)], [], mm I J D) = some (.inl (some (.int 0)), mm (ups I 316 0 2) J D) := by
  have hi : 0 ≤ nI c ∧ nI c ≤ nI n - 1 := (in_pred (by omega)).mp ⟨nI_pos' (by omega), (nI_ltI (by omega) (by omega)).mpr hc⟩
  have h1' : ups I 316 0 0 317 (152 + c) = 0 := by rw [uI (by decide)]; exact h1
  rw [e_175_0, wn, x_inT hi, cal_v, ka, e_175_14, x_canT, cal_v, ka, e_175_18, d10, cond_false, e_175_21, show (152 : Int32) + nI c = nI (152 + c) from nI_add 152 c, inb_n (by omega) (by decide), cond_true, nI_clamp (by omega), h1', decide_eq_true (by decide), cond_true, e_175_40, e_175_41, x_canF, cal_v, ka, uu, e_175_45, d00, cond_true, e_175_52, e_175_53, decide_eq_true (Or.inl rfl), cond_true]
theorem m_nbO {n : Nat} {x : Int32} (wn : I 317 1 = nI n) (h50 : n ≤ 50) (hx : ¬ (0 ≤ x ∧ x < nI n)) : ex (175, 0, [.ref 316, .int x], [], mm I J D) = some (.inl (some (.int 0)), mm (ups I 316 0 1) J D) := by
  have hi : ¬ (0 ≤ x ∧ x ≤ nI n - 1) := fun q => hx ((in_pred (by omega)).mpr q)
  rw [e_175_0, wn, x_inF hi, cal_v, ka, e_175_14, x_canF, cal_v, ka, e_175_18, d00, cond_true, e_175_52, e_175_53, decide_eq_true (Or.inl rfl), cond_true]
end BN
theorem pg_back {kk c : Nat} {G : Nat → Nat → Int32} {w : Nat → Int32} (h : PgR kk G w) {n : Nat} (hn : G 1 5 = nI n) (h50 : n ≤ 50) (hc : c < n) (h1 : G 5 c = 1) : PgR (kk + 1) (ups (ups G 5 c 0) 1 6 (G 1 6 - 1)) (upd w (152 + c) 0) := by
  obtain ⟨⟨b1, b2⟩, b3, b4, b5, p, b6⟩ := h.2.1
  rw [hn, rN_nI (by omega)] at b4 b5 b6
  have gO : ∀ o, o ≠ 1 → o ≠ 5 → ups (ups G 5 c 0) 1 6 (G 1 6 - 1) o = G o := fun o h1 h2 => by rw [uI h1, uI h2]
  have g5 : ups (ups G 5 c 0) 1 6 (G 1 6 - 1) 5 = upd (G 5) c 0 := by rw [uI (by decide), uIs]
  have g15 : ups (ups G 5 c 0) 1 6 (G 1 6 - 1) 1 5 = G 1 5 := by rw [uIs, uU (by decide), uI (by decide)]
  have g16 : ups (ups G 5 c 0) 1 6 (G 1 6 - 1) 1 6 = G 1 6 - 1 := by rw [uIs, uUs]
  refine pgx_bou h (fun o ho => gO o (by omega) (by omega)) (fun y _ hy => uU (by omega)) ⟨⟨?_, ?_⟩, fun k hk => ?_, fun k hk => ?_, ?_, p, fun k hk q => ?_⟩
  · rw [uU (by omega), g15]; exact b1
  · rw [g15]; exact b2
  · rw [g5]
    by_cases e : k = c
    · subst e; rw [uUs]; exact Or.inl rfl
    · rw [uU e]; exact b3 k hk
  · rw [g15, hn, rN_nI (by omega)] at hk
    obtain ⟨⟨q1, q2, q3, q4⟩, q5⟩ := b4 k hk
    rw [gO 2 (by decide) (by decide), gO 3 (by decide) (by decide), gO 4 (by decide) (by decide), gO 7 (by decide) (by decide), g5, uU (by omega), uU (by omega), uU (by omega)]
    refine ⟨⟨q1, q2, q3, ?_⟩, q5⟩
    by_cases e : k = c
    · subst e; rw [uUs, uUs]
    · rw [uU (by omega), uU e]; exact q4
  · rw [g16, g15, hn, rN_nI (by omega), b5]
    have e1 := cnt_clear (f := fun k => decide (G 5 k = 1)) (c := c) (n := n) hc (decide_eq_true h1)
    have e2 : cntN (fun k => decide (ups (ups G 5 c 0) 1 6 (G 1 6 - 1) 5 k = 1)) n = cntN (fun k => if k = c then false else decide (G 5 k = 1)) n := cnt_congr (fun k hk => by
      rw [g5]
      by_cases e : k = c
      · subst e; rw [uUs, if_pos rfl]; decide
      · rw [uU e, if_neg e])
    rw [← b5, e2, b5, ← e1, nI_pred]
  · rw [g15, hn, rN_nI (by omega)] at hk
    rw [g5] at q
    rw [gO 2 (by decide) (by decide), gO 3 (by decide) (by decide), gO 4 (by decide) (by decide)]
    by_cases e : k = c
    · subst e; rw [uUs] at q; exact absurd q (by decide)
    · rw [uU e] at q; exact b6 k hk q
theorem t_3 {L kk : Nat} {I : Nat → Nat → Int32} {J : Nat → Nat → Int64} {D : Nat → Nat → UInt64} (v : Int32) (h : Inv L kk I J D) (sc : ScOK v I) : Turn L kk 468 v I J D := by
  obtain ⟨x, hx1⟩ : ∃ q, I 1000002 (v + 1).toNatClampNeg = q := ⟨_, rfl⟩
  obtain ⟨n, hn, cn, wn, hk, hcc, h01, -⟩ := inv_bou h.2.1
  by_cases hx : 0 ≤ x ∧ x < nI n
  · obtain ⟨c, hc, rfl⟩ := ix_of (m := n) (nI_toInt (by omega)) hx
    have hw := (hk c hc).1.2.2.2
    rcases h01 c (by omega) with q | q
    · refine te_3_0 (s := 0) (I1 := I) (J1 := J) (D1 := D) (I2 := ups I 316 0 2) (J2 := J) (D2 := D) sc hx1 ?_ rfl rfl ?_ ?_ (inv_r h)
      · rw [e_93_0, c_nbF cn hn hc q, cal_e]
      · rw [e_176_0, m_nbF wn hn hc (hw.trans q), cal_v, ka, e_176_5, d01, cond_false, e_176_8]
      · rw [uIs, uUs]
    · obtain ⟨I1, e1, lo, hi, nx⟩ := act_all (inv_to h) J D
      obtain ⟨I2, hI2⟩ : ∃ I2, I2 = ups (ups I1 6 c 0) 2 6 (I 2 6 - 1) := ⟨_, rfl⟩
      have cf : CFar I1 I2 := by rw [hI2]; exact cfar_ups (cfar_ups cfar_0 (by decide)) (by decide)
      obtain ⟨I4, e2, w4, r4, s4, fin⟩ := nx _ cf (upsL J 335 0 (I 2 6 - 1).toInt64) D
      have h2 : I2 317 = I 317 := by rw [cf.2.2.2 317 (by decide), hi 317 (by decide)]
      refine tk_3 (r := I 2 6 - 1) (I1 := I2) (J1 := J) (D1 := D) (I2 := ups I4 317 (152 + c) 0) (J2 := upsL J 335 0 (I 2 6 - 1).toInt64) (D2 := D) sc hx1 ?_ ?_ ?_ ?_ ?_ upsL_s ?_
      · rw [e_93_0, c_nbT cn hn hc q, cal_v, kn, e_93_5, e1, cal_v, kn, e_93_9, e_2_0, inb_n (by omega) (by decide), cond_true, nI_clamp (by omega), show vp_nar .boolean 0 = 0 from rfl, uI (by decide), lo 2 (by decide) (by decide), ← hI2, cal_v, kn, e_93_20, hI2, uIs, uUs]
      · rw [hI2, uI (by decide), uI (by decide), hi _ (by decide)]
      · rw [hI2, uI (by decide), uI (by decide), hi _ (by decide)]
      · have ml := m_left (I := ups I4 317 (152 + c) 0) (J := upsL J 335 0 (I 2 6 - 1).toInt64) (D := D) (n := n) (g := upd (I 6) c 0) (by rw [uIs, uU (by omega), w4]; exact wn) hn (fun k hk2 => by
          rw [uIs]
          by_cases e : k = c
          · subst e; rw [uUs, uUs]
          · rw [uU (by omega), uU e, w4]; exact (hk k hk2).1.2.2.2) (fun k hk2 => by
          by_cases e : k = c
          · subst e; rw [uUs]; exact Or.inl rfl
          · rw [uU e]; exact h01 k (by omega))
        have e3 := cnt_clear (f := fun k => decide (I 6 k = 1)) (c := c) (n := n) hc (decide_eq_true q)
        have e4 : cntN (fun k => decide (upd (I 6) c 0 k = 1)) n = cntN (fun k => if k = c then false else decide (I 6 k = 1)) n := cnt_congr (fun k hk => by
          by_cases e : k = c
          · subst e; rw [uUs, if_pos rfl]; decide
          · rw [uU e, if_neg e])
        rw [e4] at ml
        rw [e_176_0, m_nbT (by rw [h2]; exact wn) hn hc (by rw [h2]; exact hw.trans q), cal_v, ka, e_176_5, d11, cond_true, e_176_10, e2, cal_v, kn, e_176_14, show (152 : Int32) + nI c = nI (152 + c) from nI_add 152 c, inb_n (show 152 + c < 850 by omega) (by decide), cond_true, nI_clamp (n := 152 + c) (by omega), ml, cal_v, ka, e_176_29, hcc, ← e3, nI_pred]
      · rw [uI (by decide)]; exact r4
      · refine inv_of h (fin _ (mfar_ups mfar_0 (by decide)) ?_)
        unfold PgRel
        rw [hI2, g_ups (o := 1) rfl rfl, g_ups (o := 5) rfl (Nat.blt_eq.mpr (by omega)), g_same lo, n_upd (by omega), w4]
        have := pg_back (c := c) (n := n) h.2.1 (by rw [nrm_at (by rfl)]; exact cn) hn hc (by rw [nrm_at (show rl 5 c = true from Nat.blt_eq.mpr (by omega))]; exact q)
        rw [show nrm (pgF I 1) 1 6 = I 2 6 from nrm_at rfl] at this
        exact this
  · refine te_3_2 (s := 0) (I1 := I) (J1 := J) (D1 := D) (I2 := ups I 316 0 1) (J2 := J) (D2 := D) sc hx1 ?_ rfl rfl ?_ ?_ (inv_r h)
    · rw [e_93_0, c_nbO cn hx, cal_e]
    · rw [e_176_0, m_nbO wn hn hx, cal_v, ka, e_176_5, d01, cond_false, e_176_8]
    · rw [uIs, uUs]
