/-! lineAt -/
def Lc (R : Nat → Nat → Bool) (t : Nat) : Bool := dr R (t / 17) (t % 17)
theorem cnt_mono {f : Nat → Bool} {m : Nat} : ∀ d, cntN f m ≤ cntN f (m + d)
  | 0 => Nat.le_refl _
  | d + 1 => Nat.le_trans (cnt_mono d) (by show cntN f (m + d) ≤ cntN f (m + d) + _; omega)
theorem cnt_add {f : Nat → Bool} {m : Nat} : ∀ d, cntN f (m + d) = cntN f m + cntN (fun i => f (m + i)) d
  | 0 => rfl
  | d + 1 => by
    show cntN f (m + d) + _ = cntN f m + (cntN (fun i => f (m + i)) d + _)
    rw [cnt_add d, Nat.add_assoc]; rfl
theorem cnt_sh {f : Nat → Bool} : ∀ n, cntN f (n + 1) = (bif f 0 then 1 else 0) + cntN (fun i => f (i + 1)) n
  | 0 => Nat.add_comm 0 _
  | n + 1 => by
    show cntN f (n + 1) + _ = _ + (cntN (fun i => f (i + 1)) n + _)
    rw [cnt_sh n, Nat.add_assoc]
theorem cnt_gap {f : Nat → Bool} {m k : Nat} (h : m ≤ k) (hf : ∀ j, m ≤ j → j < k → f j = false) : cntN f k = cntN f m := by
  have := cnt_add (f := f) (m := m) (k - m)
  rw [show m + (k - m) = k by omega] at this
  rw [this, cnt_0 (f := fun i => f (m + i)) (fun i hi => hf _ (by omega) (by omega))]; rfl
theorem cnt_find {f : Nat → Bool} {m : Nat} : ∀ {n : Nat}, m < cntN f n → ∃ t, t < n ∧ f t = true ∧ cntN f t = m
  | 0, h => absurd h (Nat.not_lt_zero _)
  | n + 1, h => by
    have h' : m < cntN f n + (bif f n then 1 else 0) := h
    by_cases q : m < cntN f n
    · obtain ⟨t, h1, h2, h3⟩ := cnt_find q
      exact ⟨t, by omega, h2, h3⟩
    · cases e : f n with
      | false => rw [e] at h'; exact absurd h' (by show ¬ m < cntN f n + 0; omega)
      | true =>
        rw [e] at h'
        have h'' : m < cntN f n + 1 := h'
        exact ⟨n, by omega, e, by omega⟩
theorem Lc_at {R : Nat → Nat → Bool} {a b : Nat} (hb : b < 17) : Lc R (17 * a + b) = dr R a b := by
  unfold Lc
  rw [show (17 * a + b) / 17 = a by omega, show (17 * a + b) % 17 = b by omega]
theorem Lc_row {n : Nat} {R : Nat → Nat → Bool} (hin : In n R) : ∀ a, cntN (Lc R) (17 * (a + 1)) = lnN R a
  | 0 => cnt_0 (fun k hk => by
      unfold Lc
      rw [show k / 17 = 0 by omega]
      exact (dr_in hin).f (by omega))
  | a + 1 => by
    rw [show 17 * (a + 1 + 1) = 17 * (a + 1) + 17 by omega, cnt_add, Lc_row hin a]
    show _ = lnN R a + cntN (row (dr R) (a + 1)) 16
    rw [cnt_sh 16]
    have h0 : Lc R (17 * (a + 1) + 0) = false := by
      rw [Lc_at (by decide)]; exact (dr_in hin).f (by omega)
    rw [h0, cnt_cg (f := fun i => Lc R (17 * (a + 1) + (i + 1))) (g := row (dr R) (a + 1)) (fun k hk => by
      rw [Lc_at (by omega)]; unfold row; rw [bl16, decide_eq_true hk]; rfl)]
    show lnN R a + (0 + _) = _
    rw [Nat.zero_add]
theorem Lc_all {n : Nat} {R : Nat → Nat → Bool} (hin : In n R) : cntN (Lc R) 289 = lnN R 16 := Lc_row hin 16
section LA
variable {I : Nat → Nat → Int32} {J : Nat → Nat → Int64} {D : Nat → Nat → UInt64}
theorem c_lat {n t m : Nat} {R : Nat → Nat → Bool} (h : Drw n R I) (h16 : n ≤ 16) (hin : In n R) (ht : Lc R t = true) (hm : cntN (Lc R) t = m) : ∀ r a b, 17 * a + b + r = t → 1 ≤ a → a ≤ n → 1 ≤ b → b ≤ n + 1 → ex (19, 15, [.ref 265, .int (nI m), .int (nI (cntN (Lc R) (17 * a + b))), .int (nI a), .int (nI b)], [], mm I J D) = some (.inl (some (.int (nI (32 * (t / 17) + t % 17)))), mm I J D) := by
  have hto := dr_in hin _ _ ht
  have tb : m ≤ t := by rw [← hm]; exact cnt_bd t
  intro r
  induction r using Nat.strongRecOn with
  | _ r ih =>
    intro a b hr ha1 ha hb1 hb
    by_cases hbn : b = n + 1
    · subst hbn
      have hstep := ih (t - (17 * (a + 1) + 1)) (by omega) (a + 1) 1 (by omega) (by omega) (by omega) (by omega) (by omega)
      have hg : cntN (Lc R) (17 * (a + 1) + 1) = cntN (Lc R) (17 * a + (n + 1)) := cnt_gap (by omega) (fun j h1 h2 => by
        unfold Lc
        exact (dr_in hin).f (by omega))
      rw [hg] at hstep
      rw [e_19_15, h.1, decide_eq_true ((nI_ltI (by omega) (by omega)).mpr (by omega)), cond_true, e_19_61, nI_1, e_19_4, h.1, decide_eq_false (show ¬ nI n < nI (a + 1) from nI_nlt (by omega) (by omega)), cond_false, e_19_12]
      exact hstep
    · have hd := (h.2.2.2 a ha1 ha).has (bit_b hb1 (show b ≤ 16 by omega))
      rw [row_at hb1 (by omega)] at hd
      rw [e_19_15, h.1, decide_eq_false (show ¬ nI n < nI b from nI_nlt (by omega) (by omega)), cond_false, e_19_24, inb_n (show a < 17 by omega) (by decide), cond_true, nI_clamp (by omega), e_49_0, cal_v, ka, e_19_35]
      have hs : cntN (Lc R) (17 * a + b + 1) = cntN (Lc R) (17 * a + b) + (bif dr R a b then 1 else 0) := by
        rw [← Lc_at (show b < 17 by omega)]; rfl
      by_cases hp : r = 0
      · have e : t = 17 * a + b := by omega
        have hdr : dr R a b = true := by rw [← Lc_at (show b < 17 by omega), ← e]; exact ht
        rw [decide_eq_false (fun q => by rw [hd.mp q] at hdr; cases hdr), cond_false, e_19_39, ← e, hm, decide_eq_false (fun q => q rfl), cond_false, e_19_44, show (32 : Int32) * nI a = nI (32 * a) from (Int32.ofNat_mul 32 a).symm, nI_add, show t / 17 = a by omega, show t % 17 = b by omega]
      · have hstep := ih (r - 1) (by omega) a (b + 1) (by omega) ha1 ha (by omega) (by omega)
        rw [show 17 * a + (b + 1) = 17 * a + b + 1 by omega, hs] at hstep
        cases hdr : dr R a b with
        | false =>
          rw [hdr] at hstep
          rw [decide_eq_true (hd.mpr hdr), cond_true, e_19_55, nI_1]
          exact hstep
        | true =>
          rw [hdr] at hstep
          have hlt : cntN (Lc R) (17 * a + b) < m := by
            have := cnt_mono (f := Lc R) (m := 17 * a + b + 1) (t - (17 * a + b + 1))
            rw [show 17 * a + b + 1 + (t - (17 * a + b + 1)) = t by omega, hm, hs, hdr] at this
            have : cntN (Lc R) (17 * a + b) + 1 ≤ m := this
            omega
          rw [decide_eq_false (fun q => by rw [hd.mp q] at hdr; cases hdr), cond_false, e_19_39, decide_eq_true (show nI (cntN (Lc R) (17 * a + b)) ≠ nI m from fun q => by
            have := (nI_eq (by omega) (by omega)).mp q
            omega), cond_true, e_19_52, nI_1, e_19_55, nI_1]
          exact hstep
theorem d17 {p : Nat} (h : p < 289) : nI p / 17 = nI (p / 17) ∧ nI p - nI p / 17 * 17 = nI (p % 17) := by
  have e1 : nI p / 17 = nI (p / 17) := by
    refine Int32.toInt_inj.mp ?_
    rw [div_rg (a := nI p) (b := 17) (q := 17) (by rw [nI_toInt (by omega)]; omega) rfl (by decide), nI_toInt (by omega), nI_toInt (by omega)]
    omega
  refine ⟨e1, ?_⟩
  rw [e1, show nI (p / 17) * 17 = nI (p / 17 * 17) from (Int32.ofNat_mul _ 17).symm, nI_sub (by omega)]
  congr 1
  omega
theorem m_lat {n t m : Nat} {R : Nat → Nat → Bool} (h : AbF (I 324) R) (ht9 : t < 289) (ht : Lc R t = true) (hm : cntN (Lc R) t = m) : ∀ r p, p + r = t → ex (193, 25, [.ref 316, .int (nI m), .int (nI p), .int (nI (cntN (Lc R) p))], [], mm I J D) = some (.inl (some (.int (nI (32 * (t / 17) + t % 17)))), mm I J D)
  | 0, p, hr => by
    have : p = t := by omega
    subst this
    have hd : dr R (p / 17) (p % 17) = true := ht
    have tb : m ≤ p := by rw [← hm]; exact cnt_bd p
    rw [e_193_25, (d17 ht9).2, (d17 ht9).1, m_line h (by omega) (by omega), cal_v, ka, e_193_37, hd, decide_eq_false (show ¬ b2i true = 0 by decide), cond_false, e_193_40, hm, decide_eq_true ((nI_leI (by omega) (by omega)).mpr (Nat.le_refl _)), cond_true, e_193_74, (d17 ht9).2, (d17 ht9).1, show (32 : Int32) * nI (p / 17) = nI (32 * (p / 17)) from (Int32.ofNat_mul 32 _).symm, nI_add]
  | r + 1, p, hr => by
    have ih := m_lat (n := n) h ht9 ht hm r (p + 1) (by omega)
    have hs : cntN (Lc R) (p + 1) = cntN (Lc R) p + (bif Lc R p then 1 else 0) := rfl
    have hl := m_line (J := J) (D := D) h (a := p / 17) (b := p % 17) (by omega) (by omega)
    rw [show dr R (p / 17) (p % 17) = Lc R p from rfl] at hl
    have d := d17 (p := p) (by omega)
    rw [hs] at ih
    rw [e_193_25, d.2, d.1, hl, cal_v, ka, e_193_37]
    cases hd : Lc R p with
    | false =>
      rw [hd] at ih hl
      rw [decide_eq_true (show b2i false = 0 by decide), cond_true, e_193_45, d.2, d.1, hl, cal_v, ka, e_193_58, decide_eq_true (show b2i false = 0 by decide), cond_true, e_193_65, e_193_66, nI_1, show (0 : Int32) = nI 0 from rfl, nI_add]
      exact ih
    | true =>
      rw [hd] at ih hl
      have tb : m ≤ t := by rw [← hm]; exact cnt_bd t
      have hlt : cntN (Lc R) p < m := by
        have := cnt_mono (f := Lc R) (m := p + 1) (t - (p + 1))
        rw [show p + 1 + (t - (p + 1)) = t by omega, hm, hs, hd] at this
        have : cntN (Lc R) p + 1 ≤ m := this
        omega
      rw [decide_eq_false (show ¬ b2i true = 0 by decide), cond_false, e_193_40, decide_eq_false (show ¬ nI m ≤ nI (cntN (Lc R) p) from nI_ge hlt (by omega)), cond_false, e_193_45, d.2, d.1, hl, cal_v, ka, e_193_58, decide_eq_false (show ¬ b2i true = 0 by decide), cond_false, e_193_61, e_193_66, nI_1, nI_1]
      exact ih
end LA

theorem t_15 {L kk : Nat} {I : Nat → Nat → Int32} {J : Nat → Nat → Int64} {D : Nat → Nat → UInt64} (v : Int32) (h : Inv L kk I J D) (sc : ScOK v I) : Turn L kk 1042 v I J D := by
  obtain ⟨x, hx1⟩ : ∃ q, I 1000002 (v + 1).toNatClampNeg = q := ⟨_, rfl⟩
  obtain ⟨n, h16, c8, w0, hin, hT, hW, hr⟩ := inv_pil h.2.1
  obtain ⟨I1, d1, d2, d3⟩ := c_draw (J := J) (D := D) c8 h16 hin hT
  have w1 : I1 317 = I 317 := d2 317 (by decide) (by decide) (by decide) (by decide)
  have ln := c_lines (J := J) (D := D) d3 h16
  have hin2 : In n (clo (TI I)) := wsh_in hin 16
  have el : lnN (clo (TI I)) n = lnN (clo (TI I)) 16 := by
    have := lnN_n hin2 (16 - n)
    rw [show n + (16 - n) = 16 by omega] at this
    exact this.symm
  have bd := lnN_bd (R := clo (TI I)) 16
  rw [el] at ln
  obtain ⟨N, hN⟩ : ∃ N, N = lnN (clo (TI I)) 16 := ⟨_, rfl⟩
  rw [← hN] at ln bd
  have q1 : I1 iSCL 0 = I iSCL 0 := by rw [d2 iSCL (by decide) (by decide) (by decide) (by decide)]
  have q2 : I1 1000002 = I 1000002 := d2 1000002 (by decide) (by decide) (by decide) (by decide)
  by_cases hx : 0 ≤ x ∧ x < nI N
  · obtain ⟨m, hm, rfl⟩ := ix_of (m := N) (nI_toInt (by omega)) hx
    obtain ⟨t, t1, t2, t3⟩ := cnt_find (f := Lc (clo (TI I))) (n := 289) (m := m) (by rw [Lc_all hin2, ← hN]; exact hm)
    have ht := dr_in hin2 _ _ t2
    obtain ⟨r, er⟩ : ∃ r, r = nI (32 * (t / 17) + t % 17) := ⟨_, rfl⟩
    obtain ⟨F, f1, f2⟩ := m_lines (I := I1) (J := upsL J 335 0 r.toInt64) (D := D) hin (by rw [w1]; exact hW)
    rw [← hN] at f1
    have hle : 0 ≤ nI m ∧ nI m ≤ nI N - 1 := ⟨hx.1, by rw [show (1 : Int32) = nI 1 from rfl, nI_sub (by omega)]; exact (nI_leI (by omega) (by omega)).mpr (by omega)⟩
    have c0 : cntN (Lc (clo (TI I))) (17 * 1 + 1) = 0 := cnt_0 (fun k hk => by unfold Lc; exact (dr_in hin2).f (by omega))
    have cl := c_lat (J := J) (D := D) d3 h16 hin2 t2 t3 (t - 18) 1 1 (by omega) (by omega) (by omega) (by omega) (by omega)
    rw [c0] at cl
    have ml := m_lat (n := n) (I := ups (upR I1 324 F) 316 0 0) (J := upsL J 335 0 r.toInt64) (D := D) (by rw [uI (by decide), uRs]; exact f2) t1 t2 t3 t 0 (by omega)
    refine tk_15 (r := r) (I1 := I1) (J1 := J) (D1 := D) (I2 := ups (upR I1 324 F) 316 0 0) (J2 := upsL J 335 0 r.toInt64) (D2 := D) sc hx1 ?_ q1 q2 ?_ ?_ upsL_s ?_
    · rw [e_105_0, d1, cal_v, krw _, e_105_4, decide_eq_false (Int32.not_lt.mpr hx.1), cond_false, e_105_9, ln, cal_v, ka, e_105_14, decide_eq_true hx.2, cond_true, e_105_27, e_19_0, e_19_4, d3.1, decide_eq_false (show ¬ nI n < 1 from nI_nlt (b := 1) (by omega) (by omega)), cond_false, e_19_12]
      rw [show ex (19, 15, [.ref 265, .int (nI m), .int 0, .int 1, .int 1], [], mm I1 J D) = _ from cl, cal_v, ka, e_105_32, er]
    · rw [e_193_0, f1, cal_v, ka, e_193_7, x_inT hle, cal_v, ka, e_193_12, x_canT, cal_v, ka, e_193_16, d11, cond_true, e_193_21]
      rw [er] at ml ⊢
      exact ml
    · rw [uIs, uUs]
    · exact inv_st h (((Same.o d2).tr (Same.R (by decide))).tr Same.r)
  · obtain ⟨F, f1, f2⟩ := m_lines (I := I1) (J := J) (D := D) hin (by rw [w1]; exact hW)
    rw [← hN] at f1
    have hle : ¬ (0 ≤ x ∧ x ≤ nI N - 1) := fun q => hx ⟨q.1, by
      have := Int32.le_iff_toInt_le.mp q.2
      rw [pred_i (by omega)] at this
      exact Int32.lt_iff_toInt_lt.mpr (by rw [nI_toInt (by omega)]; omega)⟩
    refine te_15_2 (s := 0) (I1 := I1) (J1 := J) (D1 := D) (I2 := ups (upR I1 324 F) 316 0 1) (J2 := J) (D2 := D) sc hx1 ?_ q1 q2 ?_ ?_ (inv_st h (((Same.o d2).tr (Same.R (by decide))).tr Same.r))
    · by_cases h0 : x < 0
      · rw [e_105_0, d1, cal_v, krw _, e_105_4, decide_eq_true h0, cond_true, e_105_17]
      · rw [e_105_0, d1, cal_v, krw _, e_105_4, decide_eq_false h0, cond_false, e_105_9, ln, cal_v, ka, e_105_14, decide_eq_false (fun q => hx ⟨Int32.not_lt.mp h0, q⟩), cond_false, e_105_17]
    · rw [e_193_0, f1, cal_v, ka, e_193_7, x_inF hle, cal_v, ka, e_193_12, x_canF, cal_v, ka, e_193_16, d01, cond_false, e_193_19]
    · rw [uIs, uUs]
