/-! follows, low, high -/
theorem inv_bds {kk : Nat} {I : Nat → Nat → Int32} (h : PgRel kk (pgF I 1) (I 317)) : ∃ n, Bds n (bP I) (bQ I) (bW I) ∧ BoP n (bP I) (bQ I) (bW I) (bT I) I ∧ MoP n (bP I) (bQ I) (bW I) (bT I) (I 317) ∧ ∃ p, Feas n (bP I) (bQ I) (bW I) (bT I) p := by
  obtain ⟨n, hn, e5, e1, hk, -, h01, p, hp⟩ := inv_bou h
  obtain ⟨m, h16, c8, -⟩ := inv_pil h
  have i16 : (I 8 1).toInt ≤ 16 := by rw [c8, nI_toInt (by omega)]; omega
  have r : ∀ x : Int32, rg 0 (I 8 1).toInt x → x = nI (rN x) ∧ rN x < 17 := fun x hx => by
    obtain ⟨a, ha, rfl⟩ := rg_nI (b := 16) (v := x) ⟨hx.1, by have := hx.2; omega⟩ (by decide)
    rw [rN_nI (by omega)]
    exact ⟨rfl, by omega⟩
  have r3 : ∀ k, k < n → I 3 k = nI (bP I k) ∧ bP I k < 17 := fun k hk2 => r _ (hk k hk2).2.1
  have r4 : ∀ k, k < n → I 4 k = nI (bQ I k) ∧ bQ I k < 17 := fun k hk2 => r _ (hk k hk2).2.2.1
  have r5 : ∀ k, I 5 k = Int32.ofInt (bW I k) := fun k => (Int32.ofInt_toInt (I 5 k)).symm
  have r6 : ∀ k, k < n → I 6 k = bI (bT I k) := fun k hk2 => by
    unfold bT
    rcases h01 k (by omega) with q | q
    · rw [q]; rfl
    · rw [q]; rfl
  refine ⟨n, ⟨hn, fun k hk2 => ⟨⟨(r3 k hk2).2, (r4 k hk2).2, fun e => ?_⟩, (hk k hk2).2.2.2.2⟩⟩, ⟨e5, fun k hk2 => ⟨(r3 k hk2).1, (r4 k hk2).1, r5 k, r6 k hk2⟩⟩, ⟨e1, fun k hk2 => ?_⟩, p, fun k hk2 ht => ?_⟩
  · exact (hk k hk2).2.2.2.1 (by rw [(r3 k hk2).1, (r4 k hk2).1, e])
  · obtain ⟨q1, q2, q3, q4⟩ := (hk k hk2).1
    exact ⟨q1.trans (r3 k hk2).1, q2.trans (r4 k hk2).1, q3.trans (r5 k), q4.trans (r6 k hk2)⟩
  · have := hp k hk2 (decide_eq_true_eq.mp ht)
    show p (rN (I 3 k)) ≤ p (rN (I 4 k)) + (I 5 k).toInt
    omega
theorem hth1 {n : Nat} {t : Nat → Bool} (h : n ≤ 50) : ∀ k, k < n → t k = (t k && !decide (nI k = (-1))) := fun k hk => by
  rw [decide_eq_false (ne_m1 (j := k) (by omega))]; simp
section PT
variable {I : Nat → Nat → Int32} {J : Nat → Nat → Int64} {D : Nat → Nat → UInt64}
theorem c_ptT {v : Int32} (h : 0 ≤ v ∧ v ≤ I 8 1) : ex (146, 0, [.ref 0, .int v], [], mm I J D) = some (.inl none, mm I J D) := by
  rw [e_146_0, decide_eq_false (Int32.not_lt.mpr h.1), cond_false, e_146_4, decide_eq_true h.2, cond_true, e_146_29]
theorem c_ptF {v : Int32} (h : ¬ (0 ≤ v ∧ v ≤ I 8 1)) : ex (146, 0, [.ref 0, .int v], [], mm I J D) = some (.inr (.inl 2), mm I J D) := by
  by_cases h1 : v < 0
  · rw [e_146_0, decide_eq_true h1, cond_true, e_146_18]
  · rw [e_146_0, decide_eq_false h1, cond_false, e_146_4, decide_eq_false (fun h2 => h ⟨Int32.not_lt.mp h1, h2⟩), cond_false, e_146_18]
theorem m_ptT {v : Int32} (h : 0 ≤ v ∧ v ≤ I 317 0) : ex (165, 0, [.ref 316, .int v], [], mm I J D) = some (.inl (some (.int 1)), mm I J D) := by
  rw [e_165_0, x_inT h, cal_v, ka, e_165_11, decide_eq_true (Or.inr rfl), cond_true]
theorem m_ptF {v : Int32} (h : ¬ (0 ≤ v ∧ v ≤ I 317 0)) : ex (165, 0, [.ref 316, .int v], [], mm I J D) = some (.inl (some (.int 0)), mm I J D) := by
  rw [e_165_0, x_inF h, cal_v, ka, e_165_11, decide_eq_true (Or.inl rfl), cond_true]
theorem pt_of {v : Int32} {n : Nat} (hn : n ≤ 16) (h : 0 ≤ v ∧ v ≤ nI n) : ∃ a, a ≤ n ∧ v = nI a := by
  have h1 := Int32.le_iff_toInt_le.mp h.1
  have h2 := Int32.le_iff_toInt_le.mp h.2
  rw [nI_toInt (by omega)] at h2
  have e1 : (0 : Int32).toInt = 0 := rfl
  rw [e1] at h1
  obtain ⟨a, ha, rfl⟩ := rg_nI (b := 16) (v := v) ⟨by omega, by omega⟩ (by decide)
  rw [nI_toInt (by omega)] at h2
  exact ⟨a, by omega, rfl⟩
end PT
theorem scr_c : ∀ p, p < 264 → 247 ≤ p → scr p = true := by decide +kernel
theorem Same.c {I I' : Nat → Nat → Int32} (h : ∀ p, p < 247 ∨ 264 ≤ p → I' p = I p) : Same I I' := Same.of (fun p hp => h p (by
  by_cases q : p < 264
  · by_cases q2 : 247 ≤ p
    · rw [scr_c p q q2] at hp; cases hp
    · omega
  · omega))
theorem t_5 {L kk : Nat} {I : Nat → Nat → Int32} {J : Nat → Nat → Int64} {D : Nat → Nat → UInt64} (v : Int32) (h : Inv L kk I J D) (sc : ScOK v I) : Turn L kk 587 v I J D := by
  obtain ⟨x, hx1⟩ : ∃ q, I 1000002 (v + 1).toNatClampNeg = q := ⟨_, rfl⟩
  obtain ⟨y, hx2⟩ : ∃ q, I 1000002 (v + 2).toNatClampNeg = q := ⟨_, rfl⟩
  obtain ⟨n, g, bo, mo, hf0, hf⟩ := inv_bds h.2.1
  obtain ⟨m, h16, c8, w0, -⟩ := inv_pil h.2.1
  by_cases hx : 0 ≤ x ∧ x ≤ nI m
  · have cx : 0 ≤ x ∧ x ≤ I 8 1 := by rw [c8]; exact hx
    by_cases hy : 0 ≤ y ∧ y ≤ nI m
    · have cy : 0 ≤ y ∧ y ≤ I 8 1 := by rw [c8]; exact hy
      obtain ⟨a, ha, rfl⟩ := pt_of h16 hx
      obtain ⟨b, hb, rfl⟩ := pt_of h16 hy
      obtain ⟨I1, e1, f1⟩ := c_lsum (J := J) (D := D) (th := bT I) (a := b) (b := a) g bo (hth1 g.1) (by omega) (by omega)
      have w1 : I1 317 = I 317 := f1 317 (by decide)
      have far : ∀ J' : Nat → Nat → Int64, ∃ F, ex (167, 0, [.ref 316, .int (-1), dv, dv, dv, dv, dv], [], mm (ups I1 316 0 0) J' D) = some (.inl none, mm (upR (ups I1 316 0 0) 321 F) J' D) ∧ ∀ a b, a < 17 → b < 17 → F (17 * a + b) = fO 100000000 (LSu n (bP I) (bQ I) (bW I) (bT I) b a 16) := fun J' => m_far (th := bT I) g (by rw [uI (by decide), w1]; exact mo) (hth1 g.1) hf
      have mx : 0 ≤ nI a ∧ nI a ≤ I1 317 0 := by rw [w1, w0]; exact hx
      have my : 0 ≤ nI b ∧ nI b ≤ I1 317 0 := by rw [w1, w0]; exact hy
      cases eL : LSu n (bP I) (bQ I) (bW I) (bT I) a b 16 with
      | none =>
        rw [eL] at e1
        obtain ⟨F, e2, f2⟩ := far J
        have f3 := f2 b a (by omega) (by omega)
        rw [eL] at f3
        refine te_5_3 (s := 0) (I1 := I1) (J1 := J) (D1 := D) (I2 := ups (upR (ups I1 316 0 0) 321 F) 316 0 2) (J2 := J) (D2 := D) sc hx1 hx2 ?_ (by rw [f1 iSCL (by decide)]) (f1 1000002 (by decide)) ?_ (by rw [uIs, uUs]) (inv_st h ((((Same.c f1).tr Same.r).tr (Same.R (by decide))).tr Same.r))
        · rw [e_95_0, e_143_0, c_ptT cy, cal_v, kn, e_143_5, c_ptT cx, cal_v, kn, e_143_10, e1, cal_v, ka, e_143_20, decide_eq_false (show ¬ fO 1000000000 none ≠ 1000000000 from fun w => w rfl), cond_false, e_143_28, cal_e]
        · rw [e_179_0, m_ptT mx, cal_v, ka, e_179_6, d10, cond_false, e_179_9, m_ptT my, cal_v, ka, e_179_14, d10, cond_false, e_179_17, e_179_22, x_canT, cal_v, ka, e_179_26, d11, cond_true, e_179_31, e_178_0, e2, cal_v, kn, e_178_5, m17, inb_n (show 17 * b + a < 289 by omega) (by decide), cond_true, nI_clamp (show 17 * b + a < 2 ^ 31 by omega), uRs, f3, cal_v, ka, e_179_37, decide_eq_true (show fO 100000000 none = 100000000 from rfl), cond_true, e_179_49, e_179_50, x_canF, cal_v, ka, e_179_54, d00, cond_true, e_179_62, e_179_63]
      | some s =>
        have sb := LSu_Bo g 16 b s eL
        have e9 := okF9.1
        have e8 := okF8.1
        rw [eL] at e1
        obtain ⟨r, hr⟩ : ∃ r, r = -Int32.ofInt s := ⟨_, rfl⟩
        obtain ⟨F, e2, f2⟩ := far (upsL J 335 0 r.toInt64)
        have f3 := f2 b a (by omega) (by omega)
        rw [eL] at f3
        refine tk_5 (r := r) (I1 := I1) (J1 := J) (D1 := D) (I2 := ups (upR (ups I1 316 0 0) 321 F) 316 0 0) (J2 := upsL J 335 0 r.toInt64) (D2 := D) sc hx1 hx2 ?_ (by rw [f1 iSCL (by decide)]) (f1 1000002 (by decide)) ?_ (by rw [uIs, uUs]) upsL_s (inv_st h ((((Same.c f1).tr Same.r).tr (Same.R (by decide))).tr Same.r))
        · rw [e_95_0, e_143_0, c_ptT cy, cal_v, kn, e_143_5, c_ptT cx, cal_v, kn, e_143_10, e1, cal_v, ka, e_143_20, decide_eq_true (show fO 1000000000 (some s) ≠ 1000000000 from fO_ne okF9 ⟨by omega, by omega⟩), cond_true, e_143_39, cal_v, ka, e_95_6, hr]; rfl
        · rw [e_179_0, m_ptT mx, cal_v, ka, e_179_6, d10, cond_false, e_179_9, m_ptT my, cal_v, ka, e_179_14, d10, cond_false, e_179_17, e_179_22, x_canT, cal_v, ka, e_179_26, d11, cond_true, e_179_31, e_178_0, e2, cal_v, kn, e_178_5, m17, inb_n (show 17 * b + a < 289 by omega) (by decide), cond_true, nI_clamp (show 17 * b + a < 2 ^ 31 by omega), uRs, f3, cal_v, ka, e_179_37, decide_eq_false (show ¬ fO 100000000 (some s) = 100000000 from fO_ne okF8 ⟨by omega, by omega⟩), cond_false, e_179_45, e_179_50, x_canT, cal_v, ka, e_179_54, d10, cond_false, e_179_57, e_179_63, hr]; rfl
    · have cy : ¬ (0 ≤ y ∧ y ≤ I 8 1) := by rw [c8]; exact hy
      have my : ¬ (0 ≤ y ∧ y ≤ I 317 0) := by rw [w0]; exact hy
      have mx : 0 ≤ x ∧ x ≤ I 317 0 := by rw [w0]; exact hx
      refine te_5_2 (s := 0) (I1 := I) (J1 := J) (D1 := D) (I2 := ups I 316 0 1) (J2 := J) (D2 := D) sc hx1 hx2 ?_ rfl rfl ?_ (by rw [uIs, uUs]) (inv_r h)
      · rw [e_95_0, e_143_0, c_ptF cy, cal_e, cal_e]
      · rw [e_179_0, m_ptT mx, cal_v, ka, e_179_6, d10, cond_false, e_179_9, m_ptF my, cal_v, ka, e_179_14, d00, cond_true, e_179_21, e_179_22, x_canF, cal_v, ka, e_179_26, d01, cond_false, e_179_29]
  · have cx : ¬ (0 ≤ x ∧ x ≤ I 8 1) := by rw [c8]; exact hx
    have mx : ¬ (0 ≤ x ∧ x ≤ I 317 0) := by rw [w0]; exact hx
    refine te_5_2 (s := 0) (I1 := I) (J1 := J) (D1 := D) (I2 := ups I 316 0 1) (J2 := J) (D2 := D) sc hx1 hx2 ?_ rfl rfl ?_ (by rw [uIs, uUs]) (inv_r h)
    · by_cases hy : 0 ≤ y ∧ y ≤ I 8 1
      · rw [e_95_0, e_143_0, c_ptT hy, cal_v, kn, e_143_5, c_ptF cx, cal_e, cal_e]
      · rw [e_95_0, e_143_0, c_ptF hy, cal_e, cal_e]
    · rw [e_179_0, m_ptF mx, cal_v, ka, e_179_6, d00, cond_true, e_179_21, e_179_22, x_canF, cal_v, ka, e_179_26, d01, cond_false, e_179_29]
theorem t_6 {L kk : Nat} {I : Nat → Nat → Int32} {J : Nat → Nat → Int64} {D : Nat → Nat → UInt64} (v : Int32) (h : Inv L kk I J D) (sc : ScOK v I) : Turn L kk 655 v I J D := by
  obtain ⟨x, hx1⟩ : ∃ q, I 1000002 (v + 1).toNatClampNeg = q := ⟨_, rfl⟩
  obtain ⟨y, hx2⟩ : ∃ q, I 1000002 (v + 2).toNatClampNeg = q := ⟨_, rfl⟩
  obtain ⟨n, g, bo, mo, hf0, hf⟩ := inv_bds h.2.1
  obtain ⟨m, h16, c8, w0, -⟩ := inv_pil h.2.1
  by_cases hx : 0 ≤ x ∧ x ≤ nI m
  · have cx : 0 ≤ x ∧ x ≤ I 8 1 := by rw [c8]; exact hx
    by_cases hy : 0 ≤ y ∧ y ≤ nI m
    · have cy : 0 ≤ y ∧ y ≤ I 8 1 := by rw [c8]; exact hy
      obtain ⟨a, ha, rfl⟩ := pt_of h16 hx
      obtain ⟨b, hb, rfl⟩ := pt_of h16 hy
      obtain ⟨I1, e1, f1⟩ := c_lsum (J := J) (D := D) (th := bT I) (a := a) (b := b) g bo (hth1 g.1) (by omega) (by omega)
      have w1 : I1 317 = I 317 := f1 317 (by decide)
      have far : ∀ J' : Nat → Nat → Int64, ∃ F, ex (167, 0, [.ref 316, .int (-1), dv, dv, dv, dv, dv], [], mm (ups I1 316 0 0) J' D) = some (.inl none, mm (upR (ups I1 316 0 0) 321 F) J' D) ∧ ∀ a b, a < 17 → b < 17 → F (17 * a + b) = fO 100000000 (LSu n (bP I) (bQ I) (bW I) (bT I) b a 16) := fun J' => m_far (th := bT I) g (by rw [uI (by decide), w1]; exact mo) (hth1 g.1) hf
      have mx : 0 ≤ nI a ∧ nI a ≤ I1 317 0 := by rw [w1, w0]; exact hx
      have my : 0 ≤ nI b ∧ nI b ≤ I1 317 0 := by rw [w1, w0]; exact hy
      cases eL : LSu n (bP I) (bQ I) (bW I) (bT I) b a 16 with
      | none =>
        rw [eL] at e1
        obtain ⟨F, e2, f2⟩ := far J
        have f3 := f2 a b (by omega) (by omega)
        rw [eL] at f3
        refine te_6_3 (s := 0) (I1 := I1) (J1 := J) (D1 := D) (I2 := ups (upR (ups I1 316 0 0) 321 F) 316 0 2) (J2 := J) (D2 := D) sc hx1 hx2 ?_ (by rw [f1 iSCL (by decide)]) (f1 1000002 (by decide)) ?_ (by rw [uIs, uUs]) (inv_st h ((((Same.c f1).tr Same.r).tr (Same.R (by decide))).tr Same.r))
        · rw [e_96_0, e_143_0, c_ptT cx, cal_v, kn, e_143_5, c_ptT cy, cal_v, kn, e_143_10, e1, cal_v, ka, e_143_20, decide_eq_false (show ¬ fO 1000000000 none ≠ 1000000000 from fun w => w rfl), cond_false, e_143_28, cal_e]
        · rw [e_180_0, m_ptT mx, cal_v, ka, e_180_6, d10, cond_false, e_180_9, m_ptT my, cal_v, ka, e_180_14, d10, cond_false, e_180_17, e_180_22, x_canT, cal_v, ka, e_180_26, d11, cond_true, e_180_31, e_178_0, e2, cal_v, kn, e_178_5, m17, inb_n (show 17 * a + b < 289 by omega) (by decide), cond_true, nI_clamp (show 17 * a + b < 2 ^ 31 by omega), uRs, f3, cal_v, ka, e_180_37, decide_eq_true (show fO 100000000 none = 100000000 from rfl), cond_true, e_180_49, e_180_50, x_canF, cal_v, ka, e_180_54, d00, cond_true, e_180_61, e_180_62]
      | some s =>
        have sb := LSu_Bo g 16 a s eL
        have e9 := okF9.1
        have e8 := okF8.1
        rw [eL] at e1
        obtain ⟨r, hr⟩ : ∃ r, r = Int32.ofInt s := ⟨_, rfl⟩
        obtain ⟨F, e2, f2⟩ := far (upsL J 335 0 r.toInt64)
        have f3 := f2 a b (by omega) (by omega)
        rw [eL] at f3
        refine tk_6 (r := r) (I1 := I1) (J1 := J) (D1 := D) (I2 := ups (upR (ups I1 316 0 0) 321 F) 316 0 0) (J2 := upsL J 335 0 r.toInt64) (D2 := D) sc hx1 hx2 ?_ (by rw [f1 iSCL (by decide)]) (f1 1000002 (by decide)) ?_ (by rw [uIs, uUs]) upsL_s (inv_st h ((((Same.c f1).tr Same.r).tr (Same.R (by decide))).tr Same.r))
        · rw [e_96_0, e_143_0, c_ptT cx, cal_v, kn, e_143_5, c_ptT cy, cal_v, kn, e_143_10, e1, cal_v, ka, e_143_20, decide_eq_true (show fO 1000000000 (some s) ≠ 1000000000 from fO_ne okF9 ⟨by omega, by omega⟩), cond_true, e_143_39, cal_v, ka, e_96_6, hr]; rfl
        · rw [e_180_0, m_ptT mx, cal_v, ka, e_180_6, d10, cond_false, e_180_9, m_ptT my, cal_v, ka, e_180_14, d10, cond_false, e_180_17, e_180_22, x_canT, cal_v, ka, e_180_26, d11, cond_true, e_180_31, e_178_0, e2, cal_v, kn, e_178_5, m17, inb_n (show 17 * a + b < 289 by omega) (by decide), cond_true, nI_clamp (show 17 * a + b < 2 ^ 31 by omega), uRs, f3, cal_v, ka, e_180_37, decide_eq_false (show ¬ fO 100000000 (some s) = 100000000 from fO_ne okF8 ⟨by omega, by omega⟩), cond_false, e_180_45, e_180_50, x_canT, cal_v, ka, e_180_54, d10, cond_false, e_180_57, e_180_62, hr]; rfl
    · have cy : ¬ (0 ≤ y ∧ y ≤ I 8 1) := by rw [c8]; exact hy
      have my : ¬ (0 ≤ y ∧ y ≤ I 317 0) := by rw [w0]; exact hy
      have mx : 0 ≤ x ∧ x ≤ I 317 0 := by rw [w0]; exact hx
      refine te_6_2 (s := 0) (I1 := I) (J1 := J) (D1 := D) (I2 := ups I 316 0 1) (J2 := J) (D2 := D) sc hx1 hx2 ?_ rfl rfl ?_ (by rw [uIs, uUs]) (inv_r h)
      · rw [e_96_0, e_143_0, c_ptT cx, cal_v, kn, e_143_5, c_ptF cy, cal_e, cal_e]
      · rw [e_180_0, m_ptT mx, cal_v, ka, e_180_6, d10, cond_false, e_180_9, m_ptF my, cal_v, ka, e_180_14, d00, cond_true, e_180_21, e_180_22, x_canF, cal_v, ka, e_180_26, d01, cond_false, e_180_29]
  · have cx : ¬ (0 ≤ x ∧ x ≤ I 8 1) := by rw [c8]; exact hx
    have mx : ¬ (0 ≤ x ∧ x ≤ I 317 0) := by rw [w0]; exact hx
    refine te_6_2 (s := 0) (I1 := I) (J1 := J) (D1 := D) (I2 := ups I 316 0 1) (J2 := J) (D2 := D) sc hx1 hx2 ?_ rfl rfl ?_ (by rw [uIs, uUs]) (inv_r h)
    · rw [e_96_0, e_143_0, c_ptF cx, cal_e, cal_e]
    · rw [e_180_0, m_ptF mx, cal_v, ka, e_180_6, d00, cond_true, e_180_21, e_180_22, x_canF, cal_v, ka, e_180_26, d01, cond_false, e_180_29]
/-! follows -/
section FO
variable {n : Nat} {P Q : Nat → Nat} {W : Nat → Int} {th tc : Nat → Bool} {c : Nat}
theorem ch_up {b : Nat} (hs : ∀ k, k < n → tc k = true → th k = true) : ∀ u x s, Ch n P Q W tc b u x s → Ch n P Q W th b u x s
  | 0, x, s, h => h
  | u + 1, x, s, ⟨k, hk, h1, h2, r, h3, h4⟩ => ⟨k, hk, hs k hk h1, h2, r, ch_up hs u _ r h3, h4⟩
theorem ch_rep {b : Nat} (hs : ∀ k, k < n → th k = true → k ≠ c → tc k = true) {j : Nat} {s0 : Int} (hc : Ch n P Q W tc (Q c) j (P c) s0) (h0 : s0 ≤ W c) : ∀ u x s, Ch n P Q W th b u x s → ∃ u' s', Ch n P Q W tc b u' x s' ∧ s' ≤ s
  | 0, x, s, h => ⟨0, s, h, Int.le_refl _⟩
  | u + 1, x, s, ⟨k, hk, h1, h2, r, h3, h4⟩ => by
    obtain ⟨u', r', h5, h6⟩ := ch_rep hs hc h0 u _ r h3
    by_cases q : k = c
    · subst q
      exact ⟨j + u', s0 + r', by rw [← h2]; exact ch_app j u' _ s0 r' hc h5, by omega⟩
    · exact ⟨u' + 1, W k + r', ⟨k, hk, hs k hk h1 q, h2, r', h5, rfl⟩, by omega⟩
theorem fol_iff {h : Nat → Int} (hf : Feas n P Q W th h) (g : Bds n P Q W) (hc : c < n) (ht : th c = true) (hs : ∀ k, k < n → tc k = (th k && !decide (nI k = nI c))) :
    (∃ s, LSu n P Q W tc (Q c) (P c) 16 = some s ∧ s ≤ W c) ↔ ∀ a b, a < 17 → b < 17 → LSu n P Q W tc b a 16 = LSu n P Q W th b a 16 := by
  have n50 := g.1
  have hP : ∀ k, k < n → P k < 17 ∧ Q k < 17 := fun k hk => ⟨(g.2 k hk).1.1, (g.2 k hk).1.2.1⟩
  have s1 : ∀ k, k < n → tc k = true → th k = true := fun k hk e => by
    rw [hs k hk, Bool.and_eq_true] at e; exact e.1
  have s2 : ∀ k, k < n → th k = true → k ≠ c → tc k = true := fun k hk e q => by
    rw [hs k hk, e, decide_eq_false (fun w => q ((nI_eq (by omega) (by omega)).mp w))]; rfl
  have hf2 : Feas n P Q W tc h := fun k hk e => hf k hk (s1 k hk e)
  refine ⟨fun ⟨s0, e0, h0⟩ a b ha hb => ?_, fun hall => ?_⟩
  · obtain ⟨j, hj, e1⟩ := LSu_ch e0
    have rep := fun b => ch_rep (b := b) s2 (SS_ch j _ _ e1) h0
    cases e2 : LSu n P Q W th b a 16 with
    | none =>
      cases e3 : LSu n P Q W tc b a 16 with
      | none => rfl
      | some v =>
        obtain ⟨u, -, e4⟩ := LSu_ch e3
        obtain ⟨w, e5, -⟩ := fin_all hf hP hb a ha u v (ch_up s1 u a v (SS_ch u a v e4))
        rw [e2] at e5; cases e5
    | some w =>
      obtain ⟨u, -, e4⟩ := LSu_ch e2
      obtain ⟨u2, w2, e5, l2⟩ := rep b u a w (SS_ch u a w e4)
      obtain ⟨v, e6, l3⟩ := fin_all hf2 hP hb a ha u2 w2 e5
      obtain ⟨u3, -, e7⟩ := LSu_ch e6
      obtain ⟨w3, e8, l4⟩ := fin_all hf hP hb a ha u3 v (ch_up s1 u3 a v (SS_ch u3 a v e7))
      rw [e2] at e8
      cases e8
      rw [e6, show v = w by omega]
  · obtain ⟨w, e, l⟩ := fin_all hf hP (hP c hc).2 (P c) (hP c hc).1 1 (W c) (ch_1 hc ht)
    exact ⟨w, by rw [hall _ _ (hP c hc).1 (hP c hc).2]; exact e, l⟩
end FO
section FW
variable {I : Nat → Nat → Int32} {J : Nat → Nat → Int64} {D : Nat → Nat → UInt64}
theorem m_cpy : ∀ r k, k + r = 289 → ex (177, 17, [.ref 316, dv, .int (nI k)], [], mm (upR I 322 (lpN (I 321) (I 322) k)) J D) = ex (177, 42, [.ref 316, dv, dv], [], mm (upR I 322 (lpN (I 321) (I 322) 289)) J D)
  | 0, k, h => by
    have : k = 289 := by omega
    subst this
    rw [e_177_17, decide_eq_true (show (289 : Int32) ≤ nI 289 by decide), cond_true]
  | r + 1, k, h => by
    have ih := m_cpy r (k + 1) (by omega)
    rw [← lpN_s] at ih
    rw [e_177_17, decide_eq_false (show ¬ (289 : Int32) ≤ nI k from nI_ge (a := k) (b := 289) (by omega) (by decide)), cond_false, e_177_24, inb_n (show k < 289 by omega) (by decide), cond_true, cond_true, nI_clamp (by omega), us_R, uR (show 321 ≠ 322 by decide), nI_1]
    exact ih
theorem m_cmpT (he : ∀ j, j < 289 → I 322 j = I 321 j) : ∀ r k, k + r = 289 → ex (177, 49, [.ref 316, dv, .int (nI k)], [], mm I J D) = some (.inl (some (.int 1)), mm I J D)
  | 0, k, h => by
    have : k = 289 := by omega
    subst this
    rw [e_177_49, decide_eq_true (show (289 : Int32) ≤ nI 289 by decide), cond_true, e_177_79]
  | r + 1, k, h => by
    rw [e_177_49, decide_eq_false (show ¬ (289 : Int32) ≤ nI k from nI_ge (a := k) (b := 289) (by omega) (by decide)), cond_false, e_177_56, inb_n (show k < 289 by omega) (by decide), cond_true, cond_true, nI_clamp (by omega), decide_eq_true (he k (by omega)), cond_true, e_177_73, nI_1]
    exact m_cmpT he r (k + 1) (by omega)
theorem m_cmpF {j : Nat} (hj : j < 289) (he : I 322 j ≠ I 321 j) : ∀ r k, k + r = 289 → k ≤ j → ex (177, 49, [.ref 316, dv, .int (nI k)], [], mm I J D) = some (.inl (some (.int 0)), mm I J D)
  | 0, k, h, hk => by omega
  | r + 1, k, h, hk => by
    rw [e_177_49, decide_eq_false (show ¬ (289 : Int32) ≤ nI k from nI_ge (a := k) (b := 289) (by omega) (by decide)), cond_false, e_177_56, inb_n (show k < 289 by omega) (by decide), cond_true, cond_true, nI_clamp (by omega)]
    by_cases q : I 322 k = I 321 k
    · rw [decide_eq_true q, cond_true, e_177_73, nI_1]
      exact m_cmpF hj he r (k + 1) (by omega) (by
        by_cases e : k = j
        · subst e; exact absurd q he
        · omega)
    · rw [decide_eq_false q, cond_false, e_177_71]
end FW
theorem t_4 {L kk : Nat} {I : Nat → Nat → Int32} {J : Nat → Nat → Int64} {D : Nat → Nat → UInt64} (v : Int32) (h : Inv L kk I J D) (sc : ScOK v I) : Turn L kk 524 v I J D := by
  obtain ⟨x, hx1⟩ : ∃ q, I 1000002 (v + 1).toNatClampNeg = q := ⟨_, rfl⟩
  obtain ⟨n, g, bo, mo, hf0, hf⟩ := inv_bds h.2.1
  have n50 := g.1
  by_cases hx : 0 ≤ x ∧ x < nI n
  · obtain ⟨c, hc, rfl⟩ := ix_of (m := n) (nI_toInt (by omega)) hx
    obtain ⟨b3, b4, b5, b6⟩ := bo.2 c hc
    obtain ⟨-, -, -, w6⟩ := mo.2 c hc
    obtain ⟨⟨p17, q17, pq⟩, w1, w2⟩ := g.2 c hc
    cases ht : bT I c with
    | false =>
      rw [ht] at b6 w6
      refine te_4_0 (s := 0) (I1 := I) (J1 := J) (D1 := D) (I2 := ups I 316 0 2) (J2 := J) (D2 := D) sc hx1 ?_ rfl rfl ?_ (by rw [uIs, uUs]) (inv_r h)
      · rw [e_94_0, c_nbF bo.1 n50 hc b6, cal_e]
      · rw [e_177_0, m_nbF mo.1 n50 hc w6, cal_v, ka, e_177_5, d01, cond_false, e_177_8]
    | true =>
      rw [ht] at b6 w6
      have hs : ∀ k, k < n → (fun k => bT I k && !decide (nI k = nI c)) k = (bT I k && !decide (nI k = nI c)) := fun _ _ => rfl
      obtain ⟨I1, e1, f1⟩ := c_lsum (J := J) (D := D) (a := bP I c) (b := bQ I c) g bo hs p17 q17
      have key := fol_iff (tc := fun k => bT I k && !decide (nI k = nI c)) hf g hc ht hs
      have wI1 : I1 317 = I 317 := f1 317 (by decide)
      -- the book's answer
      have okb : ∀ r : Bool, ((∃ s, LSu n (bP I) (bQ I) (bW I) (fun k => bT I k && !decide (nI k = nI c)) (bQ I c) (bP I c) 16 = some s ∧ s ≤ bW I c) ↔ r = true) → ex (94, 0, [.ref 0, .int (nI c), dv], [], mm I J D) = some (.inl (some (.int (bI r))), mm I1 J D) := fun r hr => by
        have lt := fO_lt okF9 ((LSu_Bo (th := fun k => bT I k && !decide (nI k = nI c)) (b := bQ I c) g 16 (bP I c)).fr okF9 (by omega)) (v := bW I c) ⟨by omega, by have := okF9.1; omega⟩
        rw [e_94_0, c_nbT bo.1 n50 hc b6, cal_v, kn, e_94_5, inb_n (show c < 50 by omega) (by decide), cond_true, cond_true, nI_clamp (show c < 2 ^ 31 by omega), b3, b4, e1, cal_v, ka, e_94_33, inb_n (show c < 50 by omega) (by decide), cond_true, nI_clamp (show c < 2 ^ 31 by omega), f1 5 (by decide), b5]
        cases r with
        | true =>
          obtain ⟨s, e2, l2⟩ := hr.mpr rfl
          rw [decide_eq_false (fun w => by have := lt.mp w s e2; omega), cond_false, e_94_42, e_94_47, decide_eq_true (Or.inr rfl), cond_true]; rfl
        | false =>
          rw [decide_eq_true (lt.mpr (fun s e2 => by
            by_cases q : bW I c < s
            · exact q
            · exact absurd (hr.mp ⟨s, e2, by omega⟩) (by decide))), cond_true, e_94_46, e_94_47, decide_eq_true (Or.inl rfl), cond_true]; rfl
      have hf2 : Feas n (bP I) (bQ I) (bW I) (fun k => bT I k && !decide (nI k = nI c)) hf0 := fun k hk e => hf k hk (by
        have e : (bT I k && !decide (nI k = nI c)) = true := e
        rw [Bool.and_eq_true] at e; exact e.1)
      -- the model's tables
      have tabs : ∀ J' : Nat → Nat → Int64, ∃ I2 : Nat → Nat → Int32, (∀ r : Int32, ex (177, 49, [.ref 316, dv, .int (nI 0)], [], mm I2 J' D) = some (.inl (some (.int r)), mm I2 J' D) → ex (177, 0, [.ref 316, .int (nI c), dv], [], mm I1 J' D) = some (.inl (some (.int r)), mm I2 J' D)) ∧ I2 316 0 = 0 ∧ Same I1 I2 ∧ (∀ a b, a < 17 → b < 17 → I2 322 (17 * a + b) = fO 100000000 (LSu n (bP I) (bQ I) (bW I) (fun k => bT I k && !decide (nI k = nI c)) b a 16)) ∧ ∀ a b, a < 17 → b < 17 → I2 321 (17 * a + b) = fO 100000000 (LSu n (bP I) (bQ I) (bW I) (bT I) b a 16) := fun J' => by
        obtain ⟨F1, m1, k1⟩ := m_far (I := ups I1 316 0 0) (J := J') (D := D) g (by rw [uI (by decide), wI1]; exact mo) hs hf2
        have m2 := m_cpy (I := upR (ups I1 316 0 0) 321 F1) (J := J') (D := D) 289 0 (by omega)
        rw [lpN_z0] at m2
        obtain ⟨I3, hI3⟩ : ∃ I3, I3 = upR (upR (ups I1 316 0 0) 321 F1) 322 (lpN ((upR (ups I1 316 0 0) 321 F1) 321) ((upR (ups I1 316 0 0) 321 F1) 322) 289) := ⟨_, rfl⟩
        rw [← hI3] at m2
        obtain ⟨F2, m3, k2⟩ := m_far (I := I3) (J := J') (D := D) (th := bT I) g (by rw [hI3, uR (by decide), uR (by decide), uI (by decide), wI1]; exact mo) (hth1 n50) hf
        refine ⟨upR I3 321 F2, fun r m4 => ?_, ?_, ?_, fun a b ha hb => ?_, fun a b ha hb => ?_⟩
        · rw [e_177_0, m_nbT (by rw [wI1]; exact mo.1) n50 hc (by rw [wI1]; exact w6), cal_v, ka, e_177_5, d11, cond_true, e_177_10, m1, cal_v, kn, e_177_15]
          rw [show ex (177, 17, [.ref 316, dv, .int 0], [], mm (upR (ups I1 316 0 0) 321 F1) J' D) = _ from m2, e_177_42, m3, cal_v, kn, e_177_47]
          exact m4
        · rw [uR (by decide), hI3, uR (by decide), uR (by decide), uIs, uUs]
        · rw [hI3]; exact ((Same.r.tr (Same.R (by decide))).tr (Same.R (by decide))).tr (Same.R (by decide))
        · rw [uR (by decide), hI3, uRs]
          unfold lpN
          rw [if_pos (by omega), uRs, k1 a b ha hb]
        · rw [uRs, k2 a b ha hb]
      by_cases hall : ∀ a b, a < 17 → b < 17 → LSu n (bP I) (bQ I) (bW I) (fun k => bT I k && !decide (nI k = nI c)) b a 16 = LSu n (bP I) (bQ I) (bW I) (bT I) b a 16
      · obtain ⟨I2, m1, m2, m3, m4, m5⟩ := tabs (upsL J 335 0 (bI true).toInt64)
        refine tk_4 (r := true) (I1 := I1) (J1 := J) (D1 := D) (I2 := I2) (J2 := upsL J 335 0 (bI true).toInt64) (D2 := D) sc hx1 (okb true ⟨fun _ => rfl, fun _ => key.mpr hall⟩) (by rw [f1 iSCL (by decide)]) (f1 1000002 (by decide)) (m1 1 (m_cmpT (fun j hj => ?_) 289 0 (by omega))) m2 upsL_s (inv_st h ((Same.c f1).tr m3))
        have e : j = 17 * (j / 17) + j % 17 := by omega
        rw [e, m4 _ _ (by omega) (by omega), m5 _ _ (by omega) (by omega), hall _ _ (by omega) (by omega)]
      · obtain ⟨I2, m1, m2, m3, m4, m5⟩ := tabs (upsL J 335 0 (bI false).toInt64)
        have hex : ∃ a b, (a < 17 ∧ b < 17) ∧ LSu n (bP I) (bQ I) (bW I) (fun k => bT I k && !decide (nI k = nI c)) b a 16 ≠ LSu n (bP I) (bQ I) (bW I) (bT I) b a 16 := Classical.byContradiction (fun hno => hall (fun a b ha hb => Classical.byContradiction (fun hne => hno ⟨a, b, ⟨ha, hb⟩, hne⟩)))
        obtain ⟨a, b, ⟨ha, hb⟩, hne⟩ := hex
        refine tk_4 (r := false) (I1 := I1) (J1 := J) (D1 := D) (I2 := I2) (J2 := upsL J 335 0 (bI false).toInt64) (D2 := D) sc hx1 (okb false ⟨fun q => absurd (key.mp q) hall, fun q => by cases q⟩) (by rw [f1 iSCL (by decide)]) (f1 1000002 (by decide)) (m1 0 (m_cmpF (j := 17 * a + b) (by omega) (fun e => hne ?_) 289 0 (by omega) (Nat.zero_le _))) m2 upsL_s (inv_st h ((Same.c f1).tr m3))
        rw [m4 _ _ ha hb, m5 _ _ ha hb] at e
        exact (fO_inj okF8 ((LSu_Bo g 16 a).fr okF8 (by omega)) ((LSu_Bo g 16 a).fr okF8 (by omega))).mp e
  · refine te_4_2 (s := 0) (I1 := I) (J1 := J) (D1 := D) (I2 := ups I 316 0 1) (J2 := J) (D2 := D) sc hx1 ?_ rfl rfl ?_ (by rw [uIs, uUs]) (inv_r h)
    · rw [e_94_0, c_nbO bo.1 hx, cal_e]
    · rw [e_177_0, m_nbO mo.1 n50 hx, cal_v, ka, e_177_5, d01, cond_false, e_177_8]
