/-! ages: the calls that the law makes of them -/
section AG
variable {kk m n : Nat} {P Q : Nat → Nat} {W : Nat → Int} {t : Nat → Bool}
variable {I : Nat → Nat → Int32} {J : Nat → Nat → Int64} {D : Nat → Nat → UInt64}
/-- a page with so many layers, and these bounds -/
def AgeG (m n : Nat) (P Q : Nat → Nat) (W : Nat → Int) (t : Nat → Bool) (G : Nat → Nat → Int32) : Prop := G 7 1 = nI m ∧ G 1 5 = nI n ∧ ∀ k, k < n → G 2 k = nI (P k) ∧ G 3 k = nI (Q k) ∧ G 4 k = Int32.ofInt (W k) ∧ G 5 k = bI (t k)
def AgeW (m n : Nat) (P Q : Nat → Nat) (W : Nat → Int) : Prop := m ≤ 16 ∧ Bds n P Q W ∧ ∀ k, k < n → P k ≤ m ∧ Q k ≤ m
theorem ag_bo (w : AgeW m n P Q W) (h : AgeG m n P Q W t (PG I)) : I 8 1 = nI m ∧ BoP n P Q W t I := by
  obtain ⟨h1, h2, h3⟩ := h
  obtain ⟨w1, w2, w3⟩ := w
  have n50 := w2.1
  rw [pg_at rfl] at h1 h2
  refine ⟨h1, h2, fun k hk => ?_⟩
  have r1 : Nat.blt k 50 = true := Nat.blt_eq.mpr (by omega)
  obtain ⟨q1, q2, q3, q4⟩ := h3 k hk
  rw [pg_at (show rl 2 k = true from r1)] at q1
  rw [pg_at (show rl 3 k = true from r1)] at q2
  rw [pg_at (show rl 4 k = true from r1)] at q3
  rw [pg_at (show rl 5 k = true from r1)] at q4
  exact ⟨q1, q2, q3, q4⟩
theorem ag_fe (h : Inv 5 kk I J D) (g : Bds n P Q W) (bo : BoP n P Q W t I) : ∃ p, Feas n P Q W t p := by
  obtain ⟨n2, g2, bo2, -, p, hp⟩ := inv_bds h.2.1
  have n50 := g.1
  have e : n2 = n := (nI_eq (by have := g2.1; omega) (by omega)).mp (bo2.1.symm.trans bo.1)
  subst e
  refine ⟨p, fun k hk ht => ?_⟩
  obtain ⟨q1, q2, q3, q4⟩ := bo.2 k hk
  obtain ⟨⟨g3, g4, g5⟩, g6, g7⟩ := g.2 k hk
  have e1 : bP I k = P k := by show rN (I 3 k) = _; rw [q1, rN_nI (by omega)]
  have e2 : bQ I k = Q k := by show rN (I 4 k) = _; rw [q2, rN_nI (by omega)]
  have e3 : bW I k = W k := by show (I 5 k).toInt = _; rw [q3, oI_t (by omega)]
  have := hp k hk (by show decide (I 6 k = 1) = true; rw [q4, ht]; rfl)
  rw [e1, e2, e3] at this
  exact this
theorem pt_rg {a : Nat} (c8 : I 8 1 = nI m) (h16 : m ≤ 16) (ha : a ≤ m) : 0 ≤ nI a ∧ nI a ≤ I 8 1 := by
  rw [c8]
  exact ⟨nI_pos' (by omega), (nI_leI (by omega) (by omega)).mpr ha⟩
section QU
theorem q_highS (h : Inv 5 kk I J D) (w : AgeW m n P Q W) (ag : AgeG m n P Q W t (PG I)) {a b : Nat} (ha : a ≤ m) (hb : b ≤ m) {s : Int} (eL : LSu n P Q W t b a 16 = some s) : Call kk 96 [.ref 1, .int (nI a), .int (nI b)] (.inl (some (.int (Int32.ofInt s)))) I J D (Same I) := by
  obtain ⟨c8, bo⟩ := ag_bo w ag
  obtain ⟨h16, g, -⟩ := w
  obtain ⟨I1, e1, f1⟩ := c_lsum (J := J) (D := D) (th := t) (a := a) (b := b) g bo (hth1 g.1) (by omega) (by omega)
  have sb := LSu_Bo g 16 a s eL
  have e9 := okF9.1
  rw [eL] at e1
  refine call_q (as := [.ref 0, .int (nI a), .int (nI b)]) (o := .inl (some (.int (Int32.ofInt s)))) h rfl (gl_of rfl) (fun z hz => by cases hz) (I2 := I1) (J2 := J) (D2 := D) ?_ (Same.c f1)
  rw [e_96_0, e_143_0, c_ptT (pt_rg c8 h16 ha), cal_v, kn, e_143_5, c_ptT (pt_rg c8 h16 hb), cal_v, kn, e_143_10, e1, cal_v, ka, e_143_20, decide_eq_true (show fO 1000000000 (some s) ≠ 1000000000 from fO_ne okF9 ⟨by omega, by omega⟩), cond_true, e_143_39, cal_v, ka, e_96_6]
  rfl
theorem q_highN (h : Inv 5 kk I J D) (w : AgeW m n P Q W) (ag : AgeG m n P Q W t (PG I)) {a b : Nat} (ha : a ≤ m) (hb : b ≤ m) (eL : LSu n P Q W t b a 16 = none) : Call kk 96 [.ref 1, .int (nI a), .int (nI b)] (.inr (.inl 3)) I J D (Same I) := by
  obtain ⟨c8, bo⟩ := ag_bo w ag
  obtain ⟨h16, g, -⟩ := w
  obtain ⟨I1, e1, f1⟩ := c_lsum (J := J) (D := D) (th := t) (a := a) (b := b) g bo (hth1 g.1) (by omega) (by omega)
  rw [eL] at e1
  refine call_q (as := [.ref 0, .int (nI a), .int (nI b)]) (o := .inr (.inl 3)) h rfl (gl_of rfl) (fun z hz => by cases hz) (I2 := I1) (J2 := J) (D2 := D) ?_ (Same.c f1)
  rw [e_96_0, e_143_0, c_ptT (pt_rg c8 h16 ha), cal_v, kn, e_143_5, c_ptT (pt_rg c8 h16 hb), cal_v, kn, e_143_10, e1, cal_v, ka, e_143_20, decide_eq_false (show ¬ fO 1000000000 none ≠ 1000000000 from fun w => w rfl), cond_false, e_143_28, cal_e]
theorem q_lowS (h : Inv 5 kk I J D) (w : AgeW m n P Q W) (ag : AgeG m n P Q W t (PG I)) {a b : Nat} (ha : a ≤ m) (hb : b ≤ m) {s : Int} (eL : LSu n P Q W t a b 16 = some s) : Call kk 95 [.ref 1, .int (nI a), .int (nI b)] (.inl (some (.int (-Int32.ofInt s)))) I J D (Same I) := by
  obtain ⟨c8, bo⟩ := ag_bo w ag
  obtain ⟨h16, g, -⟩ := w
  obtain ⟨I1, e1, f1⟩ := c_lsum (J := J) (D := D) (th := t) (a := b) (b := a) g bo (hth1 g.1) (by omega) (by omega)
  have sb := LSu_Bo g 16 b s eL
  have e9 := okF9.1
  rw [eL] at e1
  refine call_q (as := [.ref 0, .int (nI a), .int (nI b)]) (o := .inl (some (.int (-Int32.ofInt s)))) h rfl (gl_of rfl) (fun z hz => by cases hz) (I2 := I1) (J2 := J) (D2 := D) ?_ (Same.c f1)
  rw [e_95_0, e_143_0, c_ptT (pt_rg c8 h16 hb), cal_v, kn, e_143_5, c_ptT (pt_rg c8 h16 ha), cal_v, kn, e_143_10, e1, cal_v, ka, e_143_20, decide_eq_true (show fO 1000000000 (some s) ≠ 1000000000 from fO_ne okF9 ⟨by omega, by omega⟩), cond_true, e_143_39, cal_v, ka, e_95_6]
  rfl
theorem q_fol (h : Inv 5 kk I J D) (w : AgeW m n P Q W) (ag : AgeG m n P Q W t (PG I)) {c : Nat} (hc : c < n) (ht : t c = true) (r : Bool) (hr : (∃ s, LSu n P Q W (fun k => t k && !decide (nI k = nI c)) (Q c) (P c) 16 = some s ∧ s ≤ W c) ↔ r = true) : Call kk 94 [.ref 1, .int (nI c), dv] (.inl (some (.int (bI r)))) I J D (Same I) := by
  obtain ⟨c8, bo⟩ := ag_bo w ag
  obtain ⟨h16, g, -⟩ := w
  have n50 := g.1
  obtain ⟨b3, b4, b5, b6⟩ := bo.2 c hc
  obtain ⟨⟨p17, q17, pq⟩, w1, w2⟩ := g.2 c hc
  rw [ht] at b6
  have hs : ∀ k, k < n → (fun k => t k && !decide (nI k = nI c)) k = (t k && !decide (nI k = nI c)) := fun _ _ => rfl
  obtain ⟨I1, e1, f1⟩ := c_lsum (J := J) (D := D) (a := P c) (b := Q c) g bo hs p17 q17
  refine call_q (as := [.ref 0, .int (nI c), dv]) (o := .inl (some (.int (bI r)))) h rfl (gl_of rfl) (fun z hz => by cases hz) (I2 := I1) (J2 := J) (D2 := D) ?_ (Same.c f1)
  have lt := fO_lt okF9 ((LSu_Bo (th := fun k => t k && !decide (nI k = nI c)) (b := Q c) g 16 (P c)).fr okF9 (by omega)) (v := W c) ⟨by omega, by have := okF9.1; omega⟩
  rw [e_94_0, c_nbT bo.1 n50 hc b6, cal_v, kn, e_94_5, inb_n (show c < 50 by omega) (by decide), cond_true, cond_true, nI_clamp (show c < 2 ^ 31 by omega), b3, b4, e1, cal_v, ka, e_94_33, inb_n (show c < 50 by omega) (by decide), cond_true, nI_clamp (show c < 2 ^ 31 by omega), f1 5 (by decide), b5]
  cases r with
  | true =>
    obtain ⟨s, e2, l2⟩ := hr.mpr rfl
    rw [decide_eq_false (fun w => by have := lt.mp w s e2; omega), cond_false, e_94_42, e_94_47, decide_eq_true (Or.inr rfl), cond_true]; rfl
  | false =>
    rw [decide_eq_true (lt.mpr (fun s e2 => by
      by_cases q : W c < s
      · exact q
      · exact absurd (hr.mp ⟨s, e2, by omega⟩) (by decide))), cond_true, e_94_46, e_94_47, decide_eq_true (Or.inl rfl), cond_true]; rfl
theorem q_bcnt (h : Inv 5 kk I J D) (w : AgeW m n P Q W) (ag : AgeG m n P Q W t (PG I)) : Call kk 100 [.ref 1] (.inl (some (.int (nI (cntN t n))))) I J D (Same I) := by
  obtain ⟨c8, bo⟩ := ag_bo w ag
  obtain ⟨n2, hn, cn, wn, hk, hc, h01, -⟩ := inv_bou h.2.1
  have n50 := w.2.1.1
  have e : n2 = n := (nI_eq (by omega) (by omega)).mp (cn.symm.trans bo.1)
  subst e
  refine call_q (as := [.ref 0]) (o := .inl (some (.int (nI (cntN t n2))))) h rfl (gl_of rfl) (fun z hz => by cases hz) (I2 := I) (J2 := J) (D2 := D) ?_ Same.rfl'
  rw [e_100_0, hc, cnt_congr (f := fun k => decide (I 6 k = 1)) (g := t) (n := n2) (fun k hk => by
    rw [(bo.2 k hk).2.2.2]
    cases t k <;> rfl)]
end QU
theorem q_rlen (h : Inv 5 kk I J D) : Call kk 97 [.ref 1] (.inl (some (.int (I 245 3)))) I J D (Same I) :=
  call_q (as := [.ref 0]) (o := .inl (some (.int (I 245 3)))) h rfl (gl_of rfl) (fun z hz => by cases hz) (I2 := I) (J2 := J) (D2 := D) (e_97_0 I J D) Same.rfl'
theorem q_rat (h : Inv 5 kk I J D) {l i : Nat} (hl : I 245 3 = nI l) (h17 : l ≤ 17) (hi : i < l) : Call kk 98 [.ref 1, .int (nI i)] (.inl (some (.int (I 264 i)))) I J D (Same I) := by
  refine call_q (as := [.ref 0, .int (nI i)]) (o := .inl (some (.int (I 264 i)))) h rfl (gl_of rfl) (fun z hz => by cases hz) (I2 := I) (J2 := J) (D2 := D) ?_ Same.rfl'
  rw [e_98_0, decide_eq_false (nI_pos (by omega)), cond_false, e_98_4, hl, decide_eq_true ((nI_ltI (by omega) (by omega)).mpr hi), cond_true, e_98_25, inb_n (by omega) (by decide), cond_true, nI_clamp (by omega)]
/-! acts -/
theorem a_lay (h : Inv 5 kk I J D) (hm : PG I 7 1 = nI m) (h16 : m < 16) : Call kk 90 [.ref 1] (.inl (some (.int (nI (m + 1))))) I J D (Act I (ups (PG I) 7 1 (nI (m + 1)))) := by
  obtain ⟨I1, e1, f1, hs⟩ := rem_h h.2.2.1 h.2.1.th J D
  rw [pg_at rfl] at hm
  have q8 : I1 8 1 = nI m := by rw [f1 8 (by decide) (by decide)]; exact hm
  refine call_a (as := [.ref 0]) (o := .inl (some (.int (nI (m + 1))))) (fun _ _ => rfl) rfl (gl_of rfl) (fun z hz => by cases hz) (y_0 h) (I2 := ups I1 8 1 (nI (m + 1))) (J2 := J) (D2 := D) ?_ (fun I3 h3 => ⟨?_, fun l hl hh => hs I3 ?_ (fun p h1 h2 => ?_) l hl hh⟩)
  · rw [e_90_0, hm, decide_eq_true ((i16 (by omega)).mpr h16), cond_true, e_90_25, e1, cal_v, kn, e_90_29, q8, nI_1, uIs, uUs]
  · rw [show PG I3 = PG (ups I1 8 1 (nI (m + 1))) from pg_lo fun p h1 h2 => h3 p (by omega)]
    show nrm (pgF (ups I1 8 1 (nI (m + 1))) 1) = _
    rw [g_ups (o := 7) rfl rfl, g_same fun p h1 h2 => f1 p h1 (by omega)]
    rfl
  · rw [h3 0 (by decide), uI (by decide)]; exact ⟨rfl, rfl⟩
  · rw [h3 p (by omega), uI (by omega)]
/-- a bound that fits -/
theorem bd_put (h : Inv 5 kk I J D) (w : AgeW m n P Q W) (ag : AgeG m n P Q W t (PG I)) (n50 : n < 50) {a b : Nat} (ha : a ≤ m) (hb : b ≤ m) (hab : a ≠ b) {wv : Int} (hw : -9999 ≤ wv ∧ wv ≤ 9999) (hno : ∀ u, 1 ≤ u → u < 17 → ¬ CnB n P Q W t a b wv u) :
    ∃ I3, ex (142, 0, [.ref 0, .int (nI a), .int (nI b), .int (Int32.ofInt wv), dv], [], mm I J D) = some (.inl (some (.int (nI n))), mm I3 J D) ∧ Act I (ups (ups (ups (ups (ups (ups (PG I) 2 n (nI a)) 3 n (nI b)) 4 n (Int32.ofInt wv)) 5 n 1) 1 5 (nI (n + 1))) 1 6 (PG I 1 6 + 1)) I3 := by
  obtain ⟨c8, bo⟩ := ag_bo w ag
  obtain ⟨h16, g, -⟩ := w
  obtain ⟨I1, e1, f1, hs⟩ := c_meas (J := J) (D := D) (th := t) (b := a) g bo (hth1 (by omega)) (by omega)
  have s1 : Same I I1 := Same.c f1
  obtain ⟨I2, e2, f2, hr⟩ := rem_h (inv_st (J2 := J) (D2 := D) h s1).2.2.1 (fun k hk => by rw [f1 6 (by decide)]; exact h.2.1.th k hk) J D
  have lo2 : ∀ p, 1 ≤ p → p < 28 → I2 p = I p := fun p h1 h2 => by rw [f2 p (by omega) (by omega), f1 p (by omega)]
  have hwI : (-9999 : Int32) ≤ Int32.ofInt wv ∧ Int32.ofInt wv ≤ 9999 := ⟨by rw [show (-9999 : Int32) = Int32.ofInt (-9999) from rfl, oI_le (by omega) (by omega)]; exact hw.1, by rw [show (9999 : Int32) = Int32.ofInt 9999 from rfl, oI_le (by omega) (by omega)]; exact hw.2⟩
  obtain ⟨I3, hI3⟩ : ∃ I3, I3 = ups (ups (ups (ups (ups (ups I2 3 n (nI a)) 4 n (nI b)) 5 n (Int32.ofInt wv)) 6 n 1) 2 5 (nI (n + 1))) 2 6 (I 2 6 + 1) := ⟨_, rfl⟩
  have put : ex (1, 0, [.ref 2, .int (nI a), .int (nI b), .int (Int32.ofInt wv), dv], [], mm I2 J D) = some (.inl (some (.int (nI n))), mm I3 J D) := by
    have i25 : I2 2 5 = nI n := by rw [lo2 2 (by decide) (by decide)]; exact bo.1
    rw [e_1_0, i25, inb_n n50 (by decide), cond_true, cond_true, cond_true, cond_true, nI_clamp (show n < 2 ^ 31 by omega), show vp_nar .boolean 1 = 1 from rfl]
    rw [show (ups (ups (ups (ups I2 3 n (nI a)) 4 n (nI b)) 5 n (Int32.ofInt wv)) 6 n 1) 2 5 = nI n by rw [uI (by decide), uI (by decide), uI (by decide), uI (by decide)]; exact i25, nI_1]
    rw [show (ups (ups (ups (ups (ups I2 3 n (nI a)) 4 n (nI b)) 5 n (Int32.ofInt wv)) 6 n 1) 2 5 (nI (n + 1))) 2 6 = I 2 6 by rw [uIs, uU (by decide), uI (by decide), uI (by decide), uI (by decide), uI (by decide), lo2 2 (by decide) (by decide)], ← hI3]
  have far : ∀ p, 8 ≤ p ∨ p = 0 → I3 p = I2 p := fun p hp => by rw [hI3, uI (by omega), uI (by omega), uI (by omega), uI (by omega), uI (by omega), uI (by omega)]
  refine ⟨I3, ?_, ?_, fun l hl hh => ?_⟩
  · rw [e_142_0, c_ptT (pt_rg c8 h16 ha), cal_v, kn, e_142_5, c_ptT (pt_rg c8 h16 hb), cal_v, kn, e_142_10, decide_eq_true (show nI a ≠ nI b from fun q => hab ((nI_eq (by omega) (by omega)).mp q)), cond_true, e_142_26, x_nr hwI, cal_v, kn, e_142_36, bo.1, decide_eq_true (show nI n < (50 : Int32) from (nI_ltI (a := n) (b := 50) (by omega) (by decide)).mpr n50), cond_true, e_142_62, e_8_0, e1, cal_v, kn, e_8_6]
    rw [show ex (8, 9, [.ref 245, dv, .int (nI b), .int (Int32.ofInt wv), .int 1], [], mm I1 J D) = _ from c_oaN g hs (show b < 17 by omega) hw hno 16 1 (by omega) (Nat.le_refl _), cal_v, ka]
    rw [e_142_72, decide_eq_true (show (0 : Int32) ≤ 0 by decide), cond_true, e_142_100, e2, cal_v, kn, e_142_104, put, cal_v, ka, e_142_117]
  · have r50 : ∀ k, k < 50 → Nat.blt k 50 = true := fun k hk => Nat.blt_eq.mpr hk
    show nrm (pgF I3 1) = _
    rw [hI3, g_ups (o := 1) rfl rfl, g_ups (o := 1) rfl rfl, g_ups (o := 5) rfl (r50 n n50), g_ups (o := 4) rfl (r50 n n50), g_ups (o := 3) rfl (r50 n n50), g_ups (o := 2) rfl (r50 n n50), show nrm (pgF I2 1) = PG I from pg_lo lo2, show I 2 6 = PG I 1 6 from (pg_at (I := I) (o := 1) (k := 6) rfl).symm]
  · rw [← s1.pg]
    exact hr I3 (by rw [far 0 (by decide)]; exact ⟨rfl, rfl⟩) (fun p h1 h2 => far p (by omega)) l hl (s1.hs hh)
/-- a bound that doesn't fit: the ring -/
theorem bd_no (h : Inv 5 kk I J D) (w : AgeW m n P Q W) (ag : AgeG m n P Q W t (PG I)) (n50 : n < 50) {a b : Nat} (ha : a ≤ m) (hb : b ≤ m) (hab : a ≠ b) {wv : Int} (hw : -9999 ≤ wv ∧ wv ≤ 9999) (hex : ∃ u, (1 ≤ u ∧ u < 17) ∧ CnB n P Q W t a b wv u) :
    ∃ I2 u0 ks fr, ex (142, 0, [.ref 0, .int (nI a), .int (nI b), .int (Int32.ofInt wv), dv], [], mm I J D) = some (.inr (.inl 0), mm I2 J D) ∧ (∀ p, p < 245 → I2 p = I p) ∧ (1 ≤ u0 ∧ u0 < 17) ∧ CnB n P Q W t a b wv u0 ∧ PathOK n P Q W t a u0 b ks fr ∧ I2 245 3 = nI (1 + u0) ∧ I2 264 0 = -1 ∧ ∀ i, i < u0 → I2 264 (i + 1) = nI (ks i) := by
  obtain ⟨c8, bo⟩ := ag_bo w ag
  obtain ⟨h16, g, -⟩ := w
  obtain ⟨I1, e1, f1, hs⟩ := c_meas (J := J) (D := D) (th := t) (b := a) g bo (hth1 (by omega)) (by omega)
  have bo1 : BoP n P Q W t I1 := bo.go (fun p _ hp => f1 p (by omega))
  have hwI : (-9999 : Int32) ≤ Int32.ofInt wv ∧ Int32.ofInt wv ≤ 9999 := ⟨by rw [show (-9999 : Int32) = Int32.ofInt (-9999) from rfl, oI_le (by omega) (by omega)]; exact hw.1, by rw [show (9999 : Int32) = Int32.ofInt 9999 from rfl, oI_le (by omega) (by omega)]; exact hw.2⟩
  obtain ⟨u, hu, hcu⟩ := hex
  obtain ⟨u0, -, ⟨⟨k1, k2⟩, k3⟩, k4⟩ := least_ex (P := fun u => (1 ≤ u ∧ u < 17) ∧ CnB n P Q W t a b wv u) u u (Nat.le_refl _) ⟨hu, hcu⟩
  have k5 : ∀ u, 1 ≤ u → u < u0 → ¬ CnB n P Q W t a b wv u := fun u h1 h2 q => k4 u h2 ⟨⟨h1, by omega⟩, q⟩
  obtain ⟨s0, k6, k7⟩ := id k3
  obtain ⟨ks, fr, hp⟩ := path_ex g u0 b s0 (by omega) k6
  obtain ⟨I2, e2, f2, f3, f4, f5⟩ := c_ring (J := J) (D := D) g (by omega) hp bo1 hs
  refine ⟨I2, u0, ks, fr, ?_, fun p hp => by rw [f2 p (by omega) (by omega), f1 p (by omega)], ⟨k1, k2⟩, k3, hp, f3, f4, fun i hi => ?_⟩
  · rw [e_142_0, c_ptT (pt_rg c8 h16 ha), cal_v, kn, e_142_5, c_ptT (pt_rg c8 h16 hb), cal_v, kn, e_142_10, decide_eq_true (show nI a ≠ nI b from fun q => hab ((nI_eq (by omega) (by omega)).mp q)), cond_true, e_142_26, x_nr hwI, cal_v, kn, e_142_36, bo.1, decide_eq_true (show nI n < (50 : Int32) from (nI_ltI (a := n) (b := 50) (by omega) (by decide)).mpr n50), cond_true, e_142_62, e_8_0, e1, cal_v, kn, e_8_6]
    rw [show ex (8, 9, [.ref 245, dv, .int (nI b), .int (Int32.ofInt wv), .int 1], [], mm I1 J D) = _ from c_oaY g hs (show b < 17 by omega) hw k2 k3 k5 (u0 - 1) 1 (by omega) (Nat.le_refl _), cal_v, ka]
    rw [e_142_72, decide_eq_false (show ¬ nI u0 ≤ 0 from nI_nle (by omega) (by omega)), cond_false, e_142_79, e2, cal_v, kn, e_142_89]
  · exact f5 i hi
/-- the page and what is remembered are the same -/
def Kpt (I I2 : Nat → Nat → Int32) : Prop := PG I2 = PG I ∧ ∀ l, Hs I l → Hs I2 l
theorem Same.kpt {I I2 : Nat → Nat → Int32} (s : Same I I2) : Kpt I I2 := ⟨s.pg, fun _ h => s.hs h⟩
theorem Kpt.tr {I I1 I2 : Nat → Nat → Int32} (h : Kpt I I1) (g : Kpt I1 I2) : Kpt I I2 := ⟨g.1.trans h.1, fun l hl => g.2 l (h.2 l hl)⟩
theorem kpt_0 {I : Nat → Nat → Int32} : Kpt I I := ⟨rfl, fun _ h => h⟩
theorem kpt_lo {I I2 : Nat → Nat → Int32} (h : ∀ p, p < 245 → I2 p = I p) : Kpt I I2 := ⟨pg_lo fun p _ hp => h p (by omega), fun _ hl => hs_of hl (by rw [h 0 (by decide)]; exact ⟨rfl, rfl⟩) fun p _ hp => h p hp⟩
/-- the ring that is told of a refused bound -/
def RingI (n : Nat) (P Q : Nat → Nat) (W : Nat → Int) (t : Nat → Bool) (a b : Nat) (wv : Int) (I2 : Nat → Nat → Int32) : Prop := ∃ u0 ks fr, (1 ≤ u0 ∧ u0 < 17) ∧ CnB n P Q W t a b wv u0 ∧ PathOK n P Q W t a u0 b ks fr ∧ I2 245 3 = nI (1 + u0) ∧ I2 264 0 = -1 ∧ ∀ i, i < u0 → I2 264 (i + 1) = nI (ks i)
def PutG (n a b : Nat) (wv : Int) (G : Nat → Nat → Int32) : Nat → Nat → Int32 := ups (ups (ups (ups (ups (ups G 2 n (nI a)) 3 n (nI b)) 4 n (Int32.ofInt wv)) 5 n 1) 1 5 (nI (n + 1))) 1 6 (G 1 6 + 1)
theorem ag_sc {I I' : Nat → Nat → Int32} (h : ∀ p, p ≠ 1000002 → I' p = I p) : PG I' = PG I := pg_lo fun p _ hp => h p (by omega)
theorem a_leastY (h : Inv 5 kk I J D) (w : AgeW m n P Q W) (ag : AgeG m n P Q W t (PG I)) (n50 : n < 50) {a b : Nat} (ha : a ≤ m) (hb : b ≤ m) (hab : a ≠ b) {wv : Int} (hw : -9999 ≤ wv ∧ wv ≤ 9999) (hno : ∀ u, 1 ≤ u → u < 17 → ¬ CnB n P Q W t a b wv u) {z : Int32} (hz : -z = Int32.ofInt wv) :
    Call kk 91 [.ref 1, .int (nI b), .int (nI a), .int z] (.inl (some (.int (nI n)))) I J D (Act I (PutG n a b wv (PG I))) := by
  obtain ⟨I', k1, h', sc, s1, s2, s3⟩ := with_sc (nI b) (nI a) z h
  have ep : PG I' = PG I := ag_sc k1
  have hI : ∀ l, Hs I l → Hs I' l := fun l hl => hs_of hl (by rw [k1 0 (by decide)]; exact ⟨rfl, rfl⟩) fun p _ hp => k1 p (by omega)
  obtain ⟨I3, e3, e4, e5⟩ := bd_put h' w (by rw [ep]; exact ag) n50 ha hb hab hw hno
  refine call_a (as := [.ref 0, .int (nI b), .int (nI a), .int z]) (o := .inl (some (.int (nI n)))) (fun p hp => k1 p (by omega)) rfl (gl_of rfl) (fun z hz => by cases hz) (callY (y_1 0 h' sc) (by show ((91, [.ref 0, .int (I' 1000002 1), .int (I' 1000002 2), .int (I' 1000002 3)]) : Nat × List Value) = _; rw [s1, s2, s3])) (I2 := I3) (J2 := J) (D2 := D) ?_ (fun I4 h4 => ?_)
  · rw [e_91_0, hz, e3, cal_v, ka, e_91_8]
  · have k4 : Kpt I3 I4 := kpt_lo fun p hp => h4 p (by omega)
    refine ⟨k4.1.trans (e4.trans ?_), fun l hl hh => ?_⟩
    · rw [ep]; rfl
    · have := k4.2 _ (e5 l hl (hI l hh))
      rw [ep] at this
      exact this
theorem a_mostY (h : Inv 5 kk I J D) (w : AgeW m n P Q W) (ag : AgeG m n P Q W t (PG I)) (n50 : n < 50) {a b : Nat} (ha : a ≤ m) (hb : b ≤ m) (hab : a ≠ b) {wv : Int} (hw : -9999 ≤ wv ∧ wv ≤ 9999) (hno : ∀ u, 1 ≤ u → u < 17 → ¬ CnB n P Q W t a b wv u) :
    Call kk 92 [.ref 1, .int (nI a), .int (nI b), .int (Int32.ofInt wv)] (.inl (some (.int (nI n)))) I J D (Act I (PutG n a b wv (PG I))) := by
  obtain ⟨I', k1, h', sc, s1, s2, s3⟩ := with_sc (nI a) (nI b) (Int32.ofInt wv) h
  have ep : PG I' = PG I := ag_sc k1
  have hI : ∀ l, Hs I l → Hs I' l := fun l hl => hs_of hl (by rw [k1 0 (by decide)]; exact ⟨rfl, rfl⟩) fun p _ hp => k1 p (by omega)
  obtain ⟨I3, e3, e4, e5⟩ := bd_put h' w (by rw [ep]; exact ag) n50 ha hb hab hw hno
  refine call_a (as := [.ref 0, .int (nI a), .int (nI b), .int (Int32.ofInt wv)]) (o := .inl (some (.int (nI n)))) (fun p hp => k1 p (by omega)) rfl (gl_of rfl) (fun z hz => by cases hz) (callY (y_2 0 h' sc) (by show ((92, [.ref 0, .int (I' 1000002 1), .int (I' 1000002 2), .int (I' 1000002 3)]) : Nat × List Value) = _; rw [s1, s2, s3])) (I2 := I3) (J2 := J) (D2 := D) ?_ (fun I4 h4 => ?_)
  · rw [e_92_0, e3, cal_v, ka, e_92_7]
  · have k4 : Kpt I3 I4 := kpt_lo fun p hp => h4 p (by omega)
    refine ⟨k4.1.trans (e4.trans ?_), fun l hl hh => ?_⟩
    · rw [ep]; rfl
    · have := k4.2 _ (e5 l hl (hI l hh))
      rw [ep] at this
      exact this
theorem a_leastN (h : Inv 5 kk I J D) (w : AgeW m n P Q W) (ag : AgeG m n P Q W t (PG I)) (n50 : n < 50) {a b : Nat} (ha : a ≤ m) (hb : b ≤ m) (hab : a ≠ b) {wv : Int} (hw : -9999 ≤ wv ∧ wv ≤ 9999) (hex : ∃ u, (1 ≤ u ∧ u < 17) ∧ CnB n P Q W t a b wv u) {z : Int32} (hz : -z = Int32.ofInt wv) :
    Call kk 91 [.ref 1, .int (nI b), .int (nI a), .int z] (.inr (.inl 0)) I J D (fun I2 => Kpt I I2 ∧ RingI n P Q W t a b wv I2) := by
  obtain ⟨I', k1, h', sc, s1, s2, s3⟩ := with_sc (nI b) (nI a) z h
  have ep : PG I' = PG I := ag_sc k1
  have hI : Kpt I I' := kpt_lo fun p hp => k1 p (by omega)
  obtain ⟨I3, u0, ks, fr, e3, e4, r1, r2, r3, r4, r5, r6⟩ := bd_no h' w (by rw [ep]; exact ag) n50 ha hb hab hw hex
  refine call_a (as := [.ref 0, .int (nI b), .int (nI a), .int z]) (o := .inr (.inl 0)) (fun p hp => k1 p (by omega)) rfl (gl_of rfl) (fun z hz => by cases hz) (callY (y_1 0 h' sc) (by show ((91, [.ref 0, .int (I' 1000002 1), .int (I' 1000002 2), .int (I' 1000002 3)]) : Nat × List Value) = _; rw [s1, s2, s3])) (I2 := I3) (J2 := J) (D2 := D) ?_ (fun I4 h4 => ?_)
  · rw [e_91_0, hz, e3, cal_e]
  · refine ⟨(hI.tr (kpt_lo e4)).tr (kpt_lo fun p hp => h4 p (by omega)), u0, ks, fr, r1, r2, r3, by rw [h4 245 (by decide)]; exact r4, by rw [h4 264 (by decide)]; exact r5, fun i hi => by rw [h4 264 (by decide)]; exact r6 i hi⟩
theorem a_mostN (h : Inv 5 kk I J D) (w : AgeW m n P Q W) (ag : AgeG m n P Q W t (PG I)) (n50 : n < 50) {a b : Nat} (ha : a ≤ m) (hb : b ≤ m) (hab : a ≠ b) {wv : Int} (hw : -9999 ≤ wv ∧ wv ≤ 9999) (hex : ∃ u, (1 ≤ u ∧ u < 17) ∧ CnB n P Q W t a b wv u) :
    Call kk 92 [.ref 1, .int (nI a), .int (nI b), .int (Int32.ofInt wv)] (.inr (.inl 0)) I J D (fun I2 => Kpt I I2 ∧ RingI n P Q W t a b wv I2) := by
  obtain ⟨I', k1, h', sc, s1, s2, s3⟩ := with_sc (nI a) (nI b) (Int32.ofInt wv) h
  have ep : PG I' = PG I := ag_sc k1
  have hI : Kpt I I' := kpt_lo fun p hp => k1 p (by omega)
  obtain ⟨I3, u0, ks, fr, e3, e4, r1, r2, r3, r4, r5, r6⟩ := bd_no h' w (by rw [ep]; exact ag) n50 ha hb hab hw hex
  refine call_a (as := [.ref 0, .int (nI a), .int (nI b), .int (Int32.ofInt wv)]) (o := .inr (.inl 0)) (fun p hp => k1 p (by omega)) rfl (gl_of rfl) (fun z hz => by cases hz) (callY (y_2 0 h' sc) (by show ((92, [.ref 0, .int (I' 1000002 1), .int (I' 1000002 2), .int (I' 1000002 3)]) : Nat × List Value) = _; rw [s1, s2, s3])) (I2 := I3) (J2 := J) (D2 := D) ?_ (fun I4 h4 => ?_)
  · rw [e_92_0, e3, cal_e]
  · refine ⟨(hI.tr (kpt_lo e4)).tr (kpt_lo fun p hp => h4 p (by omega)), u0, ks, fr, r1, r2, r3, by rw [h4 245 (by decide)]; exact r4, by rw [h4 264 (by decide)]; exact r5, fun i hi => by rw [h4 264 (by decide)]; exact r6 i hi⟩
/-- a bound is taken back -/
def DropG (c : Nat) (G : Nat → Nat → Int32) : Nat → Nat → Int32 := ups (ups G 5 c 0) 1 6 (G 1 6 - 1)
theorem a_back (h : Inv 5 kk I J D) (w : AgeW m n P Q W) (ag : AgeG m n P Q W t (PG I)) {c : Nat} (hc : c < n) (ht : t c = true) : Call kk 93 [.ref 1, .int (nI c)] (.inl (some (.int (PG I 1 6 - 1)))) I J D (Act I (DropG c (PG I))) := by
  obtain ⟨I', k1, h', sc, s1, s2, s3⟩ := with_sc (nI c) 0 0 h
  have ep : PG I' = PG I := ag_sc k1
  have hI : Kpt I I' := kpt_lo fun p hp => k1 p (by omega)
  obtain ⟨c8, bo⟩ := ag_bo w (by rw [← ep] at ag; exact ag)
  have n50 := w.2.1.1
  have b6 := (bo.2 c hc).2.2.2
  rw [ht] at b6
  obtain ⟨I1, e1, f1, hs⟩ := rem_h h'.2.2.1 h'.2.1.th J D
  refine call_a (as := [.ref 0, .int (nI c)]) (o := .inl (some (.int (PG I 1 6 - 1)))) (fun p hp => k1 p (by omega)) rfl (gl_of rfl) (fun z hz => by cases hz) (callY (y_3 0 h' sc) (by show ((93, [.ref 0, .int (I' 1000002 1)]) : Nat × List Value) = _; rw [s1])) (I2 := ups (ups I1 6 c 0) 2 6 (I' 2 6 - 1)) (J2 := J) (D2 := D) ?_ (fun I3 h3 => ⟨?_, fun l hl hh => ?_⟩)
  · have e26 : I' 2 6 = PG I 1 6 := by rw [← ep, pg_at rfl]
    rw [e_93_0, c_nbT bo.1 n50 hc b6, cal_v, kn, e_93_5, e1, cal_v, kn, e_93_9, e_2_0, inb_n (by omega) (by decide), cond_true, nI_clamp (by omega), show vp_nar .boolean 0 = 0 from rfl, uI (by decide), f1 2 (by decide) (by decide), cal_v, kn, e_93_20, uIs, uUs, e26]
  · rw [show PG I3 = PG (ups (ups I1 6 c 0) 2 6 (I' 2 6 - 1)) from pg_lo fun p h1 h2 => h3 p (by omega)]
    show nrm (pgF (ups (ups I1 6 c 0) 2 6 (I' 2 6 - 1)) 1) = _
    rw [g_ups (o := 1) rfl rfl, g_ups (o := 5) rfl (Nat.blt_eq.mpr (by omega)), g_same fun p h1 h2 => f1 p h1 (by omega), show nrm (pgF I' 1) = PG I from ep, show I' 2 6 = PG I 1 6 by rw [← ep, pg_at rfl]]
    rfl
  · rw [← ep]
    exact hs I3 (by rw [h3 0 (by decide), uI (by decide), uI (by decide)]; exact ⟨rfl, rfl⟩) (fun p h1 h2 => by rw [h3 p (by omega), uI (by omega), uI (by omega)]) l hl (hI.2 l hh)
/-- undo brings the page back -/
theorem a_undo (h : Inv 5 kk I J D) {g : Nat → Nat → Int32} {l : List (Nat → Nat → Int32)} (hh : Hs I (g :: l)) : ∃ v, v ≤ 8 ∧ Call kk 136 [.ref 1, dv] (.inl (some (.int (nI v)))) I J D (fun I2 => PG I2 = g ∧ Hs I2 l) := by
  obtain ⟨a, x, e, h1, h2, h3, h4, h5, h6, h7, h8, h9⟩ := h.2.2.1
  obtain ⟨a2, x2, q1, q2, q3, q4, q5, q6⟩ := hh
  have ea : a2 = a := (nI_eq (by omega) (by omega)).mp (q4.symm.trans h6)
  have ex : x2 = x := (nI_eq (by omega) (by omega)).mp (q3.symm.trans h5)
  subst ea; subst ex
  simp only [List.length_cons] at q5
  obtain ⟨I2, I1, e1, w2, w3, w4, c⟩ := x_undo h2 (show 0 < a2 by omega) h1 h5 h6 J D
  have far : ∀ p, p ≠ 0 → 28 ≤ p → I2 p = I p := fun p h0 hp => by rw [c.1 p (Or.inr (by omega)), w4 p h0]
  have z2 : I2 0 = I1 0 := c.1 0 (Or.inl (by decide))
  refine ⟨a2 - 1, by omega, call_a (as := [.ref 0, dv]) (o := .inl (some (.int (nI (a2 - 1))))) (fun _ _ => rfl) rfl (gl_of rfl) (fun z hz => by cases hz) (y_46 h) (I2 := I2) (J2 := J) (D2 := D) e1 (fun I3 h3 => ⟨?_, ?_⟩)⟩
  · rw [show PG I3 = PG I2 from pg_lo fun p h1 h2 => h3 p (by omega), ← q6 0 g rfl]
    refine nrm_e fun o k hr => ?_
    have := rl_lt hr
    have th := (h9 ((x2 + 7) % 8) (by omega) (by omega)).th
    have r := cp_rl c (fun k hk => by rw [w4 _ (by omega)]; exact th k hk) o k hr
    have r : I2 (1 + o) k = I1 (29 + 27 * ((x2 + 7) % 8) + o) k := r
    show I2 (1 + o) k = I (29 + 27 * ((x2 + 7 - 0) % 8) + o) k
    rw [r, w4 _ (by omega)]
    rfl
  · refine ⟨a2 - 1, (x2 + 7) % 8, by omega, by omega, by rw [h3 0 (by decide), z2]; exact w2, by rw [h3 0 (by decide), z2]; exact w3, by omega, fun i g2 hg => ?_⟩
    rw [← q6 (i + 1) g2 hg]
    have hi : i < l.length := (List.getElem?_eq_some_iff.mp hg).1
    refine nrm_e fun o k hr => ?_
    have := rl_lt hr
    show I3 (29 + 27 * (((x2 + 7) % 8 + 7 - i) % 8) + o) k = I (29 + 27 * ((x2 + 7 - (i + 1)) % 8) + o) k
    rw [show ((x2 + 7) % 8 + 7 - i) % 8 = (x2 + 7 - (i + 1)) % 8 by omega, h3 _ (by omega), far _ (by omega) (by omega)]
/-! what a bound that is put in does to the sums -/
theorem cn_iff {a b : Nat} (hab : a ≠ b) {wv : Int} : (∃ u, (1 ≤ u ∧ u < 17) ∧ CnB n P Q W t a b wv u) ↔ ∃ s, LSu n P Q W t a b 16 = some s ∧ s + wv < 0 := by
  constructor
  · rintro ⟨u, hu, s, e, hs⟩
    obtain ⟨v, e2, h2⟩ := LSu_le e (m := 16) (by omega)
    exact ⟨v, e2, by omega⟩
  · rintro ⟨s, e, hs⟩
    obtain ⟨u, hu, e2⟩ := LSu_ch e
    cases u with
    | zero =>
      have : SS n P Q W t a 0 b = none := if_neg (fun e => hab e.symm)
      rw [this] at e2; cases e2
    | succ u => exact ⟨u + 1, ⟨by omega, by omega⟩, s, e2, hs⟩
def up1 {α : Type} (f : Nat → α) (n : Nat) (x : α) : Nat → α := fun k => if k = n then x else f k
theorem up1_s {α : Type} {f : Nat → α} {n : Nat} {x : α} : up1 f n x n = x := if_pos rfl
theorem up1_n {α : Type} {f : Nat → α} {n k : Nat} {x : α} (h : k ≠ n) : up1 f n x k = f k := if_neg h
theorem aw_put (w : AgeW m n P Q W) (n50 : n < 50) {a b : Nat} (ha : a ≤ m) (hb : b ≤ m) (hab : a ≠ b) {wv : Int} (hw : -9999 ≤ wv ∧ wv ≤ 9999) : AgeW m (n + 1) (up1 P n a) (up1 Q n b) (up1 W n wv) := by
  obtain ⟨h16, g, hl⟩ := w
  refine ⟨h16, ⟨n50, fun k hk => ?_⟩, fun k hk => ?_⟩
  · by_cases e : k = n
    · subst e
      rw [up1_s, up1_s, up1_s]
      exact ⟨⟨by omega, by omega, hab⟩, hw⟩
    · rw [up1_n e, up1_n e, up1_n e]
      exact g.2 k (by omega)
  · by_cases e : k = n
    · subst e
      rw [up1_s, up1_s]
      exact ⟨ha, hb⟩
    · rw [up1_n e, up1_n e]
      exact hl k (by omega)
theorem ag_put {G : Nat → Nat → Int32} (ag : AgeG m n P Q W t G) {a b : Nat} {wv : Int} : AgeG m (n + 1) (up1 P n a) (up1 Q n b) (up1 W n wv) (up1 t n true) (PutG n a b wv G) := by
  obtain ⟨h1, h2, h3⟩ := ag
  unfold PutG
  refine ⟨?_, ?_, fun k hk => ?_⟩
  · rw [uI (by decide), uI (by decide), uI (by decide), uI (by decide), uI (by decide), uI (by decide)]; exact h1
  · rw [uIs, uU (by decide), uIs, uUs]
  · rw [uI (by decide), uI (by decide), uI (by decide), uI (by decide), uI (by decide), uIs, uI (by decide), uI (by decide), uI (by decide), uI (by decide), uIs, uI (by decide), uI (by decide), uI (by decide), uI (by decide), uIs, uI (by decide), uI (by decide), uI (by decide), uI (by decide), uIs]
    by_cases e : k = n
    · subst e
      rw [uUs, uUs, uUs, uUs, up1_s, up1_s, up1_s, up1_s]
      exact ⟨rfl, rfl, rfl, rfl⟩
    · rw [uU e, uU e, uU e, uU e, up1_n e, up1_n e, up1_n e, up1_n e]
      exact h3 k (by omega)
theorem up1_t {n : Nat} : up1 (fun _ => true) n true = fun _ : Nat => true := by
  funext k
  unfold up1
  split <;> rfl
theorem ag_drop {G : Nat → Nat → Int32} (ag : AgeG m n P Q W t G) {c : Nat} : AgeG m n P Q W (up1 t c false) (DropG c G) := by
  obtain ⟨h1, h2, h3⟩ := ag
  unfold DropG
  refine ⟨?_, ?_, fun k hk => ?_⟩
  · rw [uI (by decide), uI (by decide)]; exact h1
  · rw [uIs, uU (by decide), uI (by decide)]; exact h2
  · rw [uI (by decide), uI (by decide), uI (by decide), uI (by decide), uI (by decide), uI (by decide), uI (by decide), uIs]
    obtain ⟨q1, q2, q3, q4⟩ := h3 k hk
    refine ⟨q1, q2, q3, ?_⟩
    by_cases e : k = c
    · subst e; rw [uUs, up1_s]; rfl
    · rw [uU e, up1_n e]; exact q4
end AG
