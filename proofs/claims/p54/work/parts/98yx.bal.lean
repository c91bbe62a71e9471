/-! stakes: the calls that the law makes of them, isBalanced -/
section BL
variable {kk n : Nat} {TT : Nat} {QJ : Nat → Nat → Int64} {QD : Nat → Nat → UInt64}
variable {X I : Nat → Nat → Int32} {J : Nat → Nat → Int64} {D : Nat → Nat → UInt64}
variable {Ps : Option Value → (Nat → Nat → Int32) → (Nat → Nat → Int64) → (Nat → Nat → Int32) → (Nat → Nat → Int64) → (Nat → Nat → UInt64) → Prop}
/-- something is read in a year -/
def Rd (I : Nat → Nat → Int32) (y : Nat) : Prop := ∃ j, j < 8 ∧ hasN (I 23) y j = true
def BKeep (I I2 : Nat → Nat → Int32) : Prop := ∀ p, 1 ≤ p → p < 28 → p ≠ 21 → p ≠ 22 → p ≠ 23 → I2 p = I p
theorem a_read (h : Inv 5 kk I J D) {c d : Nat} (hc : c < 8) (hd : d < 10) {z : Int32} (hz : -999 ≤ z ∧ z ≤ 999) :
    Call kk 122 [.ref 1, .int (nI c), .int (nI d), .int z] (.inl (some (.int (nI (rdN (upd (I 23) (10 * c + d) z) d 8))))) I J D (fun I2 => BKeep I I2 ∧ Rd I2 d) := by
  obtain ⟨I', k1, h', sc, s1, s2, s3⟩ := with_sc (nI c) (nI d) z h
  obtain ⟨I1, e1, f1, hs⟩ := rem_h h'.2.2.1 h'.2.1.th J D
  have lo1 : ∀ p, 1 ≤ p → p < 28 → I1 p = I p := fun p h1 h2 => by rw [f1 p (by omega) (by omega), k1 p (by omega)]
  have hx : 0 ≤ nI c ∧ nI c < 8 := ⟨nI_pos' (by omega), (nI_ltI (a := c) (b := 8) (by omega) (by decide)).mpr hc⟩
  have hy : 0 ≤ nI d ∧ nI d < 10 := ⟨nI_pos' (by omega), (nI_ltI (a := d) (b := 10) (by omega) (by decide)).mpr hd⟩
  have q23 : ups I1 23 (10 * c + d) z 23 = upd (I 23) (10 * c + d) z := by rw [uIs, lo1 23 (by decide) (by decide)]
  refine call_a (as := [.ref 0, .int (nI c), .int (nI d), .int z]) (o := .inl (some (.int (nI (rdN (upd (I 23) (10 * c + d) z) d 8))))) (fun p hp => k1 p (by omega)) rfl (gl_of rfl) (fun z hz => by cases hz) (callY (y_32 0 h' sc) (by show ((122, [.ref 0, .int (I' 1000002 1), .int (I' 1000002 2), .int (I' 1000002 3)]) : Nat × List Value) = _; rw [s1, s2, s3])) (I2 := ups I1 23 (10 * c + d) z) (J2 := J) (D2 := D) ?_ (fun I3 h3 => ⟨fun p h1 h2 h4 h5 h6 => ?_, c, hc, ?_⟩)
  · rw [e_122_0, x_ni hx, cal_v, kn, e_122_6, x_ni hy, cal_v, kn, e_122_12, x_nr hz, cal_v, kn, e_122_22, e1, cal_v, kn, e_122_26, c_wr hc hd, cal_v, kn, e_122_39, c_rds hd, cal_v, ka, e_122_50, q23]
  · rw [h3 p (by omega), uI h6, lo1 p h1 h2]
  · unfold hasN
    rw [h3 23 (by decide), q23, uUs]
    exact decide_eq_true (ne1000 (rgl hz))
theorem a_zone (h : Inv 5 kk I J D) {c : Nat} (hc : c < 8) {y z : Int32} (hy : 1 ≤ y ∧ y ≤ 99) (hz : 0 ≤ z ∧ z ≤ 3) :
    Call kk 121 [.ref 1, .int (nI c), .int y, .int z, dv] (.inl (some (.int (I 21 c)))) I J D (fun I2 => BKeep I I2 ∧ I2 23 = I 23) := by
  obtain ⟨I', k1, h', sc, s1, s2, s3⟩ := with_sc (nI c) y z h
  obtain ⟨I1, e1, f1, hs⟩ := rem_h h'.2.2.1 h'.2.1.th J D
  have lo1 : ∀ p, 1 ≤ p → p < 28 → I1 p = I p := fun p h1 h2 => by rw [f1 p (by omega) (by omega), k1 p (by omega)]
  have hx : 0 ≤ nI c ∧ nI c < 8 := ⟨nI_pos' (by omega), (nI_ltI (a := c) (b := 8) (by omega) (by decide)).mpr hc⟩
  refine call_a (as := [.ref 0, .int (nI c), .int y, .int z, dv]) (o := .inl (some (.int (I 21 c)))) (fun p hp => k1 p (by omega)) rfl (gl_of rfl) (fun z hz => by cases hz) (callY (y_31 0 h' sc) (by show ((121, [.ref 0, .int (I' 1000002 1), .int (I' 1000002 2), .int (I' 1000002 3), dv]) : Nat × List Value) = _; rw [s1, s2, s3])) (I2 := ups (ups I1 21 c y) 22 c z) (J2 := J) (D2 := D) ?_ (fun I3 h3 => ⟨fun p h1 h2 h4 h5 h6 => ?_, ?_⟩)
  · rw [e_121_0, x_ni hx, cal_v, kn, e_121_6, x_nr hy, cal_v, kn, e_121_13, x_nr hz, cal_v, kn, e_121_19, e1, cal_v, kn, e_121_23, inb_n hc (by decide), cond_true, cond_true, cond_true, nI_clamp (by omega), lo1 21 (by decide) (by decide)]
  · rw [h3 p (by omega), uI h5, uI h4, lo1 p h1 h2]
  · rw [h3 23 (by decide), uI (by decide), uI (by decide), lo1 23 (by decide) (by decide)]
theorem q_lay {a : Nat} {as : List Value} {v : Option Value} (h : Inv 5 kk I J D) (hb : bk a = true) (hl : gl as) (e : ex (a, 0, as, [], mm I J D) = some (.inl v, mm I J D)) : Call kk a (as.map tv) (tR (.inl v)) I J D (Lay2 I) :=
  ⟨I, J, D, ans_of hb hl (fun z hz => by cases hz) e, inv_st h Same.rfl', Same.rfl', fun _ _ => rfl⟩
theorem q_val (h : Inv 5 kk I J D) {c d : Nat} (hc : c < 8) (hd : d < 10) (ne : Rd I d) : Call kk 124 [.ref 1, .int (nI c), .int (nI d)] (.inl (some (.int (valN (I 23) d c)))) I J D (Lay2 I) := by
  have hx : 0 ≤ nI c ∧ nI c < 8 := ⟨nI_pos' (by omega), (nI_ltI (a := c) (b := 8) (by omega) (by decide)).mpr hc⟩
  refine q_lay (as := [.ref 0, .int (nI c), .int (nI d)]) (v := some (.int (valN (I 23) d c))) h rfl (gl_of rfl) ?_
  rw [e_124_0, x_ni hx, cal_v, kn, e_124_6, c_readT hd ne, cal_v, kn, e_124_11, c_val hc hd, cal_v, ka, e_124_23]
theorem q_bal (h : Inv 5 kk I J D) {d : Nat} (hd : d < 10) (ne : Rd I d) : Call kk 126 [.ref 1, .int (nI d)] (.inl (some (.int (balN (I 21) (I 23) d (fun _ => true) 8)))) I J D (Lay2 I) := by
  refine q_lay (as := [.ref 0, .int (nI d)]) (v := some (.int (balN (I 21) (I 23) d (fun _ => true) 8))) h rfl (gl_of rfl) ?_
  have := c_bal (I := I) (J := J) (D := D) hd 8 0 rfl
  rw [e_126_0, c_readT hd ne, cal_v, kn, e_126_5, e_71_0, (show ex (71, 4, [.ref 20, .int (nI d), .int 0, .int 0], [], mm I J D) = _ from this), cal_v, ka, e_126_16]
theorem q_balp (h : Inv 5 kk I J D) {c d : Nat} (hc : c < 4) (hd : d < 10) (ne : Rd I d) : Call kk 127 [.ref 1, .int (nI c), .int (nI d)] (.inl (some (.int (balN (I 21) (I 23) d (fun n => decide (I 22 n = nI c)) 8)))) I J D (Lay2 I) := by
  have hx : 0 ≤ nI c ∧ nI c < 4 := ⟨nI_pos' (by omega), (nI_ltI (a := c) (b := 4) (by omega) (by decide)).mpr hc⟩
  refine q_lay (as := [.ref 0, .int (nI c), .int (nI d)]) (v := some (.int (balN (I 21) (I 23) d (fun n => decide (I 22 n = nI c)) 8))) h rfl (gl_of rfl) ?_
  have := c_balP (I := I) (J := J) (D := D) (pt := nI c) hd 8 0 rfl
  rw [e_127_0, x_ni hx, cal_v, kn, e_127_5, c_readT hd ne, cal_v, kn, e_127_10, e_72_0, (show ex (72, 5, [.ref 20, .int (nI c), .int (nI d), .int 0, .int 0], [], mm I J D) = _ from this), cal_v, ka, e_127_22]
theorem q_line (h : Inv 5 kk I J D) {d : Nat} (hd : d < 10) (ne : Rd I d) : Call kk 128 [.ref 1, .int (nI d)] (.inl (some (.int (lin (lowN (fun z => decide (valN (I 23) d z < 0)) 8))))) I J D (Lay2 I) := by
  refine q_lay (as := [.ref 0, .int (nI d)]) (v := some (.int (lin (lowN (fun z => decide (valN (I 23) d z < 0)) 8)))) h rfl (gl_of rfl) ?_
  have := c_lin (I := I) (J := J) (D := D) hd 8 (by decide)
  rw [e_128_0, c_readT hd ne, cal_v, kn, e_128_5, e_73_0, (show ex (73, 3, [.ref 20, .int (nI d), .int 7], [], mm I J D) = _ from this), cal_v, ka, e_128_16]
theorem r400 : ∀ a, a < 400 → -999 ≤ nI a - 200 ∧ nI a - 200 ≤ 999 := by decide +kernel
/-- behind isBalanced -/
def BlP (T : Nat) (X0 I0 : Nat → Nat → Int32) (v : Option Value) (X2 : Nat → Nat → Int32) (I2 : Nat → Nat → Int32) (J2 : Nat → Nat → Int64) (D2 : Nat → Nat → UInt64) : Prop :=
  (v = some (.int 1) ∧ BKeep I0 I2 ∧ ∀ p, p ≠ iCRD → p ≠ 328 → X2 p = X0 p) ∧ ∃ c2, St T c2 X2 I2 J2 D2
abbrev WB (TT : Nat) (QD : Nat → Nat → UInt64) (X0 I0 : Nat → Nat → Int32) (x : Option Ou) : Prop := WO 348 SC RC QD (fun v X2 _ I2 J2 D2 => BlP TT X0 I0 v X2 I2 J2 D2) x
def XK (X0 X : Nat → Nat → Int32) : Prop := ∀ p, p ≠ iCRD → p ≠ 328 → X p = X0 p
variable {X0 I0 G : Nat → Nat → Int32} {y : Nat}
theorem lw_bend (hy : y < 10) (rd : Rd G y) (bk0 : BKeep I0 G) {l : Option Nat} (hl : lowN (fun z => decide (valN (G 23) y z < 0)) 8 = l) (h9 : lin l ≤ 8 ∧ (∀ j, l = some j → j < 8)) {c : Nat} (hc : 2 ≤ c) (s : St TT c X I J D) (kx : XK X0 X) (f : ∀ p, p < 273 → I p = G p) :
    WB TT QD X0 I0 (ex (352, 196, [.ref 0, .int (nI y), .int (balN (G 21) (G 23) y (fun _ => true) 8), .int (lin l), dv], [], 348, SC, RC, ovr I X, ovr J QJ, ovr D QD)) := by
  obtain ⟨c, rfl⟩ : ∃ c', c = c' + 2 := ⟨c - 2, by omega⟩
  have rdi : ∀ A : Nat → Nat → Int32, (∀ p, p < 273 → A p = G p) → Rd A y := fun A hA => by unfold Rd; rw [hA 23 (by decide)]; exact rd
  have done : ∀ (X I : Nat → Nat → Int32) (J : Nat → Nat → Int64) (D : Nat → Nat → UInt64) c, St TT c X I J D → XK X0 X → (∀ p, p < 273 → I p = G p) → WB TT QD X0 I0 (ex (352, 226, [dv, dv, dv, dv, dv], [], 348, SC, RC, ovr I X, ovr J QJ, ovr D QD)) := fun X I J D c s kx f => by
    rw [eC_352_226, eC_352_231, decide_eq_true (show (1 : Int32) = 0 ∨ (1 : Int32) = 1 from Or.inr rfl), cond_true]
    exact wo_ret ⟨⟨rfl, fun p h1 h2 h3 h4 h5 => by rw [f p (by omega)]; exact bk0 p h1 h2 h3 h4 h5, kx⟩, c, s⟩
  rw [eC_352_196]
  refine goK bas_C (by decide) rfl s (fun kk _ hi => q_bal hi hy (rdi I f)) (fun X1 I1 J1 D1 hx1 s1 hl1 => ?_)
  have f1 : ∀ p, p < 273 → I1 p = G p := fun p hp => (hl1.2 p hp).trans (f p hp)
  have kx1 : XK X0 X1 := fun p h1 h2 => (hx1 p h1).trans (kx p h1 h2)
  rw [ka, eC_352_205, f 21 (by decide), f 23 (by decide), decide_eq_false (fun h => h rfl), cond_false, eC_352_208]
  cases l with
  | none =>
    rw [show lin none = 0 from rfl, decide_eq_true rfl, cond_true]
    exact done X1 I1 J1 D1 _ s1 kx1 f1
  | some j =>
    have hj := h9.2 j rfl
    have ej : lin (some j) = nI (j + 1) := rfl
    rw [ej, decide_eq_false (show ¬ nI (j + 1) = 0 from fun e => by have := (nI_eq (b := 0) (by omega) (by omega)).mp e; omega), cond_false, eC_352_212, show nI (j + 1) - 1 = nI j from (nI_sub (a := j + 1) (b := 1) (by omega))]
    refine goK bas_C (by decide) rfl s1 (fun kk _ hi => q_val hi hj hy (rdi I1 f1)) (fun X2 I2 J2 D2 hx2 s2 hl2 => ?_)
    have hv : valN (G 23) y j < 0 := of_decide_eq_true (lowN_s hl).2
    rw [ka, eC_352_223, f1 23 (by decide), decide_eq_false (show ¬ 0 ≤ valN (G 23) y j from Int32.not_le.mpr hv), cond_false]
    exact done X2 I2 J2 D2 c s2 (fun p h1 h2 => (hx2 p h1).trans (kx1 p h1 h2)) (fun p hp => (hl2.2 p hp).trans (f1 p hp))
theorem lw_bval (hy : y < 10) (rd : Rd G y) (bk0 : BKeep I0 G) {l : Option Nat} (hl : lowN (fun z => decide (valN (G 23) y z < 0)) 8 = l) (h9 : lin l ≤ 8 ∧ (∀ j, l = some j → j < 8)) : ∀ q i, i + q = 8 → (∀ j, l = some j → j < i) → ∀ (X I : Nat → Nat → Int32) (J : Nat → Nat → Int64) (D : Nat → Nat → UInt64) c, q + 2 ≤ c → St TT c X I J D → XK X0 X → (∀ p, p < 273 → I p = G p) →
    WB TT QD X0 I0 (ex (352, 168, [.ref 0, .int (nI y), .int (balN (G 21) (G 23) y (fun _ => true) 8), .int (lin l), .int (nI i)], [], 348, SC, RC, ovr I X, ovr J QJ, ovr D QD)) := by
  intro q
  induction q with
  | zero =>
    intro i hi hil X I J D c hc s kx f
    have hi : i = 8 := by omega
    subst hi
    rw [eC_352_168, decide_eq_true (show (8 : Int32) ≤ nI 8 by decide), cond_true]
    exact lw_bend hy rd bk0 hl h9 (by omega) s kx f
  | succ q ih =>
    intro i hi hil X I J D c hc s kx f
    obtain ⟨c, rfl⟩ : ∃ c', c = c' + 1 := ⟨c - 1, by omega⟩
    have rdi : Rd I y := by unfold Rd; rw [f 23 (by decide)]; exact rd
    have hv : ¬ valN (G 23) y i < 0 := fun h => by
      cases l with
      | none => exact absurd (lowN_n hl i (by omega)) (by rw [decide_eq_true h]; decide)
      | some j => exact absurd (lowN_g hl i (hil j rfl) (by omega)) (by rw [decide_eq_true h]; decide)
    rw [eC_352_168, decide_eq_false (show ¬ (8 : Int32) ≤ nI i from nI_ge (b := 8) (by omega) (by decide)), cond_false, eC_352_175]
    refine goK bas_C (by decide) rfl s (fun kk _ hi9 => q_val hi9 (show i < 8 by omega) hy rdi) (fun X1 I1 J1 D1 hx1 s1 hl1 => ?_)
    rw [ka, eC_352_185, f 23 (by decide), decide_eq_true (Int32.not_lt.mp hv), cond_true, eC_352_190, nI_1]
    exact ih (i + 1) (by omega) (fun j hj => by have := hil j hj; omega) X1 I1 J1 D1 c (by omega) s1 (fun p h1 h2 => (hx1 p h1).trans (kx p h1 h2)) (fun p hp => (hl1.2 p hp).trans (f p hp))
theorem lw_bsum (hy : y < 10) (rd : Rd G y) (bk0 : BKeep I0 G) (hg : ∀ z, z < 8 → rg 0 3 (G 22 z)) {c : Nat} (hc : 15 ≤ c) (s : St TT c X I J D) (kx : XK X0 X) (f : ∀ p, p < 273 → I p = G p) :
    WB TT QD X0 I0 (ex (352, 156, [.ref 0, .int (nI y), .int (balN (G 21) (G 23) y (fun _ => true) 8), dv, dv], [], 348, SC, RC, ovr I X, ovr J QJ, ovr D QD)) := by
  obtain ⟨c, rfl⟩ : ∃ c', c = c' + 1 := ⟨c - 1, by omega⟩
  have rdi : Rd I y := by unfold Rd; rw [f 23 (by decide)]; exact rd
  rw [eC_352_156]
  refine goK bas_C (by decide) rfl s (fun kk _ hi9 => q_line hi9 hy rdi) (fun X1 I1 J1 D1 hx1 s1 hl1 => ?_)
  rw [ka, eC_352_164, f 23 (by decide)]
  obtain ⟨l, hl⟩ : ∃ l, lowN (fun z => decide (valN (G 23) y z < 0)) 8 = l := ⟨_, rfl⟩
  rw [hl]
  have kx1 : XK X0 X1 := fun p h1 h2 => (hx1 p h1).trans (kx p h1 h2)
  have f1 : ∀ p, p < 273 → I1 p = G p := fun p hp => (hl1.2 p hp).trans (f p hp)
  cases l with
  | none => exact lw_bval hy rd bk0 hl ⟨by decide, fun j hj => by cases hj⟩ 8 0 (by omega) (fun j hj => by cases hj) X1 I1 J1 D1 c (by omega) s1 kx1 f1
  | some j =>
    have hj := (lowN_s hl).1
    have ej : lin (some j) = nI (j + 1) := rfl
    have := lw_bval (QD := QD) (QJ := QJ) hy rd bk0 hl ⟨by rw [ej]; exact (nI_leI (b := 8) (by omega) (by decide)).mpr (by omega), fun k hk => by have := Option.some.inj hk; omega⟩ (8 - (j + 1)) (j + 1) (by omega) (fun k hk => by have := Option.some.inj hk; omega) X1 I1 J1 D1 c (by omega) s1 kx1 f1
    exact this
theorem lw_bpart (hy : y < 10) (rd : Rd I y) (bk0 : BKeep I0 I) (hg : ∀ z, z < 8 → rg 0 3 (I 22 z)) {c : Nat} (hc : 20 ≤ c) (s : St TT c X I J D) (kx : XK X0 X) :
    WB TT QD X0 I0 (ex (352, 129, [.ref 0, .int (nI y), dv, dv, dv], [], 348, SC, RC, ovr I X, ovr J QJ, ovr D QD)) := by
  have st : ∀ k, k < 4 → ∀ (t : Int32) (X1 I1 : Nat → Nat → Int32) (J1 : Nat → Nat → Int64) (D1 : Nat → Nat → UInt64) c, St TT (c + 1) X1 I1 J1 D1 → XK X0 X1 → (∀ p, p < 273 → I1 p = I p) →
      (∀ (X2 I2 : Nat → Nat → Int32) (J2 : Nat → Nat → Int64) (D2 : Nat → Nat → UInt64), St TT c X2 I2 J2 D2 → XK X0 X2 → (∀ p, p < 273 → I2 p = I p) → WB TT QD X0 I0 (ex (352, 133, [.ref 0, .int (nI y), .int (t + balN (I 21) (I 23) y (fun n => decide (I 22 n = nI k)) 8), .int (nI (k + 1)), dv], [], 348, SC, RC, ovr I2 X2, ovr J2 QJ, ovr D2 QD))) →
      WB TT QD X0 I0 (ex (352, 133, [.ref 0, .int (nI y), .int t, .int (nI k), dv], [], 348, SC, RC, ovr I1 X1, ovr J1 QJ, ovr D1 QD)) := fun k hk t X1 I1 J1 D1 c s1 kx1 f1 K => by
    have rdi : Rd I1 y := by unfold Rd; rw [f1 23 (by decide)]; exact rd
    rw [eC_352_133, decide_eq_false (show ¬ (4 : Int32) ≤ nI k from nI_ge (b := 4) hk (by decide)), cond_false, eC_352_138]
    refine goK bas_C (by decide) rfl s1 (fun kk _ hi9 => q_balp hi9 hk hy rdi) (fun X2 I2 J2 D2 hx2 s2 hl2 => ?_)
    rw [ka, eC_352_148, nI_1, f1 21 (by decide), f1 22 (by decide), f1 23 (by decide)]
    exact K X2 I2 J2 D2 s2 (fun p h1 h2 => (hx2 p h1).trans (kx1 p h1 h2)) (fun p hp => (hl2.2 p hp).trans (f1 p hp))
  obtain ⟨c, rfl⟩ : ∃ c', c = c' + 1 + 1 + 1 + 1 := ⟨c - 4, by omega⟩
  rw [eC_352_129]
  refine st 0 (by decide) 0 X I J D _ s kx (fun _ _ => rfl) (fun X1 I1 J1 D1 s1 kx1 f1 => ?_)
  refine st 1 (by decide) _ X1 I1 J1 D1 _ s1 kx1 f1 (fun X2 I2 J2 D2 s2 kx2 f2 => ?_)
  refine st 2 (by decide) _ X2 I2 J2 D2 _ s2 kx2 f2 (fun X3 I3 J3 D3 s3 kx3 f3 => ?_)
  refine st 3 (by decide) _ X3 I3 J3 D3 _ s3 kx3 f3 (fun X4 I4 J4 D4 s4 kx4 f4 => ?_)
  rw [bal_parts hg 8 (Nat.le_refl _), eC_352_133, decide_eq_true (show (4 : Int32) ≤ nI (3 + 1) by decide), cond_true]
  exact lw_bsum hy rd bk0 hg (by omega) s4 kx4 f4
theorem lw_bzone (hy : y < 10) : ∀ q, q ≤ 5 → ∀ (X I : Nat → Nat → Int32) (J : Nat → Nat → Int64) (D : Nat → Nat → UInt64) c, q + 20 ≤ c → St TT c X I J D → XK X0 X → BKeep I0 I → Rd I y →
    WB TT QD X0 I0 (ex (352, 78, [.ref 0, .int (nI y), .int (nI q), dv, dv], [], 348, SC, RC, ovr I X, ovr J QJ, ovr D QD)) := by
  intro q
  induction q with
  | zero =>
    intro hq X I J D c hc s kx bk0 rd
    rw [eC_352_78, decide_eq_true (show nI 0 ≤ 0 by decide), cond_true]
    obtain ⟨-, -, kk, -, hi⟩ := id s
    exact lw_bpart hy rd bk0 (fun z hz => ((inv_sta hi.2.1).1 z hz).2.2) (by omega) s kx
  | succ q ih =>
    intro hq X I J D c hc s kx bk0 rd
    obtain ⟨c, rfl⟩ : ∃ c', c = c' + 1 := ⟨c - 1, by omega⟩
    rw [eC_352_78, decide_eq_false (show ¬ nI (q + 1) ≤ 0 from nI_nle (by omega) (by omega)), cond_false, eC_352_82]
    refine goN nl_C (by decide) (show (8 : Int32) = nI 8 from rfl) ⟨by omega, by omega⟩ s (fun X1 z hz hx1 s1 => ?_)
    rw [eC_352_95]
    refine goN nl_C (by decide) (show (99 : Int32) = nI 99 from rfl) ⟨by omega, by omega⟩ s1 (fun X2 a ha hx2 s2 => ?_)
    rw [eC_352_105, show (1 : Int32) + nI a = nI (1 + a) from nI_add 1 a]
    refine goN nl_C (by decide) (show (4 : Int32) = nI 4 from rfl) ⟨by omega, by omega⟩ s2 (fun X3 b hb hx3 s3 => ?_)
    rw [eC_352_114]
    obtain ⟨-, -, kk0, -, hi0⟩ := id s3
    have h21 := ((inv_sta hi0.2.1).1 z hz).1.2
    refine goK bas_C (by decide) rfl s3 (fun kk _ hi9 => a_zone hi9 hz (y := nI (1 + a)) (z := nI b) ⟨(nI_leI (a := 1) (by decide) (by omega)).mpr (by omega), (nI_leI (b := 99) (by omega) (by decide)).mpr (by omega)⟩ ⟨nI_pos' (by omega), (nI_leI (b := 3) (by omega) (by decide)).mpr (by omega)⟩) (fun X4 I4 J4 D4 hx4 s4 hp => ?_)
    obtain ⟨p1, p2⟩ := hp
    rw [ka, eC_352_117, decide_eq_true (show (1 : Int32) ≤ I 21 z from Int32.le_iff_toInt_le.mpr h21.1), cond_true, eC_352_123, show nI (q + 1) + (-1) = nI q from nI_dec q]
    exact ih (by omega) X4 I4 J4 D4 c (by omega) s4 (fun p h1 h2 => by rw [hx4 p h1, hx3 p h2, hx2 p h2, hx1 p h2]; exact kx p h1 h2) (fun p h1 h2 h3 h4 h5 => (p1 p h1 h2 h3 h4 h5).trans (bk0 p h1 h2 h3 h4 h5)) (by unfold Rd; rw [p2]; exact rd)
theorem lw_bread (hy : y < 10) : ∀ q, q ≤ 5 → ∀ (X I : Nat → Nat → Int32) (J : Nat → Nat → Int64) (D : Nat → Nat → UInt64) c, q + 25 ≤ c → St TT c X I J D → XK X0 X → BKeep I0 I → (q = 0 → Rd I y) →
    WB TT QD X0 I0 (ex (352, 21, [.ref 0, .int (nI y), .int (nI q), dv, dv], [], 348, SC, RC, ovr I X, ovr J QJ, ovr D QD)) := by
  intro q
  induction q with
  | zero =>
    intro hq X I J D c hc s kx bk0 rd
    rw [eC_352_21, decide_eq_true (show nI 0 ≤ 0 by decide), cond_true, eC_352_68]
    refine goN nl_C (by decide) (show (6 : Int32) = nI 6 from rfl) ⟨by omega, by omega⟩ s (fun X1 z hz hx1 s1 => ?_)
    rw [eC_352_77]
    exact lw_bzone hy z (by omega) X1 I J D c (by omega) s1 (fun p h1 h2 => (hx1 p h2).trans (kx p h1 h2)) bk0 (rd rfl)
  | succ q ih =>
    intro hq X I J D c hc s kx bk0 rd
    obtain ⟨c, rfl⟩ : ∃ c', c = c' + 1 := ⟨c - 1, by omega⟩
    rw [eC_352_21, decide_eq_false (show ¬ nI (q + 1) ≤ 0 from nI_nle (by omega) (by omega)), cond_false, eC_352_25]
    refine goN nl_C (by decide) (show (8 : Int32) = nI 8 from rfl) ⟨by omega, by omega⟩ s (fun X1 z hz hx1 s1 => ?_)
    rw [eC_352_38]
    refine goN nl_C (by decide) (show (400 : Int32) = nI 400 from rfl) ⟨by omega, by omega⟩ s1 (fun X2 a ha hx2 s2 => ?_)
    rw [eC_352_49]
    refine goK bas_C (by decide) rfl s2 (fun kk _ hi9 => a_read hi9 hz hy (r400 a ha)) (fun X3 I3 J3 D3 hx3 s3 hp => ?_)
    obtain ⟨p1, p2⟩ := hp
    have hpos : 0 < rdN (upd (I 23) (10 * z + y) (nI a - 200)) y 8 := cnt_pos ⟨z, hz, by
      show decide (upd (I 23) (10 * z + y) (nI a - 200) (10 * z + y) ≠ 1000) = true
      rw [uUs]
      exact decide_eq_true (ne1000 (rgl (r400 a ha)))⟩
    have hle : rdN (upd (I 23) (10 * z + y) (nI a - 200)) y 8 ≤ 8 := cnt_le _ 8
    rw [ka, eC_352_56, decide_eq_true (show (1 : Int32) ≤ nI (rdN (upd (I 23) (10 * z + y) (nI a - 200)) y 8) from (nI_leI (a := 1) (by decide) (by omega)).mpr (by omega)), cond_true, eC_352_62, show nI (q + 1) + (-1) = nI q from nI_dec q]
    exact ih (by omega) X3 I3 J3 D3 c (by omega) s3 (fun p h1 h2 => by rw [hx3 p h1, hx2 p h2, hx1 p h2]; exact kx p h1 h2) (fun p h1 h2 h3 h4 h5 => (p1 p h1 h2 h3 h4 h5).trans (bk0 p h1 h2 h3 h4 h5)) (fun _ => p2)
theorem lw_balanced {c : Nat} (hc : 30 ≤ c) (s : St TT c X I J D) : WB TT QD X I (ex (352, 0, [.ref 0, dv, dv, dv, dv], [], 348, SC, RC, ovr I X, ovr J QJ, ovr D QD)) := by
  rw [eC_352_0]
  refine goN nl_C (by decide) (show (10 : Int32) = nI 10 from rfl) ⟨by omega, by omega⟩ s (fun X1 y hy hx1 s1 => ?_)
  rw [eC_352_9]
  refine goN nl_C (by decide) (show (5 : Int32) = nI 5 from rfl) ⟨by omega, by omega⟩ s1 (fun X2 q hq hx2 s2 => ?_)
  rw [eC_352_19, show (1 : Int32) + nI q = nI (1 + q) from nI_add 1 q]
  exact lw_bread hy (1 + q) (by omega) X2 I J D c (by omega) s2 (fun p h1 h2 => (hx2 p h2).trans (hx1 p h2)) (fun _ _ _ _ _ _ => rfl) (fun h => by omega)
end BL
