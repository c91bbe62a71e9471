/-! bands: the calls that the law makes of them -/
section BD
variable {kk n0 n1 : Nat} {G : Nat → Nat → Int32}
variable {I : Nat → Nat → Int32} {J : Nat → Nat → Int64} {D : Nat → Nat → UInt64}
/-- a page, place by place -/
def Lo (I2 I : Nat → Nat → Int32) : Prop := ∀ p, 1 ≤ p → p < 28 → I2 p = I p
def AddI (r n : Nat) (t m : Int32) (I : Nat → Nat → Int32) : Nat → Nat → Int32 := ups (ups (ups (ups (ups I (11 + 5 * r) n t) (12 + 5 * r) n m) (13 + 5 * r) n (-1)) (14 + 5 * r) n (-1)) (10 + 5 * r) 4 (nI (n + 1))
theorem th_of (h : Inv 5 kk I J D) : ∀ k, k < 50 → I 6 k = 0 ∨ I 6 k = 1 := h.2.1.th
theorem a_band (h : Inv 5 kk I J D) {r n : Nat} (hr : r < 2) (hn : I (10 + 5 * r) 4 = nI n) (h16 : n < 16) {y z : Int32} (hy : 1 ≤ y ∧ y ≤ 9) (hz : 0 ≤ z ∧ z ≤ 3) :
    Call kk 109 [.ref 1, .int (nI r), .int y, .int z] (.inl (some (.int (nI n)))) I J D (fun I2 => Lo I2 (AddI r n y z I) ∧ ∀ l, l.length ≤ 7 → Hs I l → Hs I2 (PG I :: l)) := by
  obtain ⟨I', k1, h', sc, s1, s2, s3⟩ := with_sc (nI r) y z h
  have ep : PG I' = PG I := ag_sc k1
  have hI : Kpt I I' := kpt_lo fun p hp => k1 p (by omega)
  obtain ⟨I1, e1, f1, hs⟩ := rem_h h'.2.2.1 h'.2.1.th J D
  have hx : 0 ≤ nI r ∧ nI r < 2 := ⟨nI_pos' (by omega), (nI_ltI (a := r) (b := 2) (by omega) (by decide)).mpr hr⟩
  have lo1 : ∀ p, 1 ≤ p → p < 28 → I1 p = I p := fun p h1 h2 => by rw [f1 p (by omega) (by omega), k1 p (by omega)]
  have cn : I' (10 + 5 * r) 4 = nI n := by rw [k1 _ (by omega)]; exact hn
  have cn1 : I1 (10 + 5 * r) 4 = nI n := by rw [lo1 _ (by omega) (by omega)]; exact hn
  have hd : decide (I' (10 + 5 * r) 4 < 16) = true := decide_eq_true (by rw [cn]; exact (nI_ltI (a := n) (b := 16) (by omega) (by decide)).mpr h16)
  refine call_a (as := [.ref 0, .int (nI r), .int y, .int z]) (o := .inl (some (.int (nI n)))) (fun p hp => k1 p (by omega)) rfl (gl_of rfl) (fun z hz => by cases hz) (callY (y_19 0 h' sc) (by show ((109, [.ref 0, .int (I' 1000002 1), .int (I' 1000002 2), .int (I' 1000002 3)]) : Nat × List Value) = _; rw [s1, s2, s3])) (I2 := AddI r n y z I1) (J2 := J) (D2 := D) ?_ (fun I3 h3 => ⟨fun p h1 h2 => ?_, fun l hl hh => ?_⟩)
  · rcases (show r = 0 ∨ r = 1 by omega) with rfl | rfl
    · rw [e_109_0, x_row hx, cal_v, kn, e_109_5, x_nr hy, cal_v, kn, e_109_12, x_nr hz, cal_v, kn, e_109_18, x_rw0, cal_v, krw _, e_109_26_10, show decide (I' 10 4 < 16) = true from hd, cond_true, e_109_44, e1, cal_v, kn, e_109_48, x_rw0, cal_v, krw _, e_109_56_10, c_bnd0 cn1 h16, cal_v, ka, e_109_61]
      rfl
    · rw [e_109_0, x_row hx, cal_v, kn, e_109_5, x_nr hy, cal_v, kn, e_109_12, x_nr hz, cal_v, kn, e_109_18, x_rw1, cal_v, krw _, e_109_26_15, show decide (I' 15 4 < 16) = true from hd, cond_true, e_109_44, e1, cal_v, kn, e_109_48, x_rw1, cal_v, krw _, e_109_56_15, c_bnd1 cn1 h16, cal_v, ka, e_109_61]
      rfl
  · rw [h3 p (by omega)]
    unfold AddI
    have go : ∀ (A B : Nat → Nat → Int32) (q k : Nat) (v : Int32), A p = B p → ups A q k v p = ups B q k v p := fun A B q k v e => by
      by_cases hq : p = q
      · subst hq; rw [uIs, uIs, e]
      · rw [uI hq, uI hq, e]
    exact go _ _ _ _ _ (go _ _ _ _ _ (go _ _ _ _ _ (go _ _ _ _ _ (go _ _ _ _ _ (lo1 p h1 h2)))))
  · have far : ∀ p, 29 ≤ p ∨ p = 0 → AddI r n y z I1 p = I1 p := fun p hp => by
      unfold AddI
      rw [uI (by omega), uI (by omega), uI (by omega), uI (by omega), uI (by omega)]
    rw [← ep]
    exact hs I3 (by rw [h3 0 (by decide), far 0 (by omega)]; exact ⟨rfl, rfl⟩) (fun p h1 h2 => by rw [h3 p (by omega), far p (by omega)]) l hl (hI.2 l hh)
def Lay2 (I I2 : Nat → Nat → Int32) : Prop := Same I I2 ∧ ∀ p, p < 273 → I2 p = I p
/-- a tie, or none -/
theorem a_tie (h : Inv 5 kk I J D) (hn : I 10 4 = nI n0) (hm : I 15 4 = nI n1) (h0 : n0 ≤ 16) (h1 : n1 ≤ 16) {f s : Nat} (hf : f < n0) (hs : s < n1) :
    (Call kk 111 [.ref 1, .int (nI f), .int (nI s)] (.inr (.inl 0)) I J D (Lay2 I)) ∨ (∃ c, c ≤ 16 ∧ Call kk 111 [.ref 1, .int (nI f), .int (nI s)] (.inl (some (.int (nI c)))) I J D (fun I2 => Lo I2 (ups (ups I 13 f (nI s)) 18 s (nI f)))) := by
  obtain ⟨I', k1, h', sc, s1, s2, s3⟩ := with_sc (nI f) (nI s) 0 h
  have cn : I' 10 4 = nI n0 := by rw [k1 10 (by decide)]; exact hn
  have cm : I' 15 4 = nI n1 := by rw [k1 15 (by decide)]; exact hm
  have cb0 : ∀ A : Nat → Nat → Int32, A 10 4 = nI n0 → ex (150, 0, [.ref 0, .int 0, .int (nI f)], [], mm A J D) = some (.inl none, mm A J D) := fun A hA => c_bandT0 (by rw [hA]; exact ⟨nI_pos' (by omega), (nI_ltI (by omega) (by omega)).mpr hf⟩)
  have cb1 : ∀ A : Nat → Nat → Int32, A 15 4 = nI n1 → ex (150, 0, [.ref 0, .int 1, .int (nI s)], [], mm A J D) = some (.inl none, mm A J D) := fun A hA => c_bandT1 (by rw [hA]; exact ⟨nI_pos' (by omega), (nI_ltI (by omega) (by omega)).mpr hs⟩)
  by_cases t1 : I 13 f = -1
  · by_cases t2 : I 18 s = -1
    · have cc : ∀ A : Nat → Nat → Int32, A 10 4 = nI n0 → ex (46, 0, [.ref 1, .int (nI f), .int (nI s), dv, dv], [], mm A J D) = some (.inl (some (.int (bI (crA (A 13) f s n0 0)))), mm A J D) := fun A hA => by
        rw [e_46_0]
        exact c_cross (J := J) (D := D) hA h0 (show f < 16 by omega) (show s < 16 by omega) n0 0 (by omega)
      cases hc : crA (I 13) f s n0 0 with
      | true =>
        refine Or.inl ⟨I, J, D, ans_of (as := [.ref 0, .int (nI f), .int (nI s)]) (o := .inr (.inl 0)) rfl (gl_of rfl) (fun z hz => by cases hz) ?_, inv_st h Same.rfl', Same.rfl', fun _ _ => rfl⟩
        have e46 := cc I hn
        rw [hc, show bI true = 1 from rfl] at e46
        rw [e_111_0, cb0 I hn, cal_v, kn, e_111_6, cb1 I hm, cal_v, kn, e_111_12, inb_n (show f < 16 by omega) (by decide), cond_true, decide_eq_false (by rw [nI_clamp (by omega)]; exact fun q => q t1), cond_false, e_111_28, inb_n (show s < 16 by omega) (by decide), cond_true, decide_eq_true (by rw [nI_clamp (by omega)]; exact t2), cond_true, e_111_54, e46, cal_v, ka, e_111_63, d10, cond_false, e_111_66]
      | false =>
        obtain ⟨I1, e1, f1, -⟩ := rem_h h'.2.2.1 h'.2.1.th J D
        have lo1 : ∀ p, 1 ≤ p → p < 28 → I1 p = I p := fun p h1 h2 => by rw [f1 p (by omega) (by omega), k1 p (by omega)]
        have ct := c_ties (I := ups (ups I1 13 f (nI s)) 18 s (nI f)) (J := J) (D := D) (n := n0) (by rw [uI (by decide), uI (by decide), lo1 10 (by decide) (by decide)]; exact hn) h0 n0 0 (by omega)
        have bd : cntN (fun k => decide (ups (ups I1 13 f (nI s)) 18 s (nI f) 13 k ≠ -1)) n0 ≤ n0 := cnt_bd _
        refine Or.inr ⟨cntN (fun k => decide (ups (ups I1 13 f (nI s)) 18 s (nI f) 13 k ≠ -1)) n0, by omega, call_a (as := [.ref 0, .int (nI f), .int (nI s)]) (o := .inl (some (.int (nI (cntN (fun k => decide (ups (ups I1 13 f (nI s)) 18 s (nI f) 13 k ≠ -1)) n0))))) (fun p hp => k1 p (by omega)) rfl (gl_of rfl) (fun z hz => by cases hz) (callY (y_21 0 h' sc) (by show ((111, [.ref 0, .int (I' 1000002 1), .int (I' 1000002 2)]) : Nat × List Value) = _; rw [s1, s2])) (I2 := ups (ups I1 13 f (nI s)) 18 s (nI f)) (J2 := J) (D2 := D) ?_ (fun I3 h3 p q1 q2 => ?_)⟩
        · have e46 := cc I' cn
          rw [k1 13 (by decide), hc, show bI false = 0 from rfl] at e46
          rw [e_111_0, cb0 I' cn, cal_v, kn, e_111_6, cb1 I' cm, cal_v, kn, e_111_12, k1 13 (by decide), inb_n (show f < 16 by omega) (by decide), cond_true, decide_eq_false (by rw [nI_clamp (by omega)]; exact fun q => q t1), cond_false, e_111_28, k1 18 (by decide), inb_n (show s < 16 by omega) (by decide), cond_true, decide_eq_true (by rw [nI_clamp (by omega)]; exact t2), cond_true, e_111_54, e46, cal_v, ka, e_111_63, d00, cond_true, e_111_76, e1, cal_v, kn, e_111_80, inb_n (show f < 16 by omega) (by decide), inb_n (show s < 16 by omega) (by decide), cond_true, cond_true, nI_clamp (n := f) (by omega), nI_clamp (n := s) (by omega), e_56_0, (show ex (56, 4, [.ref 10, .int 0, .int 0], [], mm _ J D) = _ from ct), cal_v, ka, e_111_116]
        · rw [h3 p (by omega)]
          by_cases w1 : p = 18
          · subst w1
            rw [uIs, uIs, uI (by decide), uI (by decide), lo1 18 (by decide) (by decide)]
          · rw [uI w1, uI w1]
            by_cases w2 : p = 13
            · subst w2; rw [uIs, uIs, lo1 13 (by decide) (by decide)]
            · rw [uI w2, uI w2, lo1 p q1 q2]
    · refine Or.inl ⟨I, J, D, ans_of (as := [.ref 0, .int (nI f), .int (nI s)]) (o := .inr (.inl 0)) rfl (gl_of rfl) (fun z hz => by cases hz) ?_, inv_st h Same.rfl', Same.rfl', fun _ _ => rfl⟩
      rw [e_111_0, cb0 I hn, cal_v, kn, e_111_6, cb1 I hm, cal_v, kn, e_111_12, inb_n (show f < 16 by omega) (by decide), cond_true, decide_eq_false (by rw [nI_clamp (by omega)]; exact fun q => q t1), cond_false, e_111_28, inb_n (show s < 16 by omega) (by decide), cond_true, decide_eq_false (by rw [nI_clamp (by omega)]; exact t2), cond_false, e_111_44]
  · refine Or.inl ⟨I, J, D, ans_of (as := [.ref 0, .int (nI f), .int (nI s)]) (o := .inr (.inl 0)) rfl (gl_of rfl) (fun z hz => by cases hz) ?_, inv_st h Same.rfl', Same.rfl', fun _ _ => rfl⟩
    rw [e_111_0, cb0 I hn, cal_v, kn, e_111_6, cb1 I hm, cal_v, kn, e_111_12, inb_n (show f < 16 by omega) (by decide), cond_true, decide_eq_true (by rw [nI_clamp (by omega)]; exact t1), cond_true, e_111_44]
/-! questions of the laying: the page stays at its places -/
theorem c_lay3 {b0 b1 : Int32} (g : LayG G n0 n1) (c0 : G 10 4 = nI n0) (c1 : G 15 4 = nI n1) (f : ∀ p, p < 273 → I p = G p) : ∃ I' J', ex (35, 0, [.ref 273, .int b0, .int b1, dv, dv], [], mm I J D) = some (.inl none, mm I' J' D) ∧ (∀ p, p < 273 ∨ 292 ≤ p → I' p = I p) ∧ LayC G n0 n1 b0 b1 I' ∧ ∀ x y, x ≤ n0 → y ≤ n1 → I' (275 + x) y = encO 1000000000 (PP G n0 n1 b0 b1 x y).1 ∧ J' (293 + x) y = (PP G n0 n1 b0 b1 x y).2 := by
  have c : LayC G n0 n1 b0 b1 (ups (ups I 273 7 b0) 273 8 b1) := by
    have k : ∀ p, p < 273 → (ups (ups I 273 7 b0) 273 8 b1) p = G p := fun p hp => by rw [uI (by omega), uI (by omega), f p hp]
    refine ⟨⟨by rw [k 10 (by decide)]; exact c0, by rw [k 15 (by decide)]; exact c1⟩, ⟨k 1 (by decide), k 11 (by decide), k 12 (by decide), k 13 (by decide), k 16 (by decide), k 17 (by decide), k 18 (by decide)⟩, by rw [uIs, uU (by decide), uIs, uUs], by rw [uIs, uUs]⟩
  obtain ⟨I', J', e, h1, h2⟩ := c_lyI (D := D) g n0 (Nat.le_refl _) _ J c (fun x y hx hy hc => by omega)
  refine ⟨I', J', ?_, fun p hp => ?_, c.go (fun p hp => h1 p (Or.inl hp)), h2⟩
  · rw [e_35_0, show (ups (ups I 273 7 b0) 273 8 b1) 10 4 = nI n0 from c.1.1]
    exact e
  · rw [h1 p (by omega), uI (by omega), uI (by omega)]
section QL
theorem q_lprice (h : Inv 5 kk I J D) (g : LayG G n0 n1) (c0 : G 10 4 = nI n0) (c1 : G 15 4 = nI n1) (f : ∀ p, p < 273 → I p = G p) : Call kk 114 [.ref 1] (.inl (some (.int (encO 1000000000 (PP G n0 n1 (-1) (-1) 0 0).1)))) I J D (Lay2 I) := by
  obtain ⟨I1, J1, e1, f1, lc, t1⟩ := c_lay3 (J := J) (D := D) (b0 := -1) (b1 := -1) g c0 c1 f
  exact ⟨I1, J1, D, ans_of (as := [.ref 0]) (o := .inl (some (.int (encO 1000000000 (PP G n0 n1 (-1) (-1) 0 0).1)))) rfl (gl_of rfl) (fun z hz => by cases hz) (by
    rw [e_114_0, e1, cal_v, kn, e_114_9, show I1 275 0 = _ from (t1 0 0 (Nat.zero_le _) (Nat.zero_le _)).1]), inv_st h (Same.l f1), Same.l f1, fun p hp => f1 p (by omega)⟩
theorem q_bways (h : Inv 5 kk I J D) (g : LayG G n0 n1) (c0 : G 10 4 = nI n0) (c1 : G 15 4 = nI n1) (f : ∀ p, p < 273 → I p = G p) : Call kk 115 [.ref 1] (.inl (some (.long (PP G n0 n1 (-1) (-1) 0 0).2))) I J D (Lay2 I) := by
  obtain ⟨I1, J1, e1, f1, lc, t1⟩ := c_lay3 (J := J) (D := D) (b0 := -1) (b1 := -1) g c0 c1 f
  exact ⟨I1, J1, D, ans_of (as := [.ref 0]) (o := .inl (some (.long (PP G n0 n1 (-1) (-1) 0 0).2))) rfl (gl_of rfl) (fun z hz => by cases hz) (by
    rw [e_115_0, e1, cal_v, kn, e_115_9, show J1 293 0 = _ from (t1 0 0 (Nat.zero_le _) (Nat.zero_le _)).2]), inv_st h (Same.l f1), Same.l f1, fun p hp => f1 p (by omega)⟩
theorem q_part (h : Inv 5 kk I J D) (g : LayG G n0 n1) (tx : TX n0 n1 (G 13) (G 18)) (c0 : G 10 4 = nI n0) (c1 : G 15 4 = nI n1) (f : ∀ p, p < 273 → I p = G p) {w q : Nat} (hw : w < 2) (hq : q < if w = 0 then n0 else n1) : Call kk 116 [.ref 1, .int (nI w), .int (nI q)] (.inl (some (.int (if w = 0 then (goW G n0 n1 32 0 0 (fun _ => -1, fun _ => -1)).1 q else (goW G n0 n1 32 0 0 (fun _ => -1, fun _ => -1)).2 q)))) I J D (Lay2 I) := by
  have hn := g.1
  obtain ⟨I1, J1, e1, f1, lc, t1⟩ := c_lay3 (J := J) (D := D) (b0 := -1) (b1 := -1) g c0 c1 f
  obtain ⟨A, B, e2, hAB⟩ := c_go0 (J := J1) (D := D) g tx lc (fun x y hx hy => (t1 x y hx hy).1)
  have s1 : Same I (upR (upR I1 310 A) 311 B) := ((Same.l f1).tr (Same.R (by decide))).tr (Same.R (by decide))
  have hx : 0 ≤ nI w ∧ nI w < 2 := ⟨nI_pos' (by omega), (nI_ltI (a := w) (b := 2) (by omega) (by decide)).mpr hw⟩
  refine ⟨upR (upR I1 310 A) 311 B, J1, D, ans_of (as := [.ref 0, .int (nI w), .int (nI q)]) (o := .inl (some (.int (if w = 0 then (goW G n0 n1 32 0 0 (fun _ => -1, fun _ => -1)).1 q else (goW G n0 n1 32 0 0 (fun _ => -1, fun _ => -1)).2 q)))) rfl (gl_of rfl) (fun z hz => by cases hz) ?_, inv_st h s1, s1, fun p hp => by rw [uR (by omega), uR (by omega), f1 p (by omega)]⟩
  rcases (show w = 0 ∨ w = 1 by omega) with rfl | rfl
  · rw [if_pos rfl] at hq ⊢
    have bn : ex (150, 0, [.ref 0, .int (nI 0), .int (nI q)], [], mm I J D) = some (.inl none, mm I J D) := c_bandT0 (by rw [f 10 (by decide), c0]; exact ⟨nI_pos' (by omega), (nI_ltI (by omega) (by omega)).mpr hq⟩)
    rw [e_116_0, x_row hx, cal_v, kn, e_116_5, bn, cal_v, kn, e_116_11, e1, cal_v, kn, e_116_20, e2, cal_v, kn, e_116_27]
    rw [decide_eq_false (show ¬ nI 0 ≠ 0 by decide), cond_false, e_116_31, inb_n (show q < 16 by omega) (by decide), cond_true, nI_clamp (by omega), uR (by decide), uRs, e_116_52, (hAB q (by omega)).1]
  · rw [if_neg (by decide)] at hq ⊢
    have bn : ex (150, 0, [.ref 0, .int (nI 1), .int (nI q)], [], mm I J D) = some (.inl none, mm I J D) := c_bandT1 (by rw [f 15 (by decide), c1]; exact ⟨nI_pos' (by omega), (nI_ltI (by omega) (by omega)).mpr hq⟩)
    rw [e_116_0, x_row hx, cal_v, kn, e_116_5, bn, cal_v, kn, e_116_11, e1, cal_v, kn, e_116_20, e2, cal_v, kn, e_116_27]
    rw [decide_eq_true (show nI 1 ≠ 0 by decide), cond_true, e_116_43, inb_n (show q < 16 by omega) (by decide), cond_true, nI_clamp (by omega), uRs, e_116_52, (hAB q (by omega)).2]
theorem q_sure (h : Inv 5 kk I J D) (g : LayG G n0 n1) (tx : TX n0 n1 (G 13) (G 18)) (c0 : G 10 4 = nI n0) (c1 : G 15 4 = nI n1) (f : ∀ p, p < 273 → I p = G p) {i j : Nat} (hi : i < n0) (hj : j < n1) (hnone : (PP G n0 n1 (nI i) (nI j) 0 0).1 = none) : Call kk 117 [.ref 1, .int (nI i), .int (nI j), dv] (.inl (some (.int 1))) I J D (Lay2 I) := by
  have hn := g.1
  obtain ⟨I1, J1, e1, f1, lc, t1⟩ := c_lay3 (J := J) (D := D) (b0 := -1) (b1 := -1) g c0 c1 f
  obtain ⟨I2, J2, e2, f2, lc2, t2⟩ := c_lay3 (I := I1) (J := J1) (D := D) (b0 := nI i) (b1 := nI j) g c0 c1 (fun p hp => (f1 p (by omega)).trans (f p hp))
  obtain ⟨b, hb, hp⟩ := PP_00 g tx
  have r1 := (t1 0 0 (Nat.zero_le _) (Nat.zero_le _)).1
  have r2 := (t2 0 0 (Nat.zero_le _) (Nat.zero_le _)).1
  rw [hp] at r1
  rw [hnone] at r2
  have r1 : I1 275 0 = nI b := r1
  have r2 : I2 275 0 = 1000000000 := r2
  have s1 : Same I I2 := (Same.l f1).tr (Same.l f2)
  have bn0 : ex (150, 0, [.ref 0, .int 0, .int (nI i)], [], mm I J D) = some (.inl none, mm I J D) := c_bandT0 (by rw [f 10 (by decide), c0]; exact ⟨nI_pos' (by omega), (nI_ltI (by omega) (by omega)).mpr hi⟩)
  have bn1 : ex (150, 0, [.ref 0, .int 1, .int (nI j)], [], mm I J D) = some (.inl none, mm I J D) := c_bandT1 (by rw [f 15 (by decide), c1]; exact ⟨nI_pos' (by omega), (nI_ltI (by omega) (by omega)).mpr hj⟩)
  refine ⟨I2, J2, D, ans_of (as := [.ref 0, .int (nI i), .int (nI j), dv]) (o := .inl (some (.int 1))) rfl (gl_of rfl) (fun z hz => by cases hz) ?_, inv_st h s1, s1, fun p hp => by rw [f2 p (by omega), f1 p (by omega)]⟩
  rw [e_117_0, bn0, cal_v, kn, e_117_6, bn1, cal_v, kn, e_117_12, e1, cal_v, kn, e_117_21, r1, e2, cal_v, kn, e_117_42, r2, decide_eq_false (show ¬ (1000000000 : Int32) ≤ nI b from nI_ge (a := b) (b := 1000000000) (by omega) (by decide)), cond_false, e_117_57, e_117_62, decide_eq_true (show (1 : Int32) = 0 ∨ (1 : Int32) = 1 by decide), cond_true]
end QL
/-! the first best way, and ties -/
theorem putL_lo {a : Nat → Int32} {s : Nat} {v : Int32} : ∀ q {y : Nat}, (y < s ∨ s + q ≤ y) → putL a s v q y = a y
  | 0, _, _ => rfl
  | q + 1, y, h => by
    show upd (putL a s v q) (s + q) v y = a y
    rw [uU (by omega)]
    exact putL_lo q (by omega)
theorem putL_at {a : Nat → Int32} {s : Nat} {v : Int32} : ∀ q {y : Nat}, s ≤ y → y < s + q → putL a s v q y = v
  | 0, y, h1, h2 => by omega
  | q + 1, y, h1, h2 => by
    show upd (putL a s v q) (s + q) v y = v
    by_cases e : y = s + q
    · subst e; rw [uUs]
    · rw [uU e]; exact putL_at q h1 (by omega)
theorem putK_lo {k i j y : Nat} {x : (Nat → Int32) × (Nat → Int32)} : (y < i → (putK k i j x).1 y = x.1 y) ∧ (y < j → (putK k i j x).2 y = x.2 y) := by
  unfold putK
  cases mny k with
  | false => exact ⟨fun _ => rfl, fun _ => rfl⟩
  | true => exact ⟨fun h => putL_lo _ (Or.inl h), fun h => putL_lo _ (Or.inl h)⟩
theorem W_lo : ∀ f i j x y, (y < i → (goW G n0 n1 f i j x).1 y = x.1 y) ∧ (y < j → (goW G n0 n1 f i j x).2 y = x.2 y)
  | 0, _, _, _, _ => ⟨fun _ => rfl, fun _ => rfl⟩
  | f + 1, i, j, x, y => by
    show (y < i → (if i = n0 ∧ j = n1 then x else _).1 y = x.1 y) ∧ (y < j → (if i = n0 ∧ j = n1 then x else _).2 y = x.2 y)
    by_cases e : i = n0 ∧ j = n1
    · rw [if_pos e]; exact ⟨fun _ => rfl, fun _ => rfl⟩
    · rw [if_neg e]
      have ih := W_lo f (i + tk0 (kd G n0 n1 i j)) (j + tk1 (kd G n0 n1 i j)) (putK (kd G n0 n1 i j) i j x) y
      exact ⟨fun h => (ih.1 (by omega)).trans (putK_lo.1 h), fun h => (ih.2 (by omega)).trans (putK_lo.2 h)⟩
theorem kd_ok {i j : Nat} (h : kd G n0 n1 i j < 5) : okB G n0 n1 (-1) (-1) (kd G n0 n1 i j) i j = true := by
  have hc : fcd G n0 n1 i j (kd G n0 n1 i j) := fsk_ok 5 0 (by have : fsk G n0 n1 i j 5 0 < 5 := h; omega)
  obtain ⟨h1, h2⟩ := hc
  generalize kd G n0 n1 i j = k at *
  cases ho : okB G n0 n1 (-1) (-1) k i j with
  | false => rw [ho] at h2; exact absurd h2.symm h1
  | true => rfl
theorem W_pair (h16 : n0 ≤ 16 ∧ n1 ≤ 16) : ∀ f i j x, i ≤ n0 → j ≤ n1 → (n0 - i) + (n1 - j) ≤ f → (PP G n0 n1 (-1) (-1) i j).1 ≠ none → (∀ y, i ≤ y → x.1 y = -1) → ∀ y, i ≤ y → y < n0 →
    (goW G n0 n1 f i j x).1 y = -1 ∨ ∃ j2, j2 < n1 ∧ (goW G n0 n1 f i j x).1 y = nI j2 ∧ ((goW G n0 n1 f i j x).2 j2 = nI y ∨ (1 ≤ y ∧ (goW G n0 n1 f i j x).2 j2 = nI (y - 1))) := by
  intro f
  induction f with
  | zero => intro i j x hi hj hf hne hx y h1 h2; omega
  | succ f ih =>
    intro i j x hi hj hf hne hx y h1 h2
    have e : ¬ (i = n0 ∧ j = n1) := fun q => by omega
    have hk := kd_lt h16 hi hj hne e
    obtain ⟨⟨k1, k2⟩, k3⟩ := kd_nx hk
    have k4 := tk_pos (k := kd G n0 n1 i j)
    have eW : goW G n0 n1 (f + 1) i j x = goW G n0 n1 f (i + tk0 (kd G n0 n1 i j)) (j + tk1 (kd G n0 n1 i j)) (putK (kd G n0 n1 i j) i j x) := by
      show (if i = n0 ∧ j = n1 then x else _) = _
      rw [if_neg e]
    rw [eW]
    generalize kd G n0 n1 i j = k at *
    by_cases q : i + tk0 k ≤ y
    · refine ih _ _ _ k1 k2 (by omega) k3 (fun y hy => ?_) y q h2
      unfold putK
      cases mny k with
      | false => exact hx y (by omega)
      | true => show putL x.1 i (nI j) (tk0 k) y = -1; rw [putL_lo _ (by omega)]; exact hx y (by omega)
    · obtain ⟨w1, -⟩ := W_lo (G := G) (n0 := n0) (n1 := n1) f (i + tk0 k) (j + tk1 k) (putK k i j x) y
      rw [w1 (by omega)]
      cases hm : mny k with
      | false =>
        left
        unfold putK
        rw [hm]
        exact hx y h1
      | true =>
        right
        have hk2 : tk0 k ≤ 2 ∧ 1 ≤ tk1 k := by
          rcases (show k = 0 ∨ k = 1 ∨ k = 2 ∨ k = 3 ∨ k = 4 by omega) with rfl | rfl | rfl | rfl | rfl
          · exact ⟨by decide, by decide⟩
          · cases hm
          · cases hm
          · exact ⟨by decide, by decide⟩
          · exact ⟨by decide, by decide⟩
        obtain ⟨-, w2⟩ := W_lo (G := G) (n0 := n0) (n1 := n1) f (i + tk0 k) (j + tk1 k) (putK k i j x) j
        refine ⟨j, by omega, ?_, ?_⟩
        · unfold putK
          rw [hm]
          exact putL_at _ h1 (by omega)
        · rw [w2 (by omega)]
          have e2 : (putK k i j x).2 j = nI i := by
            unfold putK
            rw [hm]
            exact putL_at _ (Nat.le_refl j) (by omega)
          rw [e2]
          by_cases q2 : y = i
          · left; rw [q2]
          · right; exact ⟨by omega, by rw [show y - 1 = i by omega]⟩
theorem W_tie (h16 : n0 ≤ 16 ∧ n1 ≤ 16) (tx : TX n0 n1 (G 13) (G 18)) {y0 j0 : Nat} (hj0 : j0 < n1) (ht : G 13 y0 = nI j0) : ∀ f i j x, i ≤ n0 → j ≤ n1 → (n0 - i) + (n1 - j) ≤ f → (PP G n0 n1 (-1) (-1) i j).1 ≠ none → i ≤ y0 → y0 < n0 → (goW G n0 n1 f i j x).1 y0 = nI j0 := by
  intro f
  induction f with
  | zero => intro i j x hi hj hf hne h1 h2; omega
  | succ f ih =>
    intro i j x hi hj hf hne h1 h2
    have e : ¬ (i = n0 ∧ j = n1) := fun q => by omega
    have hk := kd_lt h16 hi hj hne e
    obtain ⟨⟨k1, k2⟩, k3⟩ := kd_nx hk
    have k5 := kd_ok hk
    have k4 := tk_pos (k := kd G n0 n1 i j)
    have eW : goW G n0 n1 (f + 1) i j x = goW G n0 n1 f (i + tk0 (kd G n0 n1 i j)) (j + tk1 (kd G n0 n1 i j)) (putK (kd G n0 n1 i j) i j x) := by
      show (if i = n0 ∧ j = n1 then x else _) = _
      rw [if_neg e]
    rw [eW]
    generalize kd G n0 n1 i j = k at *
    by_cases q : i + tk0 k ≤ y0
    · exact ih _ _ _ k1 k2 (by omega) k3 q h2
    · obtain ⟨w1, -⟩ := W_lo (G := G) (n0 := n0) (n1 := n1) f (i + tk0 k) (j + tk1 k) (putK k i j x) y0
      rw [w1 (by omega)]
      have hno : G 13 y0 ≠ -1 := by rw [ht]; exact ne_m1 (by omega)
      have ok := (ok_r k5).2
      rcases (show k = 0 ∨ k = 1 ∨ k = 2 ∨ k = 3 ∨ k = 4 by omega) with rfl | rfl | rfl | rfl | rfl
      · have k1 : i + 1 ≤ n0 := k1
        have k2 : j + 1 ≤ n1 := k2
        have q : ¬ i + 1 ≤ y0 := q
        have ey : y0 = i := by omega
        rw [ok_tog tx h16 (by omega) (by omega), decide_eq_true_eq] at ok
        rw [← ey] at ok
        have ej : j = j0 := by
          rcases ok with h | ⟨h, -⟩
          · rw [ht] at h; exact ((nI_eq (by omega) (by omega)).mp h).symm
          · exact absurd h hno
        subst ej
        exact putL_at (tk0 0) h1 (by show y0 < i + 1; omega)
      · have q : ¬ i + 1 ≤ y0 := q
        have ok : decide (G 13 i = -1) = true := ok
        rw [decide_eq_true_eq, show i = y0 by omega] at ok
        exact absurd ok hno
      · have q : ¬ i + 0 ≤ y0 := q
        omega
      · have q : ¬ i + 1 ≤ y0 := q
        have ok : decide (G 13 i = -1 ∧ G 18 j = -1 ∧ G 18 (j + 1) = -1) = true := ok
        rw [decide_eq_true_eq, show i = y0 by omega] at ok
        exact absurd ok.1 hno
      · have q : ¬ i + 2 ≤ y0 := q
        have ok : decide (G 18 j = -1 ∧ G 13 i = -1 ∧ G 13 (i + 1) = -1) = true := ok
        rw [decide_eq_true_eq] at ok
        rcases (show y0 = i ∨ y0 = i + 1 by omega) with e1 | e1
        · rw [← e1] at ok; exact absurd ok.2.1 hno
        · rw [← e1] at ok; exact absurd ok.2.2 hno
theorem PP_bar (h16 : n0 ≤ 16 ∧ n1 ≤ 16) {i0 j0 : Nat} (hi0 : i0 < n0) (hj0 : j0 < n1) (ht : G 13 i0 = nI j0) : ∀ m x y, x ≤ n0 → y ≤ n1 → (n0 - x) + (n1 - y) ≤ m → x ≤ i0 → (PP G n0 n1 (nI i0) (nI j0) x y).1 = none := by
  have hno : G 13 i0 ≠ -1 := by rw [ht]; exact ne_m1 (by omega)
  intro m
  induction m with
  | zero => intro x y hx hy hm hxi; omega
  | succ m ih =>
    intro x y hx hy hm hxi
    cases hp : (PP G n0 n1 (nI i0) (nI j0) x y).1 with
    | none => rfl
    | some b =>
      exfalso
      rw [PP_eq h16.1 h16.2 hx hy] at hp
      rcases cell_some hp with ⟨h1, -, -⟩ | ⟨k, hk, hw⟩
      · omega
      · cases ho : okB G n0 n1 (nI i0) (nI j0) k x y with
        | false => rw [ho] at hw; cases hw
        | true =>
          obtain ⟨⟨k1, k2⟩, ok⟩ := ok_r ho
          have k4 := tk_pos (k := k)
          have nxt : x + tk0 k ≤ i0 → False := fun q => by
            have := ih (x + tk0 k) (y + tk1 k) k1 k2 (by omega) q
            rw [ho, this] at hw
            cases hw
          rcases (show k = 0 ∨ k = 1 ∨ k = 2 ∨ k = 3 ∨ k = 4 by omega) with rfl | rfl | rfl | rfl | rfl
          · have nxt : ¬ (x + 1 ≤ i0) := nxt
            have ex0 : x = i0 := by omega
            subst ex0
            have k2 : y + 1 ≤ n1 := k2
            have ok : decide ((G 13 x = -1 ∨ G 13 x = nI y) ∧ (G 18 y = -1 ∨ G 18 y = nI x) ∧ ¬ (nI x = nI x ∧ nI y = nI j0)) = true := ok
            rw [decide_eq_true_eq] at ok
            rcases ok.1 with h | h
            · exact hno h
            · exact ok.2.2 ⟨rfl, by rw [← h, ht]⟩
          · have nxt : ¬ (x + 1 ≤ i0) := nxt
            have ok : decide (G 13 x = -1) = true := ok
            rw [decide_eq_true_eq, show x = i0 by omega] at ok
            exact hno ok
          · exact nxt hxi
          · have nxt : ¬ (x + 1 ≤ i0) := nxt
            have ok : decide (G 13 x = -1 ∧ G 18 y = -1 ∧ G 18 (y + 1) = -1) = true := ok
            rw [decide_eq_true_eq, show x = i0 by omega] at ok
            exact hno ok.1
          · have nxt : ¬ (x + 2 ≤ i0) := nxt
            have ok : decide (G 18 y = -1 ∧ G 13 x = -1 ∧ G 13 (x + 1) = -1) = true := ok
            rw [decide_eq_true_eq] at ok
            rcases (show i0 = x ∨ i0 = x + 1 by omega) with e1 | e1
            · rw [← e1] at ok; exact hno ok.2.1
            · rw [← e1] at ok; exact hno ok.2.2
end BD
