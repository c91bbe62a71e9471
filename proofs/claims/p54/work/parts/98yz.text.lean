/-! the text: the calls that the law makes of it -/
section TX
variable {kk n : Nat}
variable {I : Nat → Nat → Int32} {J : Nat → Nat → Int64} {D : Nat → Nat → UInt64}
/-- what is typed so far -/
def TxA (I : Nat → Nat → Int32) (n : Nat) (c : Nat → Nat) : Prop := I 312 3 = nI n ∧ Txt c n (I 313)
theorem a_type (h : Inv 5 kk I J D) {b : Int64} (ho : okBs (byt8 b) 8 = true) {n : Nat} (en : I 312 3 = nI n) (hl : n + nzA (byt8 b) 8 ≤ 80) :
    Call kk 133 [.ref 1, .long b, dv, dv] (.inl (some (.int (nI (n + nzA (byt8 b) 8))))) I J D (fun I2 => I2 312 3 = nI (n + nzA (byt8 b) 8) ∧ I2 313 = apF (byt8 b) 8 n (I 313) ∧ ∀ p, p < 312 → I2 p = I p) := by
  obtain ⟨t1, t2, t3⟩ := id h.2.2.2.1
  have n8 := nzA_le (byt8 b) 8
  have sg := c_sg (I := I) (J := J) (D := D) (v := b) 8 (Nat.le_refl _) 0
  rw [Nat.zero_add, ho, cond_true] at sg
  have ng : nI (nzA (byt8 b) 8) ≠ -1 := ne_m1 (by omega)
  obtain ⟨I1, a1, a2, a3, a4⟩ := c_ad (J := J) (D := D) (v := b) 8 (Nat.le_refl _) I n en hl
  obtain ⟨I2, b1, b2, b3, b4, b5⟩ := m_ad (J := J) (D := D) (v := b) 8 (Nat.le_refl _) (ups I1 316 0 0) n (by rw [uIs, uU (by decide), a2 316 (by decide) (by decide), t1]; exact en) hl
  have far : ∀ p, p ≠ 312 → p ≠ 313 → p ≠ 316 → p ≠ 320 → I2 p = I p := fun p h1 h2 h3 h4 => by rw [b2 p h3 h4, uI h3, a2 p h1 h2]
  have lo : ∀ p, p < 316 → I2 p = I1 p := fun p hp => by rw [b2 p (by omega) (by omega), uI (by omega)]
  have hi : Inv 5 (kk + 1) I2 J D := by
    refine inv_txt h (fun p hp => far p (by omega) (by omega) (by omega) (by omega)) (fun p h1 h2 => far p (by omega) (by omega) (by omega) (by omega)) (fun j h1 h2 _ => by rw [b3 j h2, uIs, uU h1, a2 316 (by decide) (by decide)]) (by rw [far iSCL (by decide) (by decide) (by decide) (by decide)]) ⟨?_, ?_, fun k hk => ?_⟩
    · rw [b4, b2 312 (by decide) (by decide), uI (by decide), a3]
    · rw [b2 312 (by decide) (by decide), uI (by decide), a3]
      have := nI_toInt (n := n + nzA (byt8 b) 8) (by omega)
      exact ⟨by omega, by omega⟩
    · rw [b2 312 (by decide) (by decide), uI (show 312 ≠ 316 by decide), a3, rN_nI (by omega)] at hk
      rw [b5, b2 313 (by decide) (by decide), uI (show 313 ≠ 316 by decide), a4, uI (show 320 ≠ 316 by decide), a2 320 (by decide) (by decide)]
      exact apF_ok 8 n (I 320) (I 313) ho (fun j hj => t3 j (by rw [en, rN_nI (by omega)]; exact hj)) k hk
  have e : ex (133, 0, [.ref 0, .long b, dv, dv], [], mm I J D) = some (.inl (some (.int (nI (n + nzA (byt8 b) 8)))), mm I1 J D) := by
    rw [e_133_0, e_80_0]
    rw [show ex (80, 5, [.long b, dv, .int 0, .int 7, dv], [], mm I J D) = _ from sg, cal_v, ka, e_133_4, decide_eq_true ng, cond_true, e_133_21, en, nI_add, decide_eq_true (show nI (n + nzA (byt8 b) 8) ≤ 80 from (nI_leI (b := 80) (by omega) (by decide)).mpr hl), cond_true, e_133_46, e_81_0]
    rw [show ex (81, 3, [.ref 312, .long b, dv, .int 7, dv], [], mm I J D) = _ from a1, cal_v, kn, e_133_54, a3]
  refine ⟨I2, J, D, fun n' S' R' QI QJ QD B => ?_, hi, by rw [lo 312 (by decide)]; exact a3, by rw [lo 313 (by decide)]; exact a4, fun p hp => far p (by omega) (by omega) (by omega) (by omega)⟩
  rw [tm_kp (show Kp I1 J D I2 J D from fun p hp => ⟨lo p hp, rfl, rfl⟩)]
  exact ans_of (as := [.ref 0, .long b, dv, dv]) (o := .inl (some (.int (nI (n + nzA (byt8 b) 8))))) rfl (gl_of rfl) (fun z hz => by cases hz) e n' S' R' QI QJ QD B
/-- what is wrong with what is typed -/
theorem q_fault (h : Inv 5 kk I J D) {c : Nat → Nat} (ch : ChO c n) (ta : TxA I n c) :
    Call kk 134 [.ref 1] (.inl (some (.int (fltV c n)))) I J D (fun I2 => TxA I2 n c ∧ ∀ p, p < 312 → I2 p = I p) := by
  obtain ⟨t1, t2, t3⟩ := id h.2.2.2.1
  obtain ⟨I1, e1, f1, f2, wd⟩ := c_words (J := J) (D := D) ch ta.1 ta.2
  have tb1 : Txt c n (I1 313) := by rw [f1 313 (by decide) (by decide) (by decide)]; exact ta.2
  have hi : Inv 5 (kk + 1) I1 J D := by
    refine inv_txt h (fun p hp => f1 p (by omega) (by omega) (by omega)) (fun p h1 h2 => f1 p (by omega) (by omega) (by omega)) (fun j h1 h2 _ => by rw [f1 316 (by decide) (by decide) (by decide)]) (by rw [f1 iSCL (by decide) (by decide) (by decide)]) (txt_stay h.2.2.2.1 (f2 3 (by decide)) (f1 313 (by decide) (by decide) (by decide)) (by rw [f1 316 (by decide) (by decide) (by decide)]) (f1 320 (by decide) (by decide) (by decide)))
  refine ⟨I1, J, D, fun n' S' R' QI QJ QD B => ?_, hi, ⟨by rw [f2 3 (by decide)]; exact ta.1, tb1⟩, fun p hp => f1 p (by omega) (by omega) (by omega)⟩
  refine ans_of (as := [.ref 0]) (o := .inl (some (.int (fltV c n)))) rfl (gl_of rfl) (fun z hz => by cases hz) ?_ n' S' R' QI QJ QD B
  rw [e_134_0, e1, cal_v, kn, e_134_7, c_flt ch tb1 wd, cal_v, ka, e_134_14]
theorem a_undoT (h : Inv 5 kk I J D) {g : Nat → Nat → Int32} {l : List (Nat → Nat → Int32)} (hh : Hs I (g :: l)) : ∃ v, v ≤ 8 ∧ Call kk 136 [.ref 1, dv] (.inl (some (.int (nI v)))) I J D (fun I2 => PG I2 = g ∧ Hs I2 l ∧ I2 312 = I 312) := by
  obtain ⟨a, x, e, h1, h2, h3, h4, h5, h6, h7, h8, h9⟩ := h.2.2.1
  obtain ⟨a2, x2, q1, q2, q3, q4, q5, q6⟩ := hh
  have ea : a2 = a := (nI_eq (by omega) (by omega)).mp (q4.symm.trans h6)
  have ex : x2 = x := (nI_eq (by omega) (by omega)).mp (q3.symm.trans h5)
  subst ea; subst ex
  simp only [List.length_cons] at q5
  obtain ⟨I2, I1, e1, w2, w3, w4, c⟩ := x_undo h2 (show 0 < a2 by omega) h1 h5 h6 J D
  have far : ∀ p, p ≠ 0 → 28 ≤ p → I2 p = I p := fun p h0 hp => by rw [c.1 p (Or.inr (by omega)), w4 p h0]
  have z2 : I2 0 = I1 0 := c.1 0 (Or.inl (by decide))
  refine ⟨a2 - 1, by omega, call_a (as := [.ref 0, dv]) (o := .inl (some (.int (nI (a2 - 1))))) (fun _ _ => rfl) rfl (gl_of rfl) (fun z hz => by cases hz) (y_46 h) (I2 := I2) (J2 := J) (D2 := D) e1 (fun I3 h3 => ⟨?_, ?_, by rw [h3 312 (by decide), far 312 (by decide) (by decide)]⟩)⟩
  · rw [show PG I3 = PG I2 from pg_lo fun p h1 h2 => h3 p (by omega), ← q6 0 g rfl]
    refine nrm_e fun o k hr => ?_
    have := rl_lt hr
    have th := (h9 ((x2 + 7) % 8) (by omega) (by omega)).th
    have r := cp_rl c (fun k hk => by rw [w4 _ (by omega)]; exact th k hk) o k hr
    have r : I2 (1 + o) k = I1 (29 + 27 * ((x2 + 7) % 8) + o) k := r
    show I2 (1 + o) k = I (29 + 27 * ((x2 + 7 - 0) % 8) + o) k
    rw [r, w4 _ (by omega)]
    rfl
  · refine ⟨a2 - 1, (x2 + 7) % 8, by omega, by omega, by rw [h3 0 (by decide), z2]; exact w2, by rw [h3 0 (by decide), z2]; exact w3, by omega, fun i g2 hg => ?_⟩
    rw [← q6 (i + 1) g2 hg]
    have hi : i < l.length := (List.getElem?_eq_some_iff.mp hg).1
    refine nrm_e fun o k hr => ?_
    have := rl_lt hr
    show I3 (29 + 27 * (((x2 + 7) % 8 + 7 - i) % 8) + o) k = I (29 + 27 * ((x2 + 7 - (i + 1)) % 8) + o) k
    rw [show ((x2 + 7) % 8 + 7 - i) % 8 = (x2 + 7 - (i + 1)) % 8 by omega, h3 _ (by omega), far _ (by omega) (by omega)]
/-- a line that adds a band -/
theorem a_line (h : Inv 5 kk I J D) {c : Nat → Nat} {m : Nat} (ch : ChO c n) (ta : TxA I n c) (hf : fltV c n = -1) (hk : kdo c n = some 3) (n1 : nor c n 1 = nI 0) {y z : Int32} (n2 : nor c n 2 = y) (n3 : nor c n 3 = z) (hm : I 10 4 = nI m) (h16 : m < 16) (hy : 1 ≤ y ∧ y ≤ 9) (hz : 0 ≤ z ∧ z ≤ 3) :
    Call kk 135 [.ref 1, dv, dv, dv, dv, dv] (.inl (some (.int (nI m)))) I J D (fun I2 => (∀ p, 1 ≤ p → p < 28 → I2 p = AddI 0 m y z I p) ∧ I2 312 3 = 0 ∧ ∀ l, l.length ≤ 7 → Hs I l → Hs I2 (PG I :: l)) := by
  obtain ⟨I1, e1, f1, f2, wd⟩ := c_words (J := J) (D := D) ch ta.1 ta.2
  have tb1 : Txt c n (I1 313) := by rw [f1 313 (by decide) (by decide) (by decide)]; exact ta.2
  obtain ⟨Ib, hIb⟩ : ∃ Ib, Ib = ups I1 312 3 0 := ⟨_, rfl⟩
  have fb : ∀ p, p ≠ 312 → p ≠ 314 → p ≠ 315 → Ib p = I p := fun p q1 q2 q3 => by rw [hIb, uI q1, f1 p q1 q2 q3]
  have b0 : Ib 312 3 = 0 := by rw [hIb, uIs, uUs]
  have h0 : Inv0 5 kk Ib := inv0_312 (inv_to h) fb
  have nr : ∀ j, j < 40 → ex (88, 0, [.ref 312, .int (nI j), dv, dv], [], mm I1 J D) = some (.inl (some (.int (nor c n j))), mm I1 J D) := fun j hj => c_nor ch tb1 wd hj
  obtain ⟨I2, e2, g1, hs⟩ := rem_h h0.2.2.1 h0.2.1.th J D
  have lo : ∀ p, 1 ≤ p → p < 28 → I2 p = I p := fun p h1 h2 => by rw [g1 p (by omega) (by omega), fb p (by omega) (by omega) (by omega)]
  have hx : 0 ≤ nI 0 ∧ nI 0 < 2 := by decide
  have cn : Ib 10 4 = nI m := by rw [fb 10 (by decide) (by decide) (by decide)]; exact hm
  have cn2 : I2 10 4 = nI m := by rw [lo 10 (by decide) (by decide)]; exact hm
  have hd : decide (Ib 10 4 < 16) = true := decide_eq_true (by rw [cn]; exact (nI_ltI (a := m) (b := 16) (by omega) (by decide)).mpr h16)
  have e9 : ex (109, 0, [.ref 0, .int (nI 0), .int y, .int z], [], mm Ib J D) = some (.inl (some (.int (nI m))), mm (AddI 0 m y z I2) J D) := by
    rw [e_109_0, x_row hx, cal_v, kn, e_109_5, x_nr hy, cal_v, kn, e_109_12, x_nr hz, cal_v, kn, e_109_18, x_rw0, cal_v, krw _, e_109_26_10, show decide (Ib 10 4 < 16) = true from hd, cond_true, e_109_44, e2, cal_v, kn, e_109_48, x_rw0, cal_v, krw _, e_109_56_10, c_bnd0 cn2 h16, cal_v, ka, e_109_61]
    rfl
  have far : ∀ p, 29 ≤ p ∨ p = 0 → AddI 0 m y z I2 p = I2 p := fun p hp => by
    unfold AddI
    rw [uI (by omega), uI (by omega), uI (by omega), uI (by omega), uI (by omega)]
  have ki : Kpt I Ib := kpt_lo fun p hp => fb p (by omega) (by omega) (by omega)
  have ep : PG Ib = PG I := pg_lo fun p h1 h2 => fb p (by omega) (by omega) (by omega)
  refine call_a (as := [.ref 0, dv, dv, dv, dv, dv]) (o := .inl (some (.int (nI m)))) (I' := I) (fun _ _ => rfl) rfl (gl_of rfl) (fun z hz => by cases hz) (callY (y_45 0 h) (by show ((135, [.ref 0, dv, dv, dv, dv, dv]) : Nat × List Value) = _; rfl)) (I2 := AddI 0 m y z I2) (J2 := J) (D2 := D) ?_ (fun I3 h3 => ⟨fun p h1 h2 => ?_, by rw [h3 312 (by decide), far 312 (by omega), g1 312 (by decide) (by decide)]; exact b0, fun l hl hh => ?_⟩)
  · have t : ex (135, 14, [.ref 0, dv, dv, dv, dv, dv], [.int (fltV c n)], mm I1 J D) = ex (135, 23, [.ref 0, dv, dv, dv, dv, dv], [.int 0], mm I1 J D) := by
      rw [e_135_14, decide_eq_true hf, cond_true, e_135_22]
    rw [e_135_0, e1, cal_v, kn, e_135_7, c_flt ch tb1 wd, cal_v, ka, t, e_135_23, c_kind ch tb1 wd, cal_v, ka, e_135_31]
    rw [show ex (88, 0, [.ref 312, .int 1, dv, dv], [], mm I1 J D) = _ from nr 1 (by decide), cal_v, ka, e_135_40]
    rw [show ex (88, 0, [.ref 312, .int 2, dv, dv], [], mm I1 J D) = _ from nr 2 (by decide), cal_v, ka, e_135_49]
    rw [show ex (88, 0, [.ref 312, .int 3, dv, dv], [], mm I1 J D) = _ from nr 3 (by decide), cal_v, ka, e_135_59, ← hIb, decide_eq_true rfl, cond_true, hk, show kdI (some 3) = nI 3 from rfl, n1, n2, n3, e_135_84, e_145_0, show nI 3 = 3 from rfl, sw_145_1_3, e_145_61, e9, cal_v, ka, e_145_69, cal_v, ka, e_135_94]
  · rw [h3 p (by omega)]
    unfold AddI
    have go : ∀ (A B : Nat → Nat → Int32) (q k : Nat) (v : Int32), A p = B p → ups A q k v p = ups B q k v p := fun A B q k v e => by
      by_cases hq : p = q
      · subst hq; rw [uIs, uIs, e]
      · rw [uI hq, uI hq, e]
    exact go _ _ _ _ _ (go _ _ _ _ _ (go _ _ _ _ _ (go _ _ _ _ _ (go _ _ _ _ _ (lo p h1 h2)))))
  · rw [← ep]
    exact hs I3 (by rw [h3 0 (by decide), far 0 (by omega)]; exact ⟨rfl, rfl⟩) (fun p h1 h2 => by rw [h3 p (by omega), far p (by omega)]) l hl (ki.2 l hh)
/-- how many bands -/
theorem q_cnt (h : Inv 5 kk I J D) : Call kk 113 [.ref 1, .int (nI 0)] (.inl (some (.int (I 10 4)))) I J D (Lay2 I) := by
  have hx : 0 ≤ nI 0 ∧ nI 0 < 2 := by decide
  refine q_lay (as := [.ref 0, .int (nI 0)]) (v := some (.int (I 10 4))) h rfl (gl_of rfl) ?_
  rw [e_113_0, x_row hx, cal_v, kn, e_113_5, x_rw0, cal_v, krw _, e_113_13_10]
end TX
