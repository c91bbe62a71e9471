/-! bands: isLaid -/
section LD
variable {n0 n1 : Nat} {TT : Nat} {QJ : Nat → Nat → Int64} {QD : Nat → Nat → UInt64}
variable {Ps : Option Value → (Nat → Nat → Int32) → (Nat → Nat → Int64) → (Nat → Nat → Int32) → (Nat → Nat → Int64) → (Nat → Nat → UInt64) → Prop}
/-- a row of the law's beside the book's -/
def RowC (r n : Nat) (X I : Nat → Nat → Int32) : Prop := I (10 + 5 * r) 4 = nI n ∧ ∀ k, k < n → X (321 + r) k = I (11 + 5 * r) k ∧ X (324 + r) k = I (12 + 5 * r) k ∧ I (13 + 5 * r) k = -1
def LKeep (r : Nat) (X X' : Nat → Nat → Int32) : Prop := ∀ p, p ≠ iCRD → p ≠ 328 → p ≠ 321 + r → p ≠ 324 + r → X' p = X p
def IKeep (r : Nat) (I I' : Nat → Nat → Int32) : Prop := ∀ p, 1 ≤ p → p < 28 → (p < 10 + 5 * r ∨ 15 + 5 * r ≤ p) → I' p = I p
theorem addI_at {r n : Nat} {t m : Int32} {I : Nat → Nat → Int32} : AddI r n t m I (10 + 5 * r) 4 = nI (n + 1) ∧ AddI r n t m I (11 + 5 * r) = upd (I (11 + 5 * r)) n t ∧ AddI r n t m I (12 + 5 * r) = upd (I (12 + 5 * r)) n m ∧ AddI r n t m I (13 + 5 * r) = upd (I (13 + 5 * r)) n (-1) ∧ ∀ p, (p < 10 + 5 * r ∨ 15 + 5 * r ≤ p) → AddI r n t m I p = I p := by
  unfold AddI
  refine ⟨by rw [uIs, uUs], ?_, ?_, ?_, fun p hp => ?_⟩
  · rw [uI (by omega), uI (by omega), uI (by omega), uI (by omega), uIs]
  · rw [uI (by omega), uI (by omega), uI (by omega), uIs, uI (by omega)]
  · rw [uI (by omega), uI (by omega), uIs, uI (by omega), uI (by omega)]
  · rw [uI (by omega), uI (by omega), uI (by omega), uI (by omega), uI (by omega)]
theorem sc_r : ∀ r, r < 2 → SC (321 + r) = (20, 5) ∧ SC (324 + r) = (20, 5) := by decide +kernel
theorem lw_row {r b : Nat} (hr : r < 2) (hb : b ≤ 5) : ∀ q k, k + q = b → ∀ (X I : Nat → Nat → Int32) (J : Nat → Nat → Int64) (D : Nat → Nat → UInt64) c, q ≤ c → St TT c X I J D → X 326 r = nI b → RowC r k X I →
    (∀ (X' I' : Nat → Nat → Int32) (J' : Nat → Nat → Int64) (D' : Nat → Nat → UInt64), St TT (c - q) X' I' J' D' → RowC r b X' I' → LKeep r X X' → IKeep r I I' → WO 348 SC RC QD Ps (ex (348, 105, [.ref 0, .int (nI r), dv, dv], [], 348, SC, RC, ovr I' X', ovr J' QJ, ovr D' QD))) →
    WO 348 SC RC QD Ps (ex (348, 24, [.ref 0, .int (nI r), .int (nI k), dv], [], 348, SC, RC, ovr I X, ovr J QJ, ovr D QD)) := by
  intro q
  induction q with
  | zero =>
    intro k hk X I J D c hc s hX hrow K
    have hk : k = b := by omega
    subst hk
    rw [eC_348_24, inb_n hr (by decide), cond_true, nI_clamp (show r < 2 ^ 31 by omega), show ovr I X 326 r = nI k by rw [ovr_hi (by omega)]; exact hX, decide_eq_true ((nI_leI (by omega) (by omega)).mpr (Nat.le_refl k)), cond_true]
    exact K X I J D s hrow (fun _ _ _ _ _ => rfl) (fun _ _ _ _ => rfl)
  | succ q ih =>
    intro k hk X I J D c hc s hX hrow K
    obtain ⟨c, rfl⟩ : ∃ c', c = c' + 1 := ⟨c - 1, by omega⟩
    obtain ⟨sc1, sc2⟩ := sc_r r hr
    rw [eC_348_24, inb_n hr (by decide), cond_true, nI_clamp (show r < 2 ^ 31 by omega), show ovr I X 326 r = nI b by rw [ovr_hi (by omega)]; exact hX, decide_eq_false (show ¬ nI b ≤ nI k from nI_ge (by omega) (by omega)), cond_false, eC_348_34, inb_n hr (by decide), cond_true, nI_clamp (show r < 2 ^ 31 by omega)]
    refine goN nl_C (by decide) (show (9 : Int32) = nI 9 from rfl) ⟨by omega, by omega⟩ s (fun X1 a ha hx1 s1 => ?_)
    rw [eC_348_51 _ _ _ _ _ _ _ _ _ sc1 (show 321 + r < 348 by omega), inb_n (show k < 5 by omega) (by decide), cond_true, inb_n hr (by decide), cond_true, nI_clamp (show k < 2 ^ 31 by omega), nI_clamp (show r < 2 ^ 31 by omega), ovr_uph (show 317 ≤ 321 + r by omega), show (1 : Int32) + nI a = nI (1 + a) from nI_add 1 a]
    have s1' : St TT (c + 1) (ups X1 (321 + r) k (nI (1 + a))) I J D := ⟨by rw [w_un (show iCRD ≠ 321 + r by unfold iCRD; omega)]; exact s1.1, s1.2⟩
    refine goN nl_C (by decide) (show (3 : Int32) = nI 3 from rfl) ⟨by omega, by omega⟩ s1' (fun X2 m hm hx2 s2 => ?_)
    have e321 : X2 (321 + r) = upd (X1 (321 + r)) k (nI (1 + a)) := by rw [hx2 _ (by omega), uIs]
    rw [eC_348_68 _ _ _ _ _ _ _ _ sc2 (show 324 + r < 348 by omega), inb_n (show k < 5 by omega) (by decide), cond_true, inb_n hr (by decide), cond_true, cond_true, cond_true, cond_true, nI_clamp (show k < 2 ^ 31 by omega), nI_clamp (show r < 2 ^ 31 by omega), ovr_uph (show 317 ≤ 324 + r by omega)]
    rw [show ovr I (ups X2 (324 + r) k (nI m)) (321 + r) k = nI (1 + a) by rw [ovr_hi (by omega), uI (by omega), e321, uUs], show ovr I (ups X2 (324 + r) k (nI m)) (324 + r) k = nI m by rw [ovr_hi (by omega), uIs, uUs]]
    have s2' : St TT (c + 1) (ups X2 (324 + r) k (nI m)) I J D := ⟨by rw [w_un (show iCRD ≠ 324 + r by unfold iCRD; omega)]; exact s2.1, s2.2⟩
    refine goK bas_C (by decide) rfl s2' (fun kk _ hi => a_band hi hr hrow.1 (show k < 16 by omega) (y := nI (1 + a)) (z := nI m) ⟨(nI_leI (a := 1) (by decide) (by omega)).mpr (by omega), (nI_leI (b := 9) (by omega) (by decide)).mpr (by omega)⟩ ⟨nI_pos' (by omega), (nI_leI (b := 3) (by omega) (by decide)).mpr (by omega)⟩) (fun X3 I3 J3 D3 hx3 s3 hlo => ?_)
    have hlo := hlo.1
    obtain ⟨u1, u2, u3, u4, u5⟩ := addI_at (r := r) (n := k) (t := nI (1 + a)) (m := nI m) (I := I)
    have x321 : X3 (321 + r) = upd (X1 (321 + r)) k (nI (1 + a)) := by rw [hx3 _ (by unfold iCRD; omega), uI (by omega), e321]
    have x324 : X3 (324 + r) = upd (X1 (324 + r)) k (nI m) := by rw [hx3 _ (by unfold iCRD; omega), uIs, hx2 _ (by omega), uI (by omega)]
    have xo : ∀ p, p ≠ iCRD → p ≠ 328 → p ≠ 321 + r → p ≠ 324 + r → X3 p = X p := fun p h1 h2 h3 h4 => by rw [hx3 p h1, uI h4, hx2 p h2, uI h3, hx1 p h2]
    rw [ka, eC_348_93, decide_eq_true rfl, cond_true, eC_348_99, nI_1]
    refine ih (k + 1) (by omega) X3 I3 J3 D3 c (by omega) s3 (by rw [xo 326 (by decide) (by decide) (by omega) (by omega)]; exact hX) ⟨?_, fun j hj => ?_⟩ (fun X' I' J' D' q1 q2 q3 q4 => K X' I' J' D' (by rw [show c + 1 - (q + 1) = c - q by omega]; exact q1) q2 (fun p h1 h2 h3 h4 => (q3 p h1 h2 h3 h4).trans (xo p h1 h2 h3 h4)) (fun p h1 h2 h3 => by rw [q4 p h1 h2 h3, hlo p h1 h2, u5 p h3]))
    · rw [hlo _ (by omega) (by omega)]; exact u1
    · rw [x321, x324, hlo (11 + 5 * r) (by omega) (by omega), hlo (12 + 5 * r) (by omega) (by omega), hlo (13 + 5 * r) (by omega) (by omega), u2, u3, u4]
      by_cases e : j = k
      · subst e
        rw [uUs, uUs, uUs, uUs, uUs]
        exact ⟨rfl, rfl, rfl⟩
      · rw [uU e, uU e, uU e, uU e, uU e, hx1 _ (by omega), hx1 _ (by omega)]
        exact hrow.2 j (by omega)
/-- the law's call of tie -/
theorem ctc347 : ctc 347 3 0 = some 7 := by decide +kernel
theorem lw_tie {X I : Nat → Nat → Int32} {J : Nat → Nat → Int64} {D : Nat → Nat → UInt64} (s : St TT 2 X I J D) (hn : I 10 4 = nI n0) (hm : I 15 4 = nI n1) (h0 : n0 ≤ 16) (h1 : n1 ≤ 16) {f g : Nat} (hf : f < n0) (hg : g < n1) :
    WP 348 SC RC QD TT X QJ (fun v I2 => (v = some (.int (-1)) ∧ ∀ p, p < 273 → I2 p = I p) ∨ (∃ c, c ≤ 16 ∧ v = some (.int (nI c))) ∧ Lo I2 (ups (ups I 13 f (nI g)) 18 g (nI f))) (ex (347, 0, [.ref 1, .int (nI f), .int (nI g), dv], [], 348, SC, RC, ovr I X, ovr J QJ, ovr D QD)) := by
  rw [eC_347_0]
  obtain ⟨-, -, kk0, -, hi0⟩ := id s
  by_cases q : ∀ kk, kk ≤ 5000 → Inv 5 kk I J D → Call kk 111 [.ref 1, .int (nI f), .int (nI g)] (.inr (.inl 0)) I J D (Lay2 I)
  · refine goE bas_C (by decide) rfl ctc347 (c := 1) s q (fun X2 I2 J2 D2 hx s2 hs => ?_)
    rw [eC_347_7]
    exact wp_ret (Or.inl ⟨rfl, hs.2⟩) hx s2
  · -- it is taken: the number told doesn't depend on the count of calls
    have q2 : ∃ c, c ≤ 16 ∧ Call kk0 111 [.ref 1, .int (nI f), .int (nI g)] (.inl (some (.int (nI c)))) I J D (fun I2 => Lo I2 (ups (ups I 13 f (nI g)) 18 g (nI f))) := by
      rcases a_tie hi0 hn hm h0 h1 hf hg with w | w
      · exfalso
        refine q fun kk hk hi => ?_
        rcases a_tie hi hn hm h0 h1 hf hg with w2 | ⟨c, hc, w2⟩
        · exact w2
        · obtain ⟨Ia, Ja, Da, ha, -, -⟩ := w
          obtain ⟨Ib, Jb, Db, hb, -, -⟩ := w2
          have e1 := ha 348 SC RC X QJ QD bas_C
          have e2 := hb 348 SC RC X QJ QD bas_C
          rw [e1] at e2
          have e3 := congrArg Prod.fst (Option.some.inj e2)
          cases e3
      · exact w
    obtain ⟨c, hc, w⟩ := q2
    refine goM bas_C (by decide) rfl (c := 1) s (v := some (.int (nI c))) (P := fun I2 => Lo I2 (ups (ups I 13 f (nI g)) 18 g (nI f))) (fun kk _ hi => ?_) (fun X2 I2 J2 D2 hx s2 hs => ?_)
    · rcases a_tie hi hn hm h0 h1 hf hg with w2 | ⟨c2, hc2, w2⟩
      · exfalso
        obtain ⟨Ia, Ja, Da, ha, -, -⟩ := w
        obtain ⟨Ib, Jb, Db, hb, -, -⟩ := w2
        have e1 := ha 348 SC RC X QJ QD bas_C
        have e2 := hb 348 SC RC X QJ QD bas_C
        rw [e1] at e2
        have e3 := congrArg Prod.fst (Option.some.inj e2)
        cases e3
      · obtain ⟨Ia, Ja, Da, ha, -, -⟩ := w
        obtain ⟨Ib, Jb, Db, hb, r1, r2⟩ := w2
        have e1 := ha 348 SC RC X QJ QD bas_C
        have e2 := hb 348 SC RC X QJ QD bas_C
        rw [e1] at e2
        have e3 := congrArg Prod.fst (Option.some.inj e2)
        have e4 : nI c = nI c2 := by injection e3 with e3; injection e3 with e3; injection e3
        rw [e4]
        exact ⟨Ib, Jb, Db, hb, r1, r2⟩
    · rw [ka, eC_347_6]
      exact wp_ret (Or.inr ⟨⟨c, hc, rfl⟩, hs⟩) hx s2
/-- what is fixed of the book while it is laid -/
def BkL (n0 n1 : Nat) (I0 I : Nat → Nat → Int32) : Prop := (I 10 4 = nI n0 ∧ I 15 4 = nI n1) ∧ I 1 = I0 1 ∧ ∀ p, 21 ≤ p → p < 28 → I p = I0 p
theorem lw_ties {I0 : Nat → Nat → Int32} (h0 : n0 ≤ 5) (h1 : n1 ≤ 5) : ∀ q, q ≤ 5 → ∀ (X I : Nat → Nat → Int32) (J : Nat → Nat → Int64) (D : Nat → Nat → UInt64) c, 2 * q ≤ c → St TT c X I J D → LawB I n0 n1 X → BkL n0 n1 I0 I →
    (∀ (X' I' : Nat → Nat → Int32) (J' : Nat → Nat → Int64) (D' : Nat → Nat → UInt64) c', c - 2 * q ≤ c' → St TT c' X' I' J' D' → LawB I' n0 n1 X' → BkL n0 n1 I0 I' → WO 348 SC RC QD Ps (ex (348, 196, [.ref 0, dv, dv, dv], [], 348, SC, RC, ovr I' X', ovr J' QJ, ovr D' QD))) →
    WO 348 SC RC QD Ps (ex (348, 120, [.ref 0, .int (nI q), dv, dv], [], 348, SC, RC, ovr I X, ovr J QJ, ovr D QD)) := by
  intro q
  induction q with
  | zero =>
    intro hq X I J D c hc s lb bl K
    rw [eC_348_120, decide_eq_true (show nI 0 ≤ 0 by decide), cond_true]
    exact K X I J D c (by omega) s lb bl
  | succ q ih =>
    intro hq X I J D c hc s lb bl K
    rw [eC_348_120, decide_eq_false (show ¬ nI (q + 1) ≤ 0 from nI_nle (by omega) (by omega)), cond_false, eC_348_124, show ovr I X 326 0 = nI n0 by rw [ovr_hi (by omega)]; exact lb.1.1]
    by_cases z0 : n0 = 0
    · subst z0
      rw [decide_eq_true (show nI 0 ≤ 0 by decide), cond_true]
      exact K X I J D c (by omega) s lb bl
    · rw [decide_eq_false (show ¬ nI n0 ≤ 0 from nI_nle (by omega) (by omega)), cond_false, eC_348_133, show ovr I X 326 1 = nI n1 by rw [ovr_hi (by omega)]; exact lb.1.2]
      by_cases z1 : n1 = 0
      · subst z1
        rw [decide_eq_true (show nI 0 ≤ 0 by decide), cond_true]
        exact K X I J D c (by omega) s lb bl
      · rw [decide_eq_false (show ¬ nI n1 ≤ 0 from nI_nle (by omega) (by omega)), cond_false, eC_348_142]
        refine goN nl_C (by decide) (show ovr I X 326 0 = nI n0 by rw [ovr_hi (by omega)]; exact lb.1.1) ⟨by omega, by omega⟩ s (fun X1 f hf hx1 s1 => ?_)
        have lb1 : LawB I n0 n1 X1 := lb.go fun p h1 h2 => hx1 p (by omega)
        rw [eC_348_155]
        refine goN nl_C (by decide) (show ovr I X1 326 1 = nI n1 by rw [ovr_hi (by omega)]; exact lb1.1.2) ⟨by omega, by omega⟩ s1 (fun X2 g hg hx2 s2 => ?_)
        have lb2 : LawB I n0 n1 X2 := lb1.go fun p h1 h2 => hx2 p (by omega)
        rw [eC_348_169]
        refine goP (by decide) (by decide) (d := 2) rfl s2 (by omega) (fun Q1 T1 hq9 s3 => lw_tie s3 bl.1.1 bl.1.2 (by omega) (by omega) hf hg) (fun v X3 I3 J3 D3 hx3 s3 hp => ?_)
        have lb3 : LawB I n0 n1 X3 := lb2.go fun p h1 h2 => hx3 p (by unfold iCRD; omega)
        rcases hp with ⟨rfl, hsame⟩ | ⟨⟨cc, hcc, rfl⟩, hlo⟩
        · rw [ka, eC_348_179, decide_eq_true rfl, cond_true, eC_348_190, show nI (q + 1) + (-1) = nI q from nI_dec q]
          refine ih (by omega) X3 I3 J3 D3 (c - 2) (by omega) s3 ?_ ?_ (fun X' I' J' D' c' q1 q2 q3 q4 => K X' I' J' D' c' (by omega) q2 q3 q4)
          · unfold LawB at lb3 ⊢
            rw [hsame 11 (by decide), hsame 12 (by decide), hsame 13 (by decide), hsame 16 (by decide), hsame 17 (by decide)]
            exact lb3
          · exact ⟨by rw [hsame 10 (by decide), hsame 15 (by decide)]; exact bl.1, by rw [hsame 1 (by decide)]; exact bl.2.1, fun p h1 h2 => by rw [hsame p (by omega)]; exact bl.2.2 p h1 h2⟩
        · have lo : ∀ p, 1 ≤ p → p < 28 → p ≠ 13 → p ≠ 18 → I3 p = I p := fun p h1 h2 h3 h4 => by rw [hlo p h1 h2, uI h4, uI h3]
          have l13 : I3 13 = upd (I 13) f (nI g) := by rw [hlo 13 (by decide) (by decide), uI (by decide), uIs]
          rw [ka, eC_348_179, decide_eq_false (ne_m1 (show cc < 1000 by omega)), cond_false, eC_348_183, inb_n (show f < 5 by omega) (by decide), cond_true, nI_clamp (show f < 2 ^ 31 by omega), ovr_uph (by omega), eC_348_190, show nI (q + 1) + (-1) = nI q from nI_dec q]
          refine ih (by omega) (ups X3 327 f (nI g)) I3 J3 D3 (c - 2) (by omega) ⟨by rw [w_un (by decide)]; exact s3.1, s3.2⟩ ?_ ?_ (fun X' I' J' D' c' q1 q2 q3 q4 => K X' I' J' D' c' (by omega) q2 q3 q4)
          · obtain ⟨b1, b2, b3⟩ := lb3
            refine ⟨by rw [uI (by decide)]; exact b1, fun k hk => ?_, fun k hk => ?_⟩
            · rw [uI (by decide), uI (by decide), uIs, lo 11 (by decide) (by decide) (by decide) (by decide), lo 12 (by decide) (by decide) (by decide) (by decide), l13]
              obtain ⟨d1, d2, d3⟩ := b2 k hk
              refine ⟨d1, d2, ?_⟩
              by_cases e : k = f
              · subst e; rw [uUs, uUs]
              · rw [uU e, uU e]; exact d3
            · rw [uI (by decide), uI (by decide), lo 16 (by decide) (by decide) (by decide) (by decide), lo 17 (by decide) (by decide) (by decide) (by decide)]
              exact b3 k hk
          · exact ⟨by rw [lo 10 (by decide) (by decide) (by decide) (by decide), lo 15 (by decide) (by decide) (by decide) (by decide)]; exact bl.1, by rw [lo 1 (by decide) (by decide) (by decide) (by decide)]; exact bl.2.1, fun p h1 h2 => by rw [lo p (by omega) h2 (by omega) (by omega)]; exact bl.2.2 p h1 h2⟩
/-- behind isLaid -/
def LdP (T : Nat) (I0 : Nat → Nat → Int32) (v : Option Value) (X2 : Nat → Nat → Int32) (I2 : Nat → Nat → Int32) (J2 : Nat → Nat → Int64) (D2 : Nat → Nat → UInt64) : Prop :=
  (v = some (.int 1) ∧ ∃ n0 n1, (n0 ≤ 5 ∧ n1 ≤ 5) ∧ (X2 326 0 = nI n0 ∧ X2 326 1 = nI n1) ∧ BkL n0 n1 I0 I2) ∧ ∃ c2, St T c2 X2 I2 J2 D2
/-- the law asks for partners -/
theorem lw_part {I0 G : Nat → Nat → Int32} (e : GoE G n0 n1) (c0 : G 10 4 = nI n0) (c1 : G 15 4 = nI n1) (b1 : G 1 = I0 1) (b2 : ∀ p, 21 ≤ p → p < 28 → G p = I0 p) : ∀ q i, i + q = n0 → ∀ (X I : Nat → Nat → Int32) (J : Nat → Nat → Int64) (D : Nat → Nat → UInt64) (QJ : Nat → Nat → Int64) c, 3 * q ≤ c → St TT c X I J D → LawB G n0 n1 X → (∀ p, p < 273 → I p = G p) →
    WO 348 SC RC QD (fun v X2 QJ2 I2 J2 D2 => LdP TT I0 v X2 I2 J2 D2) (ex (348, 242, [.ref 0, .int (nI i), dv, dv], [], 348, SC, RC, ovr I X, ovr J QJ, ovr D QD)) := by
  have e16 := e.1
  have h16 : n0 ≤ 16 ∧ n1 ≤ 16 := by omega
  have hne : (PP G n0 n1 (-1) (-1) 0 0).1 ≠ none := by
    obtain ⟨b, -, hb⟩ := PP_00 e.2.1 e.2.2.1
    rw [hb]; intro w; cases w
  intro q
  induction q with
  | zero =>
    intro i hi X I J D QJ c hc s lb f
    have hi : i = n0 := by omega
    subst hi
    rw [eC_348_242, show ovr I X 326 0 = nI i by rw [ovr_hi (by omega)]; exact lb.1.1, decide_eq_true ((nI_leI (by omega) (by omega)).mpr (Nat.le_refl i)), cond_true, eC_348_333]
    exact wo_ret ⟨⟨rfl, i, n1, e16, lb.1, ⟨by rw [f 10 (by decide)]; exact c0, by rw [f 15 (by decide)]; exact c1⟩, by rw [f 1 (by decide)]; exact b1, fun p h1 h2 => by rw [f p (by omega)]; exact b2 p h1 h2⟩, _, s⟩
  | succ q ih =>
    intro i hi X I J D QJ c hc s lb f
    have hi2 : i < n0 := by omega
    obtain ⟨c, rfl⟩ : ∃ c', c = c' + 3 := ⟨c - 3, by omega⟩
    rw [eC_348_242, show ovr I X 326 0 = nI n0 by rw [ovr_hi (by omega)]; exact lb.1.1, decide_eq_false (show ¬ nI n0 ≤ nI i from nI_ge (by omega) (by omega)), cond_false, eC_348_252]
    refine goK bas_C (by decide) rfl s (fun kk _ hi9 => q_part hi9 e.2.1 e.2.2.1 c0 c1 f (w := 0) (q := i) (by decide) (by rw [if_pos rfl]; exact hi2)) (fun X1 I1 J1 D1 hx1 s1 hl1 => ?_)
    have lb1 : LawB G n0 n1 X1 := lb.go fun p h1 h2 => hx1 p (by unfold iCRD; omega)
    have f1 : ∀ p, p < 273 → I1 p = G p := fun p hp => (hl1.2 p hp).trans (f p hp)
    rw [ka, if_pos rfl]
    obtain ⟨w, hw⟩ : ∃ w, w = (goW G n0 n1 32 0 0 (fun _ => -1, fun _ => -1)).1 i := ⟨_, rfl⟩
    rw [← hw]
    -- behind the tie's check
    have tail : ∀ (X2 I2 : Nat → Nat → Int32) (J2 : Nat → Nat → Int64) (D2 : Nat → Nat → UInt64) c', c + 1 ≤ c' → St TT c' X2 I2 J2 D2 → LawB G n0 n1 X2 → (∀ p, p < 273 → I2 p = G p) → WO 348 SC RC QD (fun v X2 QJ2 I2 J2 D2 => LdP TT I0 v X2 I2 J2 D2) (ex (348, 295, [.ref 0, .int (nI i), .int w, dv], [], 348, SC, RC, ovr I2 X2, ovr J2 QJ, ovr D2 QD)) := fun X2 I2 J2 D2 c' hc' s2 lb2 f2 => by
      have fin : ∀ (X3 I3 : Nat → Nat → Int32) (J3 : Nat → Nat → Int64) (D3 : Nat → Nat → UInt64) c', c ≤ c' → St TT c' X3 I3 J3 D3 → LawB G n0 n1 X3 → (∀ p, p < 273 → I3 p = G p) → WO 348 SC RC QD (fun v X2 QJ2 I2 J2 D2 => LdP TT I0 v X2 I2 J2 D2) (ex (348, 327, [.ref 0, .int (nI i), dv, dv], [], 348, SC, RC, ovr I3 X3, ovr J3 QJ, ovr D3 QD)) := fun X3 I3 J3 D3 c' hc' s3 lb3 f3 => by
        rw [eC_348_327, nI_1]
        exact ih (i + 1) (by omega) X3 I3 J3 D3 QJ c' (by omega) s3 lb3 f3
      rcases W_pair (G := G) h16 32 0 0 (fun _ => -1, fun _ => -1) (Nat.zero_le _) (Nat.zero_le _) (by omega) hne (fun _ _ => rfl) i (Nat.zero_le _) hi2 with h | ⟨j2, j3, h, hback⟩
      · rw [← hw] at h
        subst h
        rw [eC_348_295, decide_eq_false (show ¬ (-1 : Int32) ≠ -1 from fun h => h rfl), cond_false, eC_348_300]
        exact fin X2 I2 J2 D2 c' (by omega) s2 lb2 f2
      · rw [← hw] at h
        subst h
        obtain ⟨c', rfl⟩ : ∃ d, c' = d + 1 := ⟨c' - 1, by omega⟩
        rw [eC_348_295, decide_eq_true (ne_m1 (show j2 < 1000 by omega)), cond_true, eC_348_303]
        refine goK bas_C (by decide) rfl s2 (fun kk _ hi9 => q_part hi9 e.2.1 e.2.2.1 c0 c1 f2 (w := 1) (q := j2) (by decide) (by rw [if_neg (by decide)]; exact j3)) (fun X3 I3 J3 D3 hx3 s3 hl3 => ?_)
        have lb3 : LawB G n0 n1 X3 := lb2.go fun p h1 h2 => hx3 p (by unfold iCRD; omega)
        have f3 : ∀ p, p < 273 → I3 p = G p := fun p hp => (hl3.2 p hp).trans (f2 p hp)
        rw [ka, if_neg (by decide), eC_348_312]
        rcases hback with h | ⟨h1, h⟩
        · rw [h, decide_eq_true rfl, cond_true]
          exact fin X3 I3 J3 D3 c' (by omega) s3 lb3 f3
        · rw [h]
          by_cases w9 : nI (i - 1) = nI i
          · rw [decide_eq_true w9, cond_true]
            exact fin X3 I3 J3 D3 c' (by omega) s3 lb3 f3
          · rw [decide_eq_false w9, cond_false, eC_348_318, show nI i - 1 = nI (i - 1) from nI_sub (a := i) (b := 1) h1, decide_eq_true rfl, cond_true]
            exact fin X3 I3 J3 D3 c' (by omega) s3 lb3 f3
    rw [eC_348_261, inb_n (show i < 5 by omega) (by decide), cond_true, nI_clamp (show i < 2 ^ 31 by omega), show ovr I1 X1 327 i = G 13 i by rw [ovr_hi (by omega)]; exact (lb1.2.1 i hi2).2.2]
    rcases e.2.2.1.1 i hi2 with ht | ⟨j, hj, ht, -⟩
    · rw [decide_eq_true (show G 13 i < 0 by rw [ht]; decide), cond_true]
      exact tail X1 I1 J1 D1 (c + 2) (by omega) s1 lb1 f1
    · have hwt : w = nI j := by
        rw [hw]
        exact W_tie h16 e.2.2.1 hj ht 32 0 0 _ (Nat.zero_le _) (Nat.zero_le _) (by omega) hne (Nat.zero_le _) hi2
      rw [decide_eq_false (show ¬ G 13 i < 0 by rw [ht]; exact nI_pos (by omega)), cond_false, eC_348_271, inb_n (show i < 5 by omega) (by decide), cond_true, nI_clamp (show i < 2 ^ 31 by omega), show ovr I1 X1 327 i = G 13 i by rw [ovr_hi (by omega)]; exact (lb1.2.1 i hi2).2.2, ht, hwt, decide_eq_false (show ¬ nI j ≠ nI j from fun h => h rfl), cond_false, eC_348_281]
      refine goK bas_C (by decide) rfl s1 (fun kk _ hi9 => q_sure hi9 e.2.1 e.2.2.1 c0 c1 f1 hi2 hj (PP_bar h16 hi2 hj ht _ 0 0 (Nat.zero_le _) (Nat.zero_le _) (Nat.le_refl _) (Nat.zero_le _))) (fun X2 I2 J2 D2 hx2 s2 hl2 => ?_)
      rw [ka, eC_348_290, decide_eq_true (show (1 : Int32) ≠ 0 by decide), cond_true]
      rw [hwt] at tail
      exact tail X2 I2 J2 D2 (c + 1) (by omega) s2 (lb1.go fun p h1 h2 => hx2 p (by unfold iCRD; omega)) (fun p hp => (hl2.2 p hp).trans (f1 p hp))
/-- from the walk on -/
theorem lw_walk {I0 X I : Nat → Nat → Int32} {J : Nat → Nat → Int64} {D : Nat → Nat → UInt64} {c : Nat} (h0 : n0 ≤ 5) (h1 : n1 ≤ 5) (hc : 20 ≤ c) (s : St TT c X I J D) (lb : LawB I n0 n1 X) (bl : BkL n0 n1 I0 I) (pr : I0 1 6 = 4 ∧ I0 1 7 = 2 ∧ I0 1 8 = 3) :
    WO 348 SC RC QD (fun v X2 QJ2 I2 J2 D2 => LdP TT I0 v X2 I2 J2 D2) (ex (348, 196, [.ref 0, dv, dv, dv], [], 348, SC, RC, ovr I X, ovr J QJ, ovr D QD)) := by
  obtain ⟨s1, s2, kk, s3, hi⟩ := id s
  obtain ⟨m0, m1, g, tx, lm, c0, c1⟩ := inv_lay hi.2.1
  have q0 : m0 = n0 := (nI_eq (by have := g.1; omega) (by omega)).mp (c0.symm.trans bl.1.1)
  have q1 : m1 = n1 := (nI_eq (by have := g.1; omega) (by omega)).mp (c1.symm.trans bl.1.2)
  subst q0; subst q1
  have e : GoE I m0 m1 := ⟨⟨h0, h1⟩, g, tx, by rw [bl.2.1]; exact pr.1, by rw [bl.2.1]; exact pr.2.1, by rw [bl.2.1]; exact pr.2.2⟩
  obtain ⟨b, hb, hp⟩ := PP_00 g tx
  obtain ⟨w, hw⟩ : ∃ w, w = (PP I m0 m1 (-1) (-1) 0 0).2 := ⟨_, rfl⟩
  have ms : stW (PP I m0 m1 (-1) (-1) 0 0).1 (PP I m0 m1 (-1) (-1) 0 0).2 (none, QJ 0 12) = (some b, w) := by
    rw [hp, ← hw]
    show (some b, 0 + w) = (some b, w)
    rw [Int64.zero_add]
  have m : GoM I m0 m1 (none, QJ 0 12) (ups (ups (ovr I X) 0 11 2147483647) iCRD 0 (nI 0)) (ovr J QJ) := by
    refine ⟨⟨by rw [w_un (by decide), w_us]; rfl, by rw [ovr_o (by decide)]⟩, fun v h => (by cases h), ⟨0, by omega, w_us⟩, lb.go fun p h1 h2 => ?_⟩
    rw [w_un (by unfold iCRD; omega), w_un (by omega), ovr_hi (by omega)]
  have key := g_law (D := ovr D QD) e m
  rw [ms, ups_cm (show iCRD ≠ 0 by decide)] at key
  rw [eC_348_196, goZ (by decide) (by decide) rfl (c := c) (by rw [w_un (by decide), ovr_o (by decide)]; exact s1) (by omega) key (by rw [w_un (by decide), w_un (by decide), ovr_o (by decide)]; exact s1)]
  rw [w_uu, ovr_ups2 (by decide), ovr_upsL2 (by decide)]
  show WO 348 SC RC QD _ (ex (348, 209, [.ref 0, dv, dv, dv], [], 348, SC, RC, ovr I (ups X 0 11 (nI b)), ovr J (upsL QJ 0 12 w), ovr D QD))
  obtain ⟨c, rfl⟩ : ∃ c', c = c' + 2 := ⟨c - 2, by omega⟩
  have s9 : St TT (c + 2) (ups X 0 11 (nI b)) I J D := ⟨by rw [w_un (by decide)]; exact s1, s.2⟩
  rw [eC_348_209]
  refine goK bas_C (by decide) rfl s9 (fun kk _ hi9 => q_lprice hi9 g c0 c1 (fun _ _ => rfl)) (fun X1 I1 J1 D1 hx1 t1 hl1 => ?_)
  rw [ka, hp, eC_348_216, show ovr I1 X1 0 11 = nI b by rw [ovr_o (by decide), hx1 0 (by decide), w_us], decide_eq_false (show ¬ encO 1000000000 (some b) ≠ nI b from fun h => h rfl), cond_false, eC_348_223]
  refine goK bas_C (by decide) rfl t1 (fun kk _ hi9 => q_bways hi9 g c0 c1 (fun p hp => hl1.2 p hp)) (fun X2 I2 J2 D2 hx2 t2 hl2 => ?_)
  have lg : ∀ x : Int64, lg_cmp x x = 0 := fun x => by unfold lg_cmp; simp
  rw [← hw, show (some (Value.long w)).toList ++ [] = [.long w] from rfl, eC_348_230, show ovr J2 (upsL QJ 0 12 w) 0 12 = w by rw [ovr_o (by decide), upsL_s], lg, decide_eq_true rfl, cond_true, eC_348_240]
  refine lw_part e c0 c1 bl.2.1 bl.2.2 m0 0 (by omega) X2 I2 J2 D2 (upsL QJ 0 12 w) c (by omega) t2 (lb.go fun p h1 h2 => ?_) (fun p hp => (hl2.2 p hp).trans (hl1.2 p hp))
  rw [hx2 p (by unfold iCRD; omega), hx1 p (by unfold iCRD; omega), w_un (by omega)]
/-- the whole of isLaid -/
theorem lw_laid {X I : Nat → Nat → Int32} {J : Nat → Nat → Int64} {D : Nat → Nat → UInt64} (s : St TT 60 X I J D) (x27 : ∀ k, k < 5 → X 327 k = -1) (rs : Rs8 (PG I)) :
    WO 348 SC RC QD (fun v X2 QJ2 I2 J2 D2 => LdP TT I v X2 I2 J2 D2) (ex (348, 0, [.ref 0, dv, dv, dv], [], 348, SC, RC, ovr I X, ovr J QJ, ovr D QD)) := by
  obtain ⟨m1, m2, ⟨⟨-, m3⟩, ⟨-, m4⟩, -⟩, ⟨⟨-, m5⟩, ⟨-, m6⟩, -, m7⟩, -⟩ := me0
  have i10 : I 10 4 = nI 0 := by
    have : PG I 9 4 = I 10 4 := pg_at rfl
    rw [← this, rs 9 (by omega)]; exact m3
  have i15 : I 15 4 = nI 0 := by
    have : PG I 14 4 = I 15 4 := pg_at rfl
    rw [← this, rs 14 (by omega)]; exact m4
  have pr : I 1 6 = 4 ∧ I 1 7 = 2 ∧ I 1 8 = 3 := by
    have a1 : PG I 0 6 = I 1 6 := pg_at rfl
    have a2 : PG I 0 7 = I 1 7 := pg_at rfl
    have a3 : PG I 0 8 = I 1 8 := pg_at rfl
    rw [← a1, ← a2, ← a3, rs 0 (by omega)]
    exact ⟨m5, m6, m7⟩
  rw [eC_348_0, eC_348_2, decide_eq_false (show ¬ (2 : Int32) ≤ 0 by decide), cond_false, eC_348_7]
  refine goN nl_C (by decide) (show (6 : Int32) = nI 6 from rfl) ⟨by omega, by omega⟩ s (fun X1 b0 hb0 hx1 s1 => ?_)
  rw [show ([.int 0, .ref 326] : List Value) = [.int (nI 0), .ref 326] from rfl, eC_348_21, inb_n (show 0 < 2 by omega) (by decide), cond_true, nI_clamp (show 0 < 2 ^ 31 by omega), ovr_uph (by omega)]
  have s1' : St TT 60 (ups X1 326 0 (nI b0)) I J D := ⟨by rw [w_un (by decide)]; exact s1.1, s1.2⟩
  refine lw_row (r := 0) (b := b0) (by decide) (by omega) b0 0 (by omega) _ I J D 60 (by omega) s1' (by rw [uIs, uUs]) ⟨i10, fun k hk => absurd hk (Nat.not_lt_zero _)⟩ (fun X2 I2 J2 D2 s2 r2 lk2 ik2 => ?_)
  rw [eC_348_105, show nI 0 + 1 = nI 1 from nI_1 0, eC_348_2, decide_eq_false (show ¬ (2 : Int32) ≤ nI 1 by decide), cond_false, eC_348_7]
  refine goN nl_C (by decide) (show (6 : Int32) = nI 6 from rfl) ⟨by omega, by omega⟩ s2 (fun X3 b1 hb1 hx3 s3 => ?_)
  rw [eC_348_21, inb_n (show 1 < 2 by omega) (by decide), cond_true, nI_clamp (show 1 < 2 ^ 31 by omega), ovr_uph (by omega)]
  have s3' : St TT (60 - b0) (ups X3 326 1 (nI b1)) I2 J2 D2 := ⟨by rw [w_un (by decide)]; exact s3.1, s3.2⟩
  refine lw_row (r := 1) (b := b1) (by decide) (by omega) b1 0 (by omega) _ I2 J2 D2 (60 - b0) (by omega) s3' (by rw [uIs, uUs]) ⟨by rw [ik2 15 (by decide) (by decide) (by omega)]; exact i15, fun k hk => absurd hk (Nat.not_lt_zero _)⟩ (fun X4 I4 J4 D4 s4 r4 lk4 ik4 => ?_)
  rw [eC_348_105, show nI 1 + 1 = nI 2 from nI_1 1, eC_348_2, decide_eq_true (show (2 : Int32) ≤ nI 2 by decide), cond_true, eC_348_111]
  refine goN nl_C (by decide) (show (3 : Int32) = nI 3 from rfl) ⟨by omega, by omega⟩ s4 (fun X5 q hq hx5 s5 => ?_)
  rw [eC_348_119]
  have x45 : ∀ p, p ≠ 328 → X5 p = X4 p := hx5
  have xlo : ∀ p, p = 321 ∨ p = 324 ∨ p = 327 → X5 p = (if p = 327 then X p else X2 p) := fun p hp => by
    rw [x45 p (by omega), lk4 p (by unfold iCRD; omega) (by omega) (by omega) (by omega), uI (by omega), hx3 p (by omega)]
    rcases hp with rfl | rfl | rfl
    · rfl
    · rfl
    · show X2 327 = X 327
      rw [lk2 327 (by decide) (by decide) (by decide) (by decide), uI (by decide), hx1 327 (by decide)]
  have x321 : X5 321 = X2 321 := (xlo 321 (by decide)).trans (if_neg (by decide))
  have x324 : X5 324 = X2 324 := (xlo 324 (by decide)).trans (if_neg (by decide))
  have x327 : X5 327 = X 327 := (xlo 327 (by decide)).trans (if_pos rfl)
  have lb : LawB I4 b0 b1 X5 := by
    refine ⟨⟨?_, ?_⟩, fun k hk => ?_, fun k hk => ?_⟩
    · rw [x45 326 (by decide), lk4 326 (by decide) (by decide) (by decide) (by decide), uIs, uU (by decide), hx3 326 (by decide), lk2 326 (by decide) (by decide) (by decide) (by decide), uIs, uUs]
    · rw [x45 326 (by decide), lk4 326 (by decide) (by decide) (by decide) (by decide), uIs, uUs]
    · obtain ⟨d1, d2, d3⟩ := r2.2 k hk
      have d1 : X2 321 k = I2 11 k := d1
      have d2 : X2 324 k = I2 12 k := d2
      have d3 : I2 13 k = -1 := d3
      rw [x321, x324, x327, ik4 11 (by decide) (by decide) (by omega), ik4 12 (by decide) (by decide) (by omega), ik4 13 (by decide) (by decide) (by omega)]
      exact ⟨d1, d2, (x27 k (by omega)).trans d3.symm⟩
    · obtain ⟨d1, d2, d3⟩ := r4.2 k hk
      have d1 : X4 322 k = I4 16 k := d1
      have d2 : X4 325 k = I4 17 k := d2
      rw [x45 322 (by decide), x45 325 (by decide)]
      exact ⟨d1, d2⟩
  have bl : BkL b0 b1 I I4 := by
    refine ⟨⟨by rw [ik4 10 (by decide) (by decide) (by omega)]; exact r2.1, r4.1⟩, by rw [ik4 1 (by decide) (by decide) (by omega), ik2 1 (by decide) (by decide) (by omega)], fun p h1 h2 => by rw [ik4 p (by omega) h2 (by omega), ik2 p (by omega) h2 (by omega)]⟩
  refine lw_ties (n0 := b0) (n1 := b1) (I0 := I) (by omega) (by omega) q (by omega) X5 I4 J4 D4 (60 - b0 - b1) (by omega) s5 lb bl (fun X' I' J' D' c' w1 w2 w3 w4 => ?_)
  exact lw_walk (by omega) (by omega) (by omega) w2 w3 w4 pr
end LD
