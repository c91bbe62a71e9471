/-! holds: the whole run of the law -/
section HO
variable {I : Nat → Nat → Int32} {J : Nat → Nat → Int64} {D : Nat → Nat → UInt64}
theorem eO_357_113 {r : Int32} : ex (357, 113, [.ref 0, dv], [.int r], 354, SO9, RO9, I, J, D) = bif decide (r = 0) then ex (357, 130, [dv, dv], [], 354, SO9, RO9, I, J, D) else ex (357, 116, [.ref 0, dv], [], 354, SO9, RO9, I, J, D) := (ex_itr 1 _).trans rfl
theorem eO_357_116 : ex (357, 116, [.ref 0, dv], [], 354, SO9, RO9, I, J, D) = bif cG 357 140 I then calK 357 123 [dv, dv] [] (354, SO9, RO9, cI 357 140 I, J, D) (ex (140, 0, [.ref 1], [], 354, SO9, RO9, cI 357 140 I, J, D)) else none := Eq.trans (b := ex (357, 120, [.ref 0, dv], [.ref 1], 354, SO9, RO9, I, J, D)) ((ex_itr 2 _).trans rfl) (ex_cb (x := .inr (.inl (140, [.ref 1], (357, 123, [dv, dv], [], (354, SO9, RO9, cI 357 140 I, J, D)), [.ref 0, dv]))) rfl)
theorem eO_357_123 {r : Int32} : ex (357, 123, [dv, dv], [.int r], 354, SO9, RO9, I, J, D) = bif decide (¬ r = 0) then ex (357, 130, [dv, dv], [], 354, SO9, RO9, I, J, D) else ex (357, 126, [dv, dv], [], 354, SO9, RO9, I, J, D) := (ex_itr 1 _).trans rfl
theorem eO_357_126 : ex (357, 126, [dv, dv], [], 354, SO9, RO9, I, J, D) = ex (357, 131, [dv, dv], [.int 1], 354, SO9, RO9, I, J, D) := (ex_itr 2 _).trans rfl
theorem eO_357_131 {r : Int32} : ex (357, 131, [dv, dv], [.int r], 354, SO9, RO9, I, J, D) = bif decide (r = 0 ∨ r = 1) then some (.inl (some (.int r)), 354, SO9, RO9, I, J, D) else none := (ex_itr 1 _).trans rfl
variable {n n2 n3 : Nat} {S S2 S3 : Nat → Nat × Nat} {R R2 R3 : Nat → Nat → Option Nat} {QD QD2 QD3 : Nat → Nat → UInt64}
variable {X : Nat → Nat → Int32} {QJ : Nat → Nat → Int64}
variable {T c a pc kk : Nat} {ls st as : List Value}
variable {Ps Pc : Option Value → (Nat → Nat → Int32) → (Nat → Nat → Int64) → (Nat → Nat → Int32) → (Nat → Nat → Int64) → (Nat → Nat → UInt64) → Prop}
theorem s54_t : (S54 313).1 = 9 := by decide +kernel
theorem sC_t : (SC 313).1 = 9 := by decide +kernel
/-- a call of the book's keeps the text -/
theorem call_tx {o : Rs} {P : (Nat → Nat → Int32) → Prop} (ha : tF a = true) (h : Call kk a as o I J D P) : Call kk a as o I J D (fun I2 => P I2 ∧ I2 312 3 = I 312 3) := by
  obtain ⟨I2, J2, D2, hA, hi, hp⟩ := h
  refine ⟨I2, J2, D2, hA, hi, hp, ?_⟩
  have e := hA 329 S54 R54 (fun _ _ => 0) (fun _ _ => 0) (fun _ _ => 0) bas_A
  have hn : 313 < 329 := by decide
  exact (tf_ex (v := I 312 3) ⟨ha, hn, s54_t, rfl⟩ e).2.2
/-- a call of one of the law's own methods, nothing typed ahead of it and behind it -/
theorem goX (ha9 : 318 ≤ a) (ht : tF a = true) (hn : 313 < n) (hS : (S 313).1 = 9) (h0 : I 312 3 = 0) {d : Nat} (hd : cK a = d) (s : St T c X I J D) (ha : d ≤ c)
    (hc : ∀ Q1 T1, (∀ p, p ≠ iCRD → Q1 p = X p) → St T1 d Q1 I J D → WO n2 S2 R2 QD2 (fun v Q2 QJ2 I2 J2 D2 => Pc v Q2 QJ2 I2 J2 D2 ∧ ∃ c2, St T1 c2 Q2 I2 J2 D2) (ex (a, 0, as, [], n, S, R, ovr I Q1, ovr J QJ, ovr D QD)))
    (K : ∀ v Q2 Q3 QJ2 I2 J2 D2, (∀ p, p ≠ iCRD → Q3 p = Q2 p) → St T (c - d) Q3 I2 J2 D2 → Pc v Q2 QJ2 I2 J2 D2 → I2 312 3 = 0 → WO n3 S3 R3 QD3 Ps (ex (357, pc, ls, v.toList ++ st, n2, S2, R2, ovr I2 Q3, ovr J2 QJ2, ovr D2 QD2))) :
    WO n3 S3 R3 QD3 Ps (bif cG 357 a (ovr I X) then (calK 357 pc ls st (n, S, R, cI 357 a (ovr I X), ovr J QJ, ovr D QD) (ex (a, 0, as, [], cIn a (n, S, R, cI 357 a (ovr I X), ovr J QJ, ovr D QD)))) else none) := by
  refine goL (n2 := n2) (S2 := S2) (R2 := R2) (QD2 := QD2) (Pc := fun v Q2 QJ2 I2 J2 D2 => Pc v Q2 QJ2 I2 J2 D2 ∧ I2 312 3 = 0) (by decide) ha9 hd s ha (fun Q1 T1 hq s1 => ?_) (fun v Q2 Q3 QJ2 I2 J2 D2 hq s2 hp => K v Q2 Q3 QJ2 I2 J2 D2 hq s2 hp.1 hp.2)
  exact wo_mono (wo_tx ht hn hS (hc Q1 T1 hq s1)) (fun v Q2 QJ2 I2 J2 D2 h => ⟨⟨h.1.1, h.2.trans h0⟩, h.1.2⟩)
/-- nothing is wrong in the book -/
theorem q_err (h : Inv 5 kk I J D) : Call kk 140 [.ref 1] (.inl (some (.int 0))) I J D (fun _ => True) := by
  obtain ⟨I1, Ig, e, k, hi⟩ := y_50 h
  refine ⟨Ig, J, D, fun n' S' R' QI QJ QD B => ?_, hi, trivial⟩
  rw [tm_kp k]
  exact ans_of (as := [.ref 0]) (o := .inl (some (.int 0))) rfl (gl_of rfl) (fun z hz => by cases hz) e n' S' R' QI QJ QD B
/-- behind holds -/
def HdP (v : Option Value) (_ : Nat → Nat → Int32) (_ : Nat → Nat → Int64) (_ : Nat → Nat → Int32) (_ : Nat → Nat → Int64) (_ : Nat → Nat → UInt64) : Prop := v = some (.int 1)
theorem lw_h5 (s : St T (c + 1) X I J D) : WO 354 SO9 RO9 QD HdP (ex (357, 113, [.ref 0, dv], [.int 1], 354, SO9, RO9, ovr I X, ovr J QJ, ovr D QD)) := by
  rw [eO_357_113, decide_eq_false (show ¬ (1 : Int32) = 0 by decide), cond_false, eO_357_116]
  refine goK bas_O (by decide) rfl s (fun kk _ hi => q_err hi) (fun X2 I2 J2 D2 hx2 s2 hp => ?_)
  rw [ka, eO_357_123, decide_eq_false (show ¬ ¬ (0 : Int32) = 0 from fun h => h rfl), cond_false, eO_357_126, eO_357_131, decide_eq_true (show (1 : Int32) = 0 ∨ (1 : Int32) = 1 from Or.inr rfl), cond_true]
  exact wo_ret rfl
/-- from isLaid on -/
theorem lw_h4 (hc : 1000 ≤ c) (s : St T c X I J D) (x27 : ∀ k, k < 5 → X 327 k = -1) (rs : Rs8 (PG I)) (h0 : I 312 3 = 0) : WO 354 SO9 RO9 (upR (upR (upR QD 349 (fun _ => 0)) 351 (fun _ => 0)) 353 (fun _ => 0)) HdP (ex (357, 81, [.ref 0, dv], [], 348, SC, RC, ovr I X, ovr J QJ, ovr D QD)) := by
  obtain ⟨c, rfl⟩ : ∃ c', c = c' + 1000 := ⟨c - 1000, by omega⟩
  rw [eC_357_81]
  refine goX (n2 := 348) (S2 := SC) (R2 := RC) (QD2 := QD) (Pc := fun v X2 _ I2 _ _ => v = some (.int 1) ∧ ∃ n0 n1, (n0 ≤ 5 ∧ n1 ≤ 5) ∧ (X2 326 0 = nI n0 ∧ X2 326 1 = nI n1) ∧ BkL n0 n1 I I2) (by decide) rfl (by decide) sC_t h0 (d := 60) rfl s (by omega) (fun Q1 T1 hq s1 => lw_laid s1 (fun k hk => by rw [hq 327 (by decide)]; exact x27 k hk) rs) (fun v Q2 X3 QJ3 I3 J3 D3 hq s3 hp t3 => ?_)
  obtain ⟨rfl, n0, n1, ⟨hn0, hn1⟩, ⟨x0, x1⟩, bk⟩ := hp
  rw [ka, eC_357_85, decide_eq_false (show ¬ (1 : Int32) = 0 by decide), cond_false, eC_357_88]
  refine goX (n2 := 348) (S2 := SC) (R2 := RC) (QD2 := QD) (Pc := fun v _ _ I2 _ _ => v = some (.int 1) ∧ DKeep I3 I2) (by decide) rfl (by decide) sC_t t3 (d := 30) rfl s3 (by omega) (fun Q1 T1 hq1 s1 => ?_) (fun v Q4 X4 QJ4 I4 J4 D4 hq4 s4 hp t4 => ?_)
  · exact wo_mono (lw_dated s1 hn0 hn1 (by rw [hq1 326 (by decide), hq 326 (by decide)]; exact x0) (by rw [hq1 326 (by decide), hq 326 (by decide)]; exact x1) bk.1.1 bk.1.2) (fun v Q2 QJ2 I2 J2 D2 h => ⟨⟨h.1.1, h.1.2.1⟩, h.2⟩)
  obtain ⟨rfl, dk⟩ := hp
  rw [ka, eC_357_92, decide_eq_false (show ¬ (1 : Int32) = 0 by decide), cond_false, eC_357_95]
  refine goX (n2 := 348) (S2 := SC) (R2 := RC) (QD2 := QD) (Pc := fun v _ _ I2 _ _ => v = some (.int 1) ∧ BKeep I4 I2) (by decide) rfl (by decide) sC_t t4 (d := 50) rfl s4 (by omega) (fun Q1 T1 hq1 s1 => ?_) (fun v Q5 X5 QJ5 I5 J5 D5 hq5 s5 hp t5 => ?_)
  · exact wo_mono (lw_balanced (by decide) s1) (fun v Q2 QJ2 I2 J2 D2 h => ⟨⟨h.1.1, h.1.2.1⟩, h.2⟩)
  obtain ⟨rfl, bb⟩ := hp
  rw [ka, eC_357_99, decide_eq_false (show ¬ (1 : Int32) = 0 by decide), cond_false, eC_357_102]
  refine goX (n2 := 348) (S2 := SC) (R2 := RC) (QD2 := QD) (Pc := fun v _ _ I2 _ _ => v = some (.int 1) ∧ I2 10 4 = I5 10 4) (by decide) rfl (by decide) sC_t t5 (d := 100) rfl s5 (by omega) (fun Q1 T1 hq1 s1 => ?_) (fun v Q6 X6 QJ6 I6 J6 D6 hq6 s6 hp t6 => ?_)
  · exact wo_mono (lw_kept s1) (fun v Q2 QJ2 I2 J2 D2 h => ⟨⟨h.1.1, h.1.2.1⟩, h.2⟩)
  obtain ⟨rfl, kp⟩ := hp
  have b6 : I6 10 4 = nI n0 := by
    rw [kp, bb 10 (by decide) (by decide) (by decide) (by decide) (by decide), dk 10 (by decide) (by decide) (by decide) (by decide)]
    exact bk.1.1
  rw [ka, eC_357_106, decide_eq_false (show ¬ (1 : Int32) = 0 by decide), cond_false, eC_357_109]
  refine goL (n2 := 354) (S2 := SO9) (R2 := RO9) (QD2 := upR (upR (upR QD 349 (fun _ => 0)) 351 (fun _ => 0)) 353 (fun _ => 0)) (Pc := fun v _ _ _ _ _ => v = some (.int 1)) (by decide) (by decide) (d := 700) rfl s6 (by omega) (fun Q1 T1 hq1 s1 => ?_) (fun v Q7 X7 QJ7 I7 J7 D7 hq7 s7 hp => ?_)
  · exact wo_mono (lw_done s1 b6 (by omega) t6) (fun v Q2 QJ2 I2 J2 D2 h => h)
  obtain rfl := hp
  rw [ka]
  rw [show c + 1000 - 60 - 30 - 50 - 100 - 700 = c + 59 + 1 by omega] at s7
  exact lw_h5 s7
/-- from isDrawn on -/
theorem lw_h3 {m b : Nat} {P Q : Nat → Nat} {W : Nat → Int} (hc : 1400 ≤ c) (s : St T c X I J D) (h1 : 1 ≤ m) (h6 : m ≤ 6) (as : AgS m b P Q W X I) (h0 : I 312 3 = 0) : WO 354 SO9 RO9 (upR (upR (upR (dC QD) 349 (fun _ => 0)) 351 (fun _ => 0)) 353 (fun _ => 0)) HdP (ex (357, 74, [.ref 0, dv], [], 329, S54, R54, ovr I X, ovr J QJ, ovr D QD)) := by
  obtain ⟨-, ag, la, rs⟩ := as
  rw [eA_357_74]
  refine goX (n2 := 348) (S2 := SC) (R2 := RC) (QD2 := dC QD) (Pc := fun v X2 _ I2 _ _ => v = some (.int 1) ∧ Rs8 (PG I2) ∧ ∀ k, k < 5 → X2 327 k = -1) (by decide) rfl (by decide) s54_t h0 (d := 300) rfl s (by omega) (fun Q1 T1 hq s1 => lw_drawn s1 h6 h1 ag.1 (by rw [hq 0 (by decide)]; exact la.1.1) (fun k hk => by rw [hq 327 (by decide)]; exact la.2.2 k hk) rs) (fun v Q2 X3 QJ3 I3 J3 D3 hq s3 hp t3 => ?_)
  obtain ⟨rfl, r8, x27⟩ := hp
  rw [ka, eC_357_78, decide_eq_false (show ¬ (1 : Int32) = 0 by decide), cond_false]
  exact lw_h4 (by omega) s3 (fun k hk => by rw [hq 327 (by decide)]; exact x27 k hk) r8 t3
/-- three times isNarrow -/
theorem lw_h2 {m b : Nat} {P Q : Nat → Nat} {W : Nat → Int} (h1 : 1 ≤ m) (h6 : m ≤ 6) (hb : b ≤ 40) : ∀ q i, i + q = 3 → ∀ (X I : Nat → Nat → Int32) (J : Nat → Nat → Int64) (D : Nat → Nat → UInt64) (QJ : Nat → Nat → Int64) c, 80 * q + 1400 ≤ c → St T c X I J D → AgS m b P Q W X I → I 312 3 = 0 →
    WO 354 SO9 RO9 (upR (upR (upR (dC QD) 349 (fun _ => 0)) 351 (fun _ => 0)) 353 (fun _ => 0)) HdP (ex (357, 54, [.ref 0, .int (nI i)], [], 329, S54, R54, ovr I X, ovr J QJ, ovr D QD)) := by
  intro q
  induction q with
  | zero =>
    intro i hi X I J D QJ c hc s as h0
    have hi : i = 3 := by omega
    subst hi
    rw [eA_357_54, decide_eq_true (show (3 : Int32) ≤ nI 3 by decide), cond_true]
    exact lw_h3 (by omega) s h1 h6 as h0
  | succ q ih =>
    intro i hi X I J D QJ c hc s as h0
    rw [eA_357_54, decide_eq_false (show ¬ (3 : Int32) ≤ nI i from nI_ge (b := 3) (by omega) (by decide)), cond_false, eA_357_59]
    refine goX (n2 := 329) (S2 := S54) (R2 := R54) (QD2 := QD) (Pc := fun v X2 _ I2 _ _ => v = some (.int 1) ∧ AgS m b P Q W X2 I2) (by decide) rfl (by decide) s54_t h0 (d := 80) rfl s (by omega) (fun Q1 T1 hq s1 => ?_) (fun v Q2 X3 QJ3 I3 J3 D3 hq s3 hp t3 => ?_)
    · exact wo_mono (lw_narrow s1 (as.go (fun p h1 _ => hq p h1) rfl) hb h1) (fun v Q2 QJ2 I2 J2 D2 h => ⟨⟨h.1.1, h.1.2.2⟩, h.2⟩)
    obtain ⟨rfl, as3⟩ := hp
    rw [ka, eA_357_63, decide_eq_true (show (1 : Int32) ≠ 0 by decide), cond_true, eA_357_68, nI_1]
    exact ih (i + 1) (by omega) X3 I3 J3 D3 QJ3 (c - 80) (by omega) s3 (as3.go (fun p h1 _ => hq p h1) rfl) t3
/-- from areBound on -/
theorem lw_h1 {m : Nat} (hc : 2100 ≤ c) (s : St T c X I J D) (h1 : 1 ≤ m) (h6 : m ≤ 6) (as : AgS m 0 (fun _ => 0) (fun _ => 0) (fun _ => 0) X I) (h0 : I 312 3 = 0) : WO 354 SO9 RO9 (upR (upR (upR (dC QD) 349 (fun _ => 0)) 351 (fun _ => 0)) 353 (fun _ => 0)) HdP (ex (357, 43, [.ref 0, dv], [], 329, S54, R54, ovr I X, ovr J QJ, ovr D QD)) := by
  rw [eA_357_43]
  refine goX (n2 := 329) (S2 := S54) (R2 := R54) (QD2 := QD) (Pc := fun v X2 _ I2 _ _ => v = some (.int 1) ∧ ∃ b P Q W, b ≤ 11 ∧ AgS m b P Q W X2 I2) (by decide) rfl (by decide) s54_t h0 (d := 400) rfl s (by omega) (fun Q1 T1 hq s1 => ?_) (fun v Q2 X3 QJ3 I3 J3 D3 hq s3 hp t3 => ?_)
  · exact wo_mono (lw_areBound s1 (as.go (fun p h1 _ => hq p h1) rfl) h1) (fun v Q2 QJ2 I2 J2 D2 h => ⟨⟨h.1.1, h.1.2.2⟩, h.2⟩)
  obtain ⟨rfl, b, P, Q, W, hb, as3⟩ := hp
  rw [ka, eA_357_47, decide_eq_true (show (1 : Int32) ≠ 0 by decide), cond_true, eA_357_52]
  exact lw_h2 h1 h6 (by omega) 3 0 rfl X3 I3 J3 D3 QJ3 (c - 400) (by omega) s3 (as3.go (fun p h1 _ => hq p h1) rfl) t3
/-- so many layers so far -/
def LayX (m j : Nat) (X I : Nat → Nat → Int32) : Prop := (X 0 6 = nI m ∧ X 0 5 = nI 0 ∧ ∀ k, k < 5 → X 327 k = -1) ∧ PG I 7 1 = nI j ∧ PG I 1 5 = nI 0 ∧ Rst (PG I)
theorem lay_as {m : Nat} (h16 : m ≤ 16) (h : LayX m m X I) : AgS m 0 (fun _ => 0) (fun _ => 0) (fun _ => 0) X I := by
  obtain ⟨⟨x1, x2, x3⟩, p1, p2, p3⟩ := h
  have z : ∀ k, ¬ k < 0 := Nat.not_lt_zero
  exact ⟨⟨h16, ⟨by decide, fun k hk => absurd hk (z k)⟩, fun k hk => absurd hk (z k)⟩, ⟨p1, p2, fun k hk => absurd hk (z k)⟩, ⟨⟨x1, x2⟩, fun k hk => absurd hk (z k), x3⟩, p3⟩
theorem lw_h0 {m : Nat} (h1 : 1 ≤ m) (h6 : m ≤ 6) : ∀ q j, j + q = m → ∀ (X I : Nat → Nat → Int32) (J : Nat → Nat → Int64) (D : Nat → Nat → UInt64) c, q + 2100 ≤ c → St T c X I J D → LayX m j X I → I 312 3 = 0 →
    WO 354 SO9 RO9 (upR (upR (upR (dC QD) 349 (fun _ => 0)) 351 (fun _ => 0)) 353 (fun _ => 0)) HdP (ex (357, 16, [.ref 0, .int (nI (j + 1))], [], 329, S54, R54, ovr I X, ovr J QJ, ovr D QD)) := by
  intro q
  induction q with
  | zero =>
    intro j hj X I J D c hc s la h0
    have hj : j = m := by omega
    subst hj
    have hv : ovr I X 0 6 = nI j := by rw [ovr_o (by decide)]; exact la.1.1
    rw [eA_357_16, hv, decide_eq_true ((nI_ltI (a := j) (b := j + 1) (by omega) (by omega)).mpr (by omega)), cond_true]
    exact lw_h1 (by omega) s h1 h6 (lay_as (by omega) la) h0
  | succ q ih =>
    intro j hj X I J D c hc s la h0
    obtain ⟨c, rfl⟩ : ∃ c', c = c' + 1 := ⟨c - 1, by omega⟩
    obtain ⟨⟨x1, x2, x3⟩, p1, p2, p3⟩ := la
    have hv : ovr I X 0 6 = nI m := by rw [ovr_o (by decide)]; exact x1
    rw [eA_357_16, hv, decide_eq_false (fun h => absurd ((nI_ltI (a := m) (b := j + 1) (by omega) (by omega)).mp h) (by omega)), cond_false, eA_357_24]
    refine goK bas_A (by decide) rfl s (fun kk _ hi => call_tx rfl (a_lay hi p1 (by omega))) (fun X2 I2 J2 D2 hx2 s2 hp => ?_)
    obtain ⟨⟨hp, -⟩, t2⟩ := hp
    rw [ka, eA_357_31, decide_eq_true rfl, cond_true, eA_357_37, nI_1]
    refine ih (j + 1) (by omega) X2 I2 J2 D2 c (by omega) s2 ⟨⟨by rw [hx2 0 (by decide)]; exact x1, by rw [hx2 0 (by decide)]; exact x2, fun k hk => by rw [hx2 327 (by decide)]; exact x3 k hk⟩, ?_, ?_, ?_⟩ (t2.trans h0)
    · rw [hp]; exact w_us
    · rw [hp, w_un (by decide)]; exact p2
    · rw [hp]; exact rst_ups p3 (by decide)
/-- the whole of holds -/
theorem lw_holds (s : St T 2200 X I J D) (x5 : X 0 5 = nI 0) (x27 : ∀ k, k < 5 → X 327 k = -1) (p1 : PG I 7 1 = nI 0) (p2 : PG I 1 5 = nI 0) (p3 : Rst (PG I)) (h0 : I 312 3 = 0) :
    WO 354 SO9 RO9 (upR (upR (upR (dC QD) 349 (fun _ => 0)) 351 (fun _ => 0)) 353 (fun _ => 0)) HdP (ex (357, 0, [.ref 0, dv], [], 329, S54, R54, ovr I X, ovr J QJ, ovr D QD)) := by
  rw [eA_357_0]
  refine goN nl_A (by decide) (show (5 : Int32) = nI 5 from rfl) ⟨by omega, by omega⟩ s (fun X1 k hk hx1 s1 => ?_)
  rw [eA_357_10, show (2 : Int32) + nI k = nI (2 + k) from nI_add 2 k, ovr_ups2 (by decide)]
  refine lw_h0 (m := 2 + k) (by omega) (by omega) (2 + k) 0 (by omega) _ I J D 2200 (by omega) (st_q s1 (by rw [w_un (by decide)])) ⟨⟨w_us, ?_, fun j hj => ?_⟩, p1, p2, p3⟩ h0
  · rw [w_uk (by decide), hx1 0 (by decide)]; exact x5
  · rw [w_un (by decide), hx1 327 (by decide)]; exact x27 j hj
/-! the start -/
theorem me_27 : Me.2.2.2.1 0 5 = 0 ∧ ∀ k, k < 5 → Me.2.2.2.1 327 k = -1 := by decide +kernel
theorem q0_at (L : Nat) (xs : Nat → Int32) {p j : Nat} (hp : p < 900000) : Q0 L xs p j = Me.2.2.2.1 p j := by
  unfold Q0
  rw [nbeq (show p ≠ iSCL from fun e => by subst e; exact absurd hp (by decide)), cond_false, nbeq (show p ≠ iSCR from fun e => by subst e; exact absurd hp (by decide)), cond_false]
theorem pg_g1 : PG (G1 5 fun _ => 0) = gM0 := nrm_e fun o k hr => by
  have := rl_lt hr
  show G1 5 (fun _ => 0) (1 + o) k = iM (1 + o) k
  rw [i1_at (by omega)]
theorem holds_ok (L : Nat) (xs : Nat → Int32) : HoldsOK L xs := by
  have q1 : ∀ p k, p ≠ 328 → p ≠ iCRD → Q1 L xs 2200 p k = Q0 L xs p k := fun p k h1 h2 => by
    unfold Q1
    rw [w_un h2, w_un h1]
  have qc : Q1 L xs 2200 iCRD 0 = nI 2200 := by
    unfold Q1
    rw [w_us]
    rfl
  obtain ⟨m1, m2, -, -, -, -, -, ⟨-, m3⟩, -⟩ := me0
  have s : St 2200 2200 (Q1 L xs 2200) (G1 5 fun _ => 0) J0 D0 := ⟨qc, by decide, 0, by decide, inv0 5 (fun _ => 0) J0 D0⟩
  have key := lw_holds (QJ := Me.2.2.2.2.1) (QD := Me.2.2.2.2.2) s (by rw [q1 0 5 (by decide) (by decide), q0_at L xs (by decide)]; exact me_27.1) (fun k hk => by rw [q1 327 k (by decide) (by decide), q0_at L xs (by decide)]; exact me_27.2 k hk) (by rw [pg_g1]; exact m1.1.2) (by rw [pg_g1]; exact m1.2.1.2.1) (by rw [pg_g1]; exact fun o _ => rfl) (by rw [i1_at (by decide)]; exact m3)
  obtain ⟨v, X2, QJ2, I2, J2, D2, e, hv⟩ := key
  have hv : v = some (.int 1) := hv
  rw [hv] at e
  have e2 : ex (357, 0, [.ref 0, dv], [], Tm 329 S54 R54 (Q1 L xs 2200) Me.2.2.2.2.1 Me.2.2.2.2.2 (G1 5 fun _ => 0) J0 D0) = some (.inl (some (.int 1)), 354, SO9, RO9, ovr I2 X2, ovr J2 QJ2, ovr D2 (upR (upR (upR (dC Me.2.2.2.2.2) 349 (fun _ => 0)) 351 (fun _ => 0)) 353 (fun _ => 0))) := e
  rw [tm_kp (g1_kp 5 fun _ => 0)] at e2
  exact ⟨_, e2⟩
end HO
