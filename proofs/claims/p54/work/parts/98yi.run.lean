/-! runs of the law's: calls of the book's, of next, of the law's own methods -/
section WL
/-- a run of one of the law's methods ends in the same layout, and gives something back -/
def WO (n : Nat) (S : Nat → Nat × Nat) (R : Nat → Nat → Option Nat) (QD : Nat → Nat → UInt64) (P : Option Value → (Nat → Nat → Int32) → (Nat → Nat → Int64) → (Nat → Nat → Int32) → (Nat → Nat → Int64) → (Nat → Nat → UInt64) → Prop) (x : Option Ou) : Prop :=
  ∃ v Q QJ I J D, x = some (.inl v, n, S, R, ovr I Q, ovr J QJ, ovr D QD) ∧ P v Q QJ I J D
/-- so many calls of the book's are left, and as many were made at most; the book's memory is sound -/
def St (T c : Nat) (Q : Nat → Nat → Int32) (I : Nat → Nat → Int32) (J : Nat → Nat → Int64) (D : Nat → Nat → UInt64) : Prop := Q iCRD 0 = nI c ∧ T ≤ 5000 ∧ ∃ kk, kk + c ≤ T ∧ Inv 5 kk I J D
/-- a call of the book's, wherever the book lies -/
def Ans (a : Nat) (as : List Value) (o : Rs) (I : Nat → Nat → Int32) (J : Nat → Nat → Int64) (D : Nat → Nat → UInt64) (I2 : Nat → Nat → Int32) (J2 : Nat → Nat → Int64) (D2 : Nat → Nat → UInt64) : Prop :=
  ∀ n' S' R' QI QJ QD, Bas n' S' R' → ex (a, 0, as, [], Tm n' S' R' QI QJ QD I J D) = some (o, Tm n' S' R' QI QJ QD I2 J2 D2)
def Call (kk a : Nat) (as : List Value) (o : Rs) (I : Nat → Nat → Int32) (J : Nat → Nat → Int64) (D : Nat → Nat → UInt64) (P : (Nat → Nat → Int32) → Prop) : Prop :=
  ∃ I2 J2 D2, Ans a as o I J D I2 J2 D2 ∧ Inv 5 (kk + 1) I2 J2 D2 ∧ P I2
variable {n n3 : Nat} {S S3 : Nat → Nat × Nat} {R R3 : Nat → Nat → Option Nat} {QD QD3 : Nat → Nat → UInt64}
variable {Q : Nat → Nat → Int32} {QJ : Nat → Nat → Int64} {I : Nat → Nat → Int32} {J : Nat → Nat → Int64} {D : Nat → Nat → UInt64}
variable {T c μ a pc : Nat} {ls st as : List Value}
variable {Ps : Option Value → (Nat → Nat → Int32) → (Nat → Nat → Int64) → (Nat → Nat → Int32) → (Nat → Nat → Int64) → (Nat → Nat → UInt64) → Prop} {P : (Nat → Nat → Int32) → Prop}
theorem out_crd {I2 Q2 : Nat → Nat → Int32} {M : Mm} (hμ : 318 ≤ μ) (h : M.2.2.2.1 iCRD 0 = Q2 iCRD 0) (J2 : Nat → Nat → Int64) (D2 : Nat → Nat → UInt64) : cOut μ M (n, S, R, ovr I2 Q2, J2, D2) = (n, S, R, ovr I2 Q2, J2, D2) := by
  unfold cOut
  rw [Nat.ble_eq.mpr hμ, cond_true, h]
  show (n, S, R, ups (ovr I2 Q2) iCRD 0 (Q2 iCRD 0), J2, D2) = _
  have e : ups (ovr I2 Q2) iCRD 0 (Q2 iCRD 0) = ovr I2 Q2 := by
    funext q j
    by_cases h1 : q = iCRD
    · subst h1
      by_cases h2 : j = 0
      · subst h2; rw [w_us, ovr_o (by decide)]
      · rw [w_uk h2]
    · rw [w_un h1]
  rw [e]
/-- behind a call of the book's that gives something back -/
theorem goK (B : Bas n S R) (hμ : 318 ≤ μ) (ha : cK a = 1) {v : Option Value} (s : St T (c + 1) Q I J D) (hc : ∀ kk, kk ≤ 5000 → Inv 5 kk I J D → Call kk a as (.inl v) I J D P)
    (K : ∀ Q2 I2 J2 D2, (∀ p, p ≠ iCRD → Q2 p = Q p) → St T c Q2 I2 J2 D2 → P I2 → WO n3 S3 R3 QD3 Ps (ex (μ, pc, ls, v.toList ++ st, n, S, R, ovr I2 Q2, ovr J2 QJ, ovr D2 QD))) :
    WO n3 S3 R3 QD3 Ps (bif cG μ a (ovr I Q) then (calK μ pc ls st (n, S, R, cI μ a (ovr I Q), ovr J QJ, ovr D QD) (ex (a, 0, as, [], n, S, R, cI μ a (ovr I Q), ovr J QJ, ovr D QD))) else none) := by
  obtain ⟨s1, s2, kk, s3, s4⟩ := s
  obtain ⟨p1, p2⟩ := bk_pay (I := I) (Q := Q) (n := c) hμ ha s1 (by omega)
  obtain ⟨I2, J2, D2, e, h2, hP⟩ := hc kk (by omega) s4
  have e1 : ex (a, 0, as, [], n, S, R, ovr I (ups Q iCRD 0 (nI c)), ovr J QJ, ovr D QD) = some (.inl v, n, S, R, ovr I2 (ups Q iCRD 0 (nI c)), ovr J2 QJ, ovr D2 QD) := e n S R (ups Q iCRD 0 (nI c)) QJ QD B
  rw [p1, cond_true, p2]
  rw [show (Int32.ofNat c) = nI c from rfl, e1]
  show WO n3 S3 R3 QD3 Ps (ex (μ, pc, ls, v.toList ++ st, cOut μ (n, S, R, ovr I (ups Q iCRD 0 (nI c)), ovr J QJ, ovr D QD) (n, S, R, ovr I2 (ups Q iCRD 0 (nI c)), ovr J2 QJ, ovr D2 QD)))
  rw [out_crd hμ (by show ovr I (ups Q iCRD 0 (nI c)) iCRD 0 = _; rw [ovr_o (by decide)])]
  exact K _ I2 J2 D2 (fun p hp => w_un hp) ⟨w_us, s2, kk + 1, by omega, h2⟩ hP
/-- behind a call of the book's under a handler: it gives something back -/
theorem goM (B : Bas n S R) (hμ : 318 ≤ μ) (ha : cK a = 1) {v : Option Value} {p0 : Nat} {l0 : List Value} (s : St T (c + 1) Q I J D) (hc : ∀ kk, kk ≤ 5000 → Inv 5 kk I J D → Call kk a as (.inl v) I J D P)
    (K : ∀ Q2 I2 J2 D2, (∀ p, p ≠ iCRD → Q2 p = Q p) → St T c Q2 I2 J2 D2 → P I2 → WO n3 S3 R3 QD3 Ps (ex (μ, pc, ls, v.toList ++ st, n, S, R, ovr I2 Q2, ovr J2 QJ, ovr D2 QD))) :
    WO n3 S3 R3 QD3 Ps (bif cG μ a (ovr I Q) then (calM μ p0 l0 pc ls st (n, S, R, cI μ a (ovr I Q), ovr J QJ, ovr D QD) (ex (a, 0, as, [], n, S, R, cI μ a (ovr I Q), ovr J QJ, ovr D QD))) else none) := by
  obtain ⟨s1, s2, kk, s3, s4⟩ := s
  obtain ⟨p1, p2⟩ := bk_pay (I := I) (Q := Q) (n := c) hμ ha s1 (by omega)
  obtain ⟨I2, J2, D2, e, h2, hP⟩ := hc kk (by omega) s4
  have e1 : ex (a, 0, as, [], n, S, R, ovr I (ups Q iCRD 0 (nI c)), ovr J QJ, ovr D QD) = some (.inl v, n, S, R, ovr I2 (ups Q iCRD 0 (nI c)), ovr J2 QJ, ovr D2 QD) := e n S R (ups Q iCRD 0 (nI c)) QJ QD B
  rw [p1, cond_true, p2]
  rw [show (Int32.ofNat c) = nI c from rfl, e1]
  show WO n3 S3 R3 QD3 Ps (ex (μ, pc, ls, v.toList ++ st, cOut μ (n, S, R, ovr I (ups Q iCRD 0 (nI c)), ovr J QJ, ovr D QD) (n, S, R, ovr I2 (ups Q iCRD 0 (nI c)), ovr J2 QJ, ovr D2 QD)))
  rw [out_crd hμ (by show ovr I (ups Q iCRD 0 (nI c)) iCRD 0 = _; rw [ovr_o (by decide)])]
  exact K _ I2 J2 D2 (fun p hp => w_un hp) ⟨w_us, s2, kk + 1, by omega, h2⟩ hP
/-- it throws, and the handler goes on -/
theorem goE (B : Bas n S R) (hμ : 318 ≤ μ) (ha : cK a = 1) {p0 E h : Nat} {l0 : List Value} (hh : ctc μ p0 E = some h) (s : St T (c + 1) Q I J D) (hc : ∀ kk, kk ≤ 5000 → Inv 5 kk I J D → Call kk a as (.inr (.inl E)) I J D P)
    (K : ∀ Q2 I2 J2 D2, (∀ p, p ≠ iCRD → Q2 p = Q p) → St T c Q2 I2 J2 D2 → P I2 → WO n3 S3 R3 QD3 Ps (ex (μ, h, l0, [.ref 1000000], n, S, R, ovr I2 Q2, ovr J2 QJ, ovr D2 QD))) :
    WO n3 S3 R3 QD3 Ps (bif cG μ a (ovr I Q) then (calM μ p0 l0 pc ls st (n, S, R, cI μ a (ovr I Q), ovr J QJ, ovr D QD) (ex (a, 0, as, [], n, S, R, cI μ a (ovr I Q), ovr J QJ, ovr D QD))) else none) := by
  obtain ⟨s1, s2, kk, s3, s4⟩ := s
  obtain ⟨p1, p2⟩ := bk_pay (I := I) (Q := Q) (n := c) hμ ha s1 (by omega)
  obtain ⟨I2, J2, D2, e, h2, hP⟩ := hc kk (by omega) s4
  have e1 : ex (a, 0, as, [], n, S, R, ovr I (ups Q iCRD 0 (nI c)), ovr J QJ, ovr D QD) = some (.inr (.inl E), n, S, R, ovr I2 (ups Q iCRD 0 (nI c)), ovr J2 QJ, ovr D2 QD) := e n S R (ups Q iCRD 0 (nI c)) QJ QD B
  rw [p1, cond_true, p2]
  rw [show (Int32.ofNat c) = nI c from rfl, e1]
  unfold calM
  simp only [hh]
  rw [out_crd hμ (by show ovr I (ups Q iCRD 0 (nI c)) iCRD 0 = _; rw [ovr_o (by decide)])]
  exact K _ I2 J2 D2 (fun p hp => w_un hp) ⟨w_us, s2, kk + 1, by omega, h2⟩ hP
/-- what 'next' is over a layout -/
def NxL (n : Nat) (S : Nat → Nat × Nat) (R : Nat → Nat → Option Nat) : Prop := ∀ {m : Nat}, 0 < m → m < 65536 → ∀ (I : Nat → Nat → Int32) (J : Nat → Nat → Int64) (D : Nat → Nat → UInt64), ex (319, 0, [.ref 328, .int (nI m)], [], n, S, R, I, J, D) = some (.inl (some (.int (nI (drw (I 328 0) m)))), n, S, R, ups I 328 0 (adv (I 328 0)), J, D)
theorem nl_A : NxL 329 S54 R54 := fun h1 h2 => next_A h1 h2
theorem nl_B : NxL 347 SB RB := fun h1 h2 => next_B h1 h2
theorem nl_C : NxL 348 SC RC := fun h1 h2 => next_C h1 h2
theorem goN (N : NxL n S R) (hμ : 318 ≤ μ) {x : Int32} {m : Nat} (hx : x = nI m) (hm : 0 < m ∧ m < 65536) (s : St T c Q I J D)
    (K : ∀ Q2 k, k < m → (∀ p, p ≠ 328 → Q2 p = Q p) → St T c Q2 I J D → WO n3 S3 R3 QD3 Ps (ex (μ, pc, ls, .int (nI k) :: st, n, S, R, ovr I Q2, ovr J QJ, ovr D QD))) :
    WO n3 S3 R3 QD3 Ps (bif cG μ 319 (ovr I Q) then (calK μ pc ls st (n, S, R, cI μ 319 (ovr I Q), ovr J QJ, ovr D QD) (ex (319, 0, [.ref 328, .int x], [], cIn 319 (n, S, R, cI μ 319 (ovr I Q), ovr J QJ, ovr D QD)))) else none) := by
  subst hx
  obtain ⟨s1, s2, kk, s3, s4⟩ := s
  rw [cG_0 (I := I) (Q := Q) (k := c) rfl s1 (by omega), cond_true, cI_0 rfl]
  have hin : cIn 319 (n, S, R, ovr I Q, ovr J QJ, ovr D QD) = (n, S, R, ovr I (ups Q iCRD 0 (Int32.ofNat (cK 319))), ovr J QJ, ovr D QD) := by
    show (n, S, R, ups (ovr I Q) iCRD 0 (Int32.ofNat (cK 319)), ovr J QJ, ovr D QD) = _
    rw [ovr_ups2 (by decide)]
  have e0 : (ovr I (ups Q iCRD 0 (Int32.ofNat (cK 319)))) 328 0 = Q 328 0 := by rw [ovr_o (by decide), w_un (by decide)]
  rw [hin, N hm.1 hm.2, e0]
  have hout : cOut μ (n, S, R, ovr I Q, ovr J QJ, ovr D QD) (n, S, R, ups (ovr I (ups Q iCRD 0 (Int32.ofNat (cK 319)))) 328 0 (adv (Q 328 0)), ovr J QJ, ovr D QD) = (n, S, R, ovr I (ups Q 328 0 (adv (Q 328 0))), ovr J QJ, ovr D QD) := by
    unfold cOut
    rw [Nat.ble_eq.mpr hμ, cond_true]
    show (n, S, R, ups (ups (ovr I (ups Q iCRD 0 (Int32.ofNat (cK 319)))) 328 0 (adv (Q 328 0))) iCRD 0 (ovr I Q iCRD 0), ovr J QJ, ovr D QD) = _
    rw [ovr_ups2 (by decide), ovr_ups2 (by decide), ovr_o (I := I) (Q := Q) (p := iCRD) (by decide), q_put (by decide) rfl]
  show WO n3 S3 R3 QD3 Ps (ex (μ, pc, ls, .int (nI (drw (Q 328 0) m)) :: st, cOut μ (n, S, R, ovr I Q, ovr J QJ, ovr D QD) (n, S, R, ups (ovr I (ups Q iCRD 0 (Int32.ofNat (cK 319)))) 328 0 (adv (Q 328 0)), ovr J QJ, ovr D QD)))
  rw [hout]
  exact K _ (drw (Q 328 0) m) (drw_lt hm.1) (fun p hp => w_un hp) ⟨by rw [w_un (by decide)]; exact s1, s2, kk, s3, s4⟩
/-- a call of one of the law's own methods -/
theorem goL {n2 : Nat} {S2 : Nat → Nat × Nat} {R2 : Nat → Nat → Option Nat} {QD2 : Nat → Nat → UInt64} {Pc : Option Value → (Nat → Nat → Int32) → (Nat → Nat → Int64) → (Nat → Nat → Int32) → (Nat → Nat → Int64) → (Nat → Nat → UInt64) → Prop} (hμ : 318 ≤ μ) (ha9 : 318 ≤ a) {d : Nat} (hd : cK a = d) (s : St T c Q I J D) (ha : d ≤ c)
    (hc : ∀ Q1 T1, (∀ p, p ≠ iCRD → Q1 p = Q p) → St T1 d Q1 I J D → WO n2 S2 R2 QD2 (fun v Q2 QJ2 I2 J2 D2 => Pc v Q2 QJ2 I2 J2 D2 ∧ ∃ c2, St T1 c2 Q2 I2 J2 D2) (ex (a, 0, as, [], n, S, R, ovr I Q1, ovr J QJ, ovr D QD)))
    (K : ∀ v Q2 Q3 QJ2 I2 J2 D2, (∀ p, p ≠ iCRD → Q3 p = Q2 p) → St T (c - d) Q3 I2 J2 D2 → Pc v Q2 QJ2 I2 J2 D2 → WO n3 S3 R3 QD3 Ps (ex (μ, pc, ls, v.toList ++ st, n2, S2, R2, ovr I2 Q3, ovr J2 QJ2, ovr D2 QD2))) :
    WO n3 S3 R3 QD3 Ps (bif cG μ a (ovr I Q) then (calK μ pc ls st (n, S, R, cI μ a (ovr I Q), ovr J QJ, ovr D QD) (ex (a, 0, as, [], cIn a (n, S, R, cI μ a (ovr I Q), ovr J QJ, ovr D QD)))) else none) := by
  subst hd
  obtain ⟨s1, s2, kk, s3, s4⟩ := s
  have hb : Nat.ble 318 μ = true := Nat.ble_eq.mpr hμ
  have e : ovr I Q iCRD 0 = Int32.ofNat c := by rw [ovr_o (by decide)]; exact s1
  have hg : cG μ a (ovr I Q) = true := by
    unfold cG
    rw [hb, cond_true, e]
    exact crd_ge ha (by omega)
  have hi : cI μ a (ovr I Q) = ovr I (ups Q iCRD 0 (nI (c - cK a))) := by
    unfold cI
    rw [hb, cond_true, e, crd_su ha (by omega), ovr_ups2 (by decide)]
    rfl
  have hin : cIn a (n, S, R, ovr I (ups Q iCRD 0 (nI (c - cK a))), ovr J QJ, ovr D QD) = (n, S, R, ovr I (ups Q iCRD 0 (nI (cK a))), ovr J QJ, ovr D QD) := by
    unfold cIn
    rw [Nat.ble_eq.mpr ha9, cond_true]
    show (n, S, R, ups (ovr I (ups Q iCRD 0 (nI (c - cK a)))) iCRD 0 (nI (cK a)), ovr J QJ, ovr D QD) = _
    rw [ovr_ups2 (by decide), w_uu]
  rw [hg, cond_true, hi, hin]
  obtain ⟨v, Q2, QJ2, I2, J2, D2, e1, hp, c2, t1, t2, kk2, t3, t4⟩ := hc (ups Q iCRD 0 (nI (cK a))) (T - (c - cK a)) (fun p hp => w_un hp) ⟨w_us, by omega, kk, by omega, s4⟩
  rw [e1]
  have hout : cOut μ (n, S, R, ovr I (ups Q iCRD 0 (nI (c - cK a))), ovr J QJ, ovr D QD) (n2, S2, R2, ovr I2 Q2, ovr J2 QJ2, ovr D2 QD2) = (n2, S2, R2, ovr I2 (ups Q2 iCRD 0 (nI (c - cK a))), ovr J2 QJ2, ovr D2 QD2) := by
    unfold cOut
    rw [hb, cond_true]
    show (n2, S2, R2, ups (ovr I2 Q2) iCRD 0 (ovr I (ups Q iCRD 0 (nI (c - cK a))) iCRD 0), ovr J2 QJ2, ovr D2 QD2) = _
    rw [ovr_o (I := I) (by decide), w_us, ovr_ups2 (by decide)]
  show WO n3 S3 R3 QD3 Ps (ex (μ, pc, ls, v.toList ++ st, cOut μ (n, S, R, ovr I (ups Q iCRD 0 (nI (c - cK a))), ovr J QJ, ovr D QD) (n2, S2, R2, ovr I2 Q2, ovr J2 QJ2, ovr D2 QD2)))
  rw [hout]
  exact K v Q2 _ QJ2 I2 J2 D2 (fun p hp => w_un hp) ⟨w_us, s2, kk2, by omega, t4⟩ hp
/-- a method that leaves the law's own numbers alone -/
def WP (n : Nat) (S : Nat → Nat × Nat) (R : Nat → Nat → Option Nat) (QD : Nat → Nat → UInt64) (T : Nat) (X : Nat → Nat → Int32) (QJ : Nat → Nat → Int64) (P : Option Value → (Nat → Nat → Int32) → Prop) (x : Option Ou) : Prop :=
  WO n S R QD (fun v X2 QJ2 I2 J2 D2 => (P v I2 ∧ (∀ p, p ≠ iCRD → X2 p = X p) ∧ QJ2 = QJ) ∧ ∃ c2, St T c2 X2 I2 J2 D2) x
theorem goP {P : Option Value → (Nat → Nat → Int32) → Prop} (hμ : 318 ≤ μ) (ha9 : 318 ≤ a) {d : Nat} (hd : cK a = d) (s : St T c Q I J D) (ha : d ≤ c)
    (hc : ∀ Q1 T1, (∀ p, p ≠ iCRD → Q1 p = Q p) → St T1 d Q1 I J D → WP n S R QD T1 Q1 QJ P (ex (a, 0, as, [], n, S, R, ovr I Q1, ovr J QJ, ovr D QD)))
    (K : ∀ v Q3 I2 J2 D2, (∀ p, p ≠ iCRD → Q3 p = Q p) → St T (c - d) Q3 I2 J2 D2 → P v I2 → WO n3 S3 R3 QD3 Ps (ex (μ, pc, ls, v.toList ++ st, n, S, R, ovr I2 Q3, ovr J2 QJ, ovr D2 QD))) :
    WO n3 S3 R3 QD3 Ps (bif cG μ a (ovr I Q) then (calK μ pc ls st (n, S, R, cI μ a (ovr I Q), ovr J QJ, ovr D QD) (ex (a, 0, as, [], cIn a (n, S, R, cI μ a (ovr I Q), ovr J QJ, ovr D QD)))) else none) := by
  refine goL (n2 := n) (S2 := S) (R2 := R) (QD2 := QD) (Pc := fun v Q2 QJ2 I2 _ _ => P v I2 ∧ (∀ p, p ≠ iCRD → Q2 p = Q p) ∧ QJ2 = QJ) hμ ha9 hd s ha (fun Q1 T1 hq s1 => ?_) (fun v Q2 Q3 QJ2 I2 J2 D2 hq s2 hp => ?_)
  · obtain ⟨v, Q2, QJ2, I2, J2, D2, e, ⟨h1, h2, h3⟩, h4⟩ := hc Q1 T1 hq s1
    exact ⟨v, Q2, QJ2, I2, J2, D2, e, ⟨h1, fun p hp => (h2 p hp).trans (hq p hp), h3⟩, h4⟩
  · obtain ⟨h1, h2, h3⟩ := hp
    subst h3
    exact K v Q3 I2 J2 D2 (fun p hp => (hq p hp).trans (h2 p hp)) s2 h1
theorem wp_ret {P : Option Value → (Nat → Nat → Int32) → Prop} {X : Nat → Nat → Int32} {v : Option Value} (h : P v I) (hx : ∀ p, p ≠ iCRD → Q p = X p) (s : St T c Q I J D) : WP n S R QD T X QJ P (some (.inl v, n, S, R, ovr I Q, ovr J QJ, ovr D QD)) := ⟨v, Q, QJ, I, J, D, rfl, ⟨h, hx, rfl⟩, c, s⟩
theorem wo_ret {v : Option Value} (h : Ps v Q QJ I J D) : WO n S R QD Ps (some (.inl v, n, S, R, ovr I Q, ovr J QJ, ovr D QD)) := ⟨v, Q, QJ, I, J, D, rfl, h⟩
theorem wo_mono {Pc : Option Value → (Nat → Nat → Int32) → (Nat → Nat → Int64) → (Nat → Nat → Int32) → (Nat → Nat → Int64) → (Nat → Nat → UInt64) → Prop} {x : Option Ou} (h : WO n S R QD Pc x) (k : ∀ v Q QJ I J D, Pc v Q QJ I J D → Ps v Q QJ I J D) : WO n S R QD Ps x := by
  obtain ⟨v, Q, QJ, I, J, D, e, hp⟩ := h
  exact ⟨v, Q, QJ, I, J, D, e, k _ _ _ _ _ _ hp⟩
/-! calls of the book's, told over the law's memory -/
def glv (v : Value) : Bool := match v with
  | .ref x => Nat.blt x 316
  | _ => true
theorem gl_of {L : List Value} (h : L.all glv = true) : gl L := fun v hv => by
  have h1 := List.all_eq_true.mp h v hv
  cases v with
  | ref x => exact Or.inl (Nat.blt_eq.mp h1)
  | _ => trivial
theorem ans_of {o : Rs} {I2 : Nat → Nat → Int32} {J2 : Nat → Nat → Int64} {D2 : Nat → Nat → UInt64} (hb : bk a = true) (hl : gl as) (hns : ∀ z, o ≠ .inr (.inr z)) (e : ex (a, 0, as, [], mm I J D) = some (o, mm I2 J2 D2)) : Ans a (as.map tv) (tR o) I J D I2 J2 D2 :=
  fun _ _ _ _ _ _ B => tr_ex B hb hl hns e
/-- a question: nothing that lasts is another -/
theorem call_q {kk : Nat} {o : Rs} {I2 : Nat → Nat → Int32} {J2 : Nat → Nat → Int64} {D2 : Nat → Nat → UInt64} (h : Inv 5 kk I J D) (hb : bk a = true) (hl : gl as) (hns : ∀ z, o ≠ .inr (.inr z)) (e : ex (a, 0, as, [], mm I J D) = some (o, mm I2 J2 D2)) (s : Same I I2) : Call kk a (as.map tv) (tR o) I J D (Same I) :=
  ⟨I2, J2, D2, ans_of hb hl hns e, inv_st h s, s⟩
/-- the script's cells at will -/
theorem with_sc {kk : Nat} (x y z : Int32) (h : Inv 5 kk I J D) : ∃ I' : Nat → Nat → Int32, (∀ p, p ≠ 1000002 → I' p = I p) ∧ Inv 5 kk I' J D ∧ ScOK 0 I' ∧ I' 1000002 1 = x ∧ I' 1000002 2 = y ∧ I' 1000002 3 = z := by
  refine ⟨fun p j => bif Nat.beq p 1000002 then (bif Nat.beq j 1 then x else bif Nat.beq j 2 then y else z) else I p j, fun p hp => ?_, ?_, fun j hj => ?_, rfl, rfl, rfl⟩
  · funext j
    have e : Nat.beq p 1000002 = false := by
      cases hb : Nat.beq p 1000002 with
      | false => rfl
      | true => exact absurd (beq_e hb) hp
    show (bif Nat.beq p 1000002 then _ else I p j) = I p j
    rw [e]
    rfl
  · obtain ⟨i0, i1, i2, i3, i4⟩ := h
    have e : ∀ p, p ≠ 1000002 → (fun j => bif Nat.beq p 1000002 then (bif Nat.beq j 1 then x else bif Nat.beq j 2 then y else z) else I p j) = I p := fun p hp => by
      funext j
      have e : Nat.beq p 1000002 = false := by
        cases hb : Nat.beq p 1000002 with
        | false => rfl
        | true => exact absurd (beq_e hb) hp
      show (bif Nat.beq p 1000002 then _ else I p j) = I p j
      rw [e]
      rfl
    obtain ⟨I', hI'⟩ : ∃ I' : Nat → Nat → Int32, I' = fun p j => bif Nat.beq p 1000002 then (bif Nat.beq j 1 then x else bif Nat.beq j 2 then y else z) else I p j := ⟨_, rfl⟩
    have e' : ∀ p, p ≠ 1000002 → I' p = I p := fun p hp => by rw [hI']; exact e p hp
    rw [← hI']
    refine ⟨by rw [e' iSCL (by decide)]; exact i0, i1.go (Nat.le_refl _) (fun o k hr => ?_) (fun y _ => by rw [e' 317 (by decide)]), ?_, txt_stay i3 (by rw [e' 312 (by decide)]) (e' 313 (by decide)) (by rw [e' 316 (by decide)]) (e' 320 (by decide)), rng_stay i4 (by rw [e' 245 (by decide)]) (e' 264 (by decide)) (by rw [e' 316 (by decide)]) (e' 319 (by decide))⟩
    · have := rl_lt hr
      show I' (1 + o) k = I (1 + o) k
      rw [e' (1 + o) (by omega)]
    · obtain ⟨a, x, e9, h1, h2, h3, h4, h5, h6, h7, h8, h9⟩ := i2
      refine ⟨a, x, e9, h1, h2, h3, h4, by rw [e' 0 (by decide)]; exact h5, by rw [e' 0 (by decide)]; exact h6, by rw [e' 316 (by decide)]; exact h7, by rw [e' 316 (by decide)]; exact h8, fun s hs hv => ?_⟩
      refine (h9 s hs hv).go (Nat.le_refl _) (fun o k hr => ?_) (fun y _ => by rw [e' 318 (by decide)])
      have := rl_lt hr
      show I' (29 + 27 * s + o) k = I (29 + 27 * s + o) k
      rw [e' (29 + 27 * s + o) (by omega)]
  · obtain ⟨i0, -⟩ := h
    show 0 ≤ (0 : Int32) + nI j ∧ (0 : Int32) + nI j < (bif Nat.beq iSCL 1000002 then _ else I iSCL 0)
    rw [show Nat.beq iSCL 1000002 = false from by decide, cond_false, i0]
    have : ∀ j, j < 5 → 0 ≤ (0 : Int32) + nI j ∧ (0 : Int32) + nI j < Int32.ofNat 5 := by decide
    exact this j hj
/-- an act: its run over the book beside a ghost whose script is at will -/
theorem call_a {kk : Nat} {o : Rs} {I' I2 : Nat → Nat → Int32} {J2 : Nat → Nat → Int64} {D2 : Nat → Nat → UInt64} (hk : ∀ p, p < 316 → I' p = I p) (hb : bk a = true) (hl : gl as) (hns : ∀ z, o ≠ .inr (.inr z)) (hy : CallY 5 kk a as I' J D) (e : ex (a, 0, as, [], mm I' J D) = some (o, mm I2 J2 D2)) (hP : ∀ I3 : Nat → Nat → Int32, (∀ p, p < 316 → I3 p = I2 p) → P I3) : Call kk a (as.map tv) (tR o) I J D P := by
  obtain ⟨o', I1, J1, D1, e1, I3, J3, D3, k, hi⟩ := hy
  have h9 : (o', mm I1 J1 D1) = (o, mm I2 J2 D2) := Option.some.inj (e1.symm.trans e)
  have h8 : mm I1 J1 D1 = mm I2 J2 D2 := congrArg Prod.snd h9
  unfold mm at h8
  injection h8 with _ h8
  injection h8 with _ h8
  injection h8 with _ h8
  injection h8 with q1 h8
  injection h8 with q2 q3
  subst q1; subst q2; subst q3
  refine ⟨I3, J3, D3, fun n' S' R' QI QJ QD B => ?_, hi, hP I3 (fun p hp => (k p hp).1)⟩
  have k1 : Kp I J D I' J D := fun p hp => ⟨hk p hp, rfl, rfl⟩
  rw [← tm_kp k1, tm_kp k]
  exact ans_of hb hl hns e n' S' R' QI QJ QD B
/-! the page, and the pages that are remembered -/
def PG (I : Nat → Nat → Int32) : Nat → Nat → Int32 := nrm (pgF I 1)
def Hs (I : Nat → Nat → Int32) (l : List (Nat → Nat → Int32)) : Prop := ∃ a x, a ≤ 8 ∧ x < 8 ∧ I 0 2 = nI x ∧ I 0 3 = nI a ∧ l.length ≤ a ∧ ∀ (i : Nat) (g : Nat → Nat → Int32), l[i]? = some g → nrm (pgF I (29 + 27 * ((x + 7 - i) % 8))) = g
theorem pg_at {o k : Nat} (h : rl o k = true) : PG I o k = I (1 + o) k := nrm_at h
theorem Same.pg {I2 : Nat → Nat → Int32} (s : Same I I2) : PG I2 = PG I := nrm_e s.1
theorem pg_lo {I2 : Nat → Nat → Int32} (h : ∀ p, 1 ≤ p → p < 28 → I2 p = I p) : PG I2 = PG I := nrm_e fun o k hr => by
  have := rl_lt hr
  show I2 (1 + o) k = I (1 + o) k
  rw [h (1 + o) (by omega) (by omega)]
theorem hs_of {I2 : Nat → Nat → Int32} {l : List (Nat → Nat → Int32)} (h : Hs I l) (h0 : I2 0 2 = I 0 2 ∧ I2 0 3 = I 0 3) (h1 : ∀ p, 29 ≤ p → p < 245 → I2 p = I p) : Hs I2 l := by
  obtain ⟨a, x, q1, q2, q3, q4, q5, q6⟩ := h
  refine ⟨a, x, q1, q2, h0.1.trans q3, h0.2.trans q4, q5, fun i g hg => ?_⟩
  rw [← q6 i g hg]
  refine nrm_e fun o k hr => ?_
  have := rl_lt hr
  show I2 (29 + 27 * ((x + 7 - i) % 8) + o) k = I (29 + 27 * ((x + 7 - i) % 8) + o) k
  rw [h1 _ (by omega) (by omega)]
theorem Same.hs {I2 : Nat → Nat → Int32} {l : List (Nat → Nat → Int32)} (s : Same I I2) (h : Hs I l) : Hs I2 l := hs_of h s.2.1 s.2.2.1
theorem hs_nil {kk : Nat} (h : Inv 5 kk I J D) : Hs I [] := by
  obtain ⟨a, x, e, h1, h2, h3, h4, h5, h6, -⟩ := h.2.2.1
  exact ⟨a, x, h1, h2, h5, h6, Nat.zero_le _, fun i g hg => by simp at hg⟩
theorem hs_tl {g : Nat → Nat → Int32} {l : List (Nat → Nat → Int32)} (h : Hs I [g]) : Hs I [] := by
  obtain ⟨a, x, q1, q2, q3, q4, q5, q6⟩ := h
  exact ⟨a, x, q1, q2, q3, q4, Nat.zero_le _, fun i g hg => by simp at hg⟩
/-- what is remembered ahead of an act -/
theorem rem_h {kk : Nat} (h : RHis kk I) (h5 : ∀ k, k < 50 → I 6 k = 0 ∨ I 6 k = 1) (J : Nat → Nat → Int64) (D : Nat → Nat → UInt64) : ∃ I', ex (141, 0, [.ref 0, dv], [], mm I J D) = some (.inl none, mm I' J D) ∧ (∀ p, p ≠ 0 → (p < 29 ∨ 245 ≤ p) → I' p = I p) ∧
    ∀ I2 : Nat → Nat → Int32, (I2 0 2 = I' 0 2 ∧ I2 0 3 = I' 0 3) → (∀ p, 29 ≤ p → p < 245 → I2 p = I' p) → ∀ l, l.length ≤ 7 → Hs I l → Hs I2 (PG I :: l) := by
  obtain ⟨a, x, e, h1, h2, h3, h4, h6, h7, -⟩ := h
  obtain ⟨I', e1, c1, c2, c3, c4⟩ := c_rem (kk := 0) h2 h1 h6 h7 h5 J D
  refine ⟨I', e1, fun p h0 hp => c4 p h0 (by omega), fun I2 hz hp l hl hs => ?_⟩
  obtain ⟨a2, x2, q1, q2, q3, q4, q5, q6⟩ := hs
  have ea : a2 = a := (nI_eq (by omega) (by omega)).mp (q4.symm.trans h7)
  have ex : x2 = x := (nI_eq (by omega) (by omega)).mp (q3.symm.trans h6)
  subst ea; subst ex
  refine ⟨min 8 (a2 + 1), (x2 + 1) % 8, by omega, by omega, hz.1.trans c1, hz.2.trans c2, by simp only [List.length_cons]; omega, fun i g hg => ?_⟩
  cases i with
  | zero =>
    have hg : some (PG I) = some g := hg
    rw [← Option.some.inj hg]
    refine nrm_e fun o k hr => ?_
    have := rl_lt hr
    show I2 (29 + 27 * (((x2 + 1) % 8 + 7 - 0) % 8) + o) k = I (1 + o) k
    rw [show ((x2 + 1) % 8 + 7 - 0) % 8 = x2 by omega, hp _ (by omega) (by omega)]
    exact c3 o k hr
  | succ i =>
    have hg : l[i]? = some g := hg
    have hi : i < l.length := (List.getElem?_eq_some_iff.mp hg).1
    rw [← q6 i g hg]
    refine nrm_e fun o k hr => ?_
    have := rl_lt hr
    show I2 (29 + 27 * (((x2 + 1) % 8 + 7 - (i + 1)) % 8) + o) k = I (29 + 27 * ((x2 + 7 - i) % 8) + o) k
    rw [show ((x2 + 1) % 8 + 7 - (i + 1)) % 8 = (x2 + 7 - i) % 8 by omega, hp _ (by omega) (by omega), c4 _ (by omega) (by omega)]
/-- behind an act: the page is another, the one ahead is remembered -/
def Act (I : Nat → Nat → Int32) (G : Nat → Nat → Int32) (I2 : Nat → Nat → Int32) : Prop := PG I2 = G ∧ ∀ l, l.length ≤ 7 → Hs I l → Hs I2 (PG I :: l)
end WL
