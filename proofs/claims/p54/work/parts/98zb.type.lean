/-! the text: the law's own typing -/
section TP
variable {n : Nat} {S : Nat → Nat × Nat} {R : Nat → Nat → Option Nat}
variable {I : Nat → Nat → Int32} {J : Nat → Nat → Int64} {D : Nat → Nat → UInt64}
/-- the law and the book are where they are -/
def ovS (S : Nat → Nat × Nat) (p : Nat) : Nat × Nat := bif Nat.beq p 0 then (12, 0) else bif Nat.beq p 1 then (10, 0) else S p
def ovR (R : Nat → Nat → Option Nat) (p j : Nat) : Option Nat := bif Nat.beq p 0 then (bif Nat.beq j 0 then some 1 else R p j) else R p j
/-- a text may be called at p -/
def tgd (n : Nat) (S : Nat → Nat × Nat) (p : Nat) : Bool := (Nat.beq (S p).1 43 && (Nat.beq 43 43 || Nat.blt p n)) || (Nat.beq 43 43 && (Nat.beq (S p).1 13 && Nat.blt p n))
theorem tyq_0 {p : Nat} {M : Mm} : ex (355, 0, [.ref 0, .ref p, dv, dv, dv, dv], [], M) = ex (355, 2, [.ref 0, .ref p, .int 0, dv, dv, dv], [], M) := (ex_itr 2 _).trans rfl
theorem tyq_2 {p : Nat} {k : Int32} (h : tgd n S p = true) : ex (355, 2, [.ref 0, .ref p, .int k, dv, dv, dv], [], n, S, R, I, J, D) = bif cG 355 312 I then calK 355 7 [.ref 0, .ref p, .int k, dv, dv, dv] [.int k] (n, S, R, cI 355 312 I, J, D) (ex (312, 0, pad (mxl 312) (ent [.ref p]), [], n, S, R, cI 355 312 I, J, D)) else none := by
  refine Eq.trans (b := ex (355, 4, [.ref 0, .ref p, .int k, dv, dv, dv], [.ref p, .int k], n, S, R, I, J, D)) ((ex_itr 2 _).trans rfl) ?_
  rw [ex_fix]
  have e : st1 (355, 4, [.ref 0, .ref p, .int k, dv, dv, dv], [.ref p, .int k], n, S, R, I, J, D) = bif tgd n S p && ((Nat.ble (csm [.int k]) 8 && Nat.ble (csm [.ref p]) (mxl 312)) && cG 355 312 I) then .inr (.inl (312, [.ref p], (355, 7, [.ref 0, .ref p, .int k, dv, dv, dv], [.int k], (n, S, R, cI 355 312 I, J, D)), [.ref 0, .ref p, .int k, dv, dv, dv])) else hl := rfl
  rw [e, h]
  cases hG : cG 355 312 I with
  | false => rfl
  | true => rfl
theorem tyq_7 {p : Nat} {k l : Int32} {M : Mm} : ex (355, 7, [.ref 0, .ref p, .int k, dv, dv, dv], [.int l, .int k], M) = bif decide (l ≤ k) then ex (355, 68, [dv, dv, dv, dv, dv, dv], [], M) else ex (355, 10, [.ref 0, .ref p, .int k, dv, dv, dv], [], M) := (ex_itr 1 _).trans rfl
theorem tyq_10 {p : Nat} {k : Int32} {M : Mm} : ex (355, 10, [.ref 0, .ref p, .int k, dv, dv, dv], [], M) = ex (355, 15, [.ref 0, .ref p, .int k, .long 0, dv, .int k], [], M) := (ex_itr 4 _).trans rfl
theorem tyq_15 {p : Nat} {k i : Int32} {b : Int64} (h : tgd n S p = true) : ex (355, 15, [.ref 0, .ref p, .int k, .long b, dv, .int i], [], n, S, R, I, J, D) = bif cG 355 312 I then calK 355 21 [.ref 0, .ref p, .int k, .long b, dv, .int i] [.int i] (n, S, R, cI 355 312 I, J, D) (ex (312, 0, pad (mxl 312) (ent [.ref p]), [], n, S, R, cI 355 312 I, J, D)) else none := by
  refine Eq.trans (b := ex (355, 18, [.ref 0, .ref p, .int k, .long b, dv, .int i], [.ref p, .int i], n, S, R, I, J, D)) ((ex_itr 2 _).trans rfl) ?_
  rw [ex_fix]
  have e : st1 (355, 18, [.ref 0, .ref p, .int k, .long b, dv, .int i], [.ref p, .int i], n, S, R, I, J, D) = bif tgd n S p && ((Nat.ble (csm [.int i]) 8 && Nat.ble (csm [.ref p]) (mxl 312)) && cG 355 312 I) then .inr (.inl (312, [.ref p], (355, 21, [.ref 0, .ref p, .int k, .long b, dv, .int i], [.int i], (n, S, R, cI 355 312 I, J, D)), [.ref 0, .ref p, .int k, .long b, dv, .int i])) else hl := rfl
  rw [e, h]
  cases hG : cG 355 312 I with
  | false => rfl
  | true => rfl
theorem tyq_21 {p : Nat} {k i l : Int32} {b : Int64} {M : Mm} : ex (355, 21, [.ref 0, .ref p, .int k, .long b, dv, .int i], [.int l, .int i], M) = bif decide (l ≤ i) then ex (355, 52, [.ref 0, .ref p, .int k, .long b, dv, dv], [], M) else ex (355, 24, [.ref 0, .ref p, .int k, .long b, dv, .int i], [], M) := (ex_itr 1 _).trans rfl
theorem tyq_24 {p : Nat} {k i : Int32} {b : Int64} {M : Mm} : ex (355, 24, [.ref 0, .ref p, .int k, .long b, dv, .int i], [], M) = bif decide (k + 8 ≤ i) then ex (355, 52, [.ref 0, .ref p, .int k, .long b, dv, dv], [], M) else ex (355, 33, [.ref 0, .ref p, .int k, .long b, dv, .int i], [], M) := (ex_itr 5 _).trans rfl
theorem tyq_33 {p : Nat} {k i : Int32} {b : Int64} (h : tgd n S p = true) : ex (355, 33, [.ref 0, .ref p, .int k, .long b, dv, .int i], [], n, S, R, I, J, D) = bif cG 355 315 I then calK 355 43 [.ref 0, .ref p, .int k, dv, dv, .int i] [.long (b <<< ((8 : Int32).toInt64 &&& 63))] (n, S, R, cI 355 315 I, J, D) (ex (315, 0, pad (mxl 315) (ent [.ref p, .int i]), [], n, S, R, cI 355 315 I, J, D)) else none := by
  refine Eq.trans (b := ex (355, 40, [.ref 0, .ref p, .int k, .long b, dv, .int i], [.int i, .ref p, .long (b <<< ((8 : Int32).toInt64 &&& 63))], n, S, R, I, J, D)) ((ex_itr 5 _).trans rfl) ?_
  rw [ex_fix]
  have e : st1 (355, 40, [.ref 0, .ref p, .int k, .long b, dv, .int i], [.int i, .ref p, .long (b <<< ((8 : Int32).toInt64 &&& 63))], n, S, R, I, J, D) = bif tgd n S p && ((Nat.ble (csm [.long (b <<< ((8 : Int32).toInt64 &&& 63))]) 8 && Nat.ble (csm [.ref p, .int i]) (mxl 315)) && cG 355 315 I) then .inr (.inl (315, [.ref p, .int i], (355, 43, [.ref 0, .ref p, .int k, dv, dv, .int i], [.long (b <<< ((8 : Int32).toInt64 &&& 63))], (n, S, R, cI 355 315 I, J, D)), [.ref 0, .ref p, .int k, .long b, dv, .int i])) else hl := rfl
  rw [e, h]
  cases hG : cG 355 315 I with
  | false => rfl
  | true => rfl
theorem tyq_43 {p : Nat} {k i c : Int32} {b : Int64} {M : Mm} : ex (355, 43, [.ref 0, .ref p, .int k, dv, dv, .int i], [.int c, .long b], M) = ex (355, 15, [.ref 0, .ref p, .int k, .long (b ||| c.toInt64), dv, .int (i + 1)], [], M) := (ex_itr 5 _).trans rfl
theorem tyq_52 {p : Nat} {k : Int32} {b : Int64} : ex (355, 52, [.ref 0, .ref p, .int k, .long b, dv, dv], [], n + 2, ovS S, ovR R, I, J, D) = bif cG 355 133 I then calK 355 60 [.ref 0, .ref p, .int k, dv, dv, dv] [] (n + 2, ovS S, ovR R, cI 355 133 I, J, D) (ex (133, 0, [.ref 1, .long b, dv, dv], [], n + 2, ovS S, ovR R, cI 355 133 I, J, D)) else none := by
  refine Eq.trans (b := ex (355, 57, [.ref 0, .ref p, .int k, .long b, dv, dv], [.long b, .ref 1], n + 2, ovS S, ovR R, I, J, D)) ((ex_itr 3 _).trans rfl) ?_
  exact ex_cb (x := .inr (.inl (133, [.ref 1, .long b], (355, 60, [.ref 0, .ref p, .int k, dv, dv, dv], [], (n + 2, ovS S, ovR R, cI 355 133 I, J, D)), [.ref 0, .ref p, .int k, .long b, dv, dv]))) rfl
theorem tyq_60 {p : Nat} {k c : Int32} {M : Mm} : ex (355, 60, [.ref 0, .ref p, .int k, dv, dv, dv], [.int c], M) = ex (355, 2, [.ref 0, .ref p, .int (k + 8), dv, dv, dv], [], M) := (ex_itr 3 _).trans rfl
theorem tyq_68 {M : Mm} : ex (355, 68, [dv, dv, dv, dv, dv, dv], [], M) = some (.inl none, M) := (ex_itr 1 _).trans rfl
end TP
section TR
variable {n n3 : Nat} {S S3 : Nat → Nat × Nat} {R R3 : Nat → Nat → Option Nat} {QD QD3 : Nat → Nat → UInt64}
variable {Q X : Nat → Nat → Int32} {QJ : Nat → Nat → Int64} {I : Nat → Nat → Int32} {J : Nat → Nat → Int64} {D : Nat → Nat → UInt64}
variable {T c μ a pc : Nat} {ls st l0 : List Value}
variable {Ps : Option Value → (Nat → Nat → Int32) → (Nat → Nat → Int64) → (Nat → Nat → Int32) → (Nat → Nat → Int64) → (Nat → Nat → UInt64) → Prop}
/-- behind a call, not of the book's, that asks something and leaves all as it is -/
theorem goS (hμ : 318 ≤ μ) (ha : cK a = 1) {v : Option Value} (s : St T (c + 1) Q I J D) (e : ∀ Q2, (∀ p, p ≠ iCRD → Q2 p = Q p) → ex (a, 0, l0, [], n, S, R, ovr I Q2, ovr J QJ, ovr D QD) = some (.inl v, n, S, R, ovr I Q2, ovr J QJ, ovr D QD))
    (K : ∀ Q2, (∀ p, p ≠ iCRD → Q2 p = Q p) → St T c Q2 I J D → WO n3 S3 R3 QD3 Ps (ex (μ, pc, ls, v.toList ++ st, n, S, R, ovr I Q2, ovr J QJ, ovr D QD))) :
    WO n3 S3 R3 QD3 Ps (bif cG μ a (ovr I Q) then (calK μ pc ls st (n, S, R, cI μ a (ovr I Q), ovr J QJ, ovr D QD) (ex (a, 0, l0, [], n, S, R, cI μ a (ovr I Q), ovr J QJ, ovr D QD))) else none) := by
  obtain ⟨s1, s2, kk, s3, s4⟩ := s
  obtain ⟨p1, p2⟩ := bk_pay (I := I) (Q := Q) (n := c) hμ ha s1 (by omega)
  rw [p1, cond_true, p2, show (Int32.ofNat c) = nI c from rfl, e _ fun p hp => w_un hp]
  show WO n3 S3 R3 QD3 Ps (ex (μ, pc, ls, v.toList ++ st, cOut μ (n, S, R, ovr I (ups Q iCRD 0 (nI c)), ovr J QJ, ovr D QD) (n, S, R, ovr I (ups Q iCRD 0 (nI c)), ovr J QJ, ovr D QD)))
  rw [out_crd hμ (by show ovr I (ups Q iCRD 0 (nI c)) iCRD 0 = _; rw [ovr_o (by decide)])]
  exact K _ (fun p hp => w_un hp) ⟨w_us, s2, kk, by omega, s4⟩
/-- a text: how long it is, and its letters -/
def TxE (n : Nat) (S : Nat → Nat × Nat) (R : Nat → Nat → Option Nat) (QD : Nat → Nat → UInt64) (QJ : Nat → Nat → Int64) (p L : Nat) (t : Nat → Nat) (Q : Nat → Nat → Int32) : Prop :=
  tgd n S p = true ∧ ∀ Q2, (∀ q, q ≠ iCRD → Q2 q = Q q) → ∀ (I : Nat → Nat → Int32) (J : Nat → Nat → Int64) (D : Nat → Nat → UInt64),
    ex (312, 0, pad (mxl 312) (ent [.ref p]), [], n, S, R, ovr I Q2, ovr J QJ, ovr D QD) = some (.inl (some (.int (nI L))), n, S, R, ovr I Q2, ovr J QJ, ovr D QD) ∧
    ∀ i, i < L → ex (315, 0, pad (mxl 315) (ent [.ref p, .int (nI i)]), [], n, S, R, ovr I Q2, ovr J QJ, ovr D QD) = some (.inl (some (.int (nI (t i)))), n, S, R, ovr I Q2, ovr J QJ, ovr D QD)
theorem TxE.go {p L : Nat} {t : Nat → Nat} {Q Q1 : Nat → Nat → Int32} (h : TxE n S R QD QJ p L t Q) (e : ∀ q, q ≠ iCRD → Q1 q = Q q) : TxE n S R QD QJ p L t Q1 :=
  ⟨h.1, fun Q2 h2 => h.2 Q2 fun q hq => (h2 q hq).trans (e q hq)⟩
/-- eight letters at most are packed -/
theorem ty_in {p L k : Nat} {t : Nat → Nat} (hL : L ≤ 80) (hk : k < L) (ht : ∀ i, i < L → 32 ≤ t i ∧ t i ≤ 126) {cc : Nat} : ∀ d j, j + d = min 8 (L - k) → ∀ (X : Nat → Nat → Int32) c, 2 * d + 1 + cc ≤ c → TxE n S R QD QJ p L t X → St T c X I J D →
    (∀ X2 c2, cc ≤ c2 → St T c2 X2 I J D → (∀ q, q ≠ iCRD → X2 q = X q) → WO n3 S3 R3 QD3 Ps (ex (355, 52, [.ref 0, .ref p, .int (nI k), .long (lN (pk t k (min 8 (L - k)))), dv, dv], [], n, S, R, ovr I X2, ovr J QJ, ovr D QD))) →
    WO n3 S3 R3 QD3 Ps (ex (355, 15, [.ref 0, .ref p, .int (nI k), .long (lN (pk t k j)), dv, .int (nI (k + j))], [], n, S, R, ovr I X, ovr J QJ, ovr D QD)) := by
  intro d
  induction d with
  | zero =>
    intro j hj X c hc tx s K
    obtain ⟨c, rfl⟩ : ∃ c', c = c' + 1 := ⟨c - 1, by omega⟩
    have hj : j = min 8 (L - k) := by omega
    rw [tyq_15 tx.1]
    refine goS (by decide) rfl s (fun Q2 h2 => (tx.2 Q2 h2 I J D).1) (fun X1 hx1 s1 => ?_)
    have fin := K X1 c (by omega) s1 hx1
    rw [← hj] at fin
    rw [ka, tyq_21]
    by_cases h1 : L ≤ k + j
    · rw [decide_eq_true ((nI_leI (a := L) (b := k + j) (by omega) (by omega)).mpr h1), cond_true]
      exact fin
    · rw [decide_eq_false (fun h => h1 ((nI_leI (a := L) (b := k + j) (by omega) (by omega)).mp h)), cond_false, tyq_24, show nI k + 8 = nI (k + 8) from nI_add k 8, decide_eq_true ((nI_leI (a := k + 8) (b := k + j) (by omega) (by omega)).mpr (by omega)), cond_true]
      exact fin
  | succ d ih =>
    intro j hj X c hc tx s K
    obtain ⟨c, rfl⟩ : ∃ c', c = c' + 1 + 1 := ⟨c - 2, by omega⟩
    have hp := pkt_lt (t := t) (k := k) j (fun i hi => by have := ht (k + i) (by omega); omega)
    have h7 : 256 ^ j ≤ 256 ^ 7 := Nat.pow_le_pow_right (by decide) (by omega)
    have hc9 := ht (k + j) (by omega)
    rw [tyq_15 tx.1]
    refine goS (by decide) rfl s (fun Q2 h2 => (tx.2 Q2 h2 I J D).1) (fun X1 hx1 s1 => ?_)
    rw [ka, tyq_21, decide_eq_false (fun h => absurd ((nI_leI (a := L) (b := k + j) (by omega) (by omega)).mp h) (by omega)), cond_false, tyq_24, show nI k + 8 = nI (k + 8) from nI_add k 8, decide_eq_false (fun h => absurd ((nI_leI (a := k + 8) (b := k + j) (by omega) (by omega)).mp h) (by omega)), cond_false, tyq_33 tx.1]
    have tx1 := tx.go hx1
    refine goS (by decide) rfl s1 (fun Q2 h2 => (tx1.2 Q2 h2 I J D).2 (k + j) (by omega)) (fun X2 hx2 s2 => ?_)
    show WO n3 S3 R3 QD3 Ps (ex (355, 43, [.ref 0, .ref p, .int (nI k), dv, dv, .int (nI (k + j))], [.int (nI (t (k + j))), .long (lN (pk t k j) <<< ((8 : Int32).toInt64 &&& 63))], n, S, R, ovr I X2, ovr J QJ, ovr D QD))
    rw [tyq_43, sh8g (by have : (256 : Nat) ^ 7 = 2 ^ 56 := by decide
                         omega) (by omega), nI_1]
    exact ih (j + 1) (by omega) X2 c (by omega) (tx1.go hx2) s2 fun X3 c3 h3 s3 hx3 => K X3 c3 h3 s3 fun q hq => (hx3 q hq).trans ((hx2 q hq).trans (hx1 q hq))
/-- behind the law's own typing -/
def TyP (T L : Nat) (t : Nat → Nat) (X0 I0 : Nat → Nat → Int32) (v : Option Value) (X2 I2 : Nat → Nat → Int32) (J2 : Nat → Nat → Int64) (D2 : Nat → Nat → UInt64) : Prop :=
  (v = none ∧ TxA I2 L t ∧ (∀ p, p < 312 → I2 p = I0 p) ∧ ∀ p, p ≠ iCRD → X2 p = X0 p) ∧ ∃ c2, St T c2 X2 I2 J2 D2
theorem ty_out {n : Nat} (B : Bas (n + 2) S R) (hS : ovS S = S) (hR : ovR R = R) {p L : Nat} {t : Nat → Nat} (hL : L ≤ 80) (ht : ∀ i, i < L → 32 ≤ t i ∧ t i ≤ 126) {X0 I0 : Nat → Nat → Int32} : ∀ r k, L ≤ k + r → k ≤ 200 → ∀ (X I : Nat → Nat → Int32) (J : Nat → Nat → Int64) (D : Nat → Nat → UInt64) c, 5 * (L - k) + 1 ≤ c → TxE (n + 2) S R QD QJ p L t X → St T c X I J D → TxA I (min k L) t → (∀ p, p < 312 → I p = I0 p) → (∀ p, p ≠ iCRD → X p = X0 p) →
    WO (n + 2) S R QD (fun v X2 QJ2 I2 J2 D2 => TyP T L t X0 I0 v X2 I2 J2 D2 ∧ QJ2 = QJ) (ex (355, 2, [.ref 0, .ref p, .int (nI k), dv, dv, dv], [], n + 2, S, R, ovr I X, ovr J QJ, ovr D QD)) := by
  intro r
  induction r with
  | zero =>
    intro k hk hk2 X I J D c hc tx s ta f fx
    obtain ⟨c, rfl⟩ : ∃ c', c = c' + 1 := ⟨c - 1, by omega⟩
    rw [tyq_2 tx.1]
    refine goS (by decide) rfl s (fun Q2 h2 => (tx.2 Q2 h2 I J D).1) (fun X1 hx1 s1 => ?_)
    rw [ka, tyq_7, decide_eq_true ((nI_leI (a := L) (b := k) (by omega) (by omega)).mpr (by omega)), cond_true, tyq_68]
    rw [show min k L = L by omega] at ta
    exact ⟨_, _, _, _, _, _, rfl, ⟨⟨rfl, ta, f, fun q hq => (hx1 q hq).trans (fx q hq)⟩, c, s1⟩, rfl⟩
  | succ r ih =>
    intro k hk hk2 X I J D c hc tx s ta f fx
    by_cases h0 : L ≤ k
    · exact ih k (by omega) hk2 X I J D c hc tx s ta f fx
    obtain ⟨c, rfl⟩ : ∃ c', c = c' + 1 := ⟨c - 1, by omega⟩
    rw [tyq_2 tx.1]
    refine goS (by decide) rfl s (fun Q2 h2 => (tx.2 Q2 h2 I J D).1) (fun X1 hx1 s1 => ?_)
    rw [ka, tyq_7, decide_eq_false (fun h => h0 ((nI_leI (a := L) (b := k) (by omega) (by omega)).mp h)), cond_false, tyq_10]
    obtain ⟨j, hj⟩ : ∃ j, j = min 8 (L - k) := ⟨_, rfl⟩
    refine ty_in hL (by omega) ht (cc := 5 * (L - (k + 8)) + 2) j 0 (by omega) X1 c (by omega) (tx.go hx1) s1 (fun X2 c2 h2 s2 hx2 => ?_)
    rw [← hj]
    obtain ⟨c2, rfl⟩ : ∃ c', c2 = c' + 1 := ⟨c2 - 1, by omega⟩
    have e := tyq_52 (n := n) (S := S) (R := R) (I := ovr I X2) (J := ovr J QJ) (D := ovr D QD) (p := p) (k := nI k) (b := lN (pk t k j))
    rw [hS, hR] at e
    rw [e]
    rw [show min k L = k by omega] at ta
    refine goK B (by decide) rfl s2 (fun kk _ hi => a_typ8 hi (by omega) (fun i h => ht (k + i) (by omega)) ta (by omega)) (fun X3 I3 J3 D3 hx3 s3 hp => ?_)
    obtain ⟨ta3, f3⟩ := hp
    rw [ka, tyq_60, show nI k + 8 = nI (k + 8) from nI_add k 8]
    refine ih (k + 8) (by omega) (by omega) X3 I3 J3 D3 c2 (by omega) (tx.go fun q hq => (hx3 q hq).trans ((hx2 q hq).trans (hx1 q hq))) s3 ?_ (fun p hp => (f3 p hp).trans (f p hp)) (fun q hq => (hx3 q hq).trans ((hx2 q hq).trans ((hx1 q hq).trans (fx q hq))))
    rw [show min (k + 8) L = k + j by omega]
    exact ta3
/-- the law types a text -/
theorem lw_type {n : Nat} (B : Bas (n + 2) S R) (hS : ovS S = S) (hR : ovR R = R) {p L : Nat} {t : Nat → Nat} (hL : L ≤ 19) (ht : ∀ i, i < L → 32 ≤ t i ∧ t i ≤ 126) {c : Nat} (hc : 100 ≤ c) (tx : TxE (n + 2) S R QD QJ p L t X) (s : St T c X I J D) (ta : TxA I 0 t) :
    WO (n + 2) S R QD (fun v X2 QJ2 I2 J2 D2 => TyP T L t X I v X2 I2 J2 D2 ∧ QJ2 = QJ) (ex (355, 0, [.ref 0, .ref p, dv, dv, dv, dv], [], n + 2, S, R, ovr I X, ovr J QJ, ovr D QD)) := by
  rw [tyq_0]
  exact ty_out B hS hR (by omega) ht L 0 (by omega) (by decide) X I J D c (by omega) tx s (by rw [Nat.zero_min]; exact ta) (fun _ _ => rfl) (fun _ _ => rfl)
end TR
