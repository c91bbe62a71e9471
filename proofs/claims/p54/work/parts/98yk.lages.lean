/-! ages: the law's methods -/
section LA
variable {m n : Nat} {P Q : Nat → Nat} {W : Nat → Int} {t : Nat → Bool}
variable {I : Nat → Nat → Int32} {J : Nat → Nat → Int64} {D : Nat → Nat → UInt64} {X : Nat → Nat → Int32} {QJ : Nat → Nat → Int64} {QD : Nat → Nat → UInt64} {T c : Nat}
/-- the law's own numbers of bounds; no band is tied yet -/
def LawA (m n : Nat) (P Q : Nat → Nat) (W : Nat → Int) (X : Nat → Nat → Int32) : Prop := (X 0 6 = nI m ∧ X 0 5 = nI n) ∧ (∀ k, k < n → X 317 k = nI (P k) ∧ X 318 k = nI (Q k) ∧ X 319 k = Int32.ofInt (W k)) ∧ ∀ k, k < 5 → X 327 k = -1
theorem LawA.go {X2 : Nat → Nat → Int32} (h : LawA m n P Q W X) (e : ∀ p, p ≠ iCRD → p ≠ 328 → X2 p = X p) : LawA m n P Q W X2 := by
  obtain ⟨⟨h1, h2⟩, h3, h4⟩ := h
  unfold LawA
  rw [e 0 (by decide) (by decide), e 317 (by decide) (by decide), e 318 (by decide) (by decide), e 319 (by decide) (by decide), e 327 (by decide) (by decide)]
  exact ⟨⟨h1, h2⟩, h3, h4⟩
theorem LawA.cr {X2 : Nat → Nat → Int32} (h : LawA m n P Q W X) (e : ∀ p, p ≠ iCRD → X2 p = X p) : LawA m n P Q W X2 := h.go fun p h1 _ => e p h1
theorem LawA.dw {X2 : Nat → Nat → Int32} (h : LawA m n P Q W X) (e : ∀ p, p ≠ 328 → X2 p = X p) : LawA m n P Q W X2 := h.go fun p _ h1 => e p h1
/-- the rest of the page is as at first -/
def Rst (G : Nat → Nat → Int32) : Prop := ∀ o, o = 0 ∨ 8 ≤ o → G o = gM0 o
theorem rst_ups {G : Nat → Nat → Int32} {o k : Nat} {x : Int32} (h : Rst G) (ho : 1 ≤ o ∧ o < 8) : Rst (ups G o k x) := fun o' ho' => by
  rw [uI (by omega)]
  exact h o' ho'
theorem rst_put {G : Nat → Nat → Int32} {n a b : Nat} {wv : Int} (h : Rst G) : Rst (PutG n a b wv G) := by
  unfold PutG
  exact rst_ups (rst_ups (rst_ups (rst_ups (rst_ups (rst_ups h (by decide)) (by decide)) (by decide)) (by decide)) (by decide)) (by decide)
def AgS (m n : Nat) (P Q : Nat → Nat) (W : Nat → Int) (X I : Nat → Nat → Int32) : Prop := AgeW m n P Q W ∧ AgeG m n P Q W (fun _ => true) (PG I) ∧ LawA m n P Q W X ∧ Rst (PG I)
theorem AgS.go {X2 I2 : Nat → Nat → Int32} (h : AgS m n P Q W X I) (e : ∀ p, p ≠ iCRD → p ≠ 328 → X2 p = X p) (k : PG I2 = PG I) : AgS m n P Q W X2 I2 := by
  obtain ⟨h1, h2, h3, h4⟩ := h
  exact ⟨h1, by rw [k]; exact h2, h3.go e, by rw [k]; exact h4⟩
def hv (o : Option Int) : Int32 := match o with
  | some s => Int32.ofInt s
  | none => 2147483647
theorem ctc322 : ctc 322 3 3 = some 7 := by decide +kernel
theorem lw_high (s : St T 2 X I J D) (w : AgeW m n P Q W) (ag : AgeG m n P Q W t (PG I)) {a b : Nat} (ha : a ≤ m) (hb : b ≤ m) :
    WP 329 S54 R54 QD T X QJ (fun v I2 => v = some (.int (hv (LSu n P Q W t b a 16))) ∧ Same I I2) (ex (322, 0, [.ref 1, .int (nI a), .int (nI b), dv], [], 329, S54, R54, ovr I X, ovr J QJ, ovr D QD)) := by
  rw [eA_322_0]
  cases e : LSu n P Q W t b a 16 with
  | none =>
    refine goE bas_A (by decide) rfl ctc322 (c := 1) s (fun kk _ hi => q_highN hi w ag ha hb e) (fun X2 I2 J2 D2 hx s2 hs => ?_)
    rw [eA_322_7]
    exact wp_ret ⟨rfl, hs⟩ hx s2
  | some s0 =>
    refine goM bas_A (by decide) rfl (c := 1) s (fun kk _ hi => q_highS hi w ag ha hb e) (fun X2 I2 J2 D2 hx s2 hs => ?_)
    rw [ka, eA_322_6]
    exact wp_ret ⟨rfl, hs⟩ hx s2
/-- the ring's walk -/
theorem lw_ring1 (w : AgeW m n P Q W) {a b u0 : Nat} {ks fr : Nat → Nat} {wv s0 : Int} (hw : -9999 ≤ wv ∧ wv ≤ 9999) (hu : u0 < 17) (e0 : SS n P Q W t a u0 b = some s0) (hs0 : s0 + wv < 0) (hp : PathOK n P Q W t a u0 b ks fr) (ha : a < 17) :
    ∀ r i, i + r = u0 → ∀ (X I : Nat → Nat → Int32) (J : Nat → Nat → Int64) (D : Nat → Nat → UInt64) (c : Nat) (si : Int), r + 1 ≤ c → St T c X I J D → LawA m n P Q W X → I 245 3 = nI (1 + u0) → (∀ i, i < u0 → I 264 (i + 1) = nI (ks i)) → SS n P Q W t a (u0 - i) (fr i) = some si →
      WP 329 S54 R54 QD T X QJ (fun v I2 => v = some (.int 1) ∧ Same I I2) (ex (323, 38, [.ref 0, .int (nI a), dv, dv, .int (nI (1 + u0)), .int (Int32.ofInt (wv + s0 - si)), .int (nI (fr i)), .int (nI (i + 1)), dv], [], 329, S54, R54, ovr I X, ovr J QJ, ovr D QD)) := by
  have g := w.2.1
  have sb0 := SS_Bo g u0 b s0 e0
  intro r
  induction r with
  | zero =>
    intro i hi X I J D c si hc s la r4 r6 es
    have hi : i = u0 := by omega
    subst hi
    rw [Nat.sub_self] at es
    have es : (if fr i = a then some 0 else none) = some si := es
    by_cases q : fr i = a
    · rw [if_pos q] at es
      have es := Option.some.inj es
      subst es
      rw [eA_323_38, decide_eq_true (show nI (1 + i) ≤ nI (i + 1) from (nI_leI (by omega) (by omega)).mpr (by omega)), cond_true, eA_323_111, q, decide_eq_false (fun h => h rfl), cond_false, eA_323_117, decide_eq_false (show ¬ (0 : Int32) ≤ Int32.ofInt (wv + s0 - 0) by rw [oI_0, oI_le (by omega) (by omega)]; omega), cond_false, eA_323_122, eA_323_127, decide_eq_true (Or.inr rfl), cond_true]
      exact wp_ret ⟨rfl, Same.rfl'⟩ (fun _ _ => rfl) s
    · rw [if_neg q] at es; cases es
  | succ r ih =>
    intro i hi X I J D c si hc s la r4 r6 es
    obtain ⟨⟨p1, p2⟩, p3, -, p4⟩ := hp.2 i (by omega)
    obtain ⟨t1, t2, rr, t3, t4⟩ := ldB_t.mp p3
    rw [show u0 - 1 - i + 1 = u0 - i by omega, es] at t4
    have t4 := Option.some.inj t4
    have n50 := g.1
    obtain ⟨⟨g1, g2, g3⟩, g4, g5⟩ := g.2 (ks i) p1
    obtain ⟨⟨l1, l2⟩, l3, -⟩ := id la
    obtain ⟨x1, x2, x3⟩ := l3 (ks i) p1
    have sbi := SS_Bo g (u0 - i) (fr i) si es
    have sbr := SS_Bo g (u0 - 1 - i) (Q (ks i)) rr t3
    obtain ⟨c, rfl⟩ : ∃ c', c = c' + 1 := ⟨c - 1, by omega⟩
    rw [eA_323_38, decide_eq_false (show ¬ nI (1 + u0) ≤ nI (i + 1) from nI_ge (by omega) (by omega)), cond_false, eA_323_45]
    refine goK bas_A (by decide) rfl s (fun kk _ hi9 => q_rat hi9 (i := i + 1) r4 (by omega) (by omega)) (fun X2 I2 J2 D2 hx s2 hs => ?_)
    have la2 := la.cr hx
    obtain ⟨⟨m1, m2⟩, m3, -⟩ := id la2
    obtain ⟨y1, y2, y3⟩ := m3 (ks i) p1
    have f5 : ovr I2 X2 0 5 = nI n := by rw [ovr_o (by decide)]; exact m2
    have f7 : ovr I2 X2 317 (ks i) = nI (fr i) := by rw [ovr_o (by decide), y1, t2]
    have f9 : ovr I2 X2 319 (ks i) = Int32.ofInt (W (ks i)) := by rw [ovr_o (by decide)]; exact y3
    have f8 : ovr I2 X2 318 (ks i) = nI (fr (i + 1)) := by rw [ovr_o (by decide), y2, p4]
    rw [ka, r6 i (by omega), eA_323_54, decide_eq_false (nI_pos (by omega)), cond_false, eA_323_61, f5, decide_eq_false (show ¬ nI n ≤ nI (ks i) from nI_ge (by omega) (by omega)), cond_false, eA_323_70, inb_n (show ks i < 50 by omega) (by decide), cond_true, nI_clamp (show ks i < 2 ^ 31 by omega), f7, decide_eq_true rfl, cond_true, eA_323_84, inb_n (show ks i < 50 by omega) (by decide), cond_true, cond_true, nI_clamp (show ks i < 2 ^ 31 by omega), f9, f8, oI_a, show wv + s0 - si + W (ks i) = wv + s0 - rr by omega, nI_1]
    refine wo_mono (ih (i + 1) (by omega) X2 I2 J2 D2 c rr (by omega) s2 la2 (by rw [hs.2.2.2.1.1]; exact r4) (fun j hj => by rw [hs.2.2.2.1.2.1]; exact r6 j hj) (by rw [p4, show u0 - (i + 1) = u0 - 1 - i by omega]; exact t3)) (fun v X3 QJ3 I3 J3 D3 ⟨⟨⟨q1, q2⟩, q3, q4⟩, q5⟩ => ⟨⟨⟨q1, hs.tr q2⟩, fun p hp => (q3 p hp).trans (hx p hp), q4⟩, q5⟩)
theorem lw_ring (s : St T 25 X I J D) (w : AgeW m n P Q W) (la : LawA m n P Q W X) {a b : Nat} (ha : a ≤ m) {wv : Int} (hw : -9999 ≤ wv ∧ wv ≤ 9999) (h : RingI n P Q W t a b wv I) :
    WP 329 S54 R54 QD T X QJ (fun v I2 => v = some (.int 1) ∧ Same I I2) (ex (323, 0, [.ref 0, .int (nI a), .int (nI b), .int (Int32.ofInt wv), dv, dv, dv, dv, dv], [], 329, S54, R54, ovr I X, ovr J QJ, ovr D QD)) := by
  obtain ⟨u0, ks, fr, hu, ⟨s0, e0, hs0⟩, hp, r4, r5, r6⟩ := h
  have h16 := w.1
  rw [eA_323_0]
  refine goK bas_A (by decide) rfl (c := 24) s (fun kk _ hi => q_rlen hi) (fun X2 I2 J2 D2 hx s2 hs => ?_)
  rw [ka, r4, eA_323_7, decide_eq_false (show ¬ nI (1 + u0) < 2 from fun q => by have := (nI_ltI (a := 1 + u0) (b := 2) (by omega) (by decide)).mp q; omega), cond_false, eA_323_15]
  refine goK bas_A (by decide) rfl (c := 23) s2 (fun kk _ hi => q_rat hi (i := 0) (l := 1 + u0) (by rw [hs.2.2.2.1.1]; exact r4) (by omega) (by omega)) (fun X3 I3 J3 D3 hx3 s3 hs3 => ?_)
  rw [ka, show I2 264 0 = -1 by rw [hs.2.2.2.1.2.1]; exact r5, eA_323_23, decide_eq_true rfl, cond_true, eA_323_29]
  have key := lw_ring1 (QJ := QJ) (QD := QD) (T := T) w hw hu.2 e0 hs0 hp (show a < 17 by omega) u0 0 (by omega) X3 I3 J3 D3 23 s0 (by omega) s3 ((la.cr hx).cr hx3) (by rw [hs3.2.2.2.1.1, hs.2.2.2.1.1]; exact r4) (fun i hi => by rw [hs3.2.2.2.1.2.1, hs.2.2.2.1.2.1]; exact r6 i hi) (by rw [hp.1, Nat.sub_zero]; exact e0)
  rw [hp.1, show wv + s0 - s0 = wv by omega] at key
  exact wo_mono key (fun v X4 QJ4 I4 J4 D4 ⟨⟨⟨q1, q2⟩, q3, q4⟩, q5⟩ => ⟨⟨⟨q1, (hs.tr hs3).tr q2⟩, fun p hp => ((q3 p hp).trans (hx3 p hp)).trans (hx p hp), q4⟩, q5⟩)
/-- a bound by least() or most(): it fits, or a ring is told -/
def BdR (n : Nat) (P Q : Nat → Nat) (W : Nat → Int) (t : Nat → Bool) (a b : Nat) (wv : Int) (I I2 : Nat → Nat → Int32) (v : Option Value) : Prop :=
  ((∀ u, 1 ≤ u → u < 17 → ¬ CnB n P Q W t a b wv u) ∧ v = some (.int (nI n)) ∧ Act I (PutG n a b wv (PG I)) I2) ∨ ((∃ u, (1 ≤ u ∧ u < 17) ∧ CnB n P Q W t a b wv u) ∧ v = some (.int (-1)) ∧ Kpt I I2 ∧ RingI n P Q W t a b wv I2)
theorem ctc321a : ctc 321 9 0 = some 23 := by decide +kernel
theorem ctc321b : ctc 321 19 0 = some 23 := by decide +kernel
theorem lw_least (s : St T 2 X I J D) (w : AgeW m n P Q W) (ag : AgeG m n P Q W t (PG I)) (n50 : n < 50) {a b : Nat} (ha : a ≤ m) (hb : b ≤ m) (hab : a ≠ b) {wv : Int} (hw : -9999 ≤ wv ∧ wv ≤ 9999) {z : Int32} (hz : -z = Int32.ofInt wv) :
    WP 329 S54 R54 QD T X QJ (fun v I2 => BdR n P Q W t a b wv I I2 v) (ex (321, 0, [.ref 1, .int (nI b), .int (nI a), .int z, .int 1, dv], [], 329, S54, R54, ovr I X, ovr J QJ, ovr D QD)) := by
  rw [eA_321_0, decide_eq_false (show ¬ (1 : Int32) = 0 by decide), cond_false, eA_321_5]
  by_cases q : ∃ u, (1 ≤ u ∧ u < 17) ∧ CnB n P Q W t a b wv u
  · refine goE bas_A (by decide) rfl ctc321a (c := 1) s (fun kk _ hi => a_leastN hi w ag n50 ha hb hab hw q hz) (fun X2 I2 J2 D2 hx s2 hs => ?_)
    rw [eA_321_23]
    exact wp_ret (Or.inr ⟨q, rfl, hs⟩) hx s2
  · have q2 : ∀ u, 1 ≤ u → u < 17 → ¬ CnB n P Q W t a b wv u := fun u h1 h2 h3 => q ⟨u, ⟨h1, h2⟩, h3⟩
    refine goM bas_A (by decide) rfl (c := 1) s (fun kk _ hi => a_leastY hi w ag n50 ha hb hab hw q2 hz) (fun X2 I2 J2 D2 hx s2 hs => ?_)
    rw [ka, eA_321_12, eA_321_22]
    exact wp_ret (Or.inl ⟨q2, rfl, hs⟩) hx s2
theorem lw_most (s : St T 2 X I J D) (w : AgeW m n P Q W) (ag : AgeG m n P Q W t (PG I)) (n50 : n < 50) {a b : Nat} (ha : a ≤ m) (hb : b ≤ m) (hab : a ≠ b) {wv : Int} (hw : -9999 ≤ wv ∧ wv ≤ 9999) :
    WP 329 S54 R54 QD T X QJ (fun v I2 => BdR n P Q W t a b wv I I2 v) (ex (321, 0, [.ref 1, .int (nI a), .int (nI b), .int (Int32.ofInt wv), .int 0, dv], [], 329, S54, R54, ovr I X, ovr J QJ, ovr D QD)) := by
  rw [eA_321_0, decide_eq_true rfl, cond_true, eA_321_15]
  by_cases q : ∃ u, (1 ≤ u ∧ u < 17) ∧ CnB n P Q W t a b wv u
  · refine goE bas_A (by decide) rfl ctc321b (c := 1) s (fun kk _ hi => a_mostN hi w ag n50 ha hb hab hw q) (fun X2 I2 J2 D2 hx s2 hs => ?_)
    rw [eA_321_23]
    exact wp_ret (Or.inr ⟨q, rfl, hs⟩) hx s2
  · have q2 : ∀ u, 1 ≤ u → u < 17 → ¬ CnB n P Q W t a b wv u := fun u h1 h2 h3 => q ⟨u, ⟨h1, h2⟩, h3⟩
    refine goM bas_A (by decide) rfl (c := 1) s (fun kk _ hi => a_mostY hi w ag n50 ha hb hab hw q2) (fun X2 I2 J2 D2 hx s2 hs => ?_)
    rw [ka, eA_321_22]
    exact wp_ret (Or.inl ⟨q2, rfl, hs⟩) hx s2
end LA
