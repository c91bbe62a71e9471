/-! the ring of a bound that is refused -/
/-- may a bound be the next one of a chain with the least sum -/
def ldB (n : Nat) (P Q : Nat → Nat) (W : Nat → Int) (t : Nat → Bool) (b l x k : Nat) : Bool := t k && (decide (P k = x) && (match SS n P Q W t b l (Q k) with
  | none => false
  | some r => decide (some (r + W k) = SS n P Q W t b (l + 1) x)))
/-- the ring's bounds one after the other -/
def PathOK (n : Nat) (P Q : Nat → Nat) (W : Nat → Int) (t : Nat → Bool) (b L x : Nat) (ks fr : Nat → Nat) : Prop := fr 0 = x ∧ ∀ i, i < L → (ks i < n ∧ fr i < 17) ∧ ldB n P Q W t b (L - 1 - i) (fr i) (ks i) = true ∧ (∀ j, j < ks i → ldB n P Q W t b (L - 1 - i) (fr i) j = false) ∧ fr (i + 1) = Q (ks i)
/-- does a chain of so many make a ring -/
def CnB (n : Nat) (P Q : Nat → Nat) (W : Nat → Int) (t : Nat → Bool) (p q : Nat) (w : Int) (u : Nat) : Prop := ∃ s, SS n P Q W t p u q = some s ∧ s + w < 0
section RG
variable {I : Nat → Nat → Int32} {J : Nat → Nat → Int64} {D : Nat → Nat → UInt64} {n b : Nat} {P Q : Nat → Nat} {W : Nat → Int} {t : Nat → Bool}
theorem ldB_t {l x k : Nat} : ldB n P Q W t b l x k = true ↔ t k = true ∧ P k = x ∧ ∃ r, SS n P Q W t b l (Q k) = some r ∧ SS n P Q W t b (l + 1) x = some (r + W k) := by
  unfold ldB
  rw [Bool.and_eq_true, Bool.and_eq_true, decide_eq_true_eq]
  refine and_congr_right fun _ => and_congr_right fun _ => ?_
  cases e : SS n P Q W t b l (Q k) with
  | none => exact ⟨fun h => (by cases h), fun ⟨r, h, _⟩ => (by cases h)⟩
  | some r =>
    show decide _ = true ↔ _
    rw [decide_eq_true_eq]
    exact ⟨fun h => ⟨r, rfl, h.symm⟩, fun ⟨r2, h1, h2⟩ => by cases h1; exact h2.symm⟩
theorem path_ex (g : Bds n P Q W) : ∀ L x s, x < 17 → SS n P Q W t b L x = some s → ∃ ks fr, PathOK n P Q W t b L x ks fr
  | 0, x, s, hx, h => ⟨fun _ => 0, fun _ => x, rfl, fun i hi => absurd hi (Nat.not_lt_zero _)⟩
  | L + 1, x, s, hx, h => by
    obtain ⟨k, hk, h1, h2, r, h3, h4⟩ := SF_ch (m := n) h
    have ld : ldB n P Q W t b L x k = true := ldB_t.mpr ⟨h1, h2, r, h3, by rw [h, h4, Int.add_comm]⟩
    obtain ⟨k0, c1, c2, c3⟩ := least_ex (P := fun k => ldB n P Q W t b L x k = true) k k (Nat.le_refl _) ld
    obtain ⟨d1, d2, r0, d3, d4⟩ := ldB_t.mp c2
    obtain ⟨ks, fr, e1, e2⟩ := path_ex g L (Q k0) r0 (g.2 k0 (by omega)).1.2.1 d3
    refine ⟨fun i => match i with
      | 0 => k0
      | i + 1 => ks i, fun i => match i with
      | 0 => x
      | i + 1 => fr i, rfl, fun i hi => ?_⟩
    cases i with
    | zero => exact ⟨⟨by show k0 < n; omega, hx⟩, c2, fun j hj => Bool.eq_false_iff.mpr (c3 j hj), e1⟩
    | succ i =>
      have := e2 i (by omega)
      rw [show L + 1 - 1 - (i + 1) = L - 1 - i by omega]
      exact this
/-! the book's ring -/
theorem ofW (g : Bds n P Q W) {k : Nat} (hk : k < n) {l x : Nat} (hl : l < 17) {r : Int} (hr : SS n P Q W t b l (Q k) = some r) {F : Int32} (hF : okFr F) : Int32.ofInt (r + W k) = fO F (SS n P Q W t b (l + 1) x) ↔ some (r + W k) = SS n P Q W t b (l + 1) x := by
  have a := SS_Bo g l (Q k) r hr
  have c := (g.2 k hk).2
  exact fO_inj (o := some (r + W k)) hF (fun v e => by cases e; have := hF.1; omega) ((SS_Bo g (l + 1) x).fr hF (by omega))
theorem c_ld (g : Bds n P Q W) (bo : BoP n P Q W t I) (hs : TabS n P Q W t b 16 I) {l x k : Nat} (hk : k < n) (hl : l < 16) (hx : x < 17) : ex (10, 2, [.ref 245, .int (nI x), .int (nI (l + 1)), .int (nI k), dv], [], mm I J D) = bif ldB n P Q W t b l x k then some (.inl (some (.int (nI k))), mm I J D) else ex (10, 2, [.ref 245, .int (nI x), .int (nI (l + 1)), .int (nI (k + 1)), dv], [], mm I J D) := by
  obtain ⟨b3, b4, b5, b6⟩ := bo.2 k hk
  obtain ⟨⟨p17, q17, pq⟩, w1, w2⟩ := g.2 k hk
  have n50 := g.1
  have k50 : inb (nI k) 50 = true := inb_n (by omega) (by decide)
  have nx : ex (10, 90, [.ref 245, .int (nI x), .int (nI (l + 1)), .int (nI k), dv], [], mm I J D) = ex (10, 2, [.ref 245, .int (nI x), .int (nI (l + 1)), .int (nI (k + 1)), dv], [], mm I J D) := by rw [e_10_90, nI_1]
  rw [e_10_2, bo.1, decide_eq_false (show ¬ nI n ≤ nI k from nI_ge (by omega) (by omega)), cond_false, e_10_13, k50, cond_true, nI_clamp (by omega), b6]
  unfold ldB
  cases ht : t k with
  | false => rw [decide_eq_true (show bI false = 0 from rfl), cond_true, nx]; rfl
  | true =>
    rw [decide_eq_false (show ¬ bI true = 0 by decide), cond_false, e_10_25, k50, cond_true, nI_clamp (by omega), b3]
    by_cases hp : P k = x
    · rw [decide_eq_false (show ¬ nI (P k) ≠ nI x from fun w => w (by rw [hp])), cond_false, e_10_38, nI_pred, inb_n (show l < 17 by omega) (by decide), cond_true, k50, cond_true, nI_clamp (show k < 2 ^ 31 by omega), b4, inb_n q17 (by decide), cond_true, nI_clamp (show l < 2 ^ 31 by omega), nI_clamp (show Q k < 2 ^ 31 by omega), hs l (by omega) _ q17, decide_eq_true hp]
      cases hr : SS n P Q W t b l (Q k) with
      | none => rw [decide_eq_true (show fO 1000000000 none = 1000000000 from rfl), cond_true, nx]; rfl
      | some r =>
        have a := SS_Bo g l (Q k) r hr
        rw [decide_eq_false (show ¬ fO 1000000000 (some r) = 1000000000 from fO_ne okF9 ⟨by omega, by have := okF9.1; omega⟩), cond_false, e_10_65, k50, cond_true, inb_n (show l + 1 < 17 by omega) (by decide), cond_true, inb_n hx (by decide), cond_true, nI_clamp (show k < 2 ^ 31 by omega), b5, nI_clamp (show l + 1 < 2 ^ 31 by omega), nI_clamp (show x < 2 ^ 31 by omega), hs (l + 1) (by omega) _ hx, show fO 1000000000 (some r) = Int32.ofInt r from rfl, oI_a]
        have key := ofW (x := x) g hk (show l < 17 by omega) hr okF9
        by_cases q : some (r + W k) = SS n P Q W t b (l + 1) x
        · rw [decide_eq_false (fun w => w (key.mpr q)), cond_false, e_10_88]
          show _ = bif (true && (true && decide (some (r + W k) = SS n P Q W t b (l + 1) x))) then _ else _
          rw [decide_eq_true q]; rfl
        · rw [decide_eq_true (show Int32.ofInt (r + W k) ≠ fO 1000000000 (SS n P Q W t b (l + 1) x) from fun w => q (key.mp w)), cond_true, nx]
          show _ = bif (true && (true && decide (some (r + W k) = SS n P Q W t b (l + 1) x))) then _ else _
          rw [decide_eq_false q]; rfl
    · rw [decide_eq_true (show nI (P k) ≠ nI x from fun w => hp ((nI_eq (by omega) (by omega)).mp w)), cond_true, nx, decide_eq_false hp]; rfl
theorem c_ln (g : Bds n P Q W) (bo : BoP n P Q W t I) (hs : TabS n P Q W t b 16 I) {l x k0 : Nat} (hk : k0 < n) (hl : l < 16) (hx : x < 17) (h1 : ldB n P Q W t b l x k0 = true) (h2 : ∀ j, j < k0 → ldB n P Q W t b l x j = false) : ∀ r k, k + r = k0 → ex (10, 2, [.ref 245, .int (nI x), .int (nI (l + 1)), .int (nI k), dv], [], mm I J D) = some (.inl (some (.int (nI k0))), mm I J D)
  | 0, k, h => by
    have : k = k0 := by omega
    subst this
    rw [c_ld g bo hs hk hl hx, h1, cond_true]
  | r + 1, k, h => by
    rw [c_ld g bo hs (show k < n by omega) hl hx, h2 k (by omega), cond_false]
    exact c_ln g bo hs hk hl hx h1 h2 r (k + 1) (by omega)
theorem c_tr (g : Bds n P Q W) {L x : Nat} (hL : L ≤ 16) {ks fr : Nat → Nat} (hp : PathOK n P Q W t b L x ks fr) : ∀ r i, i + r = L → ∀ I : Nat → Nat → Int32, BoP n P Q W t I → TabS n P Q W t b 16 I → I 245 3 = nI (1 + i) →
    ∃ I', ex (9, 17, [.ref 245, dv, dv, .int (nI (fr i)), .int (nI r), dv], [], mm I J D) = some (.inl none, mm I' J D) ∧ (∀ p, p ≠ 245 → p ≠ 264 → I' p = I p) ∧ I' 245 3 = nI (1 + L) ∧ (∀ j, j ≤ i → I' 264 j = I 264 j) ∧ ∀ j, i ≤ j → j < L → I' 264 (j + 1) = nI (ks j)
  | 0, i, h, I, bo, hs, h3 => by
    have : i = L := by omega
    subst this
    exact ⟨I, by rw [e_9_17, decide_eq_true (show nI 0 ≤ 0 by decide), cond_true, e_9_76], fun _ _ _ => rfl, h3, fun _ _ => rfl, fun j h1 h2 => by omega⟩
  | r + 1, i, h, I, bo, hs, h3 => by
    obtain ⟨⟨k1, f1⟩, l1, l2, f2⟩ := hp.2 i (by omega)
    have n50 := g.1
    rw [show L - 1 - i = r by omega] at l1 l2
    obtain ⟨b3, b4, b5, b6⟩ := bo.2 _ k1
    obtain ⟨I1, hI1⟩ : ∃ I1, I1 = ups (ups I 264 (1 + i) (nI (ks i))) 245 3 (nI (1 + (i + 1))) := ⟨_, rfl⟩
    have far : ∀ p, p ≠ 245 → p ≠ 264 → I1 p = I p := fun p h1 h2 => by rw [hI1, uI h1, uI h2]
    obtain ⟨I2, e1, g1, g2, g3, g4⟩ := c_tr g hL hp r (i + 1) (by omega) I1 (bo.go (fun p h1 h2 => far p (by omega) (by omega))) (fun j hj y hy => by rw [far _ (by omega) (by omega)]; exact hs j hj y hy) (by rw [hI1, uIs, uUs])
    have i64 : I1 264 = upd (I 264) (1 + i) (nI (ks i)) := by rw [hI1, uI (by decide), uIs]
    refine ⟨I2, ?_, fun p h1 h2 => by rw [g1 p h1 h2, far p h1 h2], g2, fun j hj => ?_, fun j h1 h2 => ?_⟩
    · have ln := c_ln (J := J) (D := D) g bo hs k1 (show r < 16 by omega) f1 l1 l2 (ks i) 0 (by omega)
      rw [e_9_17, decide_eq_false (show ¬ nI (r + 1) ≤ 0 from nI_ge (a := 0) (b := r + 1) (by omega) (by omega)), cond_false, e_9_22, e_10_0]
      rw [show ex (10, 2, [.ref 245, .int (nI (fr i)), .int (nI (r + 1)), .int 0, dv], [], mm I J D) = _ from ln, cal_v, ka, e_9_29, decide_eq_true (show nI (ks i) ≠ -1 from ne_m1 (by omega)), cond_true, e_9_38, h3, inb_n (show 1 + i < 17 by omega) (by decide), cond_true, inb_n (show ks i < 50 by omega) (by decide), cond_true, nI_clamp (show 1 + i < 2 ^ 31 by omega), nI_clamp (show ks i < 2 ^ 31 by omega), uI (show 245 ≠ 264 by decide), h3, nI_1, nI_m1, nI_pred, show 1 + i + 1 = 1 + (i + 1) by omega, ← hI1, far 4 (by decide) (by decide), b4, ← f2]
      exact e1
    · rw [g3 j (by omega), i64, uU (by omega)]
    · by_cases q : j = i
      · subst q
        rw [g3 (j + 1) (Nat.le_refl _), i64, show 1 + j = j + 1 by omega, uUs]
      · exact g4 j (by omega) h2
/-- the book tells the ring -/
theorem c_ring (g : Bds n P Q W) {L x : Nat} (hL : L ≤ 16) {ks fr : Nat → Nat} (hp : PathOK n P Q W t b L x ks fr) (bo : BoP n P Q W t I) (hs : TabS n P Q W t b 16 I) :
    ∃ I', ex (9, 0, [.ref 245, .int (nI x), .int (nI L), dv, dv, dv], [], mm I J D) = some (.inl none, mm I' J D) ∧ (∀ p, p ≠ 245 → p ≠ 264 → I' p = I p) ∧ I' 245 3 = nI (1 + L) ∧ I' 264 0 = -1 ∧ ∀ j, j < L → I' 264 (j + 1) = nI (ks j) := by
  have far : ∀ p, p ≠ 245 → p ≠ 264 → (ups (ups I 264 0 (-1)) 245 3 1) p = I p := fun p h1 h2 => by rw [uI h1, uI h2]
  obtain ⟨I', e1, h1, h2, h3, h4⟩ := c_tr (J := J) (D := D) g hL hp L 0 (by omega) (ups (ups I 264 0 (-1)) 245 3 1) (bo.go (fun p h1 h2 => far p (by omega) (by omega))) (fun j hj y hy => by rw [far _ (by omega) (by omega)]; exact hs j hj y hy) (by rw [uIs, uUs]; rfl)
  refine ⟨I', ?_, fun p q1 q2 => by rw [h1 p q1 q2, far p q1 q2], h2, ?_, fun j hj => h4 j (Nat.zero_le _) hj⟩
  · rw [e_9_0, ← hp.1]; exact e1
  · rw [h3 0 (Nat.le_refl _), uI (by decide), uIs, uUs]
/-- with how many bounds a new one makes a ring -/
theorem CnB_iff (g : Bds n P Q W) {p q u : Nat} {w : Int} (hu : u ≤ 17) (hw : -9999 ≤ w ∧ w ≤ 9999) {F : Int32} (hF : okFr F) : (fO F (SS n P Q W t p u q) ≠ F ∧ fO F (SS n P Q W t p u q) + Int32.ofInt w < 0) ↔ CnB n P Q W t p q w u := by
  unfold CnB
  cases e : SS n P Q W t p u q with
  | none => exact ⟨fun h => absurd rfl h.1, fun ⟨s, h, _⟩ => by cases h⟩
  | some s =>
    have a := SS_Bo g u q s e
    have k : Int32.ofInt s + Int32.ofInt w < 0 ↔ s + w < 0 := by
      rw [oI_a, oI_0, oI_lt (by omega) (by omega)]
    refine ⟨fun h => ⟨s, rfl, k.mp h.2⟩, fun ⟨s2, h1, h2⟩ => ?_⟩
    cases h1
    exact ⟨fO_ne hF ⟨by omega, by have := hF.1; omega⟩, k.mpr h2⟩
theorem c_oa (g : Bds n P Q W) {p q : Nat} (hs : TabS n P Q W t p 16 I) (hq : q < 17) {w : Int} (hw : -9999 ≤ w ∧ w ≤ 9999) {u : Nat} (hu : u < 17) : ex (8, 9, [.ref 245, dv, .int (nI q), .int (Int32.ofInt w), .int (nI u)], [], mm I J D) = @ite _ (CnB n P Q W t p q w u) (Classical.propDecidable _) (some (.inl (some (.int (nI u))), mm I J D)) (ex (8, 9, [.ref 245, dv, .int (nI q), .int (Int32.ofInt w), .int (nI (u + 1))], [], mm I J D)) := by
  have key := CnB_iff (t := t) (q := q) (p := p) g (show u ≤ 17 by omega) hw okF9
  have nx : ex (8, 50, [.ref 245, dv, .int (nI q), .int (Int32.ofInt w), .int (nI u)], [], mm I J D) = ex (8, 9, [.ref 245, dv, .int (nI q), .int (Int32.ofInt w), .int (nI (u + 1))], [], mm I J D) := by rw [e_8_50, nI_1]
  have e0 : ex (8, 9, [.ref 245, dv, .int (nI q), .int (Int32.ofInt w), .int (nI u)], [], mm I J D) = bif decide (fO 1000000000 (SS n P Q W t p u q) = 1000000000) then ex (8, 50, [.ref 245, dv, .int (nI q), .int (Int32.ofInt w), .int (nI u)], [], mm I J D) else ex (8, 33, [.ref 245, dv, .int (nI q), .int (Int32.ofInt w), .int (nI u)], [], mm I J D) := by
    rw [e_8_9, decide_eq_false (show ¬ (17 : Int32) ≤ nI u from nI_ge (a := u) (b := 17) (by omega) (by decide)), cond_false, e_8_19, inb_n hu (by decide), cond_true, inb_n hq (by decide), cond_true, nI_clamp (by omega), nI_clamp (by omega), hs u (by omega) q hq]
  by_cases h1 : fO 1000000000 (SS n P Q W t p u q) = 1000000000
  · rw [e0, decide_eq_true h1, cond_true, nx]
    exact (@if_neg _ (Classical.propDecidable _) (fun h => (key.mpr h).1 h1) _ _ _).symm
  · have e1 : ex (8, 9, [.ref 245, dv, .int (nI q), .int (Int32.ofInt w), .int (nI u)], [], mm I J D) = bif decide (0 ≤ fO 1000000000 (SS n P Q W t p u q) + Int32.ofInt w) then ex (8, 50, [.ref 245, dv, .int (nI q), .int (Int32.ofInt w), .int (nI u)], [], mm I J D) else ex (8, 47, [dv, dv, dv, dv, .int (nI u)], [], mm I J D) := by
      rw [e0, decide_eq_false h1, cond_false, e_8_33, inb_n hu (by decide), cond_true, inb_n hq (by decide), cond_true, nI_clamp (by omega), nI_clamp (by omega), hs u (by omega) q hq]
    by_cases h2 : 0 ≤ fO 1000000000 (SS n P Q W t p u q) + Int32.ofInt w
    · rw [e1, decide_eq_true h2, cond_true, nx]
      exact (@if_neg _ (Classical.propDecidable _) (fun h => Int32.not_lt.mpr h2 (key.mpr h).2) _ _ _).symm
    · rw [e1, decide_eq_false h2, cond_false, e_8_47]
      exact (@if_pos _ (Classical.propDecidable _) (key.mp ⟨h1, Int32.not_le.mp h2⟩) _ _ _).symm
theorem c_oaY (g : Bds n P Q W) {p q : Nat} (hs : TabS n P Q W t p 16 I) (hq : q < 17) {w : Int} (hw : -9999 ≤ w ∧ w ≤ 9999) {u0 : Nat} (hu : u0 < 17) (h1 : CnB n P Q W t p q w u0) (h2 : ∀ u, 1 ≤ u → u < u0 → ¬ CnB n P Q W t p q w u) : ∀ r u, u + r = u0 → 1 ≤ u → ex (8, 9, [.ref 245, dv, .int (nI q), .int (Int32.ofInt w), .int (nI u)], [], mm I J D) = some (.inl (some (.int (nI u0))), mm I J D)
  | 0, u, h, hu1 => by
    have : u = u0 := by omega
    subst this
    rw [c_oa g hs hq hw hu]
    exact @if_pos _ (Classical.propDecidable _) h1 _ _ _
  | r + 1, u, h, hu1 => by
    rw [c_oa g hs hq hw (show u < 17 by omega)]
    exact (@if_neg _ (Classical.propDecidable _) (h2 u hu1 (by omega)) _ _ _).trans (c_oaY g hs hq hw hu h1 h2 r (u + 1) (by omega) (by omega))
theorem c_oaN (g : Bds n P Q W) {p q : Nat} (hs : TabS n P Q W t p 16 I) (hq : q < 17) {w : Int} (hw : -9999 ≤ w ∧ w ≤ 9999) (h2 : ∀ u, 1 ≤ u → u < 17 → ¬ CnB n P Q W t p q w u) : ∀ r u, u + r = 17 → 1 ≤ u → ex (8, 9, [.ref 245, dv, .int (nI q), .int (Int32.ofInt w), .int (nI u)], [], mm I J D) = some (.inl (some (.int 0)), mm I J D)
  | 0, u, h, hu1 => by
    have : u = 17 := by omega
    subst this
    rw [e_8_9, decide_eq_true (show (17 : Int32) ≤ nI 17 by decide), cond_true, e_8_56]
  | r + 1, u, h, hu1 => by
    rw [c_oa g hs hq hw (show u < 17 by omega)]
    exact (@if_neg _ (Classical.propDecidable _) (h2 u hu1 (by omega)) _ _ _).trans (c_oaN g hs hq hw h2 r (u + 1) (by omega) (by omega))
/-! the model's sums and its ring -/
def TabM (n : Nat) (P Q : Nat → Nat) (W : Nat → Int) (t : Nat → Bool) (b m : Nat) (F : Nat → Int32) : Prop := ∀ j, j ≤ m → ∀ x, x < 17 → F (17 * j + x) = fO 100000000 (SS n P Q W t b j x)
theorem m_sm1 (g : Bds n P Q W) (mo : MoP n P Q W t (I 317)) {u : Nat} (hu : u < 17) : ∀ r k, k + r = n → ∀ F, TabM n P Q W t b u F → (∀ x, x < 17 → F (17 * (u + 1) + x) = fO 100000000 (SF P Q W t (SS n P Q W t b u) x k)) → (∀ y, 17 * (u + 2) ≤ y → y < 340 → F y = 100000000) →
    ∃ F', ex (168, 40, [.ref 316, dv, .int (nI (u + 1)), .int (nI k), dv, dv], [], mm (upR I 323 F) J D) = ex (168, 156, [.ref 316, dv, .int (nI (u + 1)), dv, dv, dv], [], mm (upR I 323 F') J D) ∧ TabM n P Q W t b (u + 1) F' ∧ ∀ y, 17 * (u + 2) ≤ y → y < 340 → F' y = 100000000
  | 0, k, h, F, h1, h2, h3 => by
    have : k = n := by omega
    subst this
    have n50 := g.1
    refine ⟨F, by rw [e_168_40, uR (show 317 ≠ 323 by decide), mo.1, decide_eq_true ((nI_leI (by omega) (by omega)).mpr (Nat.le_refl _)), cond_true], fun j hj x hx => ?_, h3⟩
    by_cases q : j = u + 1
    · subst q; exact h2 x hx
    · exact h1 j (by omega) x hx
  | r + 1, k, h, F, h1, h2, h3 => by
    obtain ⟨b3, b4, b5, b6⟩ := mo.2 k (by omega)
    obtain ⟨⟨p17, q17, pq⟩, w1, w2⟩ := g.2 k (by omega)
    have n50 := g.1
    have ih := m_sm1 g mo hu r (k + 1) (by omega)
    have l1 : 17 * u + Q k < 340 := by omega
    have l2 : 17 * (u + 1) + P k < 340 := by omega
    have e0 : ex (168, 40, [.ref 316, dv, .int (nI (u + 1)), .int (nI k), dv, dv], [], mm (upR I 323 F) J D) = bif decide (bI (t k) ≠ 1) then ex (168, 150, [.ref 316, dv, .int (nI (u + 1)), .int (nI k), dv, dv], [], mm (upR I 323 F) J D) else ex (168, 102, [.ref 316, dv, .int (nI (u + 1)), .int (nI k), .int (fO 100000000 (SS n P Q W t b u (Q k))), .int (nI (17 * (u + 1) + P k))], [], mm (upR I 323 F) J D) := by
      rw [e_168_40, uR (show 317 ≠ 323 by decide), mo.1, decide_eq_false (show ¬ nI n ≤ nI k from nI_ge (by omega) (by omega)), cond_false, e_168_50, nI_pred, show (2 : Int32) + nI k = nI (2 + k) from nI_add 2 k, show (52 : Int32) + nI k = nI (52 + k) from nI_add 52 k, show (152 : Int32) + nI k = nI (152 + k) from nI_add 152 k, inb_n (show 52 + k < 850 by omega) (by decide), cond_true, nI_clamp (show 52 + k < 2 ^ 31 by omega), uR (show 317 ≠ 323 by decide), b4, m17, inb_n l1 (by decide), cond_true, inb_n (show 2 + k < 850 by omega) (by decide), cond_true, inb_n (show 152 + k < 850 by omega) (by decide), cond_true, nI_clamp (show 2 + k < 2 ^ 31 by omega), nI_clamp (show 152 + k < 2 ^ 31 by omega), b3, b6, m17, nI_clamp (show 17 * u + Q k < 2 ^ 31 by omega), uRs, h1 u (Nat.le_refl _) _ q17]
    have nx : ∀ F : Nat → Int32, ex (168, 150, [.ref 316, dv, .int (nI (u + 1)), .int (nI k), dv, dv], [], mm (upR I 323 F) J D) = ex (168, 40, [.ref 316, dv, .int (nI (u + 1)), .int (nI (k + 1)), dv, dv], [], mm (upR I 323 F) J D) := fun F => by rw [e_168_150, nI_1]
    have stay : (t k = false ∨ SS n P Q W t b u (Q k) = none) → ∀ x, x < 17 → F (17 * (u + 1) + x) = fO 100000000 (SF P Q W t (SS n P Q W t b u) x (k + 1)) := fun hs x hx => by rw [SF_s0 hs]; exact h2 x hx
    cases htk : t k with
    | false =>
      obtain ⟨F', e1, g1⟩ := ih F h1 (stay (Or.inl htk)) h3
      exact ⟨F', by rw [e0, htk, decide_eq_true (show bI false ≠ 1 by decide), cond_true, nx]; exact e1, g1⟩
    | true =>
      cases hq : SS n P Q W t b u (Q k) with
      | none =>
        obtain ⟨F', e1, g1⟩ := ih F h1 (stay (Or.inr hq)) h3
        exact ⟨F', by rw [e0, htk, decide_eq_false (show ¬ bI true ≠ 1 by decide), cond_false, e_168_102, hq, decide_eq_true (show fO 100000000 none = 100000000 from rfl), cond_true, nx]; exact e1, g1⟩
      | some v =>
        have vb := SS_Bo g u _ v hq
        have e8 := okF8.1
        have sb := (SF_Bo (th := t) (T := SS n P Q W t b u) g (B := 9999 * (u : Int)) (fun x _ => SS_Bo g u x) (x := P k) (m := k) (by omega)).fr okF8 (by omega)
        have fm := fO_min okF8 sb (v := v + W k) ⟨by omega, by omega⟩
        have es : SF P Q W t (SS n P Q W t b u) (P k) (k + 1) = omin (SF P Q W t (SS n P Q W t b u) (P k) k) (v + W k) := SF_s1 htk hq
        have e2 : ex (168, 40, [.ref 316, dv, .int (nI (u + 1)), .int (nI k), dv, dv], [], mm (upR I 323 F) J D) = bif decide (fO 100000000 (SF P Q W t (SS n P Q W t b u) (P k) k) ≤ Int32.ofInt (v + W k)) then ex (168, 150, [.ref 316, dv, .int (nI (u + 1)), .int (nI k), dv, dv], [], mm (upR I 323 F) J D) else ex (168, 131, [.ref 316, dv, .int (nI (u + 1)), .int (nI k), .int (Int32.ofInt v), .int (nI (17 * (u + 1) + P k))], [], mm (upR I 323 F) J D) := by
          rw [e0, htk, decide_eq_false (show ¬ bI true ≠ 1 by decide), cond_false, e_168_102, hq, decide_eq_false (show ¬ fO 100000000 (some v) = 100000000 from fO_ne okF8 ⟨by omega, by omega⟩), cond_false, e_168_109, show (102 : Int32) + nI k = nI (102 + k) from nI_add 102 k, inb_n (show 102 + k < 850 by omega) (by decide), cond_true, inb_n l2 (by decide), cond_true, nI_clamp (show 102 + k < 2 ^ 31 by omega), nI_clamp (show 17 * (u + 1) + P k < 2 ^ 31 by omega), uRs, uR (show 317 ≠ 323 by decide), h2 _ p17, b5, show fO 100000000 (some v) = Int32.ofInt v from rfl, oI_a, Int.add_comm (W k) v]
        by_cases q : fO 100000000 (SF P Q W t (SS n P Q W t b u) (P k) k) ≤ Int32.ofInt (v + W k)
        · obtain ⟨F', e1, g1⟩ := ih F h1 (fun x hx => by
            by_cases e : P k = x
            · subst e; rw [es, ← fm, if_neg (Int32.not_lt.mpr q)]; exact h2 _ p17
            · rw [SF_s2 e]; exact h2 x hx) h3
          exact ⟨F', by rw [e2, decide_eq_true q, cond_true, nx]; exact e1, g1⟩
        · obtain ⟨F', e1, g1⟩ := ih (upd F (17 * (u + 1) + P k) (Int32.ofInt (v + W k))) (fun j hj x hx => by rw [uU (by omega)]; exact h1 j hj x hx) (fun x hx => by
            by_cases e : P k = x
            · subst e; rw [uUs, es, ← fm, if_pos (Int32.not_le.mp q)]
            · rw [SF_s2 e, uU (by omega)]; exact h2 x hx) (fun y h4 h5 => by rw [uU (by omega)]; exact h3 y h4 h5)
          refine ⟨F', ?_, g1⟩
          rw [e2, decide_eq_false q, cond_false, e_168_131, show (102 : Int32) + nI k = nI (102 + k) from nI_add 102 k, inb_n (show 102 + k < 850 by omega) (by decide), cond_true, inb_n l2 (by decide), cond_true, nI_clamp (show 102 + k < 2 ^ 31 by omega), nI_clamp (show 17 * (u + 1) + P k < 2 ^ 31 by omega), uR (show 317 ≠ 323 by decide), b5, oI_a, Int.add_comm (W k) v, us_R, nx]
          exact e1
theorem m_sm2 (g : Bds n P Q W) (mo : MoP n P Q W t (I 317)) : ∀ r u, u + r = 17 → ∀ F, TabM n P Q W t b u F → (∀ y, 17 * (u + 1) ≤ y → y < 340 → F y = 100000000) →
    ∃ F', ex (168, 32, [.ref 316, dv, .int (nI (u + 1)), dv, dv, dv], [], mm (upR I 323 F) J D) = some (.inl none, mm (upR I 323 F') J D) ∧ TabM n P Q W t b 17 F'
  | 0, u, h, F, h1, h2 => by
    have : u = 17 := by omega
    subst this
    exact ⟨F, by rw [e_168_32, decide_eq_true (show (17 : Int32) < nI (17 + 1) by decide), cond_true, e_168_162], h1⟩
  | r + 1, u, h, F, h1, h2 => by
    obtain ⟨F1, e1, g1, g2⟩ := m_sm1 (I := I) (J := J) (D := D) g mo (show u < 17 by omega) n 0 (by omega) F h1 (fun x hx => by rw [h2 _ (by omega) (by omega)]; rfl) (fun y h3 h4 => h2 y (by omega) h4)
    obtain ⟨F2, e2, k1⟩ := m_sm2 g mo r (u + 1) (by omega) F1 g1 g2
    refine ⟨F2, ?_, k1⟩
    rw [e_168_32, decide_eq_false (show ¬ (17 : Int32) < nI (u + 1) from nI_nlt (a := 17) (b := u + 1) (by omega) (by decide)), cond_false, e_168_38]
    rw [show ex (168, 40, [.ref 316, dv, .int (nI (u + 1)), .int 0, dv, dv], [], mm (upR I 323 F) J D) = _ from e1, e_168_156, nI_1]
    exact e2
theorem m_sm0 {v : Int32} : ∀ r k, k + r = 340 → ex (168, 2, [.ref 316, .int v, .int (nI k), dv, dv, dv], [], mm (upR I 323 (lpN (fun _ => 100000000) (I 323) k)) J D) = ex (168, 23, [.ref 316, .int v, dv, dv, dv, dv], [], mm (upR I 323 (lpN (fun _ => 100000000) (I 323) 340)) J D)
  | 0, k, h => by
    have : k = 340 := by omega
    subst this
    rw [e_168_2, decide_eq_true (show (340 : Int32) ≤ nI 340 by decide), cond_true]
  | r + 1, k, h => by
    have ih := m_sm0 (v := v) r (k + 1) (by omega)
    rw [← lpN_s] at ih
    rw [e_168_2, decide_eq_false (show ¬ (340 : Int32) ≤ nI k from nI_ge (a := k) (b := 340) (by omega) (by decide)), cond_false, e_168_9, inb_n (show k < 340 by omega) (by decide), cond_true, nI_clamp (by omega), us_R, nI_1]
    exact ih
theorem lpN_z0 {f : Nat → Int32} {q : Nat} : upR I q (lpN f (I q) 0) = I := by
  funext p
  by_cases hq : p = q
  · subst hq
    rw [uRs]
    funext j
    unfold lpN
    rw [if_neg (Nat.not_lt_zero _)]
  · rw [uR hq]
theorem m_sums (g : Bds n P Q W) (mo : MoP n P Q W t (I 317)) (hb : b < 17) : ∃ F, ex (168, 0, [.ref 316, .int (nI b), dv, dv, dv, dv], [], mm I J D) = some (.inl none, mm (upR I 323 F) J D) ∧ TabM n P Q W t b 17 F := by
  have e0 := m_sm0 (v := nI b) (I := I) (J := J) (D := D) 340 0 (by omega)
  rw [lpN_z0] at e0
  obtain ⟨F, e1, h1⟩ := m_sm2 (I := I) (J := J) (D := D) (b := b) g mo 17 0 (by omega) (upd (lpN (fun _ => 100000000) (I 323) 340) b 0) (fun j hj x hx => by
    have : j = 0 := by omega
    subst this
    rw [show 17 * 0 + x = x by omega]
    show _ = fO 100000000 (if x = b then some 0 else none)
    by_cases q : x = b
    · subst q; rw [uUs, if_pos rfl]; rfl
    · rw [uU q, if_neg q]; unfold lpN; rw [if_pos (by omega)]; rfl) (fun y h1 h2 => by rw [uU (by omega)]; unfold lpN; rw [if_pos h2])
  refine ⟨F, ?_, h1⟩
  rw [e_168_0]
  rw [show ex (168, 2, [.ref 316, .int (nI b), .int 0, dv, dv, dv], [], mm I J D) = _ from e0, e_168_23, inb_n (show b < 340 by omega) (by decide), cond_true, nI_clamp (by omega), us_R]
  exact e1
theorem m_ld (g : Bds n P Q W) (mo : MoP n P Q W t (I 317)) (hs : TabM n P Q W t b 17 (I 323)) {l x k : Nat} (hk : k < n) (hl : l < 16) (hx : x < 17) : ex (170, 0, [.ref 316, .int (nI k), .int (nI x), .int (nI (l + 1)), dv], [], mm I J D) = some (.inl (some (.int (bI (ldB n P Q W t b l x k)))), mm I J D) := by
  obtain ⟨b3, b4, b5, b6⟩ := mo.2 k hk
  obtain ⟨⟨p17, q17, pq⟩, w1, w2⟩ := g.2 k hk
  have n50 := g.1
  have no : ex (170, 86, [dv, dv, dv, dv, dv], [], mm I J D) = some (.inl (some (.int 0)), mm I J D) := by rw [e_170_86, e_170_87, decide_eq_true (Or.inl rfl), cond_true]
  rw [e_170_0, nI_pred, show (52 : Int32) + nI k = nI (52 + k) from nI_add 52 k, show (152 : Int32) + nI k = nI (152 + k) from nI_add 152 k, inb_n (show 52 + k < 850 by omega) (by decide), cond_true, nI_clamp (show 52 + k < 2 ^ 31 by omega), b4, m17, inb_n (show 17 * l + Q k < 340 by omega) (by decide), cond_true, inb_n (show 152 + k < 850 by omega) (by decide), cond_true, nI_clamp (show 152 + k < 2 ^ 31 by omega), b6, nI_clamp (show 17 * l + Q k < 2 ^ 31 by omega), hs l (by omega) _ q17]
  unfold ldB
  cases ht : t k with
  | false => rw [decide_eq_true (show bI false ≠ 1 by decide), cond_true, no]; rfl
  | true =>
    rw [decide_eq_false (show ¬ bI true ≠ 1 by decide), cond_false, e_170_37, show (2 : Int32) + nI k = nI (2 + k) from nI_add 2 k, inb_n (show 2 + k < 850 by omega) (by decide), cond_true, nI_clamp (show 2 + k < 2 ^ 31 by omega), b3]
    by_cases hp : P k = x
    · rw [decide_eq_false (show ¬ nI (P k) ≠ nI x from fun w => w (by rw [hp])), cond_false, e_170_49, decide_eq_true hp]
      cases hr : SS n P Q W t b l (Q k) with
      | none => rw [decide_eq_true (show fO 100000000 none = 100000000 from rfl), cond_true, no]; rfl
      | some r =>
        have a := SS_Bo g l (Q k) r hr
        have e8 := okF8.1
        rw [decide_eq_false (show ¬ fO 100000000 (some r) = 100000000 from fO_ne okF8 ⟨by omega, by omega⟩), cond_false, e_170_56, show (102 : Int32) + nI k = nI (102 + k) from nI_add 102 k, inb_n (show 102 + k < 850 by omega) (by decide), cond_true, m17, inb_n (show 17 * (l + 1) + x < 340 by omega) (by decide), cond_true, nI_clamp (show 102 + k < 2 ^ 31 by omega), b5, nI_clamp (show 17 * (l + 1) + x < 2 ^ 31 by omega), hs (l + 1) (by omega) _ hx, show fO 100000000 (some r) = Int32.ofInt r from rfl, oI_a, Int.add_comm (W k) r]
        have key := ofW (x := x) g hk (show l < 17 by omega) hr okF8
        by_cases q : some (r + W k) = SS n P Q W t b (l + 1) x
        · rw [decide_eq_false (fun w => w (key.mpr q)), cond_false, e_170_82, e_170_87, decide_eq_true (Or.inr rfl), cond_true]
          show (_ : Option Ou) = some (.inl (some (.int (bI (true && (true && decide (some (r + W k) = SS n P Q W t b (l + 1) x)))))), mm I J D)
          rw [decide_eq_true q]; rfl
        · rw [decide_eq_true (show Int32.ofInt (r + W k) ≠ fO 100000000 (SS n P Q W t b (l + 1) x) from fun w => q (key.mp w)), cond_true, no]
          show (_ : Option Ou) = some (.inl (some (.int (bI (true && (true && decide (some (r + W k) = SS n P Q W t b (l + 1) x)))))), mm I J D)
          rw [decide_eq_false q]; rfl
    · rw [decide_eq_true (show nI (P k) ≠ nI x from fun w => hp ((nI_eq (by omega) (by omega)).mp w)), cond_true, no, decide_eq_false hp]; rfl
theorem m_ln (g : Bds n P Q W) (mo : MoP n P Q W t (I 317)) (hs : TabM n P Q W t b 17 (I 323)) {l x k0 : Nat} (hk : k0 < n) (hl : l < 16) (hx : x < 17) (h1 : ldB n P Q W t b l x k0 = true) (h2 : ∀ j, j < k0 → ldB n P Q W t b l x j = false) {v : Int32} : ∀ r k, k + r = k0 → ex (169, 78, [.ref 316, dv, dv, dv, .int v, .int (nI x), .int (nI (l + 1)), .int (nI k)], [], mm I J D) = ex (169, 97, [.ref 316, dv, dv, dv, .int v, dv, .int (nI (l + 1)), .int (nI k0)], [], mm I J D)
  | 0, k, h => by
    have : k = k0 := by omega
    subst this
    rw [e_169_78, m_ld g mo hs hk hl hx, h1, cal_v, ka, e_169_88, decide_eq_true (show bI true ≠ 0 by decide), cond_true]
  | r + 1, k, h => by
    rw [e_169_78, m_ld g mo hs (show k < n by omega) hl hx, h2 k (by omega), cal_v, ka, e_169_88, decide_eq_false (show ¬ bI false ≠ 0 by decide), cond_false, e_169_91, nI_1]
    exact m_ln g mo hs hk hl hx h1 h2 r (k + 1) (by omega)
theorem m_tr (g : Bds n P Q W) {L x : Nat} (hL : L ≤ 16) {ks fr : Nat → Nat} (hp : PathOK n P Q W t b L x ks fr) : ∀ r i, i + r = L → ∀ I : Nat → Nat → Int32, MoP n P Q W t (I 317) → TabM n P Q W t b 17 (I 323) →
    ∃ I', ex (169, 70, [.ref 316, dv, dv, dv, .int (nI L), .int (nI (fr i)), .int (nI r), dv], [], mm I J D) = some (.inl none, mm I' J D) ∧ (∀ p, p ≠ 319 → I' p = I p) ∧ (∀ j, j ≤ i → I' 319 j = I 319 j) ∧ ∀ j, i ≤ j → j < L → I' 319 (j + 1) = nI (ks j)
  | 0, i, h, I, mo, hs => ⟨I, by rw [e_169_70, decide_eq_true (show nI 0 ≤ 0 by decide), cond_true, e_169_129], fun _ _ => rfl, fun _ _ => rfl, fun j h1 h2 => by omega⟩
  | r + 1, i, h, I, mo, hs => by
    obtain ⟨⟨k1, f1⟩, l1, l2, f2⟩ := hp.2 i (by omega)
    have n50 := g.1
    rw [show L - 1 - i = r by omega] at l1 l2
    obtain ⟨b3, b4, b5, b6⟩ := mo.2 _ k1
    obtain ⟨I1, hI1⟩ : ∃ I1, I1 = ups I 319 (i + 1) (nI (ks i)) := ⟨_, rfl⟩
    have far : ∀ p, p ≠ 319 → I1 p = I p := fun p h1 => by rw [hI1, uI h1]
    obtain ⟨I2, e1, g1, g3, g4⟩ := m_tr g hL hp r (i + 1) (by omega) I1 (by rw [far 317 (by decide)]; exact mo) (by rw [far 323 (by decide)]; exact hs)
    have i64 : I1 319 = upd (I 319) (i + 1) (nI (ks i)) := by rw [hI1, uIs]
    refine ⟨I2, ?_, fun p h1 => by rw [g1 p h1, far p h1], fun j hj => ?_, fun j h1 h2 => ?_⟩
    · have ln := m_ln (J := J) (D := D) (v := nI L) g mo hs k1 (show r < 16 by omega) f1 l1 l2 (ks i) 0 (by omega)
      rw [e_169_70, decide_eq_false (show ¬ nI (r + 1) ≤ 0 from nI_ge (a := 0) (b := r + 1) (by omega) (by omega)), cond_false, e_169_75]
      rw [show ex (169, 78, [.ref 316, dv, dv, dv, .int (nI L), .int (nI (fr i)), .int (nI (r + 1)), .int 0], [], mm I J D) = _ from ln, e_169_97, nI_sub (show r + 1 ≤ L by omega), nI_1, show L - (r + 1) + 1 = i + 1 by omega, show (52 : Int32) + nI (ks i) = nI (52 + ks i) from nI_add 52 _, inb_n (show i + 1 < 20 by omega) (by decide), cond_true, inb_n (show 52 + ks i < 850 by omega) (by decide), cond_true, nI_clamp (show i + 1 < 2 ^ 31 by omega), nI_clamp (show 52 + ks i < 2 ^ 31 by omega), nI_m1, nI_pred, ← hI1, far 317 (by decide), b4, ← f2]
      exact e1
    · rw [g3 j (by omega), i64, uU (by omega)]
    · by_cases q : j = i
      · subst q
        rw [g3 (j + 1) (Nat.le_refl _), i64, uUs]
      · exact g4 j (by omega) h2
theorem m_wh (g : Bds n P Q W) {p q : Nat} (hs : TabM n P Q W t p 17 (I 323)) (hq : q < 17) {w : Int} (hw : -9999 ≤ w ∧ w ≤ 9999) {u0 : Nat} (hu : u0 < 17) (h1 : CnB n P Q W t p q w u0) (h2 : ∀ u, 1 ≤ u → u < u0 → ¬ CnB n P Q W t p q w u) : ∀ r u, u + r = u0 → 1 ≤ u → ex (169, 8, [.ref 316, dv, .int (nI q), .int (Int32.ofInt w), .int (nI u), dv, dv, dv], [], mm I J D) = ex (169, 48, [.ref 316, dv, .int (nI q), dv, .int (nI u0), dv, dv, dv], [], mm I J D)
  | r, u, h, hu1 => by
    have key := CnB_iff (t := t) (q := q) (p := p) g (show u ≤ 17 by omega) hw okF8
    have e0 : ex (169, 8, [.ref 316, dv, .int (nI q), .int (Int32.ofInt w), .int (nI u), dv, dv, dv], [], mm I J D) = bif decide (fO 100000000 (SS n P Q W t p u q) = 100000000) then ex (169, 42, [.ref 316, dv, .int (nI q), .int (Int32.ofInt w), .int (nI u), dv, dv, dv], [], mm I J D) else ex (169, 25, [.ref 316, dv, .int (nI q), .int (Int32.ofInt w), .int (nI u), dv, dv, dv], [], mm I J D) := by
      rw [e_169_8, m17, inb_n (show 17 * u + q < 340 by omega) (by decide), cond_true, nI_clamp (show 17 * u + q < 2 ^ 31 by omega), hs u (by omega) q hq]
    have e1 : ex (169, 25, [.ref 316, dv, .int (nI q), .int (Int32.ofInt w), .int (nI u), dv, dv, dv], [], mm I J D) = bif decide (fO 100000000 (SS n P Q W t p u q) + Int32.ofInt w < 0) then ex (169, 48, [.ref 316, dv, .int (nI q), dv, .int (nI u), dv, dv, dv], [], mm I J D) else ex (169, 42, [.ref 316, dv, .int (nI q), .int (Int32.ofInt w), .int (nI u), dv, dv, dv], [], mm I J D) := by
      rw [e_169_25, m17, inb_n (show 17 * u + q < 340 by omega) (by decide), cond_true, nI_clamp (show 17 * u + q < 2 ^ 31 by omega), hs u (by omega) q hq]
    cases r with
    | zero =>
      have : u = u0 := by omega
      subst this
      obtain ⟨k1, k2⟩ := key.mpr h1
      rw [e0, decide_eq_false k1, cond_false, e1, decide_eq_true k2, cond_true]
    | succ r =>
      have ih := m_wh g hs hq hw hu h1 h2 r (u + 1) (by omega) (by omega)
      have nx : ex (169, 42, [.ref 316, dv, .int (nI q), .int (Int32.ofInt w), .int (nI u), dv, dv, dv], [], mm I J D) = ex (169, 48, [.ref 316, dv, .int (nI q), dv, .int (nI u0), dv, dv, dv], [], mm I J D) := by rw [e_169_42, nI_1]; exact ih
      have no := h2 u hu1 (by omega)
      by_cases k1 : fO 100000000 (SS n P Q W t p u q) = 100000000
      · rw [e0, decide_eq_true k1, cond_true, nx]
      · rw [e0, decide_eq_false k1, cond_false, e1, decide_eq_false (fun k2 => no (key.mp ⟨k1, k2⟩)), cond_false, nx]
/-- the model tells the ring -/
theorem m_ring (g : Bds n P Q W) (mo : MoP n P Q W t (I 317)) {p q : Nat} (hp17 : p < 17) (hq : q < 17) {w : Int} (hw : -9999 ≤ w ∧ w ≤ 9999) {u0 : Nat} (hu : u0 < 17) (hu1 : 1 ≤ u0) (h1 : CnB n P Q W t p q w u0) (h2 : ∀ u, 1 ≤ u → u < u0 → ¬ CnB n P Q W t p q w u) {ks fr : Nat → Nat} (hp : PathOK n P Q W t p u0 q ks fr) :
    ∃ I', ex (169, 0, [.ref 316, .int (nI p), .int (nI q), .int (Int32.ofInt w), dv, dv, dv, dv], [], mm I J D) = some (.inl none, mm I' J D) ∧ (∀ p, p ≠ 316 → p ≠ 319 → p ≠ 323 → I' p = I p) ∧ (∀ j, j ≠ 6 → I' 316 j = I 316 j) ∧ I' 316 6 = nI (1 + u0) ∧ I' 319 0 = -1 ∧ ∀ j, j < u0 → I' 319 (j + 1) = nI (ks j) := by
  obtain ⟨F, e1, hs⟩ := m_sums (J := J) (D := D) g mo hp17
  have wh := m_wh (I := upR I 323 F) (J := J) (D := D) g (by rw [uRs]; exact hs) hq hw hu h1 h2 (u0 - 1) 1 (by omega) (Nat.le_refl _)
  obtain ⟨I1, hI1⟩ : ∃ I1, I1 = ups (ups (upR I 323 F) 319 0 (-1)) 316 6 (nI (1 + u0)) := ⟨_, rfl⟩
  have far : ∀ p, p ≠ 316 → p ≠ 319 → p ≠ 323 → I1 p = I p := fun p h1 h2 h3 => by rw [hI1, uI h1, uI h2, uR h3]
  obtain ⟨I2, e2, g1, g2, g3⟩ := m_tr (J := J) (D := D) g (show u0 ≤ 16 by omega) hp u0 0 (by omega) I1 (by rw [far 317 (by decide) (by decide) (by decide)]; exact mo) (by rw [hI1, uI (by decide), uI (by decide), uRs]; exact hs)
  refine ⟨I2, ?_, fun p h1 h2 h3 => by rw [g1 p h2, far p h1 h2 h3], fun j hj => ?_, ?_, ?_, fun j hj => g3 j (Nat.zero_le _) hj⟩
  · rw [e_169_0, e1, cal_v, kn, e_169_5]
    rw [show ex (169, 8, [.ref 316, dv, .int (nI q), .int (Int32.ofInt w), .int 1, dv, dv, dv], [], mm (upR I 323 F) J D) = _ from wh, e_169_48, nI_1, show u0 + 1 = 1 + u0 by omega, ← hI1, ← hp.1]
    exact e2
  · rw [g1 316 (by decide), hI1, uIs, uU hj, uI (by decide), uR (by decide)]
  · rw [g1 316 (by decide), hI1, uIs, uUs]
  · rw [g2 0 (Nat.le_refl _), hI1, uI (by decide), uIs, uUs]
end RG
