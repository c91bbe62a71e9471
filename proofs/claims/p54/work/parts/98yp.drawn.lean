/-! what lies on what: isDrawn -/
section DN
variable {n : Nat} {T : Nat → Nat → Bool}
variable {QJ : Nat → Nat → Int64} {QD : Nat → Nat → UInt64} {TT : Nat}
theorem ovr_hi {α : Type} {I Q : Nat → Nat → α} {p : Nat} (h : 317 ≤ p) : ovr I Q p = Q p := ovr_o (by
  rw [show Nat.ble p 316 = false from by cases hb : Nat.ble p 316 with | false => rfl | true => (have := Nat.ble_eq.mp hb; omega), Bool.and_false])
theorem ovr_uph {I Q : Nat → Nat → Int32} {p k : Nat} {x : Int32} (h : 317 ≤ p) : ups (ovr I Q) p k x = ovr I (ups Q p k x) := ovr_ups2 (by
  rw [show Nat.ble p 316 = false from by cases hb : Nat.ble p 316 with | false => rfl | true => (have := Nat.ble_eq.mp hb; omega), Bool.and_false])
theorem ovr_swp {α : Type} {I Q Q2 : Nat → Nat → α} {F : Nat → Nat → α} (h1 : ∀ p, 1 ≤ p → p ≤ 316 → F p = ovr I Q p) (h2 : ∀ p, p = 0 ∨ 317 ≤ p → F p = Q2 p) : F = ovr I Q2 := by
  funext p
  by_cases h : 1 ≤ p ∧ p ≤ 316
  · rw [h1 p h.1 h.2]
    unfold ovr
    rw [Nat.ble_eq.mpr h.1, Nat.ble_eq.mpr h.2]
    rfl
  · rw [h2 p (by omega)]
    by_cases h0 : p = 0
    · subst h0; rfl
    · rw [ovr_hi (by omega)]
theorem iB_lo {I : Nat → Nat → Int32} {p : Nat} (h : p < 330 ∨ 347 ≤ p) : iB I p = I p := by
  unfold iB
  rw [show (Nat.blt 329 p && Nat.ble p 346) = false from by
    rw [Bool.and_eq_false_iff]
    rcases h with h | h
    · exact Or.inl (by cases hb : Nat.blt 329 p with | false => rfl | true => (have := Nat.blt_eq.mp hb; omega))
    · exact Or.inr (by cases hb : Nat.ble p 346 with | false => rfl | true => (have := Nat.ble_eq.mp hb; omega))]
  rfl
theorem iB_mid {I : Nat → Nat → Int32} {x : Nat} (h : x < 17) : iB I (330 + x) = fun _ => 0 := by
  unfold iB
  rw [show (Nat.blt 329 (330 + x) && Nat.ble (330 + x) 346) = true from by
    rw [Bool.and_eq_true, Nat.blt_eq, Nat.ble_eq]; omega]
  rfl
theorem jB_lo {J : Nat → Nat → Int64} {p : Nat} (h : p < 330 ∨ 347 ≤ p) : jB J p = J p := by
  unfold jB
  rw [show (Nat.blt 329 p && Nat.ble p 346) = false from by
    rw [Bool.and_eq_false_iff]
    rcases h with h | h
    · exact Or.inl (by cases hb : Nat.blt 329 p with | false => rfl | true => (have := Nat.blt_eq.mp hb; omega))
    · exact Or.inr (by cases hb : Nat.ble p 346 with | false => rfl | true => (have := Nat.ble_eq.mp hb; omega))]
  rfl
theorem ovr_iB {I X : Nat → Nat → Int32} : iB (ovr I X) = ovr I (iB X) := ovr_swp (Q := X) (fun p _ h => iB_lo (by omega)) (fun p h => by
  unfold iB
  cases (Nat.blt 329 p && Nat.ble p 346) with
  | true => rfl
  | false =>
    rcases h with rfl | h
    · rfl
    · exact ovr_hi h)
theorem ovr_jB {J X : Nat → Nat → Int64} : jB (ovr J X) = ovr J (jB X) := ovr_swp (Q := X) (fun p _ h => jB_lo (by omega)) (fun p h => by
  unfold jB
  cases (Nat.blt 329 p && Nat.ble p 346) with
  | true => rfl
  | false =>
    rcases h with rfl | h
    · rfl
    · exact ovr_hi h)
theorem ovr_up9 {α : Type} {I X : Nat → Nat → α} {f : Nat → α} : upR (ovr I X) 347 f = ovr I (upR X 347 f) := ovr_swp (Q := X) (fun p _ h => upR_n (by omega)) (fun p h => by
  by_cases e : p = 347
  · subst e; rw [upR_s, upR_s]
  · rw [upR_n e, upR_n e]
    rcases h with rfl | h
    · rfl
    · exact ovr_hi h)
/-- the law's rows and ties -/
def LawP (n : Nat) (R : Nat → Nat → Bool) (X : Nat → Nat → Int32) : Prop := AbR n R X ∧ ∀ k, k < 5 → X 327 k = -1
theorem LawP.go {R : Nat → Nat → Bool} {X X2 : Nat → Nat → Int32} (h : LawP n R X) (e : ∀ p, p ≠ iCRD → p ≠ 328 → X2 p = X p) : LawP n R X2 := by
  obtain ⟨⟨h1, h2⟩, h3⟩ := h
  refine ⟨⟨by rw [e 0 (by decide) (by decide)]; exact h1, fun x y hx hy => ?_⟩, by rw [e 327 (by decide) (by decide)]; exact h3⟩
  rw [e (330 + x) (by unfold iCRD; omega) (by omega)]
  exact h2 x y hx hy
theorem LawP.cr {R : Nat → Nat → Bool} {X X2 : Nat → Nat → Int32} (h : LawP n R X) (e : ∀ p, p ≠ iCRD → X2 p = X p) : LawP n R X2 := h.go fun p h1 _ => e p h1
theorem LawP.dw {R : Nat → Nat → Bool} {X X2 : Nat → Nat → Int32} (h : LawP n R X) (e : ∀ p, p ≠ 328 → X2 p = X p) : LawP n R X2 := h.go fun p _ h1 => e p h1
theorem ab_ovr {R : Nat → Nat → Bool} {X I : Nat → Nat → Int32} (h : AbR n R X) : AbR n R (ovr I X) := ⟨by rw [ovr_o (by decide)]; exact h.1, fun x y hx hy => by rw [ovr_hi (by omega)]; exact h.2 x y hx hy⟩
def Rs8 (G : Nat → Nat → Int32) : Prop := ∀ o, o = 0 ∨ 9 ≤ o → G o = gM0 o
/-- rows of which a part is brought up to date -/
def mxU (R : Nat → Nat → Bool) (a b x y u v : Nat) : Bool := if u < x ∨ (u = x ∧ v < y) then addR R a b u v else R u v
theorem addR_in {R : Nat → Nat → Bool} (hin : In n R) {a b : Nat} (ha : 1 ≤ a ∧ a ≤ n) (hb : 1 ≤ b ∧ b ≤ n) : In n (addR R a b) := fun x y h => by
  rcases addR_t.mp h with h | ⟨h1, h2⟩
  · exact hin _ _ h
  · refine ⟨?_, ?_⟩
    · rcases h1 with rfl | h1
      · exact ha
      · exact (hin _ _ h1).1
    · rcases h2 with rfl | h2
      · exact hb
      · exact (hin _ _ h2).2
theorem mxU_a {R : Nat → Nat → Bool} {a b x y u : Nat} (hab : a ≠ b) (hba : R b a = false) : mxU R a b x y u a = R u a := by
  unfold mxU
  split
  · unfold addR
    rw [decide_eq_false hab, hba]; simp
  · rfl
theorem mxU_b {R : Nat → Nat → Bool} {a b x y v : Nat} (hab : a ≠ b) (hba : R b a = false) : mxU R a b x y b v = R b v := by
  unfold mxU
  split
  · unfold addR
    rw [decide_eq_false (fun h => hab h.symm), hba]; simp
  · rfl
theorem mxU_s {R : Nat → Nat → Bool} {a b x y u v : Nat} (h : ¬ (u = x ∧ v = y)) : mxU R a b x (y + 1) u v = mxU R a b x y u v := by
  unfold mxU
  by_cases q : u < x ∨ (u = x ∧ v < y)
  · rw [if_pos q, if_pos (by omega)]
  · rw [if_neg q, if_neg (by omega)]
theorem mxU_at {R : Nat → Nat → Bool} {a b x y : Nat} : mxU R a b x (y + 1) x y = addR R a b x y := by
  unfold mxU
  rw [if_pos (by omega)]
theorem mxU_n {R : Nat → Nat → Bool} (hin : In n R) {a b x u v : Nat} (ha : 1 ≤ a ∧ a ≤ n) (hb : 1 ≤ b ∧ b ≤ n) : mxU R a b x (n + 1) u v = mxU R a b (x + 1) 1 u v := by
  have hin2 := addR_in hin ha hb
  have f : ¬ ((1 ≤ u ∧ u ≤ n) ∧ 1 ≤ v ∧ v ≤ n) → addR R a b u v = R u v := fun q => by rw [hin.f q, hin2.f q]
  unfold mxU
  by_cases q : u < x ∨ (u = x ∧ v < n + 1)
  · rw [if_pos q, if_pos (by omega)]
  · rw [if_neg q]
    by_cases q2 : u < x + 1 ∨ (u = x + 1 ∧ v < 1)
    · rw [if_pos q2, f (by omega)]
    · rw [if_neg q2]
/-- the law brings its rows up to date -/
theorem o_updY {R : Nat → Nat → Bool} (hin : In n R) (h6 : n ≤ 6) {a b : Nat} (ha : 1 ≤ a ∧ a ≤ n) (hb : 1 ≤ b ∧ b ≤ n) (hab : a ≠ b) (hba : R b a = false) {I : Nat → Nat → Int32} {J : Nat → Nat → Int64} {D : Nat → Nat → UInt64} {l k : Int32} {x : Nat} (hx : 1 ≤ x ∧ x ≤ n) :
    ∀ r y, y + r = n + 1 → 1 ≤ y → ∀ X : Nat → Nat → Int32, X 0 6 = nI n → (∀ u v, u < 17 → v < 17 → X (330 + u) v = b2i (mxU R a b x y u v)) → ∃ X2 : Nat → Nat → Int32, ex (334, 130, [.ref 0, .ref 329, .int l, .int k, .int (nI a), .int (nI b), dv, .int (nI x), .int (nI y)], [], mB (ovr I X) J D) = ex (334, 187, [.ref 0, .ref 329, .int l, .int k, .int (nI a), .int (nI b), dv, .int (nI x), dv], [], mB (ovr I X2) J D) ∧ (∀ p, p < 330 ∨ 347 ≤ p → X2 p = X p) ∧ ∀ u v, u < 17 → v < 17 → X2 (330 + u) v = b2i (mxU R a b x (n + 1) u v) := by
  intro r
  induction r with
  | zero =>
    intro y hy h1 X h0 hX
    have hy : y = n + 1 := by omega
    subst hy
    refine ⟨X, ?_, fun _ _ => rfl, hX⟩
    rw [eB_334_130, show ovr I X 0 6 = nI n from h0, decide_eq_true ((nI_ltI (by omega) (by omega)).mpr (show n < n + 1 by omega)), cond_true]
  | succ r ih =>
    intro y hy h1 X h0 hX
    have go : ∀ X', X' 0 6 = nI n → (∀ u v, u < 17 → v < 17 → X' (330 + u) v = b2i (mxU R a b x (y + 1) u v)) → (∀ p, p < 330 ∨ 347 ≤ p → X' p = X p) → ∃ X2 : Nat → Nat → Int32, ex (334, 181, [.ref 0, .ref 329, .int l, .int k, .int (nI a), .int (nI b), dv, .int (nI x), .int (nI y)], [], mB (ovr I X') J D) = ex (334, 187, [.ref 0, .ref 329, .int l, .int k, .int (nI a), .int (nI b), dv, .int (nI x), dv], [], mB (ovr I X2) J D) ∧ (∀ p, p < 330 ∨ 347 ≤ p → X2 p = X p) ∧ ∀ u v, u < 17 → v < 17 → X2 (330 + u) v = b2i (mxU R a b x (n + 1) u v) := fun X' q1 q2 q3 => by
      obtain ⟨X2, e, e1, e2⟩ := ih (y + 1) (by omega) (by omega) X' q1 q2
      exact ⟨X2, by rw [eB_334_181, nI_1]; exact e, fun p hp => (e1 p hp).trans (q3 p hp), e2⟩
    have rxa : ovr I X (330 + x) a = b2i (R x a) := by rw [ovr_hi (by omega), hX x a (by omega) (by omega), mxU_a hab hba]
    have rby : ovr I X (330 + b) y = b2i (R b y) := by rw [ovr_hi (by omega), hX b y (by omega) (by omega), mxU_b hab hba]
    rw [eB_334_130, show ovr I X 0 6 = nI n from h0, decide_eq_false (show ¬ nI n < nI y from nI_nlt (by omega) (by omega)), cond_false]
    -- the pair isn't put in
    have no : addR R a b x y = R x y → ∃ X2 : Nat → Nat → Int32, ex (334, 181, [.ref 0, .ref 329, .int l, .int k, .int (nI a), .int (nI b), dv, .int (nI x), .int (nI y)], [], mB (ovr I X) J D) = ex (334, 187, [.ref 0, .ref 329, .int l, .int k, .int (nI a), .int (nI b), dv, .int (nI x), dv], [], mB (ovr I X2) J D) ∧ (∀ p, p < 330 ∨ 347 ≤ p → X2 p = X p) ∧ ∀ u v, u < 17 → v < 17 → X2 (330 + u) v = b2i (mxU R a b x (n + 1) u v) := fun q => go X h0 (fun u v hu hv => by
      by_cases w : u = x ∧ v = y
      · obtain ⟨rfl, rfl⟩ := w
        rw [hX u v hu hv, mxU_at, q]
        unfold mxU
        rw [if_neg (by omega)]
      · rw [hX u v hu hv, mxU_s w]) (fun _ _ => rfl)
    -- it is put in
    have yes : addR R a b x y = true → ∃ X2 : Nat → Nat → Int32, ex (334, 173, [.ref 0, .ref 329, .int l, .int k, .int (nI a), .int (nI b), dv, .int (nI x), .int (nI y)], [], mB (ovr I X) J D) = ex (334, 187, [.ref 0, .ref 329, .int l, .int k, .int (nI a), .int (nI b), dv, .int (nI x), dv], [], mB (ovr I X2) J D) ∧ (∀ p, p < 330 ∨ 347 ≤ p → X2 p = X p) ∧ ∀ u v, u < 17 → v < 17 → X2 (330 + u) v = b2i (mxU R a b x (n + 1) u v) := fun q => by
      rw [eB_334_173, inb_n (show x < 17 by omega) (by decide), cond_true, inb_n (show y < 17 by omega) (by decide), cond_true, nI_clamp (show x < 2 ^ 31 by omega), nI_clamp (show y < 2 ^ 31 by omega), ovr_uph (show 317 ≤ 330 + x by omega)]
      refine go (ups X (330 + x) y (vp_nar .boolean 1)) (by rw [uI (by omega)]; exact h0) (fun u v hu hv => ?_) (fun p hp => uI (by omega))
      by_cases w : u = x ∧ v = y
      · obtain ⟨rfl, rfl⟩ := w
        rw [uIs, uUs, mxU_at, q]
        rfl
      · rw [mxU_s w, ← hX u v hu hv]
        by_cases w2 : u = x
        · subst w2
          rw [uIs, uU (fun e => w ⟨rfl, e⟩)]
        · rw [uI (by omega)]
    have e156 : (x = a ∨ R x a = true) → ∃ X2 : Nat → Nat → Int32, ex (334, 156, [.ref 0, .ref 329, .int l, .int k, .int (nI a), .int (nI b), dv, .int (nI x), .int (nI y)], [], mB (ovr I X) J D) = ex (334, 187, [.ref 0, .ref 329, .int l, .int k, .int (nI a), .int (nI b), dv, .int (nI x), dv], [], mB (ovr I X2) J D) ∧ (∀ p, p < 330 ∨ 347 ≤ p → X2 p = X p) ∧ ∀ u v, u < 17 → v < 17 → X2 (330 + u) v = b2i (mxU R a b x (n + 1) u v) := fun q => by
      rw [eB_334_156]
      by_cases hyb : y = b
      · rw [decide_eq_true (show nI y = nI b by rw [hyb]), cond_true]
        exact yes (addR_t.mpr (Or.inr ⟨q, Or.inl hyb⟩))
      · rw [decide_eq_false (show ¬ nI y = nI b from fun w => hyb ((nI_eq (by omega) (by omega)).mp w)), cond_false, eB_334_163, inb_n (show b < 17 by omega) (by decide), cond_true, inb_n (show y < 17 by omega) (by decide), cond_true, nI_clamp (show b < 2 ^ 31 by omega), nI_clamp (show y < 2 ^ 31 by omega), rby]
        cases e : R b y with
        | true =>
          rw [decide_eq_false (show ¬ b2i true = 0 by decide), cond_false]
          exact yes (addR_t.mpr (Or.inr ⟨q, Or.inr e⟩))
        | false =>
          rw [decide_eq_true (show b2i false = 0 from rfl), cond_true]
          exact no (by unfold addR; rw [decide_eq_false hyb, e]; simp)
    rw [eB_334_139]
    by_cases hxa : x = a
    · rw [decide_eq_true (show nI x = nI a by rw [hxa]), cond_true]
      exact e156 (Or.inl hxa)
    · rw [decide_eq_false (show ¬ nI x = nI a from fun w => hxa ((nI_eq (by omega) (by omega)).mp w)), cond_false, eB_334_146, inb_n (show x < 17 by omega) (by decide), cond_true, inb_n (show a < 17 by omega) (by decide), cond_true, nI_clamp (show x < 2 ^ 31 by omega), nI_clamp (show a < 2 ^ 31 by omega), rxa]
      cases e : R x a with
      | true =>
        rw [decide_eq_false (show ¬ b2i true = 0 by decide), cond_false]
        exact e156 (Or.inr e)
      | false =>
        rw [decide_eq_true (show b2i false = 0 from rfl), cond_true]
        exact no (by unfold addR; rw [decide_eq_false hxa, e]; simp)
theorem o_updX {R : Nat → Nat → Bool} (hin : In n R) (h6 : n ≤ 6) {a b : Nat} (ha : 1 ≤ a ∧ a ≤ n) (hb : 1 ≤ b ∧ b ≤ n) (hab : a ≠ b) (hba : R b a = false) {I : Nat → Nat → Int32} {J : Nat → Nat → Int64} {D : Nat → Nat → UInt64} {l k : Int32} :
    ∀ r x, x + r = n + 1 → 1 ≤ x → ∀ X : Nat → Nat → Int32, X 0 6 = nI n → (∀ u v, u < 17 → v < 17 → X (330 + u) v = b2i (mxU R a b x 1 u v)) → ∃ X2 : Nat → Nat → Int32, ex (334, 118, [.ref 0, .ref 329, .int l, .int k, .int (nI a), .int (nI b), dv, .int (nI x), dv], [], mB (ovr I X) J D) = ex (334, 193, [.ref 0, .ref 329, .int l, .int k, dv, dv, dv, dv, dv], [], mB (ovr I X2) J D) ∧ (∀ p, p < 330 ∨ 347 ≤ p → X2 p = X p) ∧ ∀ u v, u < 17 → v < 17 → X2 (330 + u) v = b2i (addR R a b u v) := by
  intro r
  induction r with
  | zero =>
    intro x hx h1 X h0 hX
    have hx : x = n + 1 := by omega
    subst hx
    refine ⟨X, ?_, fun _ _ => rfl, fun u v hu hv => ?_⟩
    · rw [eB_334_118, show ovr I X 0 6 = nI n from h0, decide_eq_true ((nI_ltI (by omega) (by omega)).mpr (show n < n + 1 by omega)), cond_true]
    · rw [hX u v hu hv]
      unfold mxU
      by_cases q : u < n + 1 ∨ (u = n + 1 ∧ v < 1)
      · rw [if_pos q]
      · rw [if_neg q, hin.f (by omega), (addR_in hin ha hb).f (by omega)]
  | succ r ih =>
    intro x hx h1 X h0 hX
    obtain ⟨X1, e1, f1, g1⟩ := o_updY hin h6 ha hb hab hba (I := I) (J := J) (D := D) (l := l) (k := k) (x := x) ⟨h1, by omega⟩ n 1 (by omega) (by omega) X h0 hX
    obtain ⟨X2, e2, f2, g2⟩ := ih (x + 1) (by omega) (by omega) X1 (by rw [f1 0 (by omega)]; exact h0) (fun u v hu hv => by rw [g1 u v hu hv, mxU_n hin ha hb])
    refine ⟨X2, ?_, fun p hp => (f2 p hp).trans (f1 p hp), g2⟩
    rw [eB_334_118, show ovr I X 0 6 = nI n from h0, decide_eq_false (show ¬ nI n < nI x from nI_nlt (by omega) (by omega)), cond_false, eB_334_127]
    rw [show ex (334, 130, [.ref 0, .ref 329, .int l, .int k, .int (nI a), .int (nI b), dv, .int (nI x), .int 1], [], mB (ovr I X) J D) = _ from e1, eB_334_187, nI_1]
    exact e2
theorem ctc326 : ctc 326 3 0 = some 7 := by decide +kernel
/-- the law's call of layOn -/
theorem lw_on {X I : Nat → Nat → Int32} {J : Nat → Nat → Int64} {D : Nat → Nat → UInt64} (s : St TT 2 X I J D) (h16 : n ≤ 16) (hin : In n T) (pl : PilG n T (PG I)) {a b : Nat} (ha : 1 ≤ a ∧ a ≤ n) (hb : 1 ≤ b ∧ b ≤ n) (hab : a ≠ b) :
    WP 347 SB RB QD TT X QJ (fun v I2 => ((clo T b a = true ∧ v = some (.int (-1)) ∧ PG I2 = PG I) ∨ (clo T b a = false ∧ v = some (.int (nI (lnN (clo (addT T a b)) n))) ∧ PilG n (addT T a b) (PG I2) ∧ ∀ o, o = 0 ∨ 9 ≤ o → PG I2 o = PG I o))) (ex (326, 0, [.ref 1, .int (nI a), .int (nI b), dv], [], 347, SB, RB, ovr I X, ovr J QJ, ovr D QD)) := by
  rw [eB_326_0]
  cases e : clo T b a with
  | true =>
    refine goE bas_B (by decide) rfl ctc326 (c := 1) s (fun kk _ hi => a_onN hi h16 hin pl ha hb hab e) (fun X2 I2 J2 D2 hx s2 hs => ?_)
    rw [eB_326_7]
    exact wp_ret (Or.inl ⟨rfl, rfl, hs.pg⟩) hx s2
  | false =>
    refine goM bas_B (by decide) rfl (c := 1) s (fun kk _ hi => a_onY hi h16 hin pl ha hb hab e) (fun X2 I2 J2 D2 hx s2 hs => ?_)
    rw [ka, eB_326_6]
    exact wp_ret (Or.inr ⟨rfl, rfl, hs⟩) hx s2
def DrP (T : Nat) (v : Option Value) (X2 : Nat → Nat → Int32) (I2 : Nat → Nat → Int32) (J2 : Nat → Nat → Int64) (D2 : Nat → Nat → UInt64) : Prop :=
  (v = some (.int 1) ∧ Rs8 (PG I2) ∧ ∀ k, k < 5 → X2 327 k = -1) ∧ ∃ c2, St T c2 X2 I2 J2 D2
/-- the end: lines, orders -/
theorem lw_dr5 {X I : Nat → Nat → Int32} {J : Nat → Nat → Int64} {D : Nat → Nat → UInt64} {c : Nat} (s : St TT (c + 2) X I J D) (h6 : n ≤ 6) (hin : In n T) (pl : PilG n T (PG I)) (la : LawP n (clo T) X) (rs : Rs8 (PG I)) :
    WO 348 SC RC QD (fun v X2 QJ I2 J2 D2 => DrP TT v X2 I2 J2 D2) (ex (334, 483, [.ref 0, .ref 329, .int (nI (lnN (clo T) n)), .int (nI (lnN (clo T) n)), dv, dv, dv, dv, dv], [], 348, SC, RC, ovr I X, ovr J QJ, ovr D QD)) := by
  have hin2 : In n (clo T) := wsh_in hin 16
  rw [eC_334_483]
  refine goK bas_C (by decide) rfl s (fun kk _ hi => q_lcnt hi (by omega) hin pl) (fun X1 I1 J1 D1 hx1 s1 hs1 => ?_)
  rw [ka, eC_334_490, decide_eq_false (fun h => h rfl), cond_false, eC_334_494, decide_eq_false (fun h => h rfl), cond_false, eC_334_499]
  have pl1 : PilG n T (PG I1) := by rw [hs1.pg]; exact pl
  refine goK bas_C (by decide) rfl s1 (fun kk _ hi => q_ords hi (by omega) hin pl1 (by omega)) (fun X2 I2 J2 D2 hx2 s2 hs2 => ?_)
  have la2 := (la.cr hx1).cr hx2
  obtain ⟨t1, t2, kk, t3, hi⟩ := id s2
  have pl2 : PilG n T (PG I2) := by rw [hs2.pg]; exact pl1
  obtain ⟨r, hr⟩ := clo_rank (pl_rank hi (show n ≤ 16 by omega) hin pl2)
  have hir : ∀ a, clo T a a = false := fun a => by
    cases e : clo T a a with
    | false => rfl
    | true => have := hr _ _ e; omega
  have ab9 : AbR n (clo T) (ups (ovr I2 X2) iCRD 0 (nI 0)) := by
    obtain ⟨q1, q2⟩ := ab_ovr (I := I2) la2.1
    refine ⟨by rw [w_un (by decide)]; exact q1, fun x y hx hy => ?_⟩
    rw [w_un (show 330 + x ≠ iCRD by unfold iCRD; omega)]
    exact q2 x y hx hy
  have ol := o_law hin2 h6 hir (ups (ovr I2 X2) iCRD 0 (nI 0)) (ovr J2 QJ) (ovr D2 QD) (c := 0) ab9 w_us (by omega)
  rw [show (some (Value.long (lN (EE (clo T) n (fun j => decide (j < n)))))).toList ++ [] = [.long (lN (EE (clo T) n (fun j => decide (j < n))))] from rfl, eC_334_506]
  rw [goZ (by decide) (by decide) rfl (c := c) (by rw [ovr_o (by decide)]; exact t1) (by omega) ol (by rw [ovr_o (by decide)]; exact t1)]
  rw [show (some (Value.long (lN (EE (clo T) n (fun j => decide (j < n)))))).toList ++ [.long (lN (EE (clo T) n (fun j => decide (j < n))))] = [.long (lN (EE (clo T) n (fun j => decide (j < n)))), .long (lN (EE (clo T) n (fun j => decide (j < n))))] from rfl, eC_334_512]
  have lg : ∀ x : Int64, lg_cmp x x = 0 := fun x => by unfold lg_cmp; simp
  rw [lg, decide_eq_false (fun h => h rfl), cond_false, eC_334_516, eC_334_521, decide_eq_true (Or.inr rfl), cond_true]
  exact wo_ret ⟨⟨rfl, by rw [hs2.pg, hs1.pg]; exact rs, la2.2⟩, _, s2⟩
/-- the order's places -/
def PlaceX (R : Nat → Nat → Bool) (n k : Nat) (X : Nat → Nat → Int32) : Prop := ∀ j, j < k → X 347 (ord R n j) = nI (j + 1)
theorem ord_inj {R : Nat → Nat → Bool} {r : Nat → Nat} (hin : In n R) (hr : ∀ a b, R a b = true → r a < r b) {i j : Nat} (hi : i < j) (hj : j < n) : ord R n i ≠ ord R n j := fun e => by
  have h1 := (ord_ok hin hr hj).2.1.1
  have h2 : ∀ d, plc R n (i + 1 + d) (ord R n i) = true := by
    intro d
    induction d with
    | zero => rw [Nat.add_zero, plc_s, decide_eq_true rfl, Bool.or_true]
    | succ d ih => rw [show i + 1 + (d + 1) = (i + 1 + d) + 1 by omega, plc_s, ih, Bool.true_or]
  have := h2 (j - (i + 1))
  rw [show i + 1 + (j - (i + 1)) = j by omega, e, h1] at this
  cases this
theorem lw_dr4b {R : Nat → Nat → Bool} {r : Nat → Nat} (hin : In n R) (h6 : n ≤ 6) (hr : ∀ a b, R a b = true → r a < r b) {I X : Nat → Nat → Int32} {J : Nat → Nat → Int64} {D : Nat → Nat → UInt64} {l m : Int32} (la : AbR n R X) (hp : PlaceX R n n X) {a : Nat} (ha : 1 ≤ a ∧ a ≤ n) :
    ∀ q b, b + q = n + 1 → 1 ≤ b → ex (334, 437, [.ref 0, .ref 329, .int l, .int m, .ref 347, .int (nI a), .int (nI b), dv, dv], [], mC (ovr I X) J D) = ex (334, 477, [.ref 0, .ref 329, .int l, .int m, .ref 347, .int (nI a), dv, dv, dv], [], mC (ovr I X) J D) := by
  have la' := ab_ovr (I := I) la
  intro q
  induction q with
  | zero =>
    intro b hb h1
    have hb : b = n + 1 := by omega
    subst hb
    rw [eC_334_437, la'.1, decide_eq_true ((nI_ltI (by omega) (by omega)).mpr (show n < n + 1 by omega)), cond_true]
  | succ q ih =>
    intro b hb h1
    have next : ex (334, 471, [.ref 0, .ref 329, .int l, .int m, .ref 347, .int (nI a), .int (nI b), dv, dv], [], mC (ovr I X) J D) = ex (334, 477, [.ref 0, .ref 329, .int l, .int m, .ref 347, .int (nI a), dv, dv, dv], [], mC (ovr I X) J D) := by
      rw [eC_334_471, nI_1]
      exact ih (b + 1) (by omega) (by omega)
    rw [eC_334_437, la'.1, decide_eq_false (show ¬ nI n < nI b from nI_nlt (by omega) (by omega)), cond_false, eC_334_446, inb_n (show a < 17 by omega) (by decide), cond_true, inb_n (show b < 17 by omega) (by decide), cond_true, nI_clamp (show a < 2 ^ 31 by omega), nI_clamp (show b < 2 ^ 31 by omega), la'.2 a b (by omega) (by omega)]
    cases e : R a b with
    | false =>
      rw [decide_eq_true (show b2i false = 0 from rfl), cond_true]
      exact next
    | true =>
      obtain ⟨jb, j1, j2⟩ := plc_of (plc_all hin hr (x := b) ⟨h1, by omega⟩)
      have h3 := (ord_ok hin hr j1).2.1.2 a (by rw [← j2]; exact e)
      obtain ⟨ja, j3, j4⟩ := plc_of h3
      have pa : ovr I X 347 a = nI (ja + 1) := by rw [ovr_hi (by omega), j4]; exact hp ja (by omega)
      have pb : ovr I X 347 b = nI (jb + 1) := by rw [ovr_hi (by omega), j2]; exact hp jb j1
      rw [decide_eq_false (show ¬ b2i true = 0 by decide), cond_false, eC_334_456, inb_n (show a < 17 by omega) (by decide), cond_true, inb_n (show b < 17 by omega) (by decide), cond_true, nI_clamp (show a < 2 ^ 31 by omega), nI_clamp (show b < 2 ^ 31 by omega), pa, pb, decide_eq_true ((nI_leI (by omega) (by omega)).mpr (show ja + 1 ≤ jb + 1 by omega)), cond_true]
      exact next
theorem lw_dr4 {R : Nat → Nat → Bool} {r : Nat → Nat} (hin : In n R) (h6 : n ≤ 6) (hr : ∀ a b, R a b = true → r a < r b) {I X : Nat → Nat → Int32} {J : Nat → Nat → Int64} {D : Nat → Nat → UInt64} {l m : Int32} (la : AbR n R X) (hp : PlaceX R n n X) :
    ∀ q a, a + q = n + 1 → 1 ≤ a → ex (334, 415, [.ref 0, .ref 329, .int l, .int m, .ref 347, .int (nI a), dv, dv, dv], [], mC (ovr I X) J D) = ex (334, 483, [.ref 0, .ref 329, .int l, .int m, dv, dv, dv, dv, dv], [], mC (ovr I X) J D) := by
  have la' := ab_ovr (I := I) la
  intro q
  induction q with
  | zero =>
    intro a ha h1
    have ha : a = n + 1 := by omega
    subst ha
    rw [eC_334_415, la'.1, decide_eq_true ((nI_ltI (by omega) (by omega)).mpr (show n < n + 1 by omega)), cond_true]
  | succ q ih =>
    intro a ha h1
    obtain ⟨ja, j1, j2⟩ := plc_of (plc_all hin hr (x := a) ⟨h1, by omega⟩)
    have pa : ovr I X 347 a = nI (ja + 1) := by rw [ovr_hi (by omega), j2]; exact hp ja j1
    have b4 := lw_dr4b hin h6 hr (I := I) (J := J) (D := D) (l := l) (m := m) la hp (a := a) ⟨h1, by omega⟩ n 1 (by omega) (by omega)
    rw [eC_334_415, la'.1, decide_eq_false (show ¬ nI n < nI a from nI_nlt (by omega) (by omega)), cond_false, eC_334_424, inb_n (show a < 17 by omega) (by decide), cond_true, nI_clamp (show a < 2 ^ 31 by omega), pa, decide_eq_true (show nI (ja + 1) ≠ 0 from fun h => by have := (nI_eq (a := ja + 1) (b := 0) (by omega) (by omega)).mp h; omega), cond_true, eC_334_434]
    rw [show ex (334, 437, [.ref 0, .ref 329, .int l, .int m, .ref 347, .int (nI a), .int 1, dv, dv], [], mC (ovr I X) J D) = _ from b4, eC_334_477, nI_1]
    exact ih (a + 1) (by omega) (by omega)
/-- the law asks the order -/
theorem lw_dr3 (h6 : n ≤ 6) (hin : In n T) {r : Nat → Nat} (hr : ∀ a b, clo T a b = true → r a < r b) :
    ∀ q k, k + q = n → ∀ (X I : Nat → Nat → Int32) (J : Nat → Nat → Int64) (D : Nat → Nat → UInt64) c, q + 2 ≤ c → St TT c X I J D → PilG n T (PG I) → LawP n (clo T) X → Rs8 (PG I) → PlaceX (clo T) n k X →
      WO 348 SC RC QD (fun v X2 QJ I2 J2 D2 => DrP TT v X2 I2 J2 D2) (ex (334, 381, [.ref 0, .ref 329, .int (nI (lnN (clo T) n)), .int (nI (lnN (clo T) n)), .ref 347, .int (nI k), dv, dv, dv], [], 348, SC, RC, ovr I X, ovr J QJ, ovr D QD)) := by
  have hin2 : In n (clo T) := wsh_in hin 16
  intro q
  induction q with
  | zero =>
    intro k hk X I J D c hc s pl la rs hp
    have hk : k = n := by omega
    subst hk
    obtain ⟨c, rfl⟩ : ∃ c', c = c' + 2 := ⟨c - 2, by omega⟩
    have d4 := lw_dr4 hin2 h6 hr (I := I) (J := ovr J QJ) (D := ovr D QD) (l := nI (lnN (clo T) k)) (m := nI (lnN (clo T) k)) la.1 hp k 1 (by omega) (by omega)
    rw [eC_334_381, (ab_ovr (I := I) la.1).1, decide_eq_true ((nI_leI (by omega) (by omega)).mpr (Nat.le_refl k)), cond_true, eC_334_412]
    rw [show ex (334, 415, [.ref 0, .ref 329, .int (nI (lnN (clo T) k)), .int (nI (lnN (clo T) k)), .ref 347, .int 1, dv, dv, dv], [], mC (ovr I X) (ovr J QJ) (ovr D QD)) = _ from d4]
    exact lw_dr5 s h6 hin pl la rs
  | succ q ih =>
    intro k hk X I J D c hc s pl la rs hp
    obtain ⟨c, rfl⟩ : ∃ c', c = c' + 1 := ⟨c - 1, by omega⟩
    rw [eC_334_381, (ab_ovr (I := I) la.1).1, decide_eq_false (show ¬ nI n ≤ nI k from nI_ge (by omega) (by omega)), cond_false, eC_334_390]
    refine goK bas_C (by decide) rfl s (fun kk _ hi => q_ord hi (by omega) hin pl (m := k) (by omega)) (fun X1 I1 J1 D1 hx1 s1 hs1 => ?_)
    have la1 := la.cr hx1
    have ok := ord_ok hin2 hr (k := k) (by omega)
    have ho : 1 ≤ ord (clo T) n k ∧ ord (clo T) n k ≤ n := ok.1
    rw [show (some (Value.int (nI (ord (clo T) n k)))).toList ++ [.ref 347] = [.int (nI (ord (clo T) n k)), .ref 347] from rfl, eC_334_401, inb_n (show ord (clo T) n k < 17 by omega) (by decide), cond_true, nI_clamp (show ord (clo T) n k < 2 ^ 31 by omega), nI_1, ovr_uph (by omega)]
    refine ih (k + 1) (by omega) (ups X1 347 (ord (clo T) n k) (nI (k + 1))) I1 J1 D1 c (by omega) ⟨by rw [w_un (by decide)]; exact s1.1, s1.2⟩ (by rw [hs1.pg]; exact pl) ?_ (by rw [hs1.pg]; exact rs) (fun j hj => ?_)
    · refine ⟨⟨by rw [uI (by decide)]; exact la1.1.1, fun x y hx hy => ?_⟩, by rw [uI (by decide)]; exact la1.2⟩
      rw [uI (by omega)]
      exact la1.1.2 x y hx hy
    · by_cases e : j = k
      · subst e; rw [uIs, uUs]
      · rw [uIs, uU (ord_inj hin2 hr (show j < k by omega) (by omega)), hx1 347 (by decide)]
        exact hp j (by omega)
/-- is there none between -/
theorem lw_dr2c {R : Nat → Nat → Bool} (hin : In n R) (h6 : n ≤ 6) {I X : Nat → Nat → Int32} {J : Nat → Nat → Int64} {D : Nat → Nat → UInt64} {l m : Int32} (la : AbR n R X) {a b : Nat} (ha : 1 ≤ a ∧ a ≤ n) (hb : 1 ≤ b ∧ b ≤ n) :
    ∀ q k, k + q = n → ex (334, 260, [.ref 0, .ref 329, .int l, .int m, .int (nI a), .int (nI b), .int (b2i (R a b && !(orB (btw R a b) k))), .int (nI (k + 1)), dv], [], mB (ovr I X) J D) = ex (334, 307, [.ref 0, .ref 329, .int l, .int m, .int (nI a), .int (nI b), .int (b2i (dr R a b)), dv, dv], [], mB (ovr I X) J D) := by
  have la' := ab_ovr (I := I) la
  intro q
  induction q with
  | zero =>
    intro k hk
    have hk : k = n := by omega
    subst hk
    have e : dr R a b = (R a b && !(orB (btw R a b) k)) := by
      unfold dr
      rw [orB_ex (n := k) (m := 16) (f := btw R a b) (fun j hj => by
        unfold btw
        rw [hin.f (a := a) (b := j) (by omega), Bool.false_and]) (by omega)]
    rw [eB_334_260, la'.1, decide_eq_true ((nI_ltI (by omega) (by omega)).mpr (show k < k + 1 by omega)), cond_true, e]
  | succ q ih =>
    intro k hk
    have ih := ih (k + 1) (by omega)
    have es : orB (btw R a b) (k + 1) = (orB (btw R a b) k || btw R a b (k + 1)) := rfl
    rw [es] at ih
    rw [eB_334_260, la'.1, decide_eq_false (show ¬ nI n < nI (k + 1) from nI_nlt (by omega) (by omega)), cond_false, eB_334_269]
    cases e : (R a b && !(orB (btw R a b) k)) with
    | false =>
      have e2 : (R a b && !(orB (btw R a b) k || btw R a b (k + 1))) = false := by
        revert e
        cases R a b <;> cases orB (btw R a b) k <;> simp
      rw [e2] at ih
      rw [decide_eq_true (show b2i false = 0 from rfl), cond_true, eB_334_298, eB_334_299, nI_1]
      exact ih
    | true =>
      have e2 : (R a b && !(orB (btw R a b) k || btw R a b (k + 1))) = !(btw R a b (k + 1)) := by
        revert e
        cases R a b <;> cases orB (btw R a b) k <;> simp
      rw [e2] at ih
      rw [decide_eq_false (show ¬ b2i true = 0 by decide), cond_false, eB_334_274, inb_n (show a < 17 by omega) (by decide), cond_true, inb_n (show k + 1 < 17 by omega) (by decide), cond_true, nI_clamp (show a < 2 ^ 31 by omega), nI_clamp (show k + 1 < 2 ^ 31 by omega), la'.2 a (k + 1) (by omega) (by omega)]
      cases e3 : R a (k + 1) with
      | false =>
        rw [show btw R a b (k + 1) = false by unfold btw; rw [e3, Bool.false_and]] at ih
        rw [decide_eq_true (show b2i false = 0 from rfl), cond_true, eB_334_294, eB_334_299, nI_1]
        exact ih
      | true =>
        rw [decide_eq_false (show ¬ b2i true = 0 by decide), cond_false, eB_334_284, inb_n (show k + 1 < 17 by omega) (by decide), cond_true, inb_n (show b < 17 by omega) (by decide), cond_true, nI_clamp (show b < 2 ^ 31 by omega), nI_clamp (show k + 1 < 2 ^ 31 by omega), la'.2 (k + 1) b (by omega) (by omega)]
        cases e4 : R (k + 1) b with
        | false =>
          rw [show btw R a b (k + 1) = false by unfold btw; rw [e4, Bool.and_false]] at ih
          rw [decide_eq_false (show ¬ b2i false ≠ 0 from fun h => h rfl), cond_false, eB_334_294, eB_334_299, nI_1]
          exact ih
        | true =>
          rw [show btw R a b (k + 1) = true by unfold btw; rw [e3, e4]; rfl] at ih
          rw [decide_eq_true (show b2i true ≠ 0 by decide), cond_true, eB_334_298, eB_334_299, nI_1]
          exact ih
/-- the law looks at all pairs -/
theorem lw_dr2 (h6 : n ≤ 6) (hin : In n T) {r : Nat → Nat} (hr : ∀ a b, clo T a b = true → r a < r b) :
    ∀ q a b, 7 * a + b + q = 7 * (n + 1) + 1 → 1 ≤ a → 1 ≤ b → b ≤ n + 1 → (a = n + 1 → b = 1) → a ≤ n + 1 → ∀ (X I : Nat → Nat → Int32) (J : Nat → Nat → Int64) (D : Nat → Nat → UInt64) c, 4 * q + 10 ≤ c → St TT c X I J D → PilG n T (PG I) → LawP n (clo T) X → Rs8 (PG I) →
      WO 348 SC RC (dC QD) (fun v X2 QJ I2 J2 D2 => DrP TT v X2 I2 J2 D2) (if b = 1 then ex (334, 204, [.ref 0, .ref 329, .int (nI (lnN (clo T) n)), .int (nI (cntN (Lc (clo T)) (17 * a + b))), .int (nI a), dv, dv, dv, dv], [], 347, SB, RB, ovr I X, ovr J QJ, ovr D QD) else ex (334, 216, [.ref 0, .ref 329, .int (nI (lnN (clo T) n)), .int (nI (cntN (Lc (clo T)) (17 * a + b))), .int (nI a), .int (nI b), dv, dv, dv], [], 347, SB, RB, ovr I X, ovr J QJ, ovr D QD)) := by
  have hin2 : In n (clo T) := wsh_in hin 16
  have hd2 := dr_in hin2
  intro q
  induction q using Nat.strongRecOn with
  | ind q ih =>
    intro a b hq ha hb1 hb hae ha2 X I J D c hc s pl la rs
    by_cases hend : a = n + 1
    · -- the end
      have hb : b = 1 := hae hend
      subst hb; subst hend
      have ecnt : cntN (Lc (clo T)) (17 * (n + 1) + 1) = lnN (clo T) n := by
        have e1 : cntN (Lc (clo T)) (17 * (n + 1) + 1) = cntN (Lc (clo T)) (17 * (n + 1)) := cnt_gap (by omega) (fun j h1 h2 => by
          unfold Lc
          exact hd2.f (by omega))
        rw [e1, Lc_row hin2]
      rw [if_pos rfl, eB_334_204, (ab_ovr (I := I) la.1).1, decide_eq_true ((nI_ltI (by omega) (by omega)).mpr (show n < n + 1 by omega)), cond_true, eB_334_372, ecnt]
      rw [show iC (ovr I X) = ovr I (upR X 347 (fun _ => 0)) from ovr_up9, show jC (ovr J QJ) = ovr J (jC QJ) from ovr_up9, show dC (ovr D QD) = ovr D (dC QD) from ovr_up9]
      refine lw_dr3 h6 hin hr n 0 (by omega) (upR X 347 (fun _ => 0)) I J D c (by omega) ⟨by rw [upR_n (by decide)]; exact s.1, s.2⟩ pl ⟨⟨by rw [upR_n (by decide)]; exact la.1.1, fun x y hx hy => ?_⟩, by rw [upR_n (by decide)]; exact la.2⟩ rs (fun j hj => absurd hj (Nat.not_lt_zero _))
      rw [upR_n (by omega)]
      exact la.1.2 x y hx hy
    · have ha3 : a ≤ n := by omega
      -- at one pair
      have pair : b ≤ n → WO 348 SC RC (dC QD) (fun v X2 QJ I2 J2 D2 => DrP TT v X2 I2 J2 D2) (ex (334, 216, [.ref 0, .ref 329, .int (nI (lnN (clo T) n)), .int (nI (cntN (Lc (clo T)) (17 * a + b))), .int (nI a), .int (nI b), dv, dv, dv], [], 347, SB, RB, ovr I X, ovr J QJ, ovr D QD)) := fun hbn => by
        obtain ⟨c, rfl⟩ : ∃ c', c = c' + 4 := ⟨c - 4, by omega⟩
        have es : cntN (Lc (clo T)) (17 * a + (b + 1)) = cntN (Lc (clo T)) (17 * a + b) + (bif dr (clo T) a b then 1 else 0) := by
          show cntN _ (17 * a + b) + (bif Lc (clo T) (17 * a + b) then 1 else 0) = _
          rw [Lc_at (by omega)]
        have bd : cntN (Lc (clo T)) (17 * a + b) ≤ 17 * a + b := cnt_bd _
        rw [eB_334_216, (ab_ovr (I := I) la.1).1, decide_eq_false (show ¬ nI n < nI b from nI_nlt (by omega) (by omega)), cond_false, eB_334_225]
        refine goK bas_B (by decide) rfl s (fun kk _ hi => q_abv hi (by omega) hin pl (a := a) (b := b) ⟨ha, ha3⟩ ⟨hb1, hbn⟩) (fun X1 I1 J1 D1 hx1 s1 hs1 => ?_)
        have la1 := la.cr hx1
        have pl1 : PilG n T (PG I1) := by rw [hs1.pg]; exact pl
        have ab1 := ab_ovr (I := I1) la1.1
        have c2 := lw_dr2c hin2 h6 (I := I1) (J := ovr J1 QJ) (D := ovr D1 QD) (l := nI (lnN (clo T) n)) (m := nI (cntN (Lc (clo T)) (17 * a + b))) la1.1 ⟨ha, ha3⟩ ⟨hb1, hbn⟩ n 0 (by omega)
        rw [show orB (btw (clo T) a b) 0 = false from rfl, Bool.not_false, Bool.and_true] at c2
        rw [ka, eB_334_236, inb_n (show a < 17 by omega) (by decide), cond_true, inb_n (show b < 17 by omega) (by decide), cond_true, nI_clamp (show a < 2 ^ 31 by omega), nI_clamp (show b < 2 ^ 31 by omega), ab1.2 a b (by omega) (by omega), decide_eq_true rfl, cond_true, eB_334_248, inb_n (show a < 17 by omega) (by decide), cond_true, inb_n (show b < 17 by omega) (by decide), cond_true, nI_clamp (show a < 2 ^ 31 by omega), nI_clamp (show b < 2 ^ 31 by omega), ab1.2 a b (by omega) (by omega)]
        rw [show ex (334, 260, [.ref 0, .ref 329, .int (nI (lnN (clo T) n)), .int (nI (cntN (Lc (clo T)) (17 * a + b))), .int (nI a), .int (nI b), .int (b2i (clo T a b)), .int 1, dv], [], mB (ovr I1 X1) (ovr J1 QJ) (ovr D1 QD)) = _ from c2, eB_334_307]
        cases e : dr (clo T) a b with
        | false =>
          have := ih (q - 1) (by omega) a (b + 1) (by omega) ha (by omega) (by omega) (fun h => absurd h (by omega)) ha2 X1 I1 J1 D1 (c + 3) (by omega) s1 pl1 la1 (by rw [hs1.pg]; exact rs)
          rw [if_neg (by omega), es, e, cond_false, Nat.add_zero] at this
          rw [decide_eq_false (show ¬ b2i false ≠ 0 from fun h => h rfl), cond_false, eB_334_312, eB_334_360, nI_1]
          exact this
        | true =>
          rw [decide_eq_true (show b2i true ≠ 0 by decide), cond_true, eB_334_315]
          refine goK bas_B (by decide) rfl (c := c + 2) s1 (fun kk _ hi => q_lat hi (by omega) hin pl1 (a := a) (b := b) ⟨ha, ha3⟩ ⟨hb1, hbn⟩ e rfl) (fun X2 I2 J2 D2 hx2 s2 hs2 => ?_)
          have pl2 : PilG n T (PG I2) := by rw [hs2.pg]; exact pl1
          have m32 : (32 : Int32) * nI a + nI b = nI (32 * a + b) := by
            have : ∀ a, a < 7 → ∀ b, b < 7 → (32 : Int32) * nI a + nI b = nI (32 * a + b) := by decide +kernel
            exact this a (by omega) b (by omega)
          rw [ka, eB_334_323, m32, decide_eq_false (fun h => h rfl), cond_false, eB_334_334]
          refine goK bas_B (by decide) rfl (c := c + 1) s2 (fun kk _ hi => q_pha hi (by omega) hin pl2 (a := b) ⟨hb1, hbn⟩) (fun X3 I3 J3 D3 hx3 s3 hs3 => ?_)
          have pl3 : PilG n T (PG I3) := by rw [hs3.pg]; exact pl2
          rw [ka, eB_334_343]
          refine goK bas_B (by decide) rfl (c := c) s3 (fun kk _ hi => q_pha hi (by omega) hin pl3 (a := a) ⟨ha, ha3⟩) (fun X4 I4 J4 D4 hx4 s4 hs4 => ?_)
          have pl4 : PilG n T (PG I4) := by rw [hs4.pg]; exact pl3
          have hR : clo T a b = true := by
            unfold dr at e
            rw [Bool.and_eq_true] at e; exact e.1
          have hlt := dep_lt hin2 hr (show n ≤ 16 by omega) hR
          have h16 : dep (clo T) n b ≤ 16 := dep_16
          have := ih (q - 1) (by omega) a (b + 1) (by omega) ha (by omega) (by omega) (fun h => absurd h (by omega)) ha2 X4 I4 J4 D4 c (by omega) s4 pl4 (((la1.cr hx2).cr hx3).cr hx4) (by rw [hs4.pg, hs3.pg, hs2.pg, hs1.pg]; exact rs)
          rw [if_neg (by omega), es, e, cond_true] at this
          rw [show (some (Value.int (nI (dep (clo T) n a)))).toList ++ [.int (nI (dep (clo T) n b))] = [.int (nI (dep (clo T) n a)), .int (nI (dep (clo T) n b))] from rfl, eB_334_352, decide_eq_true ((nI_ltI (by omega) (by omega)).mpr (show dep (clo T) n a < dep (clo T) n b by omega)), cond_true, eB_334_357, eB_334_360, nI_1, nI_1]
          exact this
      by_cases h1 : b = 1
      · subst h1
        rw [if_pos rfl, eB_334_204, (ab_ovr (I := I) la.1).1, decide_eq_false (show ¬ nI n < nI a from nI_nlt (by omega) (by omega)), cond_false, eB_334_213]
        exact pair (by omega)
      · rw [if_neg h1]
        by_cases hbn : b ≤ n
        · exact pair hbn
        · have hb : b = n + 1 := by omega
          subst hb
          have eg : cntN (Lc (clo T)) (17 * (a + 1) + 1) = cntN (Lc (clo T)) (17 * a + (n + 1)) := cnt_gap (by omega) (fun j h1 h2 => by
            unfold Lc
            exact hd2.f (by omega))
          have := ih (q - (7 - n)) (by omega) (a + 1) 1 (by omega) (by omega) (by omega) (by omega) (fun _ => rfl) (by omega) X I J D c (by omega) s pl la rs
          rw [if_pos rfl, eg] at this
          rw [eB_334_216, (ab_ovr (I := I) la.1).1, decide_eq_true ((nI_ltI (by omega) (by omega)).mpr (show n < n + 1 by omega)), cond_true, eB_334_366, nI_1]
          exact this
/-- the law tells what lies on what -/
theorem lw_dr1 (h6 : n ≤ 6) (h2 : 1 ≤ n) :
    ∀ k T (X I : Nat → Nat → Int32) (J : Nat → Nat → Int64) (D : Nat → Nat → UInt64) c, 2 * k + 250 ≤ c → k ≤ 20 → St TT c X I J D → In n T → PilG n T (PG I) → LawP n (clo T) X → Rs8 (PG I) →
      WO 348 SC RC (dC QD) (fun v X2 QJ I2 J2 D2 => DrP TT v X2 I2 J2 D2) (ex (334, 23, [.ref 0, .ref 329, .int (nI (lnN (clo T) n)), .int (nI k), dv, dv, dv, dv, dv], [], 347, SB, RB, ovr I X, ovr J QJ, ovr D QD)) := by
  intro k
  induction k with
  | zero =>
    intro T X I J D c hc hk s hin pl la rs
    have hin2 : In n (clo T) := wsh_in hin 16
    obtain ⟨r, hr⟩ : ∃ r : Nat → Nat, ∀ a b, clo T a b = true → r a < r b := by
      obtain ⟨-, -, kk, -, hi⟩ := id s
      exact clo_rank (pl_rank hi (show n ≤ 16 by omega) hin pl)
    rw [eB_334_23, decide_eq_true (show nI 0 ≤ 0 by decide), cond_true, eB_334_199]
    have := lw_dr2 (TT := TT) (QJ := QJ) (QD := QD) h6 hin hr (7 * n) 1 1 (by omega) (by omega) (by omega) (by omega) (fun _ => rfl) (by omega) X I J D c (by omega) s pl la rs
    rw [if_pos rfl, show cntN (Lc (clo T)) (17 * 1 + 1) = 0 from cnt_0 (fun j hj => by unfold Lc; exact (dr_in hin2).f (by omega))] at this
    exact this
  | succ k ih =>
    intro T X I J D c hc hk s hin pl la rs
    have hin2 : In n (clo T) := wsh_in hin 16
    have e1 : ∀ a : Nat, (1 : Int32) + nI a = nI (1 + a) := fun a => nI_add 1 a
    rw [eB_334_23, decide_eq_false (show ¬ nI (k + 1) ≤ 0 from nI_nle (by omega) (by omega)), cond_false, eB_334_27]
    refine goN nl_B (by decide) (ab_ovr (I := I) la.1).1 ⟨by omega, by omega⟩ s (fun X1 a ha hx1 s1 => ?_)
    have la1 := la.dw hx1
    rw [eB_334_39, e1]
    refine goN nl_B (by decide) (ab_ovr (I := I) la1.1).1 ⟨by omega, by omega⟩ s1 (fun X2 b hb hx2 s2 => ?_)
    have la2 := la1.dw hx2
    rw [eB_334_54, e1]
    by_cases hab : 1 + a = 1 + b
    · rw [hab, decide_eq_false (fun h => h rfl), cond_false, eB_334_64, eB_334_193, show nI (k + 1) + (-1) = nI k from nI_dec k]
      exact ih T X2 I J D c (by omega) (by omega) s2 hin pl la2 rs
    · rw [decide_eq_true (show nI (1 + a) ≠ nI (1 + b) from fun w => hab ((nI_eq (by omega) (by omega)).mp w)), cond_true, eB_334_67]
      refine goP (by decide) (by decide) (d := 2) rfl s2 (by omega) (fun Q1 T1 hq s3 => lw_on s3 (by omega) hin pl (a := 1 + a) (b := 1 + b) ⟨by omega, by omega⟩ ⟨by omega, by omega⟩ hab) (fun v X4 I2 J2 D2 hq s3 h1 => ?_)
      have la4 : LawP n (clo T) X4 := la2.cr fun p hp => (hq p hp)
      have ab4 := ab_ovr (I := I2) la4.1
      rcases h1 with ⟨hR, rfl, hpg⟩ | ⟨hR, rfl, pl2, hrest⟩
      · rw [ka, eB_334_78, decide_eq_false (show ¬ (-1 : Int32) ≠ -1 from fun h => h rfl), cond_false, eB_334_86, eB_334_91, inb_n (show 1 + b < 17 by omega) (by decide), cond_true, inb_n (show 1 + a < 17 by omega) (by decide), cond_true, nI_clamp (show 1 + b < 2 ^ 31 by omega), nI_clamp (show 1 + a < 2 ^ 31 by omega), ab4.2 _ _ (by omega) (by omega), hR, decide_eq_true (show (1 : Int32) = b2i true from rfl), cond_true, eB_334_103, decide_eq_false (show ¬ (-1 : Int32) ≠ -1 from fun h => h rfl), cond_false, eB_334_109, eB_334_193, show nI (k + 1) + (-1) = nI k from nI_dec k]
        exact ih T X4 I2 J2 D2 (c - 2) (by omega) (by omega) s3 hin (by rw [hpg]; exact pl) la4 (by rw [hpg]; exact rs)
      · have bd := lnN_bd (R := clo (addT T (1 + a) (1 + b))) n
        have hin3 : In n (addT T (1 + a) (1 + b)) := add_in hin ⟨by omega, by omega⟩ ⟨by omega, by omega⟩
        have ec := clo_add hin (show n ≤ 16 by omega) (a := 1 + a) (b := 1 + b) ⟨by omega, by omega⟩ ⟨by omega, by omega⟩ hab hR
        obtain ⟨X5, e5, f5, g5⟩ := o_updX hin2 h6 (a := 1 + a) (b := 1 + b) ⟨by omega, by omega⟩ ⟨by omega, by omega⟩ hab hR (I := I2) (J := ovr J2 QJ) (D := ovr D2 QD) (l := nI (lnN (clo (addT T (1 + a) (1 + b))) n)) (k := nI (k + 1)) n 1 (by omega) (by omega) X4 la4.1.1 (fun u v hu hv => by
          rw [la4.1.2 u v hu hv]
          unfold mxU
          by_cases q : u < 1 ∨ (u = 1 ∧ v < 1)
          · rw [if_pos q, (addR_in hin2 ⟨by omega, by omega⟩ ⟨by omega, by omega⟩).f (by omega), hin2.f (by omega)]
          · rw [if_neg q])
        rw [ka, eB_334_78, decide_eq_true (ne_m1 (show lnN (clo (addT T (1 + a) (1 + b))) n < 1000 by omega)), cond_true, eB_334_90, eB_334_91, inb_n (show 1 + b < 17 by omega) (by decide), cond_true, inb_n (show 1 + a < 17 by omega) (by decide), cond_true, nI_clamp (show 1 + b < 2 ^ 31 by omega), nI_clamp (show 1 + a < 2 ^ 31 by omega), ab4.2 _ _ (by omega) (by omega), hR, decide_eq_true (show (0 : Int32) = b2i false from rfl), cond_true, eB_334_103, decide_eq_true (ne_m1 (show lnN (clo (addT T (1 + a) (1 + b))) n < 1000 by omega)), cond_true, eB_334_112]
        rw [show ex (334, 118, [.ref 0, .ref 329, .int (nI (lnN (clo (addT T (1 + a) (1 + b))) n)), .int (nI (k + 1)), .int (nI (1 + a)), .int (nI (1 + b)), dv, .int 1, dv], [], 347, SB, RB, ovr I2 X4, ovr J2 QJ, ovr D2 QD) = _ from e5, eB_334_193, show nI (k + 1) + (-1) = nI k from nI_dec k]
        refine ih (addT T (1 + a) (1 + b)) X5 I2 J2 D2 (c - 2) (by omega) (by omega) ⟨by rw [f5 iCRD (by decide)]; exact s3.1, s3.2⟩ hin3 pl2 ⟨⟨by rw [f5 0 (by omega)]; exact la4.1.1, fun x y hx hy => by rw [g5 x y hx hy, ec]⟩, by rw [f5 327 (by omega)]; exact la4.2⟩ (fun o ho => (hrest o ho).trans (rs o ho))
/-- the whole of isDrawn -/
theorem lw_drawn {X I : Nat → Nat → Int32} {J : Nat → Nat → Int64} {D : Nat → Nat → UInt64} (s : St TT 300 X I J D) (h6 : n ≤ 6) (h2 : 1 ≤ n) (hl : PG I 7 1 = nI n) (x6 : X 0 6 = nI n) (x27 : ∀ k, k < 5 → X 327 k = -1) (rs : Rst (PG I)) :
    WO 348 SC RC (dC QD) (fun v X2 QJ I2 J2 D2 => DrP TT v X2 I2 J2 D2) (ex (334, 0, [.ref 0, dv, dv, dv, dv, dv, dv, dv, dv], [], 329, S54, R54, ovr I X, ovr J QJ, ovr D QD)) := by
  rw [eA_334_0, ovr_iB, ovr_jB]
  have s0 : St TT 300 (iB X) I J D := ⟨by rw [iB_lo (by decide)]; exact s.1, s.2⟩
  refine goN nl_B (by decide) (show (8 : Int32) = nI 8 from rfl) ⟨by omega, by omega⟩ s0 (fun X1 k hk hx1 s1 => ?_)
  rw [eB_334_21, show (3 : Int32) + nI k = nI (3 + k) from nI_add 3 k]
  have z : ∀ a b, clo (fun _ _ => false) a b = false := fun a b => by
    cases e : clo (fun _ _ => false) a b with
    | false => rfl
    | true => exact (wsh_min (T := fun _ _ => false) (S := fun _ _ => false) (fun _ _ h => h) (fun _ _ _ h _ => h) 16 a b e).symm
  have e0 : lnN (clo (fun _ _ => false)) n = 0 := by
    have e2 : ∀ m, lnN (clo (fun _ _ => false)) m = 0 := by
      intro m
      induction m with
      | zero => rfl
      | succ m ih =>
        show lnN _ m + cntN (row (dr (clo fun _ _ => false)) (m + 1)) 16 = 0
        rw [ih, cnt_0 (fun j hj => by unfold row dr; rw [z]; simp)]
    exact e2 n
  have key := lw_dr1 (TT := TT) (QJ := jB QJ) (QD := QD) h6 h2 (3 + k) (fun _ _ => false) X1 I J D 300 (by omega) (by omega) s1 (fun a b h => by cases h) ⟨hl, fun a ha => ?_⟩ ⟨⟨by rw [hx1 0 (by decide), iB_lo (by decide)]; exact x6, fun x y hx hy => ?_⟩, by rw [hx1 327 (by decide), iB_lo (by decide)]; exact x27⟩ (fun o ho => rs o (by omega))
  · rw [e0] at key
    exact key
  · have e8 : PG I 8 a = 0 := by rw [rs 8 (by omega)]; exact me0.2.1.1 a ha
    rw [e8]
    exact Bt.z.cg fun i => by unfold row; simp
  · rw [hx1 (330 + x) (by omega), iB_mid hx, z]
    rfl
end DN
