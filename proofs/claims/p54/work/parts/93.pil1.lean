/-! the drawing of the book -/
def RwF (F : Nat → Int32) (W : Nat → Nat → Bool) : Prop := ∀ a, a < 17 → Bt (F a) (row W a)
def mix (k a : Nat) (W : Nat → Nat → Bool) (x : Nat) : Nat → Bool := if x < a then wst k W x else W x
theorem mix_k {k a : Nat} {W : Nat → Nat → Bool} : mix k a W k = W k := by
  unfold mix
  by_cases h : k < a
  · rw [if_pos h, wst_k2]
  · rw [if_neg h]
theorem mix_a {k a : Nat} {W : Nat → Nat → Bool} : mix k a W a = W a := by unfold mix; rw [if_neg (by omega)]
theorem row_e {W W2 : Nat → Nat → Bool} {a b : Nat} (h : W a = W2 b) : row W a = row W2 b := by funext i; unfold row; rw [h]
theorem mix_s {k a : Nat} {W : Nat → Nat → Bool} {F : Nat → Int32} {y : Int32} (h : RwF F (mix k a W)) (hy : Bt y (row (wst k W) a)) : RwF (upd F a y) (mix k (a + 1) W) := fun x hx => by
  by_cases q : x = a
  · subst q
    rw [uUs, row_e (b := x) (W2 := wst k W) (by unfold mix; rw [if_pos (by omega)])]
    exact hy
  · rw [uU q, row_e (b := x) (W2 := mix k a W) ?_]
    · exact h x hx
    · unfold mix
      by_cases q2 : x < a
      · rw [if_pos q2, if_pos (by omega)]
      · rw [if_neg q2, if_neg (by omega)]
theorem mix_n {k a : Nat} {W : Nat → Nat → Bool} {F : Nat → Int32} (h : RwF F (mix k a W)) (hk : W a k = false) : RwF F (mix k (a + 1) W) := fun x hx => by
  rw [row_e (b := x) (W2 := mix k a W) ?_]
  · exact h x hx
  · unfold mix
    by_cases q : x = a
    · subst q; rw [if_pos (by omega), if_neg (by omega), wst_row hk]
    · by_cases q2 : x < a
      · rw [if_pos q2, if_pos (by omega)]
      · rw [if_neg q2, if_neg (by omega)]
theorem mix_1 {k : Nat} {n : Nat} {W : Nat → Nat → Bool} (h : In n W) : mix k 1 W = W := by
  funext x
  unfold mix
  by_cases q : x < 1
  · have : x = 0 := by omega
    subst this
    rw [if_pos q, wst_row (h.f (by omega))]
  · rw [if_neg q]
theorem mix_e {k n : Nat} {W : Nat → Nat → Bool} (h : In n W) : mix k (n + 1) W = wst k W := by
  funext x
  unfold mix
  by_cases q : x < n + 1
  · rw [if_pos q]
  · rw [if_neg q, wst_row (h.f (by omega))]
theorem or_row {W : Nat → Nat → Bool} {k a : Nat} (h : W a k = true) {x y : Int32} (hx : Bt x (row W a)) (hy : Bt y (row W k)) : Bt (x ||| y) (row (wst k W) a) := (hx.or hy).cg (fun i => by
  unfold row wst
  rw [h, Bool.true_and]
  cases Nat.blt i 16 <;> simp)
section CD
variable {I : Nat → Nat → Int32} {J : Nat → Nat → Int64} {D : Nat → Nat → UInt64}
theorem up_R2 {p : Nat} {F G : Nat → Int32} : upR (upR I p F) p G = upR I p G := by
  funext q
  by_cases hq : q = p
  · subst hq; rw [uRs, uRs]
  · rw [uR hq, uR hq, uR hq]

theorem c_clA_266 {n : Nat} (hn : I 265 8 = nI n) (h16 : n ≤ 16) {W : Nat → Nat → Bool} (hin : In n W) {k : Nat} (hk1 : 1 ≤ k) (hk : k ≤ n) : ∀ r a, a + r = n + 1 → 1 ≤ a → ∀ F, RwF F (mix k a W) →
    ∃ F', ex (14, 12, [.ref 265, .ref 266, .int (nI k), .int (nI a)], [], mm (upR I 266 F) J D) = ex (14, 46, [.ref 265, .ref 266, .int (nI k), dv], [], mm (upR I 266 F') J D) ∧ RwF F' (wst k W)
  | 0, a, h, h1, F, hF => by
    have : a = n + 1 := by omega
    subst this
    refine ⟨F, ?_, by rw [mix_e hin] at hF; exact hF⟩
    rw [e_14_12_265x266, uR (by decide), hn, decide_eq_true ((nI_ltI (by omega) (by omega)).mpr (by omega)), cond_true]
  | r + 1, a, h, h1, F, hF => by
    have hb := (hF a (by omega)).has (bit_b hk1 (by omega))
    rw [row_at hk1 (by omega), mix_a] at hb
    have e0 : ex (14, 12, [.ref 265, .ref 266, .int (nI k), .int (nI a)], [], mm (upR I 266 F) J D) = ex (14, 27, [.ref 265, .ref 266, .int (nI k), .int (nI a)], [.int (1 <<< ((nI k - 1) &&& 31)), .int (F a)], mm (upR I 266 F) J D) := by
      rw [e_14_12_265x266, uR (by decide), hn, decide_eq_false (show ¬ nI n < nI a from nI_nlt (by omega) (by omega)), cond_false, e_14_20_265x266, inb_n (by omega) (by decide), cond_true, nI_clamp (by omega), uRs, e_49_0, cal_v, ka]
    cases hw : W a k with
    | false =>
      obtain ⟨F', e1, h1'⟩ := c_clA_266 hn h16 hin hk1 hk r (a + 1) (by omega) (by omega) F (mix_n hF hw)
      refine ⟨F', ?_, h1'⟩
      rw [e0, e_14_27_265x266, decide_eq_true (hb.mpr hw), cond_true, e_14_40_265x266, nI_1]
      exact e1
    | true =>
      have hy := or_row hw (by have := hF a (by omega); rw [row_e (b := a) (W2 := W) mix_a] at this; exact this) (by have := hF k (by omega); rw [row_e (b := k) (W2 := W) mix_k] at this; exact this)
      obtain ⟨F', e1, h1'⟩ := c_clA_266 hn h16 hin hk1 hk r (a + 1) (by omega) (by omega) _ (mix_s hF hy)
      refine ⟨F', ?_, h1'⟩
      rw [e0, e_14_27_265x266, decide_eq_false (fun e => by have := hb.mp e; rw [hw] at this; cases this), cond_false, e_14_31_265x266, inb_n (show a < 17 by omega) (by decide), inb_n (show k < 17 by omega) (by decide), cond_true, cond_true, cond_true, nI_clamp (by omega), nI_clamp (by omega), uRs, us_R, e_14_40_265x266, nI_1]
      exact e1
theorem c_clO_266 {n : Nat} (hn : I 265 8 = nI n) (h16 : n ≤ 16) {T : Nat → Nat → Bool} (hin : In n T) : ∀ r k, k + r = n → ∀ F, RwF F (wsh T k) →
    ∃ F', ex (14, 2, [.ref 265, .ref 266, .int (nI (k + 1)), dv], [], mm (upR I 266 F) J D) = some (.inl none, mm (upR I 266 F') J D) ∧ RwF F' (clo T)
  | 0, k, h, F, hF => by
    have : k = n := by omega
    subst this
    refine ⟨F, ?_, by rw [clo_n hin h16] at hF; exact hF⟩
    rw [e_14_2_265x266, uR (by decide), hn, decide_eq_true ((nI_ltI (by omega) (by omega)).mpr (by omega)), cond_true, e_14_52]
  | r + 1, k, h, F, hF => by
    have hi := wsh_in hin k
    obtain ⟨F1, e1, h1⟩ := c_clA_266 (J := J) (D := D) hn h16 hi (k := k + 1) (by omega) (by omega) n 1 (by omega) (by omega) F (by rw [mix_1 hi]; exact hF)
    obtain ⟨F2, e2, h2⟩ := c_clO_266 hn h16 hin r (k + 1) (by omega) F1 h1
    refine ⟨F2, ?_, h2⟩
    rw [e_14_2_265x266, uR (by decide), hn, decide_eq_false (show ¬ nI n < nI (k + 1) from nI_nlt (by omega) (by omega)), cond_false, e_14_10_265x266]
    refine e1.trans ?_
    rw [e_14_46_265x266, nI_1]
    exact e2
theorem c_clo_266 {n : Nat} (hn : I 265 8 = nI n) (h16 : n ≤ 16) {T : Nat → Nat → Bool} (hin : In n T) (hF : RwF (I 266) T) :
    ∃ F', ex (14, 0, [.ref 265, .ref 266, dv, dv], [], mm I J D) = some (.inl none, mm (upR I 266 F') J D) ∧ RwF F' (clo T) := by
  obtain ⟨F', e, h⟩ := c_clO_266 (I := I) (J := J) (D := D) hn h16 hin n 0 (by omega) (I 266) hF
  rw [upR_me] at e
  exact ⟨F', by rw [e_14_0_265x266]; exact e, h⟩

theorem c_clA_269 {n : Nat} (hn : I 265 8 = nI n) (h16 : n ≤ 16) {W : Nat → Nat → Bool} (hin : In n W) {k : Nat} (hk1 : 1 ≤ k) (hk : k ≤ n) : ∀ r a, a + r = n + 1 → 1 ≤ a → ∀ F, RwF F (mix k a W) →
    ∃ F', ex (14, 12, [.ref 265, .ref 269, .int (nI k), .int (nI a)], [], mm (upR I 269 F) J D) = ex (14, 46, [.ref 265, .ref 269, .int (nI k), dv], [], mm (upR I 269 F') J D) ∧ RwF F' (wst k W)
  | 0, a, h, h1, F, hF => by
    have : a = n + 1 := by omega
    subst this
    refine ⟨F, ?_, by rw [mix_e hin] at hF; exact hF⟩
    rw [e_14_12_265x269, uR (by decide), hn, decide_eq_true ((nI_ltI (by omega) (by omega)).mpr (by omega)), cond_true]
  | r + 1, a, h, h1, F, hF => by
    have hb := (hF a (by omega)).has (bit_b hk1 (by omega))
    rw [row_at hk1 (by omega), mix_a] at hb
    have e0 : ex (14, 12, [.ref 265, .ref 269, .int (nI k), .int (nI a)], [], mm (upR I 269 F) J D) = ex (14, 27, [.ref 265, .ref 269, .int (nI k), .int (nI a)], [.int (1 <<< ((nI k - 1) &&& 31)), .int (F a)], mm (upR I 269 F) J D) := by
      rw [e_14_12_265x269, uR (by decide), hn, decide_eq_false (show ¬ nI n < nI a from nI_nlt (by omega) (by omega)), cond_false, e_14_20_265x269, inb_n (by omega) (by decide), cond_true, nI_clamp (by omega), uRs, e_49_0, cal_v, ka]
    cases hw : W a k with
    | false =>
      obtain ⟨F', e1, h1'⟩ := c_clA_269 hn h16 hin hk1 hk r (a + 1) (by omega) (by omega) F (mix_n hF hw)
      refine ⟨F', ?_, h1'⟩
      rw [e0, e_14_27_265x269, decide_eq_true (hb.mpr hw), cond_true, e_14_40_265x269, nI_1]
      exact e1
    | true =>
      have hy := or_row hw (by have := hF a (by omega); rw [row_e (b := a) (W2 := W) mix_a] at this; exact this) (by have := hF k (by omega); rw [row_e (b := k) (W2 := W) mix_k] at this; exact this)
      obtain ⟨F', e1, h1'⟩ := c_clA_269 hn h16 hin hk1 hk r (a + 1) (by omega) (by omega) _ (mix_s hF hy)
      refine ⟨F', ?_, h1'⟩
      rw [e0, e_14_27_265x269, decide_eq_false (fun e => by have := hb.mp e; rw [hw] at this; cases this), cond_false, e_14_31_265x269, inb_n (show a < 17 by omega) (by decide), inb_n (show k < 17 by omega) (by decide), cond_true, cond_true, cond_true, nI_clamp (by omega), nI_clamp (by omega), uRs, us_R, e_14_40_265x269, nI_1]
      exact e1
theorem c_clO_269 {n : Nat} (hn : I 265 8 = nI n) (h16 : n ≤ 16) {T : Nat → Nat → Bool} (hin : In n T) : ∀ r k, k + r = n → ∀ F, RwF F (wsh T k) →
    ∃ F', ex (14, 2, [.ref 265, .ref 269, .int (nI (k + 1)), dv], [], mm (upR I 269 F) J D) = some (.inl none, mm (upR I 269 F') J D) ∧ RwF F' (clo T)
  | 0, k, h, F, hF => by
    have : k = n := by omega
    subst this
    refine ⟨F, ?_, by rw [clo_n hin h16] at hF; exact hF⟩
    rw [e_14_2_265x269, uR (by decide), hn, decide_eq_true ((nI_ltI (by omega) (by omega)).mpr (by omega)), cond_true, e_14_52]
  | r + 1, k, h, F, hF => by
    have hi := wsh_in hin k
    obtain ⟨F1, e1, h1⟩ := c_clA_269 (J := J) (D := D) hn h16 hi (k := k + 1) (by omega) (by omega) n 1 (by omega) (by omega) F (by rw [mix_1 hi]; exact hF)
    obtain ⟨F2, e2, h2⟩ := c_clO_269 hn h16 hin r (k + 1) (by omega) F1 h1
    refine ⟨F2, ?_, h2⟩
    rw [e_14_2_265x269, uR (by decide), hn, decide_eq_false (show ¬ nI n < nI (k + 1) from nI_nlt (by omega) (by omega)), cond_false, e_14_10_265x269]
    refine e1.trans ?_
    rw [e_14_46_265x269, nI_1]
    exact e2
theorem c_clo_269 {n : Nat} (hn : I 265 8 = nI n) (h16 : n ≤ 16) {T : Nat → Nat → Bool} (hin : In n T) (hF : RwF (I 269) T) :
    ∃ F', ex (14, 0, [.ref 265, .ref 269, dv, dv], [], mm I J D) = some (.inl none, mm (upR I 269 F') J D) ∧ RwF F' (clo T) := by
  obtain ⟨F', e, h⟩ := c_clO_269 (I := I) (J := J) (D := D) hn h16 hin n 0 (by omega) (I 269) hF
  rw [upR_me] at e
  exact ⟨F', by rw [e_14_0_265x269]; exact e, h⟩

def b2i (x : Bool) : Int32 := bif x then 1 else 0
theorem c_has {R : Nat → Nat → Bool} (h : RwF (I 266) R) {a b : Nat} (ha : a < 17) (h1 : 1 ≤ b) (hb : b ≤ 16) : ex (15, 0, [.ref 265, .int (nI a), .int (nI b)], [], mm I J D) = some (.inl (some (.int (b2i (R a b)))), mm I J D) := by
  have hh := (h a ha).has (bit_b h1 hb)
  rw [row_at h1 hb] at hh
  rw [e_15_0, inb_n ha (by decide), cond_true, nI_clamp (by omega), e_49_0, cal_v, ka, e_15_10]
  cases hr : R a b with
  | false => rw [decide_eq_true (hh.mpr hr), cond_true, e_15_18, e_15_19]; rfl
  | true => rw [decide_eq_false (fun e => by have := hh.mp e; rw [hr] at this; cases this), cond_false, e_15_14, e_15_19]; rfl
def abr (R : Nat → Nat → Bool) (a b y i : Nat) : Bool := decide (i < 16 ∧ R (i + 1) y = true ∧ (i + 1 < a ∨ (i + 1 = a ∧ y < b)))
theorem abr_s {R : Nat → Nat → Bool} {a b y i : Nat} (h : y ≠ b ∨ R a b = false) : abr R a b y i = abr R a (b + 1) y i := by
  unfold abr
  grind
theorem abr_t {R : Nat → Nat → Bool} {a b i : Nat} (h : R a b = true) (h1 : 1 ≤ a) (h2 : a ≤ 16) : (abr R a b b i || decide (i = a - 1)) = abr R a (b + 1) b i := by
  unfold abr
  grind
theorem abr_e {n : Nat} {R : Nat → Nat → Bool} (hin : In n R) {a y i : Nat} : abr R a (n + 1) y i = abr R (a + 1) 0 y i := by
  unfold abr
  have := hin (i + 1) y
  grind
theorem abr_0 {R : Nat → Nat → Bool} {a y i : Nat} : abr R a 0 y i = abr R a 1 y i ∨ R a 0 = true := by
  unfold abr
  grind
theorem abr_1 {R : Nat → Nat → Bool} {y i : Nat} : abr R 1 0 y i = false := by
  unfold abr
  grind
theorem abr_n {n : Nat} {R : Nat → Nat → Bool} (hin : In n R) {y i : Nat} : abr R (n + 1) 0 y i = row (fun b a => R a b) y i := by
  unfold abr row
  have := hin (i + 1) y
  have e : Nat.blt i 16 = decide (i < 16) := by
    by_cases h : i < 16
    · rw [decide_eq_true h]; exact Nat.blt_eq.mpr h
    · rw [decide_eq_false h, ← Bool.not_eq_true, Nat.blt_eq]; exact h
  rw [e]
  grind
/-- a row less what lies under what is in it -/
def dnr (R : Nat → Nat → Bool) (a m i : Nat) : Bool := row R a i && !(orB (btw R a (i + 1)) m)
theorem dnr_0 {R : Nat → Nat → Bool} {a i : Nat} : dnr R a 0 i = row R a i := by unfold dnr; show (row R a i && !false) = _; simp
theorem dnr_f {R : Nat → Nat → Bool} {a b i : Nat} (h : R a (b + 1) = false) : dnr R a (b + 1) i = dnr R a b i := by
  unfold dnr
  show (row R a i && !(orB (btw R a (i + 1)) b || btw R a (i + 1) (b + 1))) = _
  unfold btw
  rw [h]; simp
theorem dnr_t {R : Nat → Nat → Bool} {a b i : Nat} (h : R a (b + 1) = true) : (dnr R a b i && !(row R (b + 1) i)) = dnr R a (b + 1) i := by
  unfold dnr
  show _ = (row R a i && !(orB (btw R a (i + 1)) b || btw R a (i + 1) (b + 1)))
  have e : btw R a (i + 1) (b + 1) = R (b + 1) (i + 1) := by unfold btw; rw [h]; rfl
  rw [e]
  unfold row
  cases Nat.blt i 16 <;> simp [Bool.and_assoc]
theorem dnr_e {n : Nat} {R : Nat → Nat → Bool} (hin : In n R) (h16 : n ≤ 16) {a i : Nat} : dnr R a n i = row (dr R) a i := by
  have : orB (btw R a (i + 1)) 16 = orB (btw R a (i + 1)) n := orB_ex (fun k hk => by unfold btw; rw [hin.f (by omega)]; rfl) h16
  unfold dnr row dr
  rw [this, Bool.and_assoc]
theorem x_bc {x : Int32} : ex (310, 0, [.int x], [], mm I J D) = some (.inl (some (.int (bcI x))), mm I J D) := by
  rw [e_310_0]; rfl
/-- what stays where 267 and 268 change -/
theorem c_drB {n : Nat} (hn : I 265 8 = nI n) (h16 : n ≤ 16) {R : Nat → Nat → Bool} (hin : In n R) (hR : RwF (I 266) R) {a : Nat} (ha1 : 1 ≤ a) (ha : a ≤ n) : ∀ r b, b + r = n → ∀ A Dn, (∀ y, y < 17 → Bt (A y) (abr R a (b + 1) y)) → Bt (Dn a) (dnr R a b) →
    ∃ A' Dn', ex (13, 72, [.ref 265, .int (nI a), .int (nI (b + 1))], [], mm (upR (upR I 267 A) 268 Dn) J D) = ex (13, 125, [.ref 265, .int (nI a), dv], [], mm (upR (upR I 267 A') 268 Dn') J D) ∧ (∀ y, y < 17 → Bt (A' y) (abr R (a + 1) 0 y)) ∧ Bt (Dn' a) (row (dr R) a) ∧ ∀ x, x ≠ a → Dn' x = Dn x
  | 0, b, h, A, Dn, hA, hD => by
    have : b = n := by omega
    subst this
    refine ⟨A, Dn, ?_, fun y hy => (hA y hy).cg (fun i => abr_e hin), hD.cg (fun i => dnr_e hin h16), fun _ _ => rfl⟩
    rw [e_13_72, uR (by decide), uR (by decide), hn, decide_eq_true ((nI_ltI (by omega) (by omega)).mpr (by omega)), cond_true]
  | r + 1, b, h, A, Dn, hA, hD => by
    have hR2 : RwF ((upR (upR I 267 A) 268 Dn) 266) R := hR
    have e0 : ex (13, 72, [.ref 265, .int (nI a), .int (nI (b + 1))], [], mm (upR (upR I 267 A) 268 Dn) J D) = ex (13, 86, [.ref 265, .int (nI a), .int (nI (b + 1))], [.int (b2i (R a (b + 1)))], mm (upR (upR I 267 A) 268 Dn) J D) := by
      rw [e_13_72, uR (by decide), uR (by decide), hn, decide_eq_false (show ¬ nI n < nI (b + 1) from nI_nlt (by omega) (by omega)), cond_false, e_13_80, c_has hR2 (by omega) (by omega) (by omega), cal_v, ka]
    cases hr : R a (b + 1) with
    | false =>
      obtain ⟨A', Dn', e1, p1, p2, p3⟩ := c_drB hn h16 hin hR ha1 ha r (b + 1) (by omega) A Dn (fun y hy => (hA y hy).cg (fun i => abr_s (Or.inr hr))) (hD.cg (fun i => (dnr_f hr).symm))
      refine ⟨A', Dn', ?_, p1, p2, p3⟩
      rw [e0, e_13_86, hr, decide_eq_true (show b2i false = 0 from rfl), cond_true, e_13_119, nI_1]
      exact e1
    | true =>
      have hb := bit_b ha1 (show a ≤ 16 by omega)
      obtain ⟨A', Dn', e1, p1, p2, p3⟩ := c_drB hn h16 hin hR ha1 ha r (b + 1) (by omega) (upd A (b + 1) (A (b + 1) ||| 1 <<< ((nI a - 1) &&& 31))) (upd Dn a (Dn a &&& (I 266 (b + 1) ^^^ -1)))
        (fun y hy => by
          by_cases q : y = b + 1
          · subst q
            rw [uUs]
            exact ((hA _ hy).or hb).cg (fun i => abr_t hr ha1 (by omega))
          · rw [uU q]
            exact (hA y hy).cg (fun i => abr_s (Or.inl q)))
        (by rw [uUs]; exact (hD.andn (hR (b + 1) (by omega))).cg (fun i => dnr_t hr))
      refine ⟨A', Dn', ?_, p1, p2, fun x hx => by rw [p3 x hx, uU hx]⟩
      have hm : ups (ups (upR (upR I 267 A) 268 Dn) 267 (b + 1) (A (b + 1) ||| 1 <<< ((nI a - 1) &&& 31))) 268 a (Dn a &&& (I 266 (b + 1) ^^^ -1)) = upR (upR I 267 (upd A (b + 1) (A (b + 1) ||| 1 <<< ((nI a - 1) &&& 31)))) 268 (upd Dn a (Dn a &&& (I 266 (b + 1) ^^^ -1))) := by
        funext q
        by_cases q1 : q = 268
        · subst q1; rw [uIs, uI (by decide), uRs, uRs]
        · rw [uI q1, uR q1]
          by_cases q2 : q = 267
          · subst q2; rw [uIs, uR (by decide), uRs, uRs]
          · rw [uI q2, uR q1, uR q2, uR q2]
      have s7 : (upR (upR I 267 A) 268 Dn) 267 (b + 1) = A (b + 1) := by rw [uR (by decide), uRs]
      rw [e0, e_13_86, hr, decide_eq_false (show ¬ b2i true = 0 by decide), cond_false, e_13_89, inb_n (show b + 1 < 17 by omega) (by decide), cond_true, nI_clamp (by omega), s7, e_49_0, cal_v, ka, e_13_100, inb_n (show b + 1 < 17 by omega) (by decide), inb_n (show a < 17 by omega) (by decide), cond_true, cond_true, cond_true, cond_true, nI_clamp (by omega), nI_clamp (by omega)]
      rw [show (ups (upR (upR I 267 A) 268 Dn) 267 (b + 1) (A (b + 1) ||| 1 <<< ((nI a - 1) &&& 31))) 268 a = Dn a from by rw [uI (by decide), uRs], show (ups (upR (upR I 267 A) 268 Dn) 267 (b + 1) (A (b + 1) ||| 1 <<< ((nI a - 1) &&& 31))) 266 (b + 1) = I 266 (b + 1) from by rw [uI (by decide), uR (by decide), uR (by decide)], hm, e_13_119, nI_1]
      exact e1
theorem c_drA {n : Nat} (hn : I 265 8 = nI n) (h16 : n ≤ 16) {R : Nat → Nat → Bool} (hin : In n R) (hR : RwF (I 266) R) : ∀ r a, a + r = n → ∀ A Dn, (∀ y, y < 17 → Bt (A y) (abr R (a + 1) 0 y)) → (∀ x, 1 ≤ x → x ≤ a → Bt (Dn x) (row (dr R) x)) →
    ∃ A' Dn', ex (13, 50, [.ref 265, .int (nI (a + 1)), dv], [], mm (upR (upR I 267 A) 268 Dn) J D) = some (.inl none, mm (upR (upR I 267 A') 268 Dn') J D) ∧ RwF A' (fun b a => R a b) ∧ ∀ x, 1 ≤ x → x ≤ n → Bt (Dn' x) (row (dr R) x)
  | 0, a, h, A, Dn, hA, hD => by
    have : a = n := by omega
    subst this
    refine ⟨A, Dn, ?_, fun y hy => (hA y hy).cg (fun i => abr_n hin), hD⟩
    rw [e_13_50, uR (by decide), uR (by decide), hn, decide_eq_true ((nI_ltI (by omega) (by omega)).mpr (by omega)), cond_true, e_13_131]
  | r + 1, a, h, A, Dn, hA, hD => by
    obtain ⟨A1, D1, e1, p1, p2, p3⟩ := c_drB (J := J) (D := D) hn h16 hin hR (a := a + 1) (by omega) (by omega) n 0 (by omega) A (upd Dn (a + 1) (I 266 (a + 1)))
      (fun y hy => (hA y hy).cg (fun i => by
        rcases abr_0 (R := R) (a := a + 1) (y := y) (i := i) with e | e
        · exact e
        · exact absurd (hin _ _ e) (by omega)))
      (by rw [uUs]; exact (hR (a + 1) (by omega)).cg (fun i => dnr_0.symm))
    obtain ⟨A2, D2, e2, q1, q2⟩ := c_drA hn h16 hin hR r (a + 1) (by omega) A1 D1 p1 (fun x h1 h2 => by
      by_cases q : x = a + 1
      · subst q; exact p2
      · rw [p3 x q, uU q]; exact hD x h1 (by omega))
    refine ⟨A2, D2, ?_, q1, q2⟩
    rw [e_13_50, uR (by decide), uR (by decide), hn, decide_eq_false (show ¬ nI n < nI (a + 1) from nI_nlt (by omega) (by omega)), cond_false, e_13_58, inb_n (show a + 1 < 17 by omega) (by decide), cond_true, cond_true, nI_clamp (by omega), us_R, uR (by decide), uR (by decide)]
    refine e1.trans ?_
    rw [e_13_125, nI_1]
    exact e2
/-- what a fresh drawing is -/
def Drw (n : Nat) (R : Nat → Nat → Bool) (I : Nat → Nat → Int32) : Prop := I 265 8 = nI n ∧ RwF (I 266) R ∧ RwF (I 267) (fun b a => R a b) ∧ ∀ x, 1 ≤ x → x ≤ n → Bt (I 268 x) (row (dr R) x)
theorem c_draw {n : Nat} (hn : I 8 1 = nI n) (h16 : n ≤ 16) {T : Nat → Nat → Bool} (hin : In n T) (hT : RwF (I 9) T) :
    ∃ I', ex (144, 0, [.ref 0], [], mm I J D) = some (.inl (some (.ref 265)), mm I' J D) ∧ (∀ p, p ≠ 265 → p ≠ 266 → p ≠ 267 → p ≠ 268 → I' p = I p) ∧ Drw n (clo T) I' := by
  obtain ⟨Ia, hIa⟩ : ∃ Ia, Ia = upR (ups I 265 8 (I 8 1)) 266 (va_cpy ((ups I 265 8 (I 8 1)) 9) ((ups I 265 8 (I 8 1)) 266) 0 0 17) := ⟨_, rfl⟩
  have a8 : Ia 265 8 = nI n := by rw [hIa, uR (by decide), uIs, uUs, hn]
  have a6 : RwF (Ia 266) T := fun x hx => by
    rw [hIa, uRs, uC hx, uI (by decide)]
    exact hT x hx
  obtain ⟨F, e1, hF⟩ := c_clo_266 (I := Ia) (J := J) (D := D) a8 h16 hin a6
  obtain ⟨A, Dn, e2, hA, hD⟩ := c_drA (I := upR Ia 266 F) (J := J) (D := D) (by rw [uR (by decide)]; exact a8) h16 (R := clo T) (wsh_in hin 16) (by rw [uRs]; exact hF) n 0 (by omega) (lpN (fun _ => 0) (Ia 267) 17) (Ia 268)
    (fun y hy => by
      unfold lpN
      rw [if_pos hy]
      exact Bt.z.cg (fun i => abr_1.symm)) (fun x h1 h2 => by omega)
  have m0 : upR (upR (upR Ia 266 F) 267 (lpN (fun _ => 0) (Ia 267) 17)) 268 (Ia 268) = upR (upR Ia 266 F) 267 (lpN (fun _ => 0) (Ia 267) 17) := by
    have := upR_me (I := upR (upR Ia 266 F) 267 (lpN (fun _ => 0) (Ia 267) 17)) (p := 268)
    rw [uR (by decide), uR (by decide)] at this
    exact this
  rw [m0] at e2
  have o1 : ∀ p, p ≠ 265 → p ≠ 266 → Ia p = I p := fun p h1 h2 => by rw [hIa, uR h2, uI h1]
  refine ⟨upR (upR (upR Ia 266 F) 267 A) 268 Dn, ?_, fun p h1 h2 h3 h4 => ?_, ?_, ?_, ?_, ?_⟩
  · rw [e_144_0, e_13_0, ← hIa, e1, cal_v, kn, e_13_40, x_fill0 (q := 267) (N := 17) rfl (by decide) (by decide), cal_v, kn, e_13_48, uR (show 267 ≠ 266 by decide)]
    rw [show (ex (13, 50, [.ref 265, .int 1, dv], [], mm (upR (upR Ia 266 F) 267 (lpN (fun _ => 0) (Ia 267) 17)) J D)) = some (.inl none, mm (upR (upR (upR Ia 266 F) 267 A) 268 Dn) J D) from e2, cal_v, kn, e_144_7]
  · rw [uR h4, uR h3, uR h2, o1 p h1 h2]
  · rw [uR (by decide), uR (by decide), uR (by decide)]; exact a8
  · rw [uR (by decide), uR (by decide), uRs]; exact hF
  · rw [uR (by decide), uRs]; exact hA
  · rw [uRs]; exact hD
theorem c_ln1 {n : Nat} {R : Nat → Nat → Bool} (h : Drw n R I) (h16 : n ≤ 16) : ∀ r k, k + r = n → ex (18, 4, [.ref 265, .ref 268, .int (nI (lnN R k)), .int (nI (k + 1))], [], mm I J D) = some (.inl (some (.int (nI (lnN R n)))), mm I J D)
  | 0, k, hk => by
    have : k = n := by omega
    subst this
    rw [e_18_4_265x268, h.1, decide_eq_true ((nI_ltI (by omega) (by omega)).mpr (by omega)), cond_true, e_18_27]
  | r + 1, k, hk => by
    have ih := c_ln1 h h16 r (k + 1) (by omega)
    rw [e_18_4_265x268, h.1, decide_eq_false (show ¬ nI n < nI (k + 1) from nI_nlt (by omega) (by omega)), cond_false, e_18_12_265x268, inb_n (show k + 1 < 17 by omega) (by decide), cond_true, nI_clamp (by omega), x_bc, (h.2.2.2 (k + 1) (by omega) (by omega)).cnt row_16, cal_v, ka, e_18_19_265x268, nI_add, nI_1]
    exact ih
theorem c_lines {n : Nat} {R : Nat → Nat → Bool} (h : Drw n R I) (h16 : n ≤ 16) : ex (16, 0, [.ref 265], [], mm I J D) = some (.inl (some (.int (nI (lnN R n)))), mm I J D) := by
  rw [e_16_0, e_18_0_265x268]
  rw [show ex (18, 4, [.ref 265, .ref 268, .int 0, .int 1], [], mm I J D) = _ from c_ln1 h h16 n 0 (by omega), cal_v, ka, e_16_8]
end CD

