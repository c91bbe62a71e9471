/-! the model: what lies above what, lines -/
def AbF (F : Nat → Int32) (W : Nat → Nat → Bool) : Prop := ∀ a b, a < 17 → b < 17 → F (17 * a + b) = b2i (W a b)
theorem m17 (a b : Nat) : (17 : Int32) * nI a + nI b = nI (17 * a + b) := by
  rw [show (17 : Int32) * nI a = nI (17 * a) from (Int32.ofNat_mul 17 a).symm, nI_add]
theorem m17' (a b : Nat) : (202 : Int32) + (17 : Int32) * nI a + nI b = nI (202 + 17 * a + b) := by
  rw [show (17 : Int32) * nI a = nI (17 * a) from (Int32.ofNat_mul 17 a).symm, show (202 : Int32) + nI (17 * a) = nI (202 + 17 * a) from nI_add 202 _, nI_add]
theorem b2i_0 {x : Bool} : b2i x = 0 ↔ x = false := by cases x <;> decide
theorem narB_b (x : Bool) : vp_nar .boolean (b2i x) = b2i x := by cases x <;> rfl
theorem ne_f {x : Bool} : x = true ↔ x ≠ false := by cases x <;> simp
/-- in the midst of a round -/
def mx3 (k a b : Nat) (W : Nat → Nat → Bool) (x y : Nat) : Bool := if x < a ∨ (x = a ∧ y < b) then wst k W x y else W x y
theorem mx3_k {k a b x : Nat} {W : Nat → Nat → Bool} : mx3 k a b W x k = W x k := by
  unfold mx3
  by_cases q : x < a ∨ (x = a ∧ k < b)
  · rw [if_pos q, wst_k1]
  · rw [if_neg q]
theorem mx3_k2 {k a b y : Nat} {W : Nat → Nat → Bool} : mx3 k a b W k y = W k y := by
  unfold mx3
  by_cases q : k < a ∨ (k = a ∧ y < b)
  · rw [if_pos q, wst_k2]
  · rw [if_neg q]
theorem mx3_s {k a b : Nat} {W : Nat → Nat → Bool} {F : Nat → Int32} (hb : b < 17) (h : AbF F (mx3 k a b W)) : AbF (upd F (17 * a + b) (b2i (wst k W a b))) (mx3 k a (b + 1) W) := fun x y hx hy => by
  by_cases q : x = a ∧ y = b
  · obtain ⟨rfl, rfl⟩ := q
    rw [uUs]; unfold mx3; rw [if_pos (by omega)]
  · rw [uU (by omega), h x y hx hy]
    unfold mx3
    by_cases q2 : x < a ∨ (x = a ∧ y < b)
    · rw [if_pos q2, if_pos (by omega)]
    · rw [if_neg q2, if_neg (by omega)]
theorem mx3_1 {k a : Nat} {n : Nat} {W : Nat → Nat → Bool} (h : In n W) : mx3 k a 1 W = mx3 k a 0 W := by
  funext x y
  unfold mx3
  by_cases q : x < a ∨ (x = a ∧ y < 0)
  · rw [if_pos q, if_pos (by omega)]
  · rw [if_neg q]
    by_cases q2 : x < a ∨ (x = a ∧ y < 1)
    · have : y = 0 := by omega
      subst this
      rw [if_pos q2]; unfold wst
      rw [h.f (a := k) (b := 0) (by omega), Bool.and_false, Bool.or_false]
    · rw [if_neg q2]
theorem mx3_17 {k a : Nat} {W : Nat → Nat → Bool} {F : Nat → Int32} (h : AbF F (mx3 k a 17 W)) : AbF F (mx3 k (a + 1) 0 W) := fun x y hx hy => by
  rw [h x y hx hy]
  unfold mx3
  by_cases q : x < a ∨ (x = a ∧ y < 17)
  · rw [if_pos q, if_pos (by omega)]
  · rw [if_neg q, if_neg (by omega)]
theorem mx3_0 {k n : Nat} {W : Nat → Nat → Bool} (h : In n W) : mx3 k 1 0 W = W := by
  funext x y
  unfold mx3
  by_cases q : x < 1 ∨ (x = 1 ∧ y < 0)
  · have : x = 0 := by omega
    subst this
    rw [if_pos q, wst_row (h.f (by omega))]
  · rw [if_neg q]
theorem mx3_e {k : Nat} {W : Nat → Nat → Bool} {F : Nat → Int32} (h : AbF F (mx3 k 17 0 W)) : AbF F (wst k W) := fun x y hx hy => by
  rw [h x y hx hy]; unfold mx3; rw [if_pos (by omega)]
section MA
variable {I : Nat → Nat → Int32} {J : Nat → Nat → Int64} {D : Nat → Nat → UInt64}
theorem m_abv0 (hw : ∀ j, j < 289 → I 317 (202 + j) = 0 ∨ I 317 (202 + j) = 1) : ∀ r k, k + r = 289 → ex (185, 2, [.ref 316, .int (nI k), dv, dv], [], mm (upR I 324 (lpN (fun j => I 317 (202 + j)) (I 324) k)) J D) = ex (185, 40, [.ref 316, dv, dv, dv], [], mm (upR I 324 (lpN (fun j => I 317 (202 + j)) (I 324) 289)) J D)
  | 0, k, h => by
    have : k = 289 := by omega
    subst this
    rw [e_185_2, decide_eq_true (show (289 : Int32) ≤ nI 289 by decide), cond_true]
  | r + 1, k, h => by
    have ih := m_abv0 hw r (k + 1) (by omega)
    rw [← lpN_s] at ih
    rw [e_185_2, decide_eq_false (show ¬ (289 : Int32) ≤ nI k from nI_ge (a := k) (b := 289) (by omega) (by decide)), cond_false, e_185_9, show (202 : Int32) + nI k = nI (202 + k) from nI_add 202 k, inb_n (show 202 + k < 850 by omega) (by decide), cond_true, nI_clamp (by omega), uR (by decide)]
    rcases hw k (by omega) with q | q
    · rw [q] at ih ⊢
      rw [decide_eq_true (show (0 : Int32) ≠ 1 by decide), cond_true, e_185_32, e_185_33, inb_n (by omega) (by decide), cond_true, nI_clamp (by omega), us_R, nI_1, show vp_nar .boolean (0 : Int32) = 0 from rfl]
      exact ih
    · rw [q] at ih ⊢
      rw [decide_eq_false (show ¬ (1 : Int32) ≠ 1 by decide), cond_false, e_185_28, e_185_33, inb_n (by omega) (by decide), cond_true, nI_clamp (by omega), us_R, nI_1, show vp_nar .boolean (1 : Int32) = 1 from rfl]
      exact ih
theorem m_abvB {W : Nat → Nat → Bool} {k a : Nat} (hk : k < 17) (ha : a < 17) : ∀ r b, b + r = 17 → ∀ F, AbF F (mx3 k a b W) →
    ∃ F', ex (185, 58, [.ref 316, .int (nI k), .int (nI a), .int (nI b)], [], mm (upR I 324 F) J D) = ex (185, 128, [.ref 316, .int (nI k), .int (nI a), dv], [], mm (upR I 324 F') J D) ∧ AbF F' (mx3 k a 17 W)
  | 0, b, h, F, hF => by
    have : b = 17 := by omega
    subst this
    exact ⟨F, by rw [e_185_58, decide_eq_true (show (17 : Int32) ≤ nI 17 by decide), cond_true], hF⟩
  | r + 1, b, h, F, hF => by
    obtain ⟨F', e1, h1⟩ := m_abvB hk ha r (b + 1) (by omega) _ (mx3_s (by omega) hF)
    refine ⟨F', ?_, h1⟩
    have f1 : F (17 * a + b) = b2i (W a b) := by
      rw [hF a b ha (by omega)]; unfold mx3; rw [if_neg (by omega)]
    have f2 : F (17 * a + k) = b2i (W a k) := by rw [hF a k ha hk, mx3_k]
    have f3 : F (17 * k + b) = b2i (W k b) := by rw [hF k b hk (by omega), mx3_k2]
    have fin : ∀ v : Bool, v = wst k W a b → ex (185, 121, [.ref 316, .int (nI k), .int (nI a), .int (nI b)], [.int (b2i v), .int (nI (17 * a + b)), .ref 324], mm (upR I 324 F) J D) = ex (185, 128, [.ref 316, .int (nI k), .int (nI a), dv], [], mm (upR I 324 F') J D) := fun v hv => by
      rw [e_185_121, inb_n (show 17 * a + b < 289 by omega) (by decide), cond_true, nI_clamp (by omega), narB_b, us_R, nI_1, hv]
      exact e1
    rw [e_185_58, decide_eq_false (show ¬ (17 : Int32) ≤ nI b from nI_ge (a := b) (b := 17) (by omega) (by decide)), cond_false, e_185_64, m17, inb_n (show 17 * a + b < 289 by omega) (by decide), cond_true, nI_clamp (by omega), uRs, f1]
    cases h1 : W a b with
    | true =>
      rw [decide_eq_true (show b2i true ≠ 0 by decide), cond_true, e_185_116]
      exact fin true (by unfold wst; rw [h1]; rfl)
    | false =>
      rw [decide_eq_false (show ¬ b2i false ≠ 0 by decide), cond_false, e_185_88, m17, inb_n (show 17 * a + k < 289 by omega) (by decide), cond_true, nI_clamp (by omega), uRs, f2]
      cases h2 : W a k with
      | false =>
        rw [decide_eq_true (show b2i false = 0 by decide), cond_true, e_185_120]
        exact fin false (by unfold wst; rw [h1, h2]; rfl)
      | true =>
        rw [decide_eq_false (show ¬ b2i true = 0 by decide), cond_false, e_185_102, m17, inb_n (show 17 * k + b < 289 by omega) (by decide), cond_true, nI_clamp (by omega), uRs, f3]
        cases h3 : W k b with
        | false =>
          rw [decide_eq_true (show b2i false = 0 by decide), cond_true, e_185_120]
          exact fin false (by unfold wst; rw [h1, h2, h3]; rfl)
        | true =>
          rw [decide_eq_false (show ¬ b2i true = 0 by decide), cond_false, e_185_116]
          exact fin true (by unfold wst; rw [h1, h2, h3]; rfl)
theorem m_abvA {n : Nat} {W : Nat → Nat → Bool} (hin : In n W) {k : Nat} (hk : k < 17) : ∀ r a, a + r = 17 → ∀ F, AbF F (mx3 k a 0 W) →
    ∃ F', ex (185, 50, [.ref 316, .int (nI k), .int (nI a), dv], [], mm (upR I 324 F) J D) = ex (185, 134, [.ref 316, .int (nI k), dv, dv], [], mm (upR I 324 F') J D) ∧ AbF F' (wst k W)
  | 0, a, h, F, hF => by
    have : a = 17 := by omega
    subst this
    exact ⟨F, by rw [e_185_50, decide_eq_true (show (17 : Int32) ≤ nI 17 by decide), cond_true], mx3_e hF⟩
  | r + 1, a, h, F, hF => by
    obtain ⟨F1, e1, h1⟩ := m_abvB (I := I) (J := J) (D := D) (W := W) hk (show a < 17 by omega) 16 1 (by omega) F (by rw [mx3_1 hin]; exact hF)
    obtain ⟨F2, e2, h2⟩ := m_abvA hin hk r (a + 1) (by omega) F1 (mx3_17 h1)
    refine ⟨F2, ?_, h2⟩
    rw [e_185_50, decide_eq_false (show ¬ (17 : Int32) ≤ nI a from nI_ge (a := a) (b := 17) (by omega) (by decide)), cond_false, e_185_56]
    refine e1.trans ?_
    rw [e_185_128, nI_1]
    exact e2
theorem m_abvK {n : Nat} {T : Nat → Nat → Bool} (hin : In n T) : ∀ r k, k + r = 16 → ∀ F, AbF F (wsh T k) →
    ∃ F', ex (185, 42, [.ref 316, .int (nI (k + 1)), dv, dv], [], mm (upR I 324 F) J D) = some (.inl none, mm (upR I 324 F') J D) ∧ AbF F' (clo T)
  | 0, k, h, F, hF => by
    have : k = 16 := by omega
    subst this
    exact ⟨F, by rw [e_185_42, decide_eq_true (show (17 : Int32) ≤ nI 17 by decide), cond_true, e_185_140], hF⟩
  | r + 1, k, h, F, hF => by
    have hi := wsh_in hin k
    obtain ⟨F1, e1, h1⟩ := m_abvA (I := I) (J := J) (D := D) hi (show k + 1 < 17 by omega) 16 1 (by omega) F (by rw [mx3_0 hi]; exact hF)
    obtain ⟨F2, e2, h2⟩ := m_abvK hin r (k + 1) (by omega) F1 h1
    refine ⟨F2, ?_, h2⟩
    rw [e_185_42, decide_eq_false (show ¬ (17 : Int32) ≤ nI (k + 1) from nI_ge (a := k + 1) (b := 17) (by omega) (by decide)), cond_false, e_185_48]
    refine e1.trans ?_
    rw [e_185_134, nI_1]
    exact e2
def Wab (T : Nat → Nat → Bool) (w : Nat → Int32) : Prop := ∀ a b, a < 17 → b < 17 → w (202 + 17 * a + b) = b2i (T a b)
theorem m_abv {n : Nat} {T : Nat → Nat → Bool} (hin : In n T) (hw : Wab T (I 317)) : ∃ F, ex (185, 0, [.ref 316, dv, dv, dv], [], mm I J D) = some (.inl none, mm (upR I 324 F) J D) ∧ AbF F (clo T) := by
  have l0 := m_abv0 (I := I) (J := J) (D := D) (fun j hj => by
    have := hw (j / 17) (j % 17) (by omega) (by omega)
    rw [show 202 + 17 * (j / 17) + j % 17 = 202 + j by omega] at this
    rw [this]
    cases T (j / 17) (j % 17)
    · exact Or.inl rfl
    · exact Or.inr rfl) 289 0 (by omega)
  rw [lpN_0, upR_me] at l0
  obtain ⟨F, e, h⟩ := m_abvK (I := I) (J := J) (D := D) hin 16 0 (by omega) (lpN (fun j => I 317 (202 + j)) (I 324) 289) (fun a b ha hb => by
    unfold lpN
    rw [if_pos (by omega)]
    show I 317 (202 + (17 * a + b)) = _
    rw [show 202 + (17 * a + b) = 202 + 17 * a + b by omega]
    exact hw a b ha hb)
  refine ⟨F, ?_, h⟩
  rw [e_185_0]
  refine l0.trans ?_
  rw [e_185_40]
  exact e
theorem m_lies {R : Nat → Nat → Bool} (h : AbF (I 324) R) {a b : Nat} (ha : a < 17) (hb : b < 17) : ex (186, 0, [.ref 316, .int (nI a), .int (nI b)], [], mm I J D) = some (.inl (some (.int (b2i (R a b)))), mm I J D) := by
  rw [e_186_0, m17, inb_n (show 17 * a + b < 289 by omega) (by decide), cond_true, nI_clamp (by omega), h a b ha hb]
  cases R a b <;> rfl
theorem orB_mono {f : Nat → Bool} : ∀ d c, orB f c = true → orB f (c + d) = true
  | 0, _, h => h
  | d + 1, c, h => by
    show (orB f (c + d) || f (c + d + 1)) = true
    rw [orB_mono d c h]; rfl
theorem m_line1 {R : Nat → Nat → Bool} (h : AbF (I 324) R) {a b : Nat} (ha : a < 17) (hb : b < 17) : ∀ r c, c + r = 16 → ex (187, 10, [.ref 316, .int (nI a), .int (nI b), .int (b2i (R a b && !(orB (btw R a b) c))), .int (nI (c + 1))], [], mm I J D) = some (.inl (some (.int (b2i (dr R a b)))), mm I J D)
  | 0, c, hc => by
    have : c = 16 := by omega
    subst this
    rw [e_187_10, decide_eq_true (show (17 : Int32) ≤ nI 17 by decide), cond_true, e_187_53]
    rw [show (R a b && !(orB (btw R a b) 16)) = dr R a b from rfl]
    cases dr R a b <;> rfl
  | r + 1, c, hc => by
    have ih := m_line1 h ha hb r (c + 1) (by omega)
    rw [e_187_10, decide_eq_false (show ¬ (17 : Int32) ≤ nI (c + 1) from nI_ge (a := c + 1) (b := 17) (by omega) (by decide)), cond_false, e_187_17]
    cases hv : (R a b && !(orB (btw R a b) c)) with
    | false =>
      have hd : dr R a b = false := by
        unfold dr
        rw [Bool.and_eq_false_iff] at hv ⊢
        rcases hv with q | q
        · exact Or.inl q
        · refine Or.inr ?_
          have : orB (btw R a b) c = true := by simpa using q
          have := orB_mono (16 - c) c this
          rw [show c + (16 - c) = 16 by omega] at this
          rw [this]; rfl
      rw [decide_eq_true (show b2i false = 0 by decide), cond_true, e_187_53, hd]; rfl
    | true =>
      rw [Bool.and_eq_true] at hv
      have ho : orB (btw R a b) c = false := by simpa using hv.2
      have hs : (R a b && !(orB (btw R a b) (c + 1))) = !(R a (c + 1) && R (c + 1) b) := by
        show (R a b && !(orB (btw R a b) c || btw R a b (c + 1))) = _
        rw [hv.1, ho]; rfl
      rw [hs] at ih
      rw [decide_eq_false (show ¬ b2i true = 0 by decide), cond_false, e_187_21, m_lies h ha (by omega), cal_v, ka, e_187_28]
      cases h1 : R a (c + 1) with
      | false =>
        rw [h1] at ih
        rw [decide_eq_true (show b2i false = 0 by decide), cond_true, e_187_41, e_187_46, nI_1]
        exact ih
      | true =>
        rw [decide_eq_false (show ¬ b2i true = 0 by decide), cond_false, e_187_31, m_lies h (by omega) hb, cal_v, ka, e_187_38]
        cases h2 : R (c + 1) b with
        | false =>
          rw [h1, h2] at ih
          rw [decide_eq_false (show ¬ b2i false ≠ 0 by decide), cond_false, e_187_41, e_187_46, nI_1]
          exact ih
        | true =>
          rw [h1, h2] at ih
          rw [decide_eq_true (show b2i true ≠ 0 by decide), cond_true, e_187_45, e_187_46, nI_1]
          exact ih
theorem m_line {R : Nat → Nat → Bool} (h : AbF (I 324) R) {a b : Nat} (ha : a < 17) (hb : b < 17) : ex (187, 0, [.ref 316, .int (nI a), .int (nI b), dv, dv], [], mm I J D) = some (.inl (some (.int (b2i (dr R a b)))), mm I J D) := by
  have := m_line1 (J := J) (D := D) h ha hb 16 0 (by omega)
  rw [show (R a b && !(orB (btw R a b) 0)) = R a b by show (R a b && !false) = _; simp] at this
  rw [e_187_0, m_lies h ha hb, cal_v, ka, e_187_6]
  exact this
theorem m_lnB {R : Nat → Nat → Bool} (h : AbF (I 324) R) {a s : Nat} (ha : a < 17) : ∀ r b, b + r = 16 → ex (188, 16, [.ref 316, .int (nI (s + cntN (row (dr R) a) b)), .int (nI a), .int (nI (b + 1))], [], mm I J D) = ex (188, 45, [.ref 316, .int (nI (s + cntN (row (dr R) a) 16)), .int (nI a), dv], [], mm I J D)
  | 0, b, hb => by
    have : b = 16 := by omega
    subst this
    rw [e_188_16, decide_eq_true (show (17 : Int32) ≤ nI 17 by decide), cond_true]
  | r + 1, b, hb => by
    have ih := m_lnB h (s := s) ha r (b + 1) (by omega)
    have hr : row (dr R) a b = dr R a (b + 1) := by unfold row; rw [Nat.blt_eq.mpr (by omega)]; rfl
    have hs : cntN (row (dr R) a) (b + 1) = cntN (row (dr R) a) b + (bif dr R a (b + 1) then 1 else 0) := by rw [← hr]; rfl
    rw [hs] at ih
    rw [e_188_16, decide_eq_false (show ¬ (17 : Int32) ≤ nI (b + 1) from nI_ge (a := b + 1) (b := 17) (by omega) (by decide)), cond_false, e_188_22, m_line h ha (by omega), cal_v, ka, e_188_29]
    cases hd : dr R a (b + 1) with
    | false =>
      rw [hd] at ih
      rw [decide_eq_true (show b2i false = 0 by decide), cond_true, e_188_36, e_188_37, nI_1, show (0 : Int32) = nI 0 from rfl, nI_add]
      exact ih
    | true =>
      rw [hd] at ih
      rw [decide_eq_false (show ¬ b2i true = 0 by decide), cond_false, e_188_32, e_188_37, nI_1, nI_1]
      exact ih
theorem m_lnA {R : Nat → Nat → Bool} (h : AbF (I 324) R) : ∀ r a, a + r = 16 → ex (188, 8, [.ref 316, .int (nI (lnN R a)), .int (nI (a + 1)), dv], [], mm I J D) = some (.inl (some (.int (nI (lnN R 16)))), mm I J D)
  | 0, a, ha => by
    have : a = 16 := by omega
    subst this
    rw [e_188_8, decide_eq_true (show (17 : Int32) ≤ nI 17 by decide), cond_true, e_188_51]
  | r + 1, a, ha => by
    have ih := m_lnA h r (a + 1) (by omega)
    have l := m_lnB (J := J) (D := D) h (a := a + 1) (s := lnN R a) (by omega) 16 0 (by omega)
    rw [e_188_8, decide_eq_false (show ¬ (17 : Int32) ≤ nI (a + 1) from nI_ge (a := a + 1) (b := 17) (by omega) (by decide)), cond_false, e_188_14]
    refine l.trans ?_
    rw [e_188_45, nI_1]
    exact ih
theorem m_lines {n : Nat} {T : Nat → Nat → Bool} (hin : In n T) (hw : Wab T (I 317)) : ∃ F, ex (188, 0, [.ref 316, dv, dv, dv], [], mm I J D) = some (.inl (some (.int (nI (lnN (clo T) 16)))), mm (upR I 324 F) J D) ∧ AbF F (clo T) := by
  obtain ⟨F, e, h⟩ := m_abv (J := J) (D := D) hin hw
  refine ⟨F, ?_, h⟩
  rw [e_188_0, e, cal_v, kn, e_188_4]
  exact m_lnA (I := upR I 324 F) (by rw [uRs]; exact h) 16 0 (by omega)
end MA
/-- what was told, of the book's now page -/
def TI (I : Nat → Nat → Int32) (a b : Nat) : Bool := decide (a < 17) && (decide (1 ≤ b) && Nat.testBit (rN (I 9 a)) (b - 1))
theorem inv_pil {kk : Nat} {I : Nat → Nat → Int32} (h : PgRel kk (pgF I 1) (I 317)) : ∃ n, n ≤ 16 ∧ I 8 1 = nI n ∧ I 317 0 = nI n ∧ In n (TI I) ∧ RwF (I 9) (TI I) ∧ Wab (TI I) (I 317) ∧ ∃ r : Nat → Nat, ∀ a b, TI I a b = true → r a < r b := by
  obtain ⟨⟨l1, l2⟩, -, ⟨p1, p2, p3, r, p4⟩, -⟩ := h
  have e8 : ∀ a, a < 17 → nrm (pgF I 1) 8 a = I 9 a := fun a ha => nrm_at (show rl 8 a = true from Nat.blt_eq.mpr ha)
  have e7 : nrm (pgF I 1) 7 1 = I 8 1 := nrm_at rfl
  have et : ∀ a b, a < 17 → tld (nrm (pgF I 1)) a b = TI I a b := fun a b ha => by
    unfold tld TI
    rw [e8 a ha, decide_eq_true ha, Bool.true_and]
    by_cases q : 1 ≤ b
    · rw [decide_eq_true q, Nat.ble_eq.mpr q]
    · rw [decide_eq_false q, show Nat.ble 1 b = false from by rw [← Bool.not_eq_true, Nat.ble_eq]; exact q]
  have ta : ∀ a b, TI I a b = true → a < 17 := fun a b e => by
    unfold TI at e
    rw [Bool.and_eq_true, decide_eq_true_eq] at e
    exact e.1
  rw [e7] at l1 l2 p3
  obtain ⟨n, hn, en⟩ := rg_nI (b := 16) l2 (by decide)
  rw [en, rN_nI (by omega)] at p3
  rw [nrw_at (by decide)] at l1
  refine ⟨n, hn, en, by rw [l1, en], fun a b e => p3 a b (ta a b e) (by rw [et a b (ta a b e)]; exact e), fun a ha => ?_, fun a b ha hb => ?_, r, fun a b e => p4 a b (ta a b e) (by rw [et a b (ta a b e)]; exact e)⟩
  · have hr := p1 a ha
    rw [e8 a ha] at hr
    obtain ⟨v, hv, ev⟩ := rg_nI (b := 65535) hr (by decide)
    rw [ev]
    refine (Bt.n (by omega)).cg (fun i => ?_)
    unfold row TI
    rw [ev, rN_nI (by omega), decide_eq_true ha, decide_eq_true (show 1 ≤ i + 1 by omega), Bool.true_and, Bool.true_and, Nat.add_sub_cancel]
    by_cases q : i < 16
    · rw [Nat.blt_eq.mpr q, Bool.true_and]
    · rw [show Nat.blt i 16 = false from by rw [← Bool.not_eq_true, Nat.blt_eq]; exact q, Bool.false_and, Nat.testBit_lt_two_pow (Nat.lt_of_lt_of_le (show v < 2 ^ 16 by omega) (Nat.pow_le_pow_right (by decide) (by omega)))]
  · have := p2 a b ha hb
    rw [nrw_at (by omega), et a b ha] at this
    rw [this]; rfl

