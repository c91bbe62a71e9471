/-! laying both rows beside each other: the model -/
def LayM (G : Nat → Nat → Int32) (n0 n1 : Nat) (I : Nat → Nat → Int32) : Prop := (I 317 491 = nI n0 ∧ I 317 492 = nI n1) ∧ (∀ k, k < n0 → I 317 (493 + 16 * 0 + k) = G 11 k ∧ I 317 (525 + 16 * 0 + k) = G 12 k ∧ I 317 (589 + 16 * 0 + k) = G 13 k) ∧ (∀ k, k < n1 → I 317 (493 + 16 * 1 + k) = G 16 k ∧ I 317 (525 + 16 * 1 + k) = G 17 k ∧ I 317 (589 + 16 * 1 + k) = G 18 k) ∧ I 317 621 = G 1 6 ∧ I 317 622 = G 1 7 ∧ I 317 623 = G 1 8
theorem LayM.go {G : Nat → Nat → Int32} {n0 n1 : Nat} {I I' : Nat → Nat → Int32} (h : LayM G n0 n1 I) (k : I' 317 = I 317) : LayM G n0 n1 I' := by
  unfold LayM
  rw [k]; exact h
theorem bI_01 (x : Bool) : bI x = 0 ∨ bI x = 1 := by cases x; exact Or.inl rfl; exact Or.inr rfl
section MY
variable {I : Nat → Nat → Int32} {J : Nat → Nat → Int64} {D : Nat → Nat → UInt64} {G : Nat → Nat → Int32} {n0 n1 : Nat}
theorem m_thk {i k : Nat} (hi : i < 2) (hk : k < 16) : ex (208, 0, [.ref 316, .int (nI i), .int (nI k)], [], mm I J D) = some (.inl (some (.int (I 317 (493 + 16 * i + k)))), mm I J D) := by
  rw [e_208_0, show (493 : Int32) + 16 * nI i + nI k = nI (493 + 16 * i + k) by rw [show (16 : Int32) * nI i = nI (16 * i) from pk_mul 16 i, show (493 : Int32) = nI 493 from rfl, nI_add, nI_add], inb_n (by omega) (by decide), cond_true, nI_clamp (by omega)]
theorem m_mrk {i k : Nat} (hi : i < 2) (hk : k < 16) : ex (209, 0, [.ref 316, .int (nI i), .int (nI k)], [], mm I J D) = some (.inl (some (.int (I 317 (525 + 16 * i + k)))), mm I J D) := by
  rw [e_209_0, show (525 : Int32) + 16 * nI i + nI k = nI (525 + 16 * i + k) by rw [show (16 : Int32) * nI i = nI (16 * i) from pk_mul 16 i, show (525 : Int32) = nI 525 from rfl, nI_add, nI_add], inb_n (by omega) (by decide), cond_true, nI_clamp (by omega)]
theorem x_dst {a b : Nat} (ha : a < 1000) (hb : b < 1000) : ex (158, 0, [.int (nI a), .int (nI b)], [], mm I J D) = some (.inl (some (.int (nI (dsN a b)))), mm I J D) := by
  unfold dsN
  by_cases h : b ≤ a
  · rw [e_158_0, decide_eq_true ((nI_leI (by omega) (by omega)).mpr h), cond_true, e_158_11, e_158_14, nI_sub h, show a - b + (b - a) = a - b by omega]
  · rw [e_158_0, decide_eq_false (show ¬ nI b ≤ nI a from nI_ge (by omega) (by omega)), cond_false, e_158_5, e_158_14, nI_sub (by omega), show a - b + (b - a) = b - a by omega]

theorem m_tk0 {k : Nat} (hk : k < 5) : ex (210, 0, [.int (nI k), .int 0], [], mm I J D) = some (.inl (some (.int (nI (tk0 k)))), mm I J D) := by
  rcases (show k = 0 ∨ k = 1 ∨ k = 2 ∨ k = 3 ∨ k = 4 by omega) with rfl | rfl | rfl | rfl | rfl
  · show ex (210, 0, [.int 0, .int 0], [], mm I J D) = _
    rw [e_210_0, decide_eq_false (by decide), cond_false, e_210_5, decide_eq_true (by decide), cond_true, e_210_38, decide_eq_true (by decide), cond_true, e_210_47, decide_eq_true (by decide), cond_true, e_210_61, e_210_62]
    rfl
  · show ex (210, 0, [.int 1, .int 0], [], mm I J D) = _
    rw [e_210_0, decide_eq_true (by decide), cond_true, e_210_10, decide_eq_false (by decide), cond_false, e_210_15, e_210_20, decide_eq_false (by decide), cond_false, e_210_24, e_210_29, decide_eq_false (by decide), cond_false, e_210_32, e_210_37]
    rfl
  · show ex (210, 0, [.int 2, .int 0], [], mm I J D) = _
    rw [e_210_0, decide_eq_false (by decide), cond_false, e_210_5, decide_eq_false (by decide), cond_false, e_210_10, decide_eq_true (by decide), cond_true, e_210_19, e_210_20, decide_eq_false (by decide), cond_false, e_210_24, e_210_29, decide_eq_true (by decide), cond_true, e_210_36, e_210_37]
    rfl
  · show ex (210, 0, [.int 3, .int 0], [], mm I J D) = _
    rw [e_210_0, decide_eq_false (by decide), cond_false, e_210_5, decide_eq_true (by decide), cond_true, e_210_38, decide_eq_true (by decide), cond_true, e_210_47, decide_eq_false (by decide), cond_false, e_210_52, decide_eq_true (by decide), cond_true, e_210_61, e_210_62]
    rfl
  · show ex (210, 0, [.int 4, .int 0], [], mm I J D) = _
    rw [e_210_0, decide_eq_false (by decide), cond_false, e_210_5, decide_eq_true (by decide), cond_true, e_210_38, decide_eq_false (by decide), cond_false, e_210_43, decide_eq_true (by decide), cond_true, e_210_57, e_210_62]
    rfl
theorem m_tk1 {k : Nat} (hk : k < 5) : ex (210, 0, [.int (nI k), .int 1], [], mm I J D) = some (.inl (some (.int (nI (tk1 k)))), mm I J D) := by
  rcases (show k = 0 ∨ k = 1 ∨ k = 2 ∨ k = 3 ∨ k = 4 by omega) with rfl | rfl | rfl | rfl | rfl
  · show ex (210, 0, [.int 0, .int 1], [], mm I J D) = _
    rw [e_210_0, decide_eq_false (by decide), cond_false, e_210_5, decide_eq_true (by decide), cond_true, e_210_38, decide_eq_true (by decide), cond_true, e_210_47, decide_eq_true (by decide), cond_true, e_210_61, e_210_62]
    rfl
  · show ex (210, 0, [.int 1, .int 1], [], mm I J D) = _
    rw [e_210_0, decide_eq_true (by decide), cond_true, e_210_10, decide_eq_false (by decide), cond_false, e_210_15, e_210_20, decide_eq_true (by decide), cond_true, e_210_28, e_210_29, decide_eq_true (by decide), cond_true, e_210_36, e_210_37]
    rfl
  · show ex (210, 0, [.int 2, .int 1], [], mm I J D) = _
    rw [e_210_0, decide_eq_false (by decide), cond_false, e_210_5, decide_eq_false (by decide), cond_false, e_210_10, decide_eq_true (by decide), cond_true, e_210_19, e_210_20, decide_eq_true (by decide), cond_true, e_210_28, e_210_29, decide_eq_false (by decide), cond_false, e_210_32, e_210_37]
    rfl
  · show ex (210, 0, [.int 3, .int 1], [], mm I J D) = _
    rw [e_210_0, decide_eq_false (by decide), cond_false, e_210_5, decide_eq_true (by decide), cond_true, e_210_38, decide_eq_true (by decide), cond_true, e_210_47, decide_eq_false (by decide), cond_false, e_210_52, decide_eq_false (by decide), cond_false, e_210_57, e_210_62]
    rfl
  · show ex (210, 0, [.int 4, .int 1], [], mm I J D) = _
    rw [e_210_0, decide_eq_false (by decide), cond_false, e_210_5, decide_eq_true (by decide), cond_true, e_210_38, decide_eq_false (by decide), cond_false, e_210_43, decide_eq_false (by decide), cond_false, e_210_47, decide_eq_true (by decide), cond_true, e_210_61, e_210_62]
    rfl
theorem m_ls {i f m : Nat} {t : Nat → Int32} (hi : i < 2) (hf : f + m ≤ 16) (ht : ∀ k, f ≤ k → k < f + m → I 317 (589 + 16 * i + k) = t k) : ∀ r k, k + r = m → (∀ q, q < k → t (f + q) = -1) → ex (211, 3, [.ref 316, .int (nI i), .int (nI f), .int (nI m), .int (nI (f + k))], [], mm I J D) = some (.inl (some (.int (bI (decide (∀ q, q < m → t (f + q) = -1))))), mm I J D)
  | 0, k, h, hq => by
    have : k = m := by omega
    subst this
    rw [e_211_3, nI_add, decide_eq_true ((nI_leI (by omega) (by omega)).mpr (Nat.le_refl _)), cond_true, e_211_30, decide_eq_true hq]; rfl
  | r + 1, k, h, hq => by
    rw [e_211_3, nI_add, decide_eq_false (show ¬ nI (f + m) ≤ nI (f + k) from nI_ge (by omega) (by omega)), cond_false, e_211_11, m_tie hi (show f + k < 16 by omega), cal_v, ka, e_211_18, ht (f + k) (by omega) (by omega)]
    by_cases q : t (f + k) = -1
    · have ih := m_ls hi hf ht r (k + 1) (by omega) (fun y hy => by
        by_cases e : y = k
        · subst e; exact q
        · exact hq y (by omega))
      rw [decide_eq_true q, cond_true, e_211_24, nI_1]
      exact ih
    · rw [decide_eq_false q, cond_false, e_211_22, decide_eq_false (fun w => q (w k (by omega)))]; rfl
theorem m_ls0 {i f m : Nat} {t : Nat → Int32} (hi : i < 2) (hf : f + m ≤ 16) (ht : ∀ k, f ≤ k → k < f + m → I 317 (589 + 16 * i + k) = t k) : ex (211, 0, [.ref 316, .int (nI i), .int (nI f), .int (nI m), dv], [], mm I J D) = some (.inl (some (.int (bI (decide (∀ q, q < m → t (f + q) = -1))))), mm I J D) := by
  rw [e_211_0]
  exact m_ls hi hf ht m 0 (by omega) (fun q hq => by omega)
theorem ok_loose {b0 b1 : Int32} {k i j : Nat} (hk : k < 5) (h0 : k ≠ 0) : okS G b0 b1 k i j = (decide (∀ q, q < tk0 k → G 13 (i + q) = -1) && decide (∀ q, q < tk1 k → G 18 (j + q) = -1)) := by
  have e1 : ∀ (t : Nat → Int32) x, (∀ q, q < 1 → t (x + q) = -1) ↔ t x = -1 := fun t x => by
    constructor
    · intro h; exact h 0 (by decide)
    · intro h q hq
      have : q = 0 := by omega
      subst this; exact h
  have e2 : ∀ (t : Nat → Int32) x, (∀ q, q < 2 → t (x + q) = -1) ↔ t x = -1 ∧ t (x + 1) = -1 := fun t x => ⟨fun h => ⟨h 0 (by decide), h 1 (by decide)⟩, fun h q hq => by
    rcases (show q = 0 ∨ q = 1 by omega) with rfl | rfl
    · exact h.1
    · exact h.2⟩
  have e0 : ∀ (t : Nat → Int32) x, (∀ q, q < 0 → t (x + q) = -1) ↔ True := fun t x => ⟨fun _ => trivial, fun _ q hq => by omega⟩
  rw [← Bool.decide_and]
  rcases (show k = 1 ∨ k = 2 ∨ k = 3 ∨ k = 4 by omega) with rfl | rfl | rfl | rfl
  · show decide _ = _
    refine decide_eq_decide.mpr ?_
    show _ ↔ (∀ q, q < 1 → G 13 (i + q) = -1) ∧ (∀ q, q < 0 → G 18 (j + q) = -1)
    rw [e1, e0, and_true]
  · show decide _ = _
    refine decide_eq_decide.mpr ?_
    show _ ↔ (∀ q, q < 0 → G 13 (i + q) = -1) ∧ (∀ q, q < 1 → G 18 (j + q) = -1)
    rw [e1, e0, true_and]
  · show decide _ = _
    refine decide_eq_decide.mpr ?_
    show _ ↔ (∀ q, q < 1 → G 13 (i + q) = -1) ∧ (∀ q, q < 2 → G 18 (j + q) = -1)
    rw [e1, e2]
  · show decide _ = _
    refine decide_eq_decide.mpr ?_
    show _ ↔ (∀ q, q < 2 → G 13 (i + q) = -1) ∧ (∀ q, q < 1 → G 18 (j + q) = -1)
    rw [e1, e2]
    exact ⟨fun h => ⟨h.2, h.1⟩, fun h => ⟨h.2, h.1⟩⟩
theorem ok_tog (tx : TX n0 n1 (G 13) (G 18)) (h16 : n0 ≤ 16 ∧ n1 ≤ 16) {i j : Nat} (hi : i < n0) (hj : j < n1) : okS G (-1) (-1) 0 i j = decide (G 13 i = nI j ∨ (G 13 i = -1 ∧ G 18 j = -1)) := by
  unfold okS
  refine decide_eq_decide.mpr ⟨fun h => ?_, fun h => ?_⟩
  · obtain ⟨h1, h2, -⟩ := h
    rcases h1 with h1 | h1
    · rcases h2 with h2 | h2
      · exact Or.inr ⟨h1, h2⟩
      · rcases tx.2.1 j hj with q | ⟨k, hk, q1, q2⟩
        · rw [q] at h2
          exact absurd (congrArg Int32.toInt h2) (by rw [nI_toInt (by omega), show (-1 : Int32).toInt = -1 from rfl]; omega)
        · rw [q1] at h2
          have := (nI_eq (by omega) (by omega)).mp h2
          subst this
          exact Or.inl q2
    · exact Or.inl h1
  · have nb : ¬ (nI i = -1 ∧ nI j = -1) := fun w => absurd (congrArg Int32.toInt w.1) (by rw [nI_toInt (by omega), show (-1 : Int32).toInt = -1 from rfl]; omega)
    rcases h with h | ⟨h1, h2⟩
    · rcases tx.1 i hi with q | ⟨y, hy, q1, q2⟩
      · rw [q] at h
        exact absurd (congrArg Int32.toInt h) (by rw [nI_toInt (by omega), show (-1 : Int32).toInt = -1 from rfl]; omega)
      · have : y = j := (nI_eq (by omega) (by omega)).mp (q1.symm.trans h)
        subst this
        exact ⟨Or.inr h, Or.inr q2, nb⟩
    · exact ⟨Or.inl h1, Or.inl h2, nb⟩
theorem m_stp (g : LayG G n0 n1) (tx : TX n0 n1 (G 13) (G 18)) (c : LayM G n0 n1 I) {k i j : Nat} (hk : k < 5) (hi : i ≤ n0) (hj : j ≤ n1) : ex (212, 0, [.ref 316, .int (nI k), .int (nI i), .int (nI j)], [], mm I J D) = some (.inl (some (.int (bI (okB G n0 n1 (-1) (-1) k i j)))), mm I J D) := by
  have hn := g.1
  obtain ⟨⟨c1, c2⟩, ca, cb, -⟩ := c
  have t0 : tk0 k ≤ 2 := by unfold tk0; split <;> omega
  have t1 : tk1 k ≤ 2 := by unfold tk1; split <;> omega
  rw [e_212_0, m_tk0 hk, cal_v, ka, e_212_6, nI_add, c1]
  by_cases q0 : i + tk0 k ≤ n0
  · rw [decide_eq_false (show ¬ nI n0 < nI (i + tk0 k) from nI_nlt (by omega) (by omega)), cond_false, e_212_18, m_tk1 hk, cal_v, ka, e_212_24, nI_add, c2]
    by_cases q1 : j + tk1 k ≤ n1
    · have hok : okB G n0 n1 (-1) (-1) k i j = okS G (-1) (-1) k i j := by unfold okB; rw [decide_eq_true ⟨q0, q1⟩, Bool.true_and]
      rw [decide_eq_true ((nI_leI (by omega) (by omega)).mpr q1), cond_true, e_212_38, hok]
      by_cases hk0 : k = 0
      · subst hk0
        have hi' : i + 1 ≤ n0 := q0
        have hj' : j + 1 ≤ n1 := q1
        have ta := (ca i (by omega)).2.2
        have tb := (cb j (by omega)).2.2
        have m0 := m_tie (I := I) (J := J) (D := D) (i := 0) (k := i) (by decide) (by omega)
        have m1 := m_tie (I := I) (J := J) (D := D) (i := 1) (k := j) (by decide) (by omega)
        rw [ta] at m0
        rw [tb] at m1
        rw [decide_eq_false (show ¬ nI 0 ≠ 0 by decide), cond_false, e_212_42, show (Value.int 0) = Value.int (nI 0) from rfl, m0, cal_v, ka, e_212_48, ok_tog tx hn (by omega) (by omega)]
        by_cases w : G 13 i = nI j
        · rw [decide_eq_true w, cond_true, e_212_72, e_212_77, decide_eq_true (show (1 : Int32) = 0 ∨ (1 : Int32) = 1 by decide), cond_true, decide_eq_true (Or.inl w)]; rfl
        · rw [decide_eq_false w, cond_false, e_212_52, show (Value.int 0) = Value.int (nI 0) from rfl, m0, cal_v, ka, e_212_58]
          by_cases w2 : G 13 i = -1
          · rw [decide_eq_false (fun z => z w2), cond_false, e_212_62, show (Value.int 1) = Value.int (nI 1) from rfl, m1, cal_v, ka, e_212_68]
            by_cases w3 : G 18 j = -1
            · rw [decide_eq_false (fun z => z w3), cond_false, e_212_72, e_212_77, decide_eq_true (show (1 : Int32) = 0 ∨ (1 : Int32) = 1 by decide), cond_true, decide_eq_true (Or.inr ⟨w2, w3⟩)]; rfl
            · rw [decide_eq_true w3, cond_true, e_212_76, e_212_77, decide_eq_true (show (0 : Int32) = 0 ∨ (0 : Int32) = 1 by decide), cond_true, decide_eq_false (fun z => by rcases z with z | z; exact w z; exact w3 z.2)]; rfl
          · rw [decide_eq_true w2, cond_true, e_212_76, e_212_77, decide_eq_true (show (0 : Int32) = 0 ∨ (0 : Int32) = 1 by decide), cond_true, decide_eq_false (fun z => by rcases z with z | z; exact w z; exact w2 z.1)]; rfl
      · have hne : nI k ≠ 0 := fun w => hk0 ((nI_eq (b := 0) (by omega) (by decide)).mp w)
        rw [ok_loose hk hk0]
        have l0 := m_ls0 (I := I) (J := J) (D := D) (i := 0) (f := i) (m := tk0 k) (t := G 13) (by decide) (by omega) (fun y h1 h2 => (ca y (by omega)).2.2)
        have l1 := m_ls0 (I := I) (J := J) (D := D) (i := 1) (f := j) (m := tk1 k) (t := G 18) (by decide) (by omega) (fun y h1 h2 => (cb y (by omega)).2.2)
        rw [decide_eq_true hne, cond_true, e_212_78, m_tk0 hk, cal_v, ka, e_212_86, show (Value.int 0) = Value.int (nI 0) from rfl, l0, cal_v, ka, e_212_89]
        cases (decide (∀ q, q < tk0 k → G 13 (i + q) = -1)) with
        | false =>
          rw [decide_eq_true (show bI false = 0 from rfl), cond_true, e_212_110, e_212_111, decide_eq_true (show (0 : Int32) = 0 ∨ (0 : Int32) = 1 by decide), cond_true]; rfl
        | true =>
          rw [decide_eq_false (show ¬ bI true = 0 by decide), cond_false, e_212_92, m_tk1 hk, cal_v, ka, e_212_100, show (Value.int 1) = Value.int (nI 1) from rfl, l1, cal_v, ka, e_212_103]
          cases (decide (∀ q, q < tk1 k → G 18 (j + q) = -1)) with
          | false =>
            rw [decide_eq_true (show bI false = 0 from rfl), cond_true, e_212_110, e_212_111, decide_eq_true (show (0 : Int32) = 0 ∨ (0 : Int32) = 1 by decide), cond_true]; rfl
          | true =>
            rw [decide_eq_false (show ¬ bI true = 0 by decide), cond_false, e_212_106, e_212_111, decide_eq_true (show (1 : Int32) = 0 ∨ (1 : Int32) = 1 by decide), cond_true]; rfl
    · have : okB G n0 n1 (-1) (-1) k i j = false := by unfold okB; rw [decide_eq_false (fun w => q1 w.2)]; rfl
      rw [this, decide_eq_false (show ¬ nI (j + tk1 k) ≤ nI n1 from nI_ge (by omega) (by omega)), cond_false, e_212_36]; rfl
  · have : okB G n0 n1 (-1) (-1) k i j = false := by unfold okB; rw [decide_eq_false (fun w => q0 w.1)]; rfl
    rw [this, decide_eq_true ((nI_ltI (by omega) (by omega)).mpr (by omega)), cond_true, e_212_36]; rfl

theorem m_pr (g : LayG G n0 n1) (c : LayM G n0 n1 I) {k i j : Nat} (hk : k < 5) (hi : i + tk0 k ≤ n0) (hj : j + tk1 k ≤ n1) : ex (213, 0, [.ref 316, .int (nI k), .int (nI i), .int (nI j), dv, dv, dv, dv], [], mm I J D) = some (.inl (some (.int (nI (spN G k i j)))), mm I J D) := by
  obtain ⟨hn, g0, g1, p1, p2, p3⟩ := g
  obtain ⟨⟨c1, c2⟩, ca, cb, c6, c7, c8⟩ := c
  rcases (show k = 0 ∨ k = 1 ∨ k = 2 ∨ k = 3 ∨ k = 4 by omega) with rfl | rfl | rfl | rfl | rfl
  · have hi : i + 1 ≤ n0 := hi
    have hj : j + 1 ≤ n1 := hj
    have a := rN9 (g0 i (by omega)) (by decide)
    have b := rN9 (g1 j (by omega)) (by decide)
    have th0 := m_thk (I := I) (J := J) (D := D) (i := 0) (k := i) (by decide) (by omega)
    have th1 := m_thk (I := I) (J := J) (D := D) (i := 1) (k := j) (by decide) (by omega)
    have mk0 := m_mrk (I := I) (J := J) (D := D) (i := 0) (k := i) (by decide) (by omega)
    have mk1 := m_mrk (I := I) (J := J) (D := D) (i := 1) (k := j) (by decide) (by omega)
    rw [(ca i (by omega)).1, a.1] at th0
    rw [(cb j (by omega)).1, b.1] at th1
    rw [(ca i (by omega)).2.1] at mk0
    rw [(cb j (by omega)).2.1] at mk1
    have e := mrk_if (c := G 12 i = G 17 j) (s := dsN (rN (G 11 i)) (rN (G 16 j))) (rN9 p3 (by decide)).1
    show _ = some (Sum.inl (some (Value.int (nI (dsN (rN (G 11 i)) (rN (G 16 j)) + (if G 12 i = G 17 j then 0 else rN (G 1 8)))))), mm I J D)
    rw [← e, e_213_0, decide_eq_false (show ¬ nI 0 ≠ 0 by decide), cond_false, e_213_4, show (Value.int 0) = Value.int (nI 0) from rfl, th0, cal_v, ka, e_213_10, show (Value.int 1) = Value.int (nI 1) from rfl, th1, cal_v, ka, e_213_16, x_dst (by omega) (by omega), cal_v, ka, e_213_19, show (Value.int 0) = Value.int (nI 0) from rfl, mk0, cal_v, ka, e_213_25, show (Value.int 1) = Value.int (nI 1) from rfl, mk1, cal_v, ka, e_213_31]
    by_cases m : G 12 i = G 17 j
    · rw [decide_eq_false (fun w => w m), cond_false, e_213_34, e_213_46, if_pos m, Int32.add_zero]
    · rw [decide_eq_true m, cond_true, e_213_38, e_213_46, if_neg m, c8]
  · show _ = some (Sum.inl (some (Value.int (nI (rN (G 1 6))))), mm I J D)
    rw [← (rN9 p1 (by decide)).1, e_213_0, decide_eq_true (show nI 1 ≠ 0 by decide), cond_true, e_213_48, decide_eq_true (show nI 1 = 1 from rfl), cond_true, e_213_58, c6]
  · show _ = some (Sum.inl (some (Value.int (nI (rN (G 1 6))))), mm I J D)
    rw [← (rN9 p1 (by decide)).1, e_213_0, decide_eq_true (show nI 2 ≠ 0 by decide), cond_true, e_213_48, decide_eq_false (show ¬ nI 2 = 1 by decide), cond_false, e_213_53, decide_eq_false (show ¬ nI 2 ≠ 2 by decide), cond_false, e_213_58, c6]

  · have hi : i + 1 ≤ n0 := hi
    have hj : j + 2 ≤ n1 := hj
    have a := rN9 (g0 i (by omega)) (by decide)
    have b := rN9 (g1 j (by omega)) (by decide)
    have b2 := rN9 (g1 (j + 1) (by omega)) (by decide)
    have t := rN9 p2 (by decide)
    have thA := m_thk (I := I) (J := J) (D := D) (i := 0) (k := i) (by decide) (by omega)
    have thB := m_thk (I := I) (J := J) (D := D) (i := 1 - 0) (k := j) (by decide) (by omega)
    have thC := m_thk (I := I) (J := J) (D := D) (i := 1 - 0) (k := j + 1) (by decide) (by omega)
    have mkA := m_mrk (I := I) (J := J) (D := D) (i := 0) (k := i) (by decide) (by omega)
    have mkB := m_mrk (I := I) (J := J) (D := D) (i := 1 - 0) (k := j) (by decide) (by omega)
    have mkC := m_mrk (I := I) (J := J) (D := D) (i := 1 - 0) (k := j + 1) (by decide) (by omega)
    simp only [Nat.reduceSub] at thB thC mkB mkC
    rw [(ca i (by omega)).1, a.1] at thA
    rw [(cb j (by omega)).1, b.1] at thB
    rw [(cb (j + 1) (by omega)).1, b2.1] at thC
    rw [(ca i (by omega)).2.1] at mkA
    rw [(cb j (by omega)).2.1] at mkB
    rw [(cb (j + 1) (by omega)).2.1] at mkC
    have thA2 : ex (208, 0, [.ref 316, .int 0, .int (nI i)], [], mm I J D) = _ := thA
    have thB2 : ex (208, 0, [.ref 316, .int (1 - 0), .int (nI j)], [], mm I J D) = _ := thB
    have thC2 : ex (208, 0, [.ref 316, .int (1 - 0), .int (nI (j + 1))], [], mm I J D) = _ := thC
    have mkA2 : ex (209, 0, [.ref 316, .int 0, .int (nI i)], [], mm I J D) = _ := mkA
    have mkB2 : ex (209, 0, [.ref 316, .int (1 - 0), .int (nI j)], [], mm I J D) = _ := mkB
    have mkC2 : ex (209, 0, [.ref 316, .int (1 - 0), .int (nI (j + 1))], [], mm I J D) = _ := mkC
    have e := mrk_if (c := G 12 i = G 17 j ∨ G 12 i = G 17 (j + 1)) (s := rN (G 1 7) + dsN (rN (G 11 i)) (rN (G 16 j) + rN (G 16 (j + 1)))) (rN9 p3 (by decide)).1
    show _ = some (Sum.inl (some (Value.int (nI (rN (G 1 7) + dsN (rN (G 11 i)) (rN (G 16 j) + rN (G 16 (j + 1))) + (if G 12 i = G 17 j ∨ G 12 i = G 17 (j + 1) then 0 else rN (G 1 8)))))), mm I J D)
    rw [← e]
    have fin : ∀ w : Int32, ((w = 1 ∧ (G 12 i = G 17 j ∨ G 12 i = G 17 (j + 1))) ∨ (w = 0 ∧ ¬ (G 12 i = G 17 j ∨ G 12 i = G 17 (j + 1)))) → ex (213, 152, [.ref 316, dv, dv, dv, .int 0, .int (nI i), .int (nI j), dv], [.int w], mm I J D) = some (.inl (some (.int (if G 12 i = G 17 j ∨ G 12 i = G 17 (j + 1) then nI (rN (G 1 7) + dsN (rN (G 11 i)) (rN (G 16 j) + rN (G 16 (j + 1)))) else nI (rN (G 1 7) + dsN (rN (G 11 i)) (rN (G 16 j) + rN (G 16 (j + 1)))) + G 1 8))), mm I J D) := by
      intro w hw
      rcases hw with ⟨rfl, hw⟩ | ⟨rfl, hw⟩
      · rw [e_213_152, thA2, cal_v, ka, e_213_170, thB2, cal_v, ka, e_213_180, nI_1, thC2, cal_v, ka, e_213_192, nI_add, x_dst (by omega) (by omega), cal_v, ka, e_213_196, d10, cond_false, e_213_202, e_213_214, if_pos hw, Int32.add_zero, c7, ← nI_add, ← t.1]
      · rw [e_213_152, thA2, cal_v, ka, e_213_170, thB2, cal_v, ka, e_213_180, nI_1, thC2, cal_v, ka, e_213_192, nI_add, x_dst (by omega) (by omega), cal_v, ka, e_213_196, d00, cond_true, e_213_206, e_213_214, if_neg hw, c7, c8, ← nI_add, ← t.1]
    rw [e_213_0, decide_eq_true (show nI 3 ≠ 0 by decide), cond_true, e_213_48, decide_eq_false (show ¬ nI 3 = 1 by decide), cond_false, e_213_53, decide_eq_true (show nI 3 ≠ 2 by decide), cond_true, e_213_67, decide_eq_false (show ¬ nI 3 ≠ 3 by decide), cond_false, e_213_72, e_213_77, d01, cond_false, e_213_84, e_213_89, d01, cond_false, e_213_96, e_213_101, mkA2, cal_v, ka, e_213_111, mkB2, cal_v, ka, e_213_121]
    by_cases m : G 12 i = G 17 j
    · rw [decide_eq_true m, cond_true, e_213_147]
      exact fin 1 (Or.inl ⟨rfl, Or.inl m⟩)
    · rw [decide_eq_false m, cond_false, e_213_124, mkA2, cal_v, ka, e_213_132, nI_1, mkC2, cal_v, ka, e_213_144]
      by_cases m2 : G 12 i = G 17 (j + 1)
      · rw [decide_eq_false (fun w => w m2), cond_false, e_213_147]
        exact fin 1 (Or.inl ⟨rfl, Or.inr m2⟩)
      · rw [decide_eq_true m2, cond_true, e_213_151]
        exact fin 0 (Or.inr ⟨rfl, fun w => by rcases w with w | w; exact m w; exact m2 w⟩)
  · have hi : i + 2 ≤ n0 := hi
    have hj : j + 1 ≤ n1 := hj
    have a := rN9 (g1 j (by omega)) (by decide)
    have b := rN9 (g0 i (by omega)) (by decide)
    have b2 := rN9 (g0 (i + 1) (by omega)) (by decide)
    have t := rN9 p2 (by decide)
    have thA := m_thk (I := I) (J := J) (D := D) (i := 1) (k := j) (by decide) (by omega)
    have thB := m_thk (I := I) (J := J) (D := D) (i := 1 - 1) (k := i) (by decide) (by omega)
    have thC := m_thk (I := I) (J := J) (D := D) (i := 1 - 1) (k := i + 1) (by decide) (by omega)
    have mkA := m_mrk (I := I) (J := J) (D := D) (i := 1) (k := j) (by decide) (by omega)
    have mkB := m_mrk (I := I) (J := J) (D := D) (i := 1 - 1) (k := i) (by decide) (by omega)
    have mkC := m_mrk (I := I) (J := J) (D := D) (i := 1 - 1) (k := i + 1) (by decide) (by omega)
    simp only [Nat.reduceSub] at thB thC mkB mkC
    rw [(cb j (by omega)).1, a.1] at thA
    rw [(ca i (by omega)).1, b.1] at thB
    rw [(ca (i + 1) (by omega)).1, b2.1] at thC
    rw [(cb j (by omega)).2.1] at mkA
    rw [(ca i (by omega)).2.1] at mkB
    rw [(ca (i + 1) (by omega)).2.1] at mkC
    have thA2 : ex (208, 0, [.ref 316, .int 1, .int (nI j)], [], mm I J D) = _ := thA
    have thB2 : ex (208, 0, [.ref 316, .int (1 - 1), .int (nI i)], [], mm I J D) = _ := thB
    have thC2 : ex (208, 0, [.ref 316, .int (1 - 1), .int (nI (i + 1))], [], mm I J D) = _ := thC
    have mkA2 : ex (209, 0, [.ref 316, .int 1, .int (nI j)], [], mm I J D) = _ := mkA
    have mkB2 : ex (209, 0, [.ref 316, .int (1 - 1), .int (nI i)], [], mm I J D) = _ := mkB
    have mkC2 : ex (209, 0, [.ref 316, .int (1 - 1), .int (nI (i + 1))], [], mm I J D) = _ := mkC
    have e := mrk_if (c := G 17 j = G 12 i ∨ G 17 j = G 12 (i + 1)) (s := rN (G 1 7) + dsN (rN (G 16 j)) (rN (G 11 i) + rN (G 11 (i + 1)))) (rN9 p3 (by decide)).1
    show _ = some (Sum.inl (some (Value.int (nI (rN (G 1 7) + dsN (rN (G 16 j)) (rN (G 11 i) + rN (G 11 (i + 1))) + (if G 17 j = G 12 i ∨ G 17 j = G 12 (i + 1) then 0 else rN (G 1 8)))))), mm I J D)
    rw [← e]
    have fin : ∀ w : Int32, ((w = 1 ∧ (G 17 j = G 12 i ∨ G 17 j = G 12 (i + 1))) ∨ (w = 0 ∧ ¬ (G 17 j = G 12 i ∨ G 17 j = G 12 (i + 1)))) → ex (213, 152, [.ref 316, dv, dv, dv, .int 1, .int (nI j), .int (nI i), dv], [.int w], mm I J D) = some (.inl (some (.int (if G 17 j = G 12 i ∨ G 17 j = G 12 (i + 1) then nI (rN (G 1 7) + dsN (rN (G 16 j)) (rN (G 11 i) + rN (G 11 (i + 1)))) else nI (rN (G 1 7) + dsN (rN (G 16 j)) (rN (G 11 i) + rN (G 11 (i + 1)))) + G 1 8))), mm I J D) := by
      intro w hw
      rcases hw with ⟨rfl, hw⟩ | ⟨rfl, hw⟩
      · rw [e_213_152, thA2, cal_v, ka, e_213_170, thB2, cal_v, ka, e_213_180, nI_1, thC2, cal_v, ka, e_213_192, nI_add, x_dst (by omega) (by omega), cal_v, ka, e_213_196, d10, cond_false, e_213_202, e_213_214, if_pos hw, Int32.add_zero, c7, ← nI_add, ← t.1]
      · rw [e_213_152, thA2, cal_v, ka, e_213_170, thB2, cal_v, ka, e_213_180, nI_1, thC2, cal_v, ka, e_213_192, nI_add, x_dst (by omega) (by omega), cal_v, ka, e_213_196, d00, cond_true, e_213_206, e_213_214, if_neg hw, c7, c8, ← nI_add, ← t.1]
    rw [e_213_0, decide_eq_true (show nI 4 ≠ 0 by decide), cond_true, e_213_48, decide_eq_false (show ¬ nI 4 = 1 by decide), cond_false, e_213_53, decide_eq_true (show nI 4 ≠ 2 by decide), cond_true, e_213_67, decide_eq_true (show nI 4 ≠ 3 by decide), cond_true, e_213_76, e_213_77, d11, cond_true, e_213_88, e_213_89, d11, cond_true, e_213_100, e_213_101, mkA2, cal_v, ka, e_213_111, mkB2, cal_v, ka, e_213_121]
    by_cases m : G 17 j = G 12 i
    · rw [decide_eq_true m, cond_true, e_213_147]
      exact fin 1 (Or.inl ⟨rfl, Or.inl m⟩)
    · rw [decide_eq_false m, cond_false, e_213_124, mkA2, cal_v, ka, e_213_132, nI_1, mkC2, cal_v, ka, e_213_144]
      by_cases m2 : G 17 j = G 12 (i + 1)
      · rw [decide_eq_false (fun w => w m2), cond_false, e_213_147]
        exact fin 1 (Or.inl ⟨rfl, Or.inr m2⟩)
      · rw [decide_eq_true m2, cond_true, e_213_151]
        exact fin 0 (Or.inr ⟨rfl, fun w => by rcases w with w | w; exact m w; exact m2 w⟩)
theorem x_pa {i j : Nat} : ex (214, 0, [.int (nI i), .int (nI j)], [], mm I J D) = some (.inl (some (.int (nI (18 * i + j)))), mm I J D) := by
  rw [e_214_0, show (18 : Int32) * nI i = nI (18 * i) from (Int32.ofNat_mul 18 i).symm, nI_add]
theorem m_by (g : LayG G n0 n1) (tx : TX n0 n1 (G 13) (G 18)) (c : LayM G n0 n1 I) {T : Nat → Nat → Option Nat × Int64} (hb : ∀ x y, Bnd 4000 (T x y).1) {k i j : Nat} (hk : k < 5) (hi : i ≤ n0) (hj : j ≤ n1) (hT : i + tk0 k ≤ n0 → j + tk1 k ≤ n1 → I 328 (18 * (i + tk0 k) + (j + tk1 k)) = encO 100000000 (T (i + tk0 k) (j + tk1 k)).1) :
    ex (215, 0, [.ref 316, .int (nI k), .int (nI i), .int (nI j), dv], [], mm I J D) = some (.inl (some (.int (encO 100000000 (whN (T (i + tk0 k) (j + tk1 k)).1 (okB G n0 n1 (-1) (-1) k i j) (spN G k i j))))), mm I J D) := by
  have hn := g.1
  rw [e_215_0, m_stp g tx c hk hi hj, cal_v, ka, e_215_7]
  cases ho : okB G n0 n1 (-1) (-1) k i j with
  | false => rw [decide_eq_false (show ¬ bI false ≠ 0 by decide), cond_false, e_215_10]; rfl
  | true =>
    obtain ⟨⟨q0, q1⟩, -⟩ := ok_r ho
    have ht := hT q0 q1
    rw [decide_eq_true (show bI true ≠ 0 by decide), cond_true, e_215_13, m_tk0 hk, cal_v, ka, e_215_23, m_tk1 hk, cal_v, ka, e_215_30, nI_add, nI_add, x_pa, cal_v, ka, e_215_34, inb_n (show 18 * (i + tk0 k) + (j + tk1 k) < 324 by omega) (by decide), cond_true, nI_clamp (by omega), ht]
    have hB := hb (i + tk0 k) (j + tk1 k)
    cases hr : (T (i + tk0 k) (j + tk1 k)).1 with
    | none => rw [decide_eq_false (show ¬ encO 100000000 none ≠ 100000000 from fun w => w rfl), cond_false, e_215_44, e_215_59]; rfl
    | some r =>
      have hr4 := hB r hr
      rw [decide_eq_true (show encO 100000000 (some r) ≠ 100000000 from F8 (by omega)), cond_true, e_215_49, m_pr g c hk q0 q1, cal_v, ka, e_215_56, e_215_59]
      show some (Sum.inl (some (Value.int (nI (spN G k i j) + nI r))), mm I J D) = some (Sum.inl (some (Value.int (nI (spN G k i j + r)))), mm I J D)
      rw [nI_add]
/-- a step TOGETHER left out -/
theorem ok_bar {b0 b1 : Int32} {k i j : Nat} (hk : k < 5) (h16 : n0 ≤ 16 ∧ n1 ≤ 16) (hi : i ≤ n0) : okB G n0 n1 b0 b1 k i j = (okB G n0 n1 (-1) (-1) k i j && !decide (k = 0 ∧ nI i = b0 ∧ nI j = b1)) := by
  unfold okB
  rw [Bool.and_assoc]
  congr 1
  rcases (show k = 0 ∨ k = 1 ∨ k = 2 ∨ k = 3 ∨ k = 4 by omega) with rfl | rfl | rfl | rfl | rfl
  · have nb : ¬ (nI i = -1 ∧ nI j = -1) := fun w => absurd (congrArg Int32.toInt w.1) (by rw [nI_toInt (by omega), show (-1 : Int32).toInt = -1 from rfl]; omega)
    unfold okS
    by_cases q : nI i = b0 ∧ nI j = b1
    · rw [decide_eq_true (show (0 : Nat) = 0 ∧ nI i = b0 ∧ nI j = b1 from ⟨rfl, q⟩), decide_eq_false (fun w => w.2.2 q)]; simp
    · rw [decide_eq_false (show ¬ ((0 : Nat) = 0 ∧ nI i = b0 ∧ nI j = b1) from fun w => q w.2)]
      simp only [Bool.not_false, Bool.and_true]
      exact decide_eq_decide.mpr ⟨fun w => ⟨w.1, w.2.1, nb⟩, fun w => ⟨w.1, w.2.1, q⟩⟩
  all_goals (rw [decide_eq_false (show ¬ (_ = 0 ∧ nI i = b0 ∧ nI j = b1) from fun w => absurd w.1 (by decide))]; simp; rfl)
end MY

