/-! laying both rows beside each other: the book -/
theorem uJs {J : Nat → Nat → Int64} {p k : Nat} {x : Int64} : upsL J p k x p k = x := upsL_s
theorem uJn {J : Nat → Nat → Int64} {p k q j : Nat} {x : Int64} (h : q ≠ p ∨ j ≠ k) : upsL J p k x q j = J q j := by
  unfold upsL
  by_cases hq : q = p
  · subst hq
    rw [Nat.beq_refl]
    show vp_updL (J q) k x j = J q j
    unfold vp_updL
    rw [if_neg (by rcases h with h | h; exact absurd rfl h; exact h)]
  · rw [show Nat.beq q p = false from by rw [← Bool.not_eq_true, Nat.beq_eq]; exact hq]; rfl
theorem uuJ {J : Nat → Nat → Int64} {p k : Nat} {a b : Int64} : upsL (upsL J p k a) p k b = upsL J p k b := by
  funext q j
  by_cases h : q = p ∧ j = k
  · obtain ⟨rfl, rfl⟩ := h
    rw [uJs, uJs]
  · have h' : q ≠ p ∨ j ≠ k := by omega
    rw [uJn h', uJn h', uJn h']
theorem uIn {I : Nat → Nat → Int32} {p k q j : Nat} {x : Int32} (h : q ≠ p ∨ j ≠ k) : ups I p k x q j = I q j := by
  by_cases hq : q = p
  · subst hq
    rw [uIs, uU (by rcases h with h | h; exact absurd rfl h; exact h)]
  · rw [uI hq]
theorem abs_n {a b : Nat} (ha : a < 1000) (hb : b < 1000) : (if 0 ≤ nI a - nI b then nI a - nI b else 0 - (nI a - nI b)) = nI (dsN a b) := by
  unfold dsN
  by_cases h : b ≤ a
  · rw [nI_sub h, if_pos (nI_pos' (by omega)), show a - b + (b - a) = a - b by omega]
  · have e : nI a - nI b = 0 - nI (b - a) := by
      have : nI a = nI b - nI (b - a) := by rw [nI_sub (by omega), show b - (b - a) = a by omega]
      rw [this, Int32.sub_eq_add_neg, Int32.sub_eq_add_neg, Int32.add_comm (nI b), Int32.add_assoc, ← Int32.sub_eq_add_neg (nI b), Int32.sub_self, Int32.add_zero, Int32.zero_sub]
    have hn : ¬ (0 : Int32) ≤ nI a - nI b := by
      intro w
      have w := Int32.le_iff_toInt_le.mp w
      rw [Int32.toInt_sub, nI_toInt (by omega), nI_toInt (by omega)] at w
      have z : (0 : Int32).toInt = 0 := rfl
      rw [z, Int.bmod_def] at w
      omega
    rw [if_neg hn, e, Int32.zero_sub, Int32.zero_sub, Int32.neg_neg, show a - b + (b - a) = b - a by omega]
theorem sta0 : ∀ k, k < 5 → sta 1000011 k = nI (tk0 k) := by decide
theorem sta1 : ∀ k, k < 5 → sta 1000012 k = nI (tk1 k) := by decide
/-- the book's numbers, as they stood when the laying began -/
def LayC (G : Nat → Nat → Int32) (n0 n1 : Nat) (b0 b1 : Int32) (I : Nat → Nat → Int32) : Prop := (I 10 4 = nI n0 ∧ I 15 4 = nI n1) ∧ (I 1 = G 1 ∧ I 11 = G 11 ∧ I 12 = G 12 ∧ I 13 = G 13 ∧ I 16 = G 16 ∧ I 17 = G 17 ∧ I 18 = G 18) ∧ I 273 7 = b0 ∧ I 273 8 = b1
theorem LayC.go {G : Nat → Nat → Int32} {n0 n1 : Nat} {b0 b1 : Int32} {I I' : Nat → Nat → Int32} (h : LayC G n0 n1 b0 b1 I) (k : ∀ p, p < 275 → I' p = I p) : LayC G n0 n1 b0 b1 I' := by
  unfold LayC
  rw [k 10 (by decide), k 15 (by decide), k 1 (by decide), k 11 (by decide), k 12 (by decide), k 13 (by decide), k 16 (by decide), k 17 (by decide), k 18 (by decide), k 273 (by decide)]
  exact h
section CY
variable {I : Nat → Nat → Int32} {J : Nat → Nat → Int64} {D : Nat → Nat → UInt64} {G : Nat → Nat → Int32} {n0 n1 : Nat} {b0 b1 : Int32}
theorem F9 {v : Nat} (h : v ≤ 4200) : nI v ≠ 1000000000 := fun e => by
  have := (nI_eq (a := v) (b := 1000000000) (by omega) (by decide)).mp e
  omega
theorem F8 {v : Nat} (h : v ≤ 4200) : nI v ≠ 100000000 := fun e => by
  have := (nI_eq (a := v) (b := 100000000) (by omega) (by decide)).mp e
  omega
theorem mrk_if {c : Prop} [Decidable c] {s u : Nat} {x : Int32} (hx : x = nI u) : (if c then nI s else nI s + x) = nI (s + (if c then 0 else u)) := by
  by_cases h : c
  · rw [if_pos h, if_pos h]; rfl
  · rw [if_neg h, if_neg h, hx, nI_add]
/-- a step TOGETHER -/
theorem c_sp0 (g : LayG G n0 n1) (c : LayC G n0 n1 b0 b1 I) {i j : Nat} (hi : i < n0) (hj : j < n1) : ex (39, 0, [.ref 273, .int (nI i), .int (nI j), dv, dv, dv, dv], [], mm I J D) = some (.inl (some (.int (if okS G b0 b1 0 i j = true then nI (spN G 0 i j) else 1000000000))), mm I J D) := by
  obtain ⟨⟨h0, h1⟩, g0, g1, p1, p2, p3⟩ := g
  obtain ⟨⟨c1, c2⟩, ⟨e1, e11, e12, e13, e16, e17, e18⟩, e7, e8⟩ := c
  obtain ⟨s, hs, s1⟩ : ∃ s : Int32, ex (39, 0, [.ref 273, .int (nI i), .int (nI j), dv, dv, dv, dv], [], mm I J D) = ex (39, 31, [.ref 273, .int (nI i), .int (nI j), dv, dv, dv, dv], [.int s], mm I J D) ∧ ((s = 0 ∧ (G 13 i = -1 ∨ G 13 i = nI j)) ∨ (s = 1 ∧ ¬ (G 13 i = -1 ∨ G 13 i = nI j))) := by
    by_cases q1 : G 13 i = -1
    · exact ⟨0, by rw [e_39_0, inb_n (show i < 16 by omega) (by decide), cond_true, nI_clamp (by omega), e13, decide_eq_true q1, cond_true, e_39_30], Or.inl ⟨rfl, Or.inl q1⟩⟩
    · by_cases q2 : G 13 i = nI j
      · exact ⟨0, by rw [e_39_0, inb_n (show i < 16 by omega) (by decide), cond_true, nI_clamp (by omega), e13, decide_eq_false q1, cond_false, e_39_13, inb_n (show i < 16 by omega) (by decide), cond_true, nI_clamp (by omega), e13, decide_eq_true q2, cond_true, e_39_30], Or.inl ⟨rfl, Or.inr q2⟩⟩
      · exact ⟨1, by rw [e_39_0, inb_n (show i < 16 by omega) (by decide), cond_true, nI_clamp (by omega), e13, decide_eq_false q1, cond_false, e_39_13, inb_n (show i < 16 by omega) (by decide), cond_true, nI_clamp (by omega), e13, decide_eq_false q2, cond_false, e_39_26], Or.inr ⟨rfl, fun w => by rcases w with w | w; exact q1 w; exact q2 w⟩⟩
  obtain ⟨t, ht, t1⟩ : ∃ t : Int32, ex (39, 31, [.ref 273, .int (nI i), .int (nI j), dv, dv, dv, dv], [.int s], mm I J D) = ex (39, 63, [.ref 273, .int (nI i), .int (nI j), .int s, dv, dv, dv], [.int t], mm I J D) ∧ ((t = 0 ∧ (G 18 j = -1 ∨ G 18 j = nI i)) ∨ (t = 1 ∧ ¬ (G 18 j = -1 ∨ G 18 j = nI i))) := by
    by_cases q1 : G 18 j = -1
    · exact ⟨0, by rw [e_39_31, inb_n (show j < 16 by omega) (by decide), cond_true, nI_clamp (by omega), e18, decide_eq_true q1, cond_true, e_39_62], Or.inl ⟨rfl, Or.inl q1⟩⟩
    · by_cases q2 : G 18 j = nI i
      · exact ⟨0, by rw [e_39_31, inb_n (show j < 16 by omega) (by decide), cond_true, nI_clamp (by omega), e18, decide_eq_false q1, cond_false, e_39_45, inb_n (show j < 16 by omega) (by decide), cond_true, nI_clamp (by omega), e18, decide_eq_true q2, cond_true, e_39_62], Or.inl ⟨rfl, Or.inr q2⟩⟩
      · exact ⟨1, by rw [e_39_31, inb_n (show j < 16 by omega) (by decide), cond_true, nI_clamp (by omega), e18, decide_eq_false q1, cond_false, e_39_45, inb_n (show j < 16 by omega) (by decide), cond_true, nI_clamp (by omega), e18, decide_eq_false q2, cond_false, e_39_58], Or.inr ⟨rfl, fun w => by rcases w with w | w; exact q1 w; exact q2 w⟩⟩
  obtain ⟨u, hu, u1⟩ : ∃ u : Int32, ex (39, 63, [.ref 273, .int (nI i), .int (nI j), .int s, dv, dv, dv], [.int t], mm I J D) = ex (39, 86, [.ref 273, .int (nI i), .int (nI j), .int s, .int t, dv, dv], [.int u], mm I J D) ∧ ((u = 1 ∧ (nI i = b0 ∧ nI j = b1)) ∨ (u = 0 ∧ ¬ (nI i = b0 ∧ nI j = b1))) := by
    by_cases q1 : nI i = b0
    · by_cases q2 : nI j = b1
      · exact ⟨1, by rw [e_39_63, e7, decide_eq_false (fun w => w q1), cond_false, e_39_73, e8, decide_eq_false (fun w => w q2), cond_false, e_39_81], Or.inl ⟨rfl, q1, q2⟩⟩
      · exact ⟨0, by rw [e_39_63, e7, decide_eq_false (fun w => w q1), cond_false, e_39_73, e8, decide_eq_true q2, cond_true, e_39_85], Or.inr ⟨rfl, fun w => q2 w.2⟩⟩
    · exact ⟨0, by rw [e_39_63, e7, decide_eq_true q1, cond_true, e_39_85], Or.inr ⟨rfl, fun w => q1 w.1⟩⟩
  rw [hs, ht, hu]
  rcases s1 with ⟨rfl, s1⟩ | ⟨rfl, s1⟩
  · rcases t1 with ⟨rfl, t1⟩ | ⟨rfl, t1⟩
    · rcases u1 with ⟨rfl, u1⟩ | ⟨rfl, u1⟩
      · rw [if_neg (fun w => by unfold okS at w; exact (decide_eq_true_eq.mp w).2.2 u1), e_39_86, d01, cond_false, e_39_92, d01, cond_false, e_39_97, d10, cond_false, e_39_102]
      · have ok : okS G b0 b1 0 i j = true := by unfold okS; exact decide_eq_true ⟨s1, t1, u1⟩
        have a := rN9 (g0 i hi) (by decide)
        have b := rN9 (g1 j hj) (by decide)
        have e := mrk_if (c := G 12 i = G 17 j) (s := dsN (rN (G 11 i)) (rN (G 16 j))) (rN9 p3 (by decide)).1
        rw [if_pos ok, e_39_86, d01, cond_false, e_39_92, d01, cond_false, e_39_97, d00, cond_true, e_39_105, inb_n (show i < 16 by omega) (by decide), cond_true, inb_n (show j < 16 by omega) (by decide), cond_true, cond_true, cond_true, nI_clamp (by omega), nI_clamp (by omega), e11, e12, e16, e17]
        rw [show (if 0 ≤ G 11 i - G 16 j then G 11 i - G 16 j else 0 - (G 11 i - G 16 j)) = nI (dsN (rN (G 11 i)) (rN (G 16 j))) from by
          have := abs_n (a := rN (G 11 i)) (b := rN (G 16 j)) (by omega) (by omega)
          rw [← a.1, ← b.1] at this
          exact this]
        show _ = some (Sum.inl (some (Value.int (nI (dsN (rN (G 11 i)) (rN (G 16 j)) + (if G 12 i = G 17 j then 0 else rN (G 1 8)))))), mm I J D)
        rw [← e]
        by_cases m : G 12 i = G 17 j
        · rw [decide_eq_false (fun w => w m), cond_false, e_39_150, e_39_165, if_pos m]
        · rw [decide_eq_true m, cond_true, e_39_155, e_39_165, if_neg m, e1]
    · rw [if_neg (fun w => by unfold okS at w; exact t1 (decide_eq_true_eq.mp w).2.1), e_39_86, d01, cond_false, e_39_92, d11, cond_true, e_39_102]
  · rw [if_neg (fun w => by unfold okS at w; exact s1 (decide_eq_true_eq.mp w).1), e_39_86, d11, cond_true, e_39_102]

theorem c_sp3 (g : LayG G n0 n1) (c : LayC G n0 n1 b0 b1 I) {i j : Nat} (hi : i < n0) (hj : j + 1 < n1) : ex (40, 0, [.ref 273, .ref 10, .int (nI i), .ref 15, .int (nI j), dv, dv, dv, dv], [], mm I J D) = some (.inl (some (.int (if okS G b0 b1 3 i j = true then nI (spN G 3 i j) else 1000000000))), mm I J D) := by
  obtain ⟨⟨h0, h1⟩, g0, g1, p1, p2, p3⟩ := g
  obtain ⟨⟨c1, c2⟩, ⟨e1, e11, e12, e13, e16, e17, e18⟩, e7, e8⟩ := c
  have ia : i < 16 := by omega
  have ib : j < 16 := by omega
  have ib1 : j + 1 < 16 := by omega
  by_cases q1 : G 13 i = -1
  · by_cases q2 : G 18 j = -1
    · by_cases q3 : G 18 (j + 1) = -1
      · have ok : okS G b0 b1 3 i j = true := by unfold okS; exact decide_eq_true ⟨q1, q2, q3⟩
        have xa := rN9 (g0 i (by omega)) (by decide)
        have xb := rN9 (g1 j (by omega)) (by decide)
        have xc := rN9 (g1 (j + 1) (by omega)) (by decide)
        have t := rN9 p2 (by decide)
        have e := mrk_if (c := G 12 i = G 17 j ∨ G 12 i = G 17 (j + 1)) (s := rN (G 1 7) + dsN (rN (G 11 i)) (rN (G 16 j) + rN (G 16 (j + 1)))) (rN9 p3 (by decide)).1
        rw [if_pos ok, e_40_0_273x10x15, inb_n ia (by decide), cond_true, nI_clamp (by omega), e13, decide_eq_false (fun w => w q1), cond_false, nI_1, e_40_16_273x10x15, inb_n ib (by decide), cond_true, nI_clamp (by omega), e18, decide_eq_false (fun w => w q2), cond_false, e_40_27_273x10x15, inb_n ib1 (by decide), cond_true, nI_clamp (by omega), e18, decide_eq_true q3, cond_true, e_40_41_273x10x15, inb_n ib (by decide), inb_n ib1 (by decide), inb_n ia (by decide), cond_true, cond_true, cond_true, cond_true, cond_true, nI_clamp (by omega), nI_clamp (by omega), nI_clamp (by omega), e1, e11, e12, e16, e17]
        rw [show G 1 7 + (if 0 ≤ G 11 i - (G 16 j + G 16 (j + 1)) then G 11 i - (G 16 j + G 16 (j + 1)) else 0 - (G 11 i - (G 16 j + G 16 (j + 1)))) = nI (rN (G 1 7) + dsN (rN (G 11 i)) (rN (G 16 j) + rN (G 16 (j + 1)))) from by
          have := abs_n (a := rN (G 11 i)) (b := rN (G 16 j) + rN (G 16 (j + 1))) (by omega) (by omega)
          rw [← nI_add, ← xa.1, ← xb.1, ← xc.1] at this
          rw [this, ← nI_add, ← t.1]]
        show _ = some (Sum.inl (some (Value.int (nI (rN (G 1 7) + dsN (rN (G 11 i)) (rN (G 16 j) + rN (G 16 (j + 1))) + (if G 12 i = G 17 j ∨ G 12 i = G 17 (j + 1) then 0 else rN (G 1 8)))))), mm I J D)
        rw [← e]
        by_cases m : G 12 i = G 17 j
        · rw [decide_eq_true m, cond_true, e_40_112, e_40_127, if_pos (Or.inl m)]
        · by_cases m2 : G 12 i = G 17 (j + 1)
          · rw [decide_eq_false m, cond_false, e_40_100_273x15, inb_n ib1 (by decide), cond_true, nI_clamp (by omega), e17, decide_eq_false (fun w => w m2), cond_false, e_40_112, e_40_127, if_pos (Or.inr m2)]
          · rw [decide_eq_false m, cond_false, e_40_100_273x15, inb_n ib1 (by decide), cond_true, nI_clamp (by omega), e17, decide_eq_true m2, cond_true, e_40_117, e_40_127, if_neg (fun w => by rcases w with w | w; exact m w; exact m2 w), e1]
      · rw [if_neg (fun w => by unfold okS at w; exact q3 (decide_eq_true_eq.mp w).2.2), e_40_0_273x10x15, inb_n ia (by decide), cond_true, nI_clamp (by omega), e13, decide_eq_false (fun w => w q1), cond_false, nI_1, e_40_16_273x10x15, inb_n ib (by decide), cond_true, nI_clamp (by omega), e18, decide_eq_false (fun w => w q2), cond_false, e_40_27_273x10x15, inb_n ib1 (by decide), cond_true, nI_clamp (by omega), e18, decide_eq_false q3, cond_false, e_40_38]
    · rw [if_neg (fun w => by unfold okS at w; exact q2 (decide_eq_true_eq.mp w).2.1), e_40_0_273x10x15, inb_n ia (by decide), cond_true, nI_clamp (by omega), e13, decide_eq_false (fun w => w q1), cond_false, nI_1, e_40_16_273x10x15, inb_n ib (by decide), cond_true, nI_clamp (by omega), e18, decide_eq_true q2, cond_true, e_40_38]
  · rw [if_neg (fun w => by unfold okS at w; exact q1 (decide_eq_true_eq.mp w).1), e_40_0_273x10x15, inb_n ia (by decide), cond_true, nI_clamp (by omega), e13, decide_eq_true q1, cond_true, e_40_38]

theorem c_sp4 (g : LayG G n0 n1) (c : LayC G n0 n1 b0 b1 I) {i j : Nat} (hi : j < n1) (hj : i + 1 < n0) : ex (40, 0, [.ref 273, .ref 15, .int (nI j), .ref 10, .int (nI i), dv, dv, dv, dv], [], mm I J D) = some (.inl (some (.int (if okS G b0 b1 4 i j = true then nI (spN G 4 i j) else 1000000000))), mm I J D) := by
  obtain ⟨⟨h0, h1⟩, g0, g1, p1, p2, p3⟩ := g
  obtain ⟨⟨c1, c2⟩, ⟨e1, e11, e12, e13, e16, e17, e18⟩, e7, e8⟩ := c
  have ia : j < 16 := by omega
  have ib : i < 16 := by omega
  have ib1 : i + 1 < 16 := by omega
  by_cases q1 : G 18 j = -1
  · by_cases q2 : G 13 i = -1
    · by_cases q3 : G 13 (i + 1) = -1
      · have ok : okS G b0 b1 4 i j = true := by unfold okS; exact decide_eq_true ⟨q1, q2, q3⟩
        have xa := rN9 (g1 j (by omega)) (by decide)
        have xb := rN9 (g0 i (by omega)) (by decide)
        have xc := rN9 (g0 (i + 1) (by omega)) (by decide)
        have t := rN9 p2 (by decide)
        have e := mrk_if (c := G 17 j = G 12 i ∨ G 17 j = G 12 (i + 1)) (s := rN (G 1 7) + dsN (rN (G 16 j)) (rN (G 11 i) + rN (G 11 (i + 1)))) (rN9 p3 (by decide)).1
        rw [if_pos ok, e_40_0_273x15x10, inb_n ia (by decide), cond_true, nI_clamp (by omega), e18, decide_eq_false (fun w => w q1), cond_false, nI_1, e_40_16_273x15x10, inb_n ib (by decide), cond_true, nI_clamp (by omega), e13, decide_eq_false (fun w => w q2), cond_false, e_40_27_273x15x10, inb_n ib1 (by decide), cond_true, nI_clamp (by omega), e13, decide_eq_true q3, cond_true, e_40_41_273x15x10, inb_n ib (by decide), inb_n ib1 (by decide), inb_n ia (by decide), cond_true, cond_true, cond_true, cond_true, cond_true, nI_clamp (by omega), nI_clamp (by omega), nI_clamp (by omega), e1, e11, e12, e16, e17]
        rw [show G 1 7 + (if 0 ≤ G 16 j - (G 11 i + G 11 (i + 1)) then G 16 j - (G 11 i + G 11 (i + 1)) else 0 - (G 16 j - (G 11 i + G 11 (i + 1)))) = nI (rN (G 1 7) + dsN (rN (G 16 j)) (rN (G 11 i) + rN (G 11 (i + 1)))) from by
          have := abs_n (a := rN (G 16 j)) (b := rN (G 11 i) + rN (G 11 (i + 1))) (by omega) (by omega)
          rw [← nI_add, ← xa.1, ← xb.1, ← xc.1] at this
          rw [this, ← nI_add, ← t.1]]
        show _ = some (Sum.inl (some (Value.int (nI (rN (G 1 7) + dsN (rN (G 16 j)) (rN (G 11 i) + rN (G 11 (i + 1))) + (if G 17 j = G 12 i ∨ G 17 j = G 12 (i + 1) then 0 else rN (G 1 8)))))), mm I J D)
        rw [← e]
        by_cases m : G 17 j = G 12 i
        · rw [decide_eq_true m, cond_true, e_40_112, e_40_127, if_pos (Or.inl m)]
        · by_cases m2 : G 17 j = G 12 (i + 1)
          · rw [decide_eq_false m, cond_false, e_40_100_273x10, inb_n ib1 (by decide), cond_true, nI_clamp (by omega), e12, decide_eq_false (fun w => w m2), cond_false, e_40_112, e_40_127, if_pos (Or.inr m2)]
          · rw [decide_eq_false m, cond_false, e_40_100_273x10, inb_n ib1 (by decide), cond_true, nI_clamp (by omega), e12, decide_eq_true m2, cond_true, e_40_117, e_40_127, if_neg (fun w => by rcases w with w | w; exact m w; exact m2 w), e1]
      · rw [if_neg (fun w => by unfold okS at w; exact q3 (decide_eq_true_eq.mp w).2.2), e_40_0_273x15x10, inb_n ia (by decide), cond_true, nI_clamp (by omega), e18, decide_eq_false (fun w => w q1), cond_false, nI_1, e_40_16_273x15x10, inb_n ib (by decide), cond_true, nI_clamp (by omega), e13, decide_eq_false (fun w => w q2), cond_false, e_40_27_273x15x10, inb_n ib1 (by decide), cond_true, nI_clamp (by omega), e13, decide_eq_false q3, cond_false, e_40_38]
    · rw [if_neg (fun w => by unfold okS at w; exact q2 (decide_eq_true_eq.mp w).2.1), e_40_0_273x15x10, inb_n ia (by decide), cond_true, nI_clamp (by omega), e18, decide_eq_false (fun w => w q1), cond_false, nI_1, e_40_16_273x15x10, inb_n ib (by decide), cond_true, nI_clamp (by omega), e13, decide_eq_true q2, cond_true, e_40_38]
  · rw [if_neg (fun w => by unfold okS at w; exact q1 (decide_eq_true_eq.mp w).1), e_40_0_273x15x10, inb_n ia (by decide), cond_true, nI_clamp (by omega), e18, decide_eq_true q1, cond_true, e_40_38]

theorem c_sp (g : LayG G n0 n1) (c : LayC G n0 n1 b0 b1 I) {k i j : Nat} (hk : k < 5) (hi : i + tk0 k ≤ n0) (hj : j + tk1 k ≤ n1) : ex (38, 0, [.ref 273, .int (nI k), .int (nI i), .int (nI j)], [], mm I J D) = some (.inl (some (.int (if okS G b0 b1 k i j = true then nI (spN G k i j) else 1000000000))), mm I J D) := by
  have g' := g
  have c' := c
  obtain ⟨⟨h0, h1⟩, g0, g1, p1, p2, p3⟩ := g'
  obtain ⟨⟨c1, c2⟩, ⟨e1, e11, e12, e13, e16, e17, e18⟩, e7, e8⟩ := c'
  rcases (show k = 0 ∨ k = 1 ∨ k = 2 ∨ k = 3 ∨ k = 4 by omega) with rfl | rfl | rfl | rfl | rfl
  · have hi : i + 1 ≤ n0 := hi
    have hj : j + 1 ≤ n1 := hj
    rw [e_38_0, show (Value.int (nI 0)) = Value.int 0 from rfl, sw_38_1_0, e_38_32, c_sp0 g c (by omega) (by omega), cal_v, ka, e_38_38]
  · have hi : i + 1 ≤ n0 := hi
    rw [e_38_0, show (Value.int (nI 1)) = Value.int 1 from rfl, sw_38_1_1, e_38_39, inb_n (show i < 16 by omega) (by decide), cond_true, nI_clamp (by omega), e13]
    by_cases q : G 13 i = -1
    · rw [decide_eq_false (fun w => w q), cond_false, e_38_52, e_38_64, if_pos (by unfold okS; exact decide_eq_true q), e1, (rN9 p1 (by decide)).1]
      show _ = some (Sum.inl (some (Value.int (nI (rN (G 1 6))))), mm I J D)
      rw [← (rN9 p1 (by decide)).1]
    · rw [decide_eq_true q, cond_true, e_38_62, e_38_64, if_neg (fun w => by unfold okS at w; exact q (decide_eq_true_eq.mp w))]
  · have hj : j + 1 ≤ n1 := hj
    rw [e_38_0, show (Value.int (nI 2)) = Value.int 2 from rfl, sw_38_1_2, e_38_65, inb_n (show j < 16 by omega) (by decide), cond_true, nI_clamp (by omega), e18]
    by_cases q : G 18 j = -1
    · rw [decide_eq_false (fun w => w q), cond_false, e_38_78, e_38_90, if_pos (by unfold okS; exact decide_eq_true q), e1, (rN9 p1 (by decide)).1]
      show _ = some (Sum.inl (some (Value.int (nI (rN (G 1 6))))), mm I J D)
      rw [← (rN9 p1 (by decide)).1]
    · rw [decide_eq_true q, cond_true, e_38_88, e_38_90, if_neg (fun w => by unfold okS at w; exact q (decide_eq_true_eq.mp w))]
  · have hi : i + 1 ≤ n0 := hi
    have hj : j + 2 ≤ n1 := hj
    rw [e_38_0, show (Value.int (nI 3)) = Value.int 3 from rfl, sw_38_1_3, e_38_91, c_sp3 g c (by omega) (by omega), cal_v, ka, e_38_105]
  · have hi : i + 2 ≤ n0 := hi
    have hj : j + 1 ≤ n1 := hj
    rw [e_38_0, show (Value.int (nI 4)) = Value.int 4 from rfl, sw_38_1_d (s0 := 4) (hs := Or.inr (by decide)), e_38_106, c_sp4 g c (by omega) (by omega), cal_v, ka, e_38_120]
theorem c_wh (g : LayG G n0 n1) (c : LayC G n0 n1 b0 b1 I) {T : Nat → Nat → Option Nat × Int64} (hb : ∀ x y, Bnd 4000 (T x y).1) {k i j : Nat} (hk : k < 5) (hi : i ≤ n0) (hj : j ≤ n1) (hT : i + tk0 k ≤ n0 → j + tk1 k ≤ n1 → I (275 + (i + tk0 k)) (j + tk1 k) = encO 1000000000 (T (i + tk0 k) (j + tk1 k)).1) :
    ex (37, 0, [.ref 273, .int (nI k), .int (nI i), .int (nI j), dv, dv, dv], [], mm I J D) = some (.inl (some (.int (encO 1000000000 (whN (T (i + tk0 k) (j + tk1 k)).1 (okB G n0 n1 b0 b1 k i j) (spN G k i j))))), mm I J D) := by
  have t0 : tk0 k ≤ 2 := by unfold tk0; split <;> omega
  have t1 : tk1 k ≤ 2 := by unfold tk1; split <;> omega
  have hn := g.1
  rw [e_37_0, inb_n (show k < 5 from hk) (by decide), cond_true, cond_true, nI_clamp (by omega), sta0 k hk, sta1 k hk, nI_add, nI_add, c.1.1]
  by_cases q0 : i + tk0 k ≤ n0
  · rw [decide_eq_false (show ¬ nI n0 < nI (i + tk0 k) from nI_nlt (by omega) (by omega)), cond_false, e_37_30, c.1.2]
    by_cases q1 : j + tk1 k ≤ n1
    · have ht := hT q0 q1
      rw [decide_eq_false (show ¬ nI n1 < nI (j + tk1 k) from nI_nlt (by omega) (by omega)), cond_false, e_37_42, inb_n (show i + tk0 k < 17 by omega) (by decide), cond_true, inb_n (show j + tk1 k < 17 by omega) (by decide), cond_true, nI_clamp (by omega), nI_clamp (by omega), ht]
      have hB := hb (i + tk0 k) (j + tk1 k)
      cases hr : (T (i + tk0 k) (j + tk1 k)).1 with
      | none =>
        have : whN none (okB G n0 n1 b0 b1 k i j) (spN G k i j) = none := by unfold whN; cases okB G n0 n1 b0 b1 k i j <;> rfl
        rw [this, decide_eq_false (show ¬ encO 1000000000 none ≠ 1000000000 from fun w => w rfl), cond_false, e_37_57]; rfl
      | some r =>
        have hr4 := hB r hr
        have hsp := sp_le g q0 q1 hk
        rw [decide_eq_true (show encO 1000000000 (some r) ≠ 1000000000 from F9 (by omega)), cond_true, e_37_60, c_sp g c hk q0 q1, cal_v, ka, e_37_67]
        have hok : okB G n0 n1 b0 b1 k i j = okS G b0 b1 k i j := by unfold okB; rw [decide_eq_true ⟨q0, q1⟩, Bool.true_and]
        rw [hok]
        cases ho : okS G b0 b1 k i j with
        | false =>
          rw [if_neg (fun w => by cases w), decide_eq_false (fun w => w rfl), cond_false, e_37_76, e_37_94]; rfl
        | true =>
          rw [if_pos rfl, decide_eq_true (F9 (by omega)), cond_true, e_37_81, inb_n (show i + tk0 k < 17 by omega) (by decide), cond_true, inb_n (show j + tk1 k < 17 by omega) (by decide), cond_true, nI_clamp (by omega), nI_clamp (by omega), ht, hr, e_37_94]
          show some (Sum.inl (some (Value.int (nI (spN G k i j) + nI r))), mm I J D) = some (Sum.inl (some (Value.int (nI (spN G k i j + r)))), mm I J D)
          rw [nI_add]
    · have : okB G n0 n1 b0 b1 k i j = false := by unfold okB; rw [decide_eq_false (fun w => q1 w.2)]; rfl
      rw [this, decide_eq_true ((nI_ltI (by omega) (by omega)).mpr (by omega)), cond_true, e_37_57]; rfl
  · have : okB G n0 n1 b0 b1 k i j = false := by unfold okB; rw [decide_eq_false (fun w => q0 w.1)]; rfl
    rw [this, decide_eq_true ((nI_ltI (by omega) (by omega)).mpr (by omega)), cond_true, e_37_57]; rfl
/-- what is laid already: all behind (i, j) -/
def LaidC (T : Nat → Nat → Option Nat × Int64) (n0 n1 i j : Nat) (I : Nat → Nat → Int32) (J : Nat → Nat → Int64) : Prop := ∀ x y, x ≤ n0 → y ≤ n1 → (i < x ∨ (i = x ∧ j < y)) → I (275 + x) y = encO 1000000000 (T x y).1 ∧ J (293 + x) y = (T x y).2
theorem c_ck (g : LayG G n0 n1) (c : LayC G n0 n1 b0 b1 I) {i j : Nat} (hi : i ≤ n0) (hj : j ≤ n1) (hL : LaidC (PP G n0 n1 b0 b1) n0 n1 i j I J) : ∀ r k, k + r = 5 → ∀ s, s = cellK G n0 n1 b0 b1 (PP G n0 n1 b0 b1) i j k → ex (36, 66, [.ref 273, .int (nI i), .int (nI j), dv, .int (nI k), dv], [], mm (ups I (275 + i) j (encO 1000000000 s.1)) (upsL J (293 + i) j s.2) D) = some (.inl none, mm (ups I (275 + i) j (encO 1000000000 (cellK G n0 n1 b0 b1 (PP G n0 n1 b0 b1) i j 5).1)) (upsL J (293 + i) j (cellK G n0 n1 b0 b1 (PP G n0 n1 b0 b1) i j 5).2) D)
  | 0, k, h, s, hs => by
    have : k = 5 := by omega
    subst this
    rw [e_36_66, decide_eq_true (show (5 : Int32) ≤ nI 5 by decide), cond_true, e_36_176, hs]
  | r + 1, k, h, s, hs => by
    have hn := g.1
    have hsB : Bnd 4100 s.1 := by rw [hs]; exact cellP_bd g i j k (by omega)
    have hwB := whP_bd (b0 := b0) (b1 := b1) g i j k (by omega)
    have hp := tk_pos (k := k)
    have t0 : tk0 k ≤ 2 := by unfold tk0; split <;> omega
    have t1 : tk1 k ≤ 2 := by unfold tk1; split <;> omega
    have ih := c_ck g c hi hj hL r (k + 1) (by omega) (cellK G n0 n1 b0 b1 (PP G n0 n1 b0 b1) i j (k + 1)) rfl
    have cs : cellK G n0 n1 b0 b1 (PP G n0 n1 b0 b1) i j (k + 1) = stW (whN (PP G n0 n1 b0 b1 (i + tk0 k) (j + tk1 k)).1 (okB G n0 n1 b0 b1 k i j) (spN G k i j)) (PP G n0 n1 b0 b1 (i + tk0 k) (j + tk1 k)).2 s := by rw [hs]; rfl
    have c2 : LayC G n0 n1 b0 b1 (ups I (275 + i) j (encO 1000000000 s.1)) := c.go (fun p hp => by rw [uI (by omega)])
    have wh := c_wh (J := upsL J (293 + i) j s.2) (D := D) g c2 (T := PP G n0 n1 b0 b1) (fun x y => PP_bd g x y) (k := k) (by omega) hi hj (fun q0 q1 => by
      rw [uIn (by omega)]
      exact (hL _ _ q0 q1 (by omega)).1)
    have hok : ∀ v, whN (PP G n0 n1 b0 b1 (i + tk0 k) (j + tk1 k)).1 (okB G n0 n1 b0 b1 k i j) (spN G k i j) = some v → i + tk0 k ≤ n0 ∧ j + tk1 k ≤ n1 := fun v hv => by
      cases e : okB G n0 n1 b0 b1 k i j with
      | true => exact (ok_r e).1
      | false => rw [e] at hv; cases hv
    rw [e_36_66, decide_eq_false (show ¬ (5 : Int32) ≤ nI k from nI_ge (a := k) (b := 5) (by omega) (by decide)), cond_false, e_36_75, wh, cal_v, ka, e_36_83, inb_n (show i < 17 by omega) (by decide), cond_true, inb_n (show j < 17 by omega) (by decide), cond_true, nI_clamp (by omega), nI_clamp (by omega), uIs, uUs]
    generalize hW : whN (PP G n0 n1 b0 b1 (i + tk0 k) (j + tk1 k)).1 (okB G n0 n1 b0 b1 k i j) (spN G k i j) = W at *
    cases W with
    | none =>
      rw [show stW none _ s = s from rfl] at cs
      rw [cs] at ih
      have le : encO 1000000000 s.1 ≤ encO 1000000000 none := by
        cases e : s.1 with
        | none => exact Int32.le_refl _
        | some v => exact (nI_leI (a := v) (b := 1000000000) (by have := hsB v e; omega) (by decide)).mpr (by have := hsB v e; omega)
      rw [decide_eq_true le, cond_true, e_36_117, decide_eq_true (show encO 1000000000 none = 1000000000 from rfl), cond_true, e_36_170, nI_1]
      exact ih
    | some v =>
      have hv := hwB v rfl
      have rg := hok v rfl
      have hl := hL _ _ rg.1 rg.2 (by omega)
      have wy : ∀ z, upsL J (293 + i) j z (293 + (i + tk0 k)) (j + tk1 k) = (PP G n0 n1 b0 b1 (i + tk0 k) (j + tk1 k)).2 := fun z => by
        rw [uJn (by omega)]; exact hl.2
      have end_ : ∀ (p : Int32) (z : Int64), p = nI v → ex (36, 117, [.ref 273, .int (nI i), .int (nI j), dv, .int (nI k), .int (nI v)], [], mm (ups I (275 + i) j p) (upsL J (293 + i) j z) D) = ex (36, 66, [.ref 273, .int (nI i), .int (nI j), dv, .int (nI (k + 1)), dv], [], mm (ups I (275 + i) j p) (upsL J (293 + i) j (z + (PP G n0 n1 b0 b1 (i + tk0 k) (j + tk1 k)).2)) D) := fun p z hp => by
        rw [e_36_117, decide_eq_false (F9 (by omega)), cond_false, e_36_124, inb_n (show i < 17 by omega) (by decide), cond_true, inb_n (show j < 17 by omega) (by decide), cond_true, nI_clamp (by omega), nI_clamp (by omega), uIs, uUs, hp, decide_eq_false (fun w => w rfl), cond_false, e_36_137, inb_n (show i < 17 by omega) (by decide), inb_n (show j < 17 by omega) (by decide), inb_n (show k < 5 by omega) (by decide), nI_clamp (show k < 2 ^ 31 by omega), sta0 k (by omega), sta1 k (by omega), nI_add, nI_add, inb_n (show i + tk0 k < 17 by omega) (by decide), inb_n (show j + tk1 k < 17 by omega) (by decide), cond_true, cond_true, cond_true, cond_true, cond_true, cond_true, cond_true, nI_clamp (by omega), nI_clamp (by omega), nI_clamp (by omega), nI_clamp (by omega), uJs, wy, uuJ, e_36_170, nI_1]
      have new : ex (36, 98, [.ref 273, .int (nI i), .int (nI j), dv, .int (nI k), .int (nI v)], [], mm (ups I (275 + i) j (encO 1000000000 s.1)) (upsL J (293 + i) j s.2) D) = ex (36, 66, [.ref 273, .int (nI i), .int (nI j), dv, .int (nI (k + 1)), dv], [], mm (ups I (275 + i) j (nI v)) (upsL J (293 + i) j (0 + (PP G n0 n1 b0 b1 (i + tk0 k) (j + tk1 k)).2)) D) := by
        rw [e_36_98, inb_n (show i < 17 by omega) (by decide), inb_n (show j < 17 by omega) (by decide), cond_true, cond_true, cond_true, cond_true, nI_clamp (by omega), nI_clamp (by omega), uu, uuJ]
        exact end_ _ _ rfl
      cases e : s.1 with
      | none =>
        have cs' : cellK G n0 n1 b0 b1 (PP G n0 n1 b0 b1) i j (k + 1) = (some v, 0 + (PP G n0 n1 b0 b1 (i + tk0 k) (j + tk1 k)).2) := by rw [cs]; unfold stW; rw [e]
        rw [cs'] at ih
        rw [e] at new
        rw [decide_eq_false (show ¬ encO 1000000000 none ≤ encO 1000000000 (some v) from nI_ge (a := v) (b := 1000000000) (by omega) (by decide)), cond_false]
        exact new.trans ih
      | some b =>
        have hb := hsB b e
        have cs' : cellK G n0 n1 b0 b1 (PP G n0 n1 b0 b1) i j (k + 1) = if v < b then (some v, 0 + (PP G n0 n1 b0 b1 (i + tk0 k) (j + tk1 k)).2) else if v = b then (some b, s.2 + (PP G n0 n1 b0 b1 (i + tk0 k) (j + tk1 k)).2) else s := by rw [cs]; unfold stW; rw [e]
        rw [e] at new
        by_cases q : v < b
        · rw [if_pos q] at cs'
          rw [cs'] at ih
          rw [decide_eq_false (show ¬ encO 1000000000 (some b) ≤ encO 1000000000 (some v) from nI_ge q (by omega)), cond_false]
          exact new.trans ih
        · rw [if_neg q] at cs'
          rw [decide_eq_true (show encO 1000000000 (some b) ≤ encO 1000000000 (some v) from (nI_leI (by omega) (by omega)).mpr (by omega)), cond_true]
          by_cases q2 : v = b
          · rw [if_pos q2] at cs'
            rw [cs'] at ih
            subst q2
            exact (end_ _ _ rfl).trans ih
          · rw [if_neg q2] at cs'
            rw [cs', e] at ih
            rw [show encO 1000000000 (some v) = nI v from rfl, e_36_117, decide_eq_false (F9 (by omega)), cond_false, e_36_124, inb_n (show i < 17 by omega) (by decide), cond_true, inb_n (show j < 17 by omega) (by decide), cond_true, nI_clamp (by omega), nI_clamp (by omega), uIs, uUs, decide_eq_true (show nI v ≠ encO 1000000000 (some b) from fun w => q2 ((nI_eq (by omega) (by omega)).mp w)), cond_true, e_36_170, nI_1]
            exact ih
theorem c_cell (g : LayG G n0 n1) (c : LayC G n0 n1 b0 b1 I) {i j : Nat} (hi : i ≤ n0) (hj : j ≤ n1) (hL : LaidC (PP G n0 n1 b0 b1) n0 n1 i j I J) : ex (36, 0, [.ref 273, .int (nI i), .int (nI j), dv, dv, dv], [], mm I J D) = some (.inl none, mm (ups I (275 + i) j (encO 1000000000 (PP G n0 n1 b0 b1 i j).1)) (upsL J (293 + i) j (PP G n0 n1 b0 b1 i j).2) D) := by
  have hn := g.1
  have hS0 : S0 (275 + i) = (20, 17) ∧ S0 (293 + i) = (23, 17) := by
    have : ∀ i, i < 17 → S0 (275 + i) = (20, 17) ∧ S0 (293 + i) = (23, 17) := by decide +kernel
    exact this i (by omega)
  have l := c_ck (D := D) g c hi hj hL 5 0 (by omega) _ rfl
  rw [← PP_eq hn.1 hn.2 hi hj] at l
  have e0 : ∀ s : Int32, ∀ x : Int32, ∀ y : Int64, ((s = 0 ∧ x = 1000000000 ∧ y = 0) ∨ (s = 1 ∧ x = 0 ∧ y = 1)) → ex (36, 27, [.ref 273, .int (nI i), .int (nI j), dv, dv, dv], [.int s], mm I J D) = ex (36, 66, [.ref 273, .int (nI i), .int (nI j), dv, .int (nI 0), dv], [], mm (ups I (275 + i) j x) (upsL J (293 + i) j y) D) := fun s x y h => by
    rcases h with ⟨rfl, rfl, rfl⟩ | ⟨rfl, rfl, rfl⟩
    · rw [e_36_27, inb_n (show i < 17 by omega) (by decide), cond_true, d00, cond_true, nI_clamp (by omega), e_36_43 (hs1 := hS0.1) (ks1 := by omega), e_36_45 (hs2 := hS0.1) (ks2 := by omega), inb_n (show j < 17 by omega) (by decide), inb_n (show i < 17 by omega) (by decide), cond_true, cond_true, d00, cond_true, nI_clamp (by omega), nI_clamp (by omega), e_36_61 (hs1 := hS0.2) (ks1 := by omega), e_36_62 (hs2 := hS0.2) (ks2 := by omega), inb_n (show j < 17 by omega) (by decide), cond_true, nI_clamp (by omega)]
      rfl
    · rw [e_36_27, inb_n (show i < 17 by omega) (by decide), cond_true, d10, cond_false, nI_clamp (by omega), e_36_39 (hs1 := hS0.1) (ks1 := by omega), e_36_45 (hs2 := hS0.1) (ks2 := by omega), inb_n (show j < 17 by omega) (by decide), inb_n (show i < 17 by omega) (by decide), cond_true, cond_true, d10, cond_false, nI_clamp (by omega), nI_clamp (by omega), e_36_57 (hs1 := hS0.2) (ks1 := by omega), e_36_62 (hs2 := hS0.2) (ks2 := by omega), inb_n (show j < 17 by omega) (by decide), cond_true, nI_clamp (by omega)]
      rfl
  by_cases q0 : i = n0
  · by_cases q1 : j = n1
    · have : cellK G n0 n1 b0 b1 (PP G n0 n1 b0 b1) i j 0 = (some 0, 1) := if_pos ⟨q0, q1⟩
      rw [this] at l
      rw [e_36_0, c.1.1, decide_eq_false (show ¬ nI i ≠ nI n0 from fun w => w (by rw [q0])), cond_false, e_36_11, c.1.2, decide_eq_false (show ¬ nI j ≠ nI n1 from fun w => w (by rw [q1])), cond_false, e_36_22]
      exact (e0 1 0 1 (Or.inr ⟨rfl, rfl, rfl⟩)).trans l
    · have : cellK G n0 n1 b0 b1 (PP G n0 n1 b0 b1) i j 0 = (none, 0) := if_neg (fun w => q1 w.2)
      rw [this] at l
      rw [e_36_0, c.1.1, decide_eq_false (show ¬ nI i ≠ nI n0 from fun w => w (by rw [q0])), cond_false, e_36_11, c.1.2, decide_eq_true (show nI j ≠ nI n1 from fun w => q1 ((nI_eq (by omega) (by omega)).mp w)), cond_true, e_36_26]
      exact (e0 0 1000000000 0 (Or.inl ⟨rfl, rfl, rfl⟩)).trans l
  · have : cellK G n0 n1 b0 b1 (PP G n0 n1 b0 b1) i j 0 = (none, 0) := if_neg (fun w => q0 w.1)
    rw [this] at l
    rw [e_36_0, c.1.1, decide_eq_true (show nI i ≠ nI n0 from fun w => q0 ((nI_eq (by omega) (by omega)).mp w)), cond_true, e_36_26]
    exact (e0 0 1000000000 0 (Or.inl ⟨rfl, rfl, rfl⟩)).trans l
theorem laid_s {T : Nat → Nat → Option Nat × Int64} {i j : Nat} (h : LaidC T n0 n1 i j I J) : ∀ x y, x ≤ n0 → y ≤ n1 → (i < x ∨ (i = x ∧ j ≤ y)) → (ups I (275 + i) j (encO 1000000000 (T i j).1)) (275 + x) y = encO 1000000000 (T x y).1 ∧ (upsL J (293 + i) j (T i j).2) (293 + x) y = (T x y).2 := fun x y hx hy hc => by
  by_cases q : x = i ∧ y = j
  · obtain ⟨rfl, rfl⟩ := q
    rw [uIs, uUs, uJs]; exact ⟨rfl, rfl⟩
  · rw [uIn (by omega), uJn (by omega)]
    exact h x y hx hy (by omega)
/-- a row, from its end on; below: one that begins at none -/
theorem c_lyJ (g : LayG G n0 n1) {i : Nat} (hi : i ≤ n0) : ∀ j, j ≤ n1 → ∀ I J, LayC G n0 n1 b0 b1 I → LaidC (PP G n0 n1 b0 b1) n0 n1 i j I J →
    ∃ I' J', ex (35, 31, [.ref 273, dv, dv, .int (nI i), .int (nI j)], [], mm I J D) = ex (35, 49, [.ref 273, dv, dv, .int (nI i), dv], [], mm I' J' D) ∧ (∀ p, p < 275 ∨ 292 ≤ p → I' p = I p) ∧ ∀ x y, x ≤ n0 → y ≤ n1 → i ≤ x → I' (275 + x) y = encO 1000000000 (PP G n0 n1 b0 b1 x y).1 ∧ J' (293 + x) y = (PP G n0 n1 b0 b1 x y).2
  | 0, hj, I, J, c, hL => by
    have hn := g.1
    refine ⟨_, _, ?_, fun p hp => uI (by omega), fun x y hx hy hc => laid_s hL x y hx hy (by omega)⟩
    rw [e_35_31, decide_eq_false (show ¬ nI 0 < 0 by decide), cond_false, e_35_36, c_cell g c hi hj hL, cal_v, kn, e_35_43, e_35_31, decide_eq_true (show nI 0 + -1 < 0 by decide), cond_true]
  | j + 1, hj, I, J, c, hL => by
    have hn := g.1
    obtain ⟨I', J', e, h1, h2⟩ := c_lyJ g hi j (by omega) (ups I (275 + i) (j + 1) (encO 1000000000 (PP G n0 n1 b0 b1 i (j + 1)).1)) (upsL J (293 + i) (j + 1) (PP G n0 n1 b0 b1 i (j + 1)).2) (c.go (fun p hp => by rw [uI (by omega)])) (fun x y hx hy hc => laid_s hL x y hx hy (by omega))
    refine ⟨I', J', ?_, fun p hp => by rw [h1 p hp, uI (by omega)], h2⟩
    rw [e_35_31, decide_eq_false (show ¬ nI (j + 1) < 0 from nI_pos (by omega)), cond_false, e_35_36, c_cell g c hi hj hL, cal_v, kn, e_35_43, nI_m1, nI_pred]
    exact e
theorem c_lyI (g : LayG G n0 n1) : ∀ i, i ≤ n0 → ∀ I J, LayC G n0 n1 b0 b1 I → (∀ x y, x ≤ n0 → y ≤ n1 → i < x → I (275 + x) y = encO 1000000000 (PP G n0 n1 b0 b1 x y).1 ∧ J (293 + x) y = (PP G n0 n1 b0 b1 x y).2) →
    ∃ I' J', ex (35, 18, [.ref 273, dv, dv, .int (nI i), dv], [], mm I J D) = some (.inl none, mm I' J' D) ∧ (∀ p, p < 275 ∨ 292 ≤ p → I' p = I p) ∧ ∀ x y, x ≤ n0 → y ≤ n1 → I' (275 + x) y = encO 1000000000 (PP G n0 n1 b0 b1 x y).1 ∧ J' (293 + x) y = (PP G n0 n1 b0 b1 x y).2
  | 0, hi, I, J, c, hL => by
    have hn := g.1
    obtain ⟨I', J', e, h1, h2⟩ := c_lyJ (D := D) g hi n1 (Nat.le_refl _) I J c (fun x y hx hy hc => hL x y hx hy (by omega))
    refine ⟨I', J', ?_, h1, fun x y hx hy => h2 x y hx hy (Nat.zero_le _)⟩
    rw [e_35_18, decide_eq_false (show ¬ nI 0 < 0 by decide), cond_false, e_35_22, c.1.2]
    refine e.trans ?_
    rw [e_35_49, e_35_18, decide_eq_true (show nI 0 + -1 < 0 by decide), cond_true, e_35_55]
  | i + 1, hi, I, J, c, hL => by
    have hn := g.1
    obtain ⟨I1, J1, e, h1, h2⟩ := c_lyJ (D := D) g hi n1 (Nat.le_refl _) I J c (fun x y hx hy hc => hL x y hx hy (by omega))
    obtain ⟨I', J', e2, h3, h4⟩ := c_lyI g i (by omega) I1 J1 (c.go (fun p hp => h1 p (Or.inl hp))) (fun x y hx hy hc => h2 x y hx hy (by omega))
    refine ⟨I', J', ?_, fun p hp => by rw [h3 p hp, h1 p hp], h4⟩
    rw [e_35_18, decide_eq_false (show ¬ nI (i + 1) < 0 from nI_pos (by omega)), cond_false, e_35_22, c.1.2]
    refine e.trans ?_
    rw [e_35_49, nI_m1, nI_pred]
    exact e2
theorem c_lay (g : LayG I n0 n1) (c0 : I 10 4 = nI n0) (c1 : I 15 4 = nI n1) : ∃ I' J', ex (35, 0, [.ref 273, .int b0, .int b1, dv, dv], [], mm I J D) = some (.inl none, mm I' J' D) ∧ (∀ p, p < 273 ∨ 292 ≤ p → I' p = I p) ∧ LayC I n0 n1 b0 b1 I' ∧ ∀ x y, x ≤ n0 → y ≤ n1 → I' (275 + x) y = encO 1000000000 (PP I n0 n1 b0 b1 x y).1 ∧ J' (293 + x) y = (PP I n0 n1 b0 b1 x y).2 := by
  have c : LayC I n0 n1 b0 b1 (ups (ups I 273 7 b0) 273 8 b1) := ⟨⟨c0, c1⟩, ⟨rfl, rfl, rfl, rfl, rfl, rfl, rfl⟩, by rw [uIs, uU (by decide), uIs, uUs], by rw [uIs, uUs]⟩
  obtain ⟨I', J', e, h1, h2⟩ := c_lyI (D := D) g n0 (Nat.le_refl _) _ J c (fun x y hx hy hc => by omega)
  refine ⟨I', J', ?_, fun p hp => ?_, c.go (fun p hp => h1 p (Or.inl hp)), h2⟩
  · rw [e_35_0, show (ups (ups I 273 7 b0) 273 8 b1) 10 4 = nI n0 from c0]
    exact e
  · rw [h1 p (by omega), uI (by omega), uI (by omega)]
end CY

