/-! setPrices -/
/-- the script's numbers of this turn can be read -/
def ScOK (v : Int32) (I : Nat → Nat → Int32) : Prop := ∀ j, j < 5 → 0 ≤ v + nI j ∧ v + nI j < I iSCL 0
theorem sc_d {v : Int32} {I : Nat → Nat → Int32} (h : ScOK v I) {j : Nat} (hj : j < 5) : (decide (0 ≤ v + nI j) && decide (v + nI j < I iSCL 0)) = true := by
  rw [decide_eq_true (h j hj).1, decide_eq_true (h j hj).2]
  rfl
theorem x_nr {v a b : Int32} {I : Nat → Nat → Int32} {J : Nat → Nat → Int64} {D : Nat → Nat → UInt64} (h : a ≤ v ∧ v ≤ b) : ex (153, 0, [.int v, .int a, .int b], [], mm I J D) = some (.inl none, mm I J D) := by
  rw [e_153_0, decide_eq_false (Int32.not_lt.mpr h.1), cond_false, e_153_5, decide_eq_true h.2, cond_true, e_153_21]
theorem x_nr1 {v a b : Int32} {I : Nat → Nat → Int32} {J : Nat → Nat → Int64} {D : Nat → Nat → UInt64} (h : ¬ (a ≤ v ∧ v ≤ b)) : ex (153, 0, [.int v, .int a, .int b], [], mm I J D) = some (.inr (.inl 1), mm I J D) := by
  by_cases h1 : v < a
  · rw [e_153_0, decide_eq_true h1, cond_true, e_153_10]
  · rw [e_153_0, decide_eq_false h1, cond_false, e_153_5, decide_eq_false (fun h2 => h ⟨Int32.not_lt.mp h1, h2⟩), cond_false, e_153_10]
theorem pg_pri {kk : Nat} {G : Nat → Nat → Int32} {w : Nat → Int32} {x y z : Int32} (h : PgR kk G w) (hx : rg 0 20 x) (hy : rg 0 20 y) (hz : rg 0 20 z) : PgR (kk + 1) (ups (ups (ups G 0 6 x) 0 7 y) 0 8 z) (upd (upd (upd w 621 x) 622 y) 623 z) := by
  obtain ⟨a, b, c, ⟨d1, d2, d3⟩, -, e2, e3, e4, e5⟩ := h
  have hG : ∀ o, o ≠ 0 → ups (ups (ups G 0 6 x) 0 7 y) 0 8 z o = G o := fun o ho => by rw [uI ho, uI ho, uI ho]
  have hw : ∀ k, k ≠ 621 → k ≠ 622 → k ≠ 623 → upd (upd (upd w 621 x) 622 y) 623 z k = w k := fun k h1 h2 h3 => by rw [uU h3, uU h2, uU h1]
  have q1 : ups (ups (ups G 0 6 x) 0 7 y) 0 8 z 0 6 = x := by rw [uIs, uU (by decide), uIs, uU (by decide), uIs, uUs]
  have q2 : ups (ups (ups G 0 6 x) 0 7 y) 0 8 z 0 7 = y := by rw [uIs, uU (by decide), uIs, uUs]
  have q3 : ups (ups (ups G 0 6 x) 0 7 y) 0 8 z 0 8 = z := by rw [uIs, uUs]
  have htl : ∀ a b, tld (ups (ups (ups G 0 6 x) 0 7 y) 0 8 z) a b = tld G a b := fun a b => by unfold tld; rw [hG 8 (by decide)]
  have row : ∀ i, i < 2 → RRow G w i → RRow (ups (ups (ups G 0 6 x) 0 7 y) 0 8 z) (upd (upd (upd w 621 x) 622 y) 623 z) i := by
    intro i hi h
    unfold RRow at h ⊢
    have n1 : ∀ o, ups (ups (ups G 0 6 x) 0 7 y) 0 8 z (o + 1 + 5 * i) = G (o + 1 + 5 * i) := fun o => hG _ (by omega)
    rw [show 9 + 5 * i = 8 + 1 + 5 * i from rfl, show 10 + 5 * i = 9 + 1 + 5 * i from rfl, show 11 + 5 * i = 10 + 1 + 5 * i from rfl, show 12 + 5 * i = 11 + 1 + 5 * i from rfl, show 13 + 5 * i = 12 + 1 + 5 * i from rfl, n1, n1, n1, n1, n1]
    obtain ⟨⟨h1, h2⟩, h3, h4, h5⟩ := h
    have hle : rN (G (9 + 5 * i) 4) ≤ 16 := by
      obtain ⟨m, hm, e⟩ := rg_nI (b := 16) h2 (by decide)
      rw [e]
      show (nI m).toNatClampNeg ≤ 16
      rw [nI_clamp (by omega)]; exact hm
    refine ⟨⟨by rw [hw _ (by omega) (by omega) (by omega)]; exact h1, h2⟩, fun k hk => ?_, fun k hk1 hk2 => ?_, h5⟩
    · have hk16 : k < 16 := Nat.lt_of_lt_of_le hk hle
      rw [hw (493 + 16 * i + k) (by omega) (by omega) (by omega), hw (525 + 16 * i + k) (by omega) (by omega) (by omega), hw (589 + 16 * i + k) (by omega) (by omega) (by omega), hw (557 + 16 * i + k) (by omega) (by omega) (by omega)]
      exact h3 k hk
    · rw [hw _ (by omega) (by omega) (by omega), hw _ (by omega) (by omega) (by omega)]
      exact h4 k hk1 hk2
  refine ⟨?_, ?_, ?_, ⟨row 0 (by decide) d1, row 1 (by decide) d2, ?_⟩, ⟨⟨?_, ?_⟩, ⟨?_, ?_⟩, ?_, ?_⟩, ?_, ?_, ?_, ?_⟩
  · unfold RLay at a ⊢
    rw [hw _ (by decide) (by decide) (by decide), hG 7 (by decide)]; exact a
  · obtain ⟨⟨b1, b2⟩, b3, b4, b5, b6⟩ := b
    have hle : rN (G 1 5) ≤ 50 := by
      obtain ⟨m, hm, e⟩ := rg_nI (b := 50) b2 (by decide)
      rw [e]
      show (nI m).toNatClampNeg ≤ 50
      rw [nI_clamp (by omega)]; exact hm
    unfold RBou
    rw [hG 1 (by decide), hG 2 (by decide), hG 3 (by decide), hG 4 (by decide), hG 5 (by decide), hG 7 (by decide)]
    refine ⟨⟨by rw [hw _ (by decide) (by decide) (by decide)]; exact b1, b2⟩, b3, fun k hk => ?_, b5, b6⟩
    have hk50 : k < 50 := Nat.lt_of_lt_of_le hk hle
    rw [hw (2 + k) (by omega) (by omega) (by omega), hw (52 + k) (by omega) (by omega) (by omega), hw (102 + k) (by omega) (by omega) (by omega), hw (152 + k) (by omega) (by omega) (by omega)]
    exact b4 k hk
  · obtain ⟨c1, c2, c3, r, hr⟩ := c
    refine ⟨by rw [hG 8 (by decide)]; exact c1, fun a b ha hb => ?_, fun a b ha hb => ?_, r, fun a b ha hb => hr a b ha (by rw [htl] at hb; exact hb)⟩
    · rw [hw _ (by omega) (by omega) (by omega), htl]; exact c2 a b ha hb
    · rw [htl] at hb
      rw [hG 7 (by decide)]
      exact c3 a b ha hb
  · unfold RTie at d3 ⊢
    rw [hG 9 (by decide), hG 12 (by decide), hG 14 (by decide), hG 17 (by decide)]
    exact d3
  · rw [q1, uU (by decide), uU (by decide), uUs]
  · rw [q1]; exact hx
  · rw [q2, uU (by decide), uUs]
  · rw [q2]; exact hy
  · rw [q3, uUs]
  · rw [q3]; exact hz
  · obtain ⟨e1, e2⟩ := e2
    unfold RSta
    rw [hG 20 (by decide), hG 21 (by decide), hG 22 (by decide)]
    refine ⟨fun k hk => ?_, fun k y' hk hy' => ?_⟩
    · rw [hw (624 + k) (by omega) (by omega) (by omega), hw (632 + k) (by omega) (by omega) (by omega)]; exact e1 k hk
    · rw [hw (640 + 8 * y' + k) (by omega) (by omega) (by omega), hw (720 + 8 * y' + k) (by omega) (by omega) (by omega)]; exact e2 k y' hk hy'
  · intro k hk
    rw [hG 24 (by decide), hG 25 (by decide), hw (800 + k) (by omega) (by omega) (by omega), hw (812 + k) (by omega) (by omega) (by omega)]
    exact e3 k hk
  · rw [hG 25 (by decide)]; omega
  · rw [hw _ (by decide) (by decide) (by decide), hG 23 (by decide)]; exact e5
