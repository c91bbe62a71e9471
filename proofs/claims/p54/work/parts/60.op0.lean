/-! one turn of the law, call by call: addLayer -/
def Turn (L kk pc : Nat) (v : Int32) (I : Nat → Nat → Int32) (J : Nat → Nat → Int64) (D : Nat → Nat → UInt64) : Prop :=
  ∃ I' J' D', ex (309, pc, Lst v, [], mm I J D) = ex (309, 28, Lst (v + 5), [], mm I' J' D') ∧ Inv L (kk + 1) I' J' D'
theorem calH_v {μ p0 pc : Nat} {l0 ls st : List Value} {v : Option Value} {M : Mm} : calH μ p0 l0 pc ls st (some (.inl v, M)) = ex (μ, pc, ls, v.toList ++ st, M) := rfl
theorem calH_e {μ p0 pc E h : Nat} {l0 ls st : List Value} {M : Mm} (hc : ctc μ p0 E = some h) : calH μ p0 l0 pc ls st (some (.inr (.inl E), M)) = ex (μ, h, l0, [.ref iEXC], M) := by
  unfold calH
  simp only [hc]
theorem nrm_ups {F F' : Nat → Nat → Int32} {o k : Nat} {x : Int32} (h : rl o k = true) (hF : ∀ o' k', rl o' k' = true → F' o' k' = ups F o k x o' k') : nrm F' = ups (nrm F) o k x := by
  funext o' k'
  unfold nrm
  cases hb : rl o' k' with
  | true =>
    rw [cond_true, hF o' k' hb]
    by_cases h1 : o' = o
    · subst h1
      rw [uIs, uIs]
      by_cases h2 : k' = k
      · subst h2; rw [uUs, uUs]
      · rw [uU h2, uU h2, hb]; rfl
    · rw [uI h1, uI h1, hb]; rfl
  | false =>
    rw [cond_false]
    by_cases h1 : o' = o
    · subst h1
      rw [uIs]
      by_cases h2 : k' = k
      · subst h2; rw [h] at hb; cases hb
      · rw [uU h2, hb]; rfl
    · rw [uI h1, hb]; rfl
theorem nrw_upd {w w' : Nat → Int32} {y : Nat} {x : Int32} (h : y < 825) (hw : ∀ z, z < 825 → w' z = upd w y x z) : nrw w' = upd (nrw w) y x := by
  funext z
  unfold nrw
  cases hb : Nat.blt z 825 with
  | true =>
    rw [cond_true, hw z (Nat.blt_eq.mp hb)]
    by_cases h1 : z = y
    · subst h1; rw [uUs, uUs]
    · rw [uU h1, uU h1, hb]; rfl
  | false =>
    rw [cond_false]
    by_cases h1 : z = y
    · subst h1; rw [Nat.blt_eq.mpr h] at hb; cases hb
    · rw [uU h1, hb]; rfl
theorem rg_nI {b : Nat} {v : Int32} (h : rg 0 b v) (hb : b < 2 ^ 31) : ∃ n : Nat, n ≤ b ∧ v = nI n := by
  obtain ⟨h1, h2⟩ := h
  have h3 : ¬ v < 0 := by rw [Int32.lt_iff_toInt_lt, Int32.toInt_zero]; omega
  obtain ⟨j, hj, rfl⟩ := nI_of h3
  rw [nI_toInt hj] at h2
  exact ⟨j, by omega, rfl⟩
theorem ctc269 : ctc 269 3 0 = some 11 := by decide +kernel
theorem lgc0 (n : Nat) : lg_cmp (nI n).toInt64 (nI n).toInt64 = 0 := by
  unfold lg_cmp
  simp
theorem upsL_s {J : Nat → Nat → Int64} {p k : Nat} {x : Int64} : upsL J p k x p k = x := by
  unfold upsL
  rw [Nat.beq_refl]
  show vp_updL (J p) k x k = x
  unfold vp_updL
  rw [if_pos rfl]
/-- one more layer, on both pages -/
theorem pg_layer {kk n : Nat} {G : Nat → Nat → Int32} {w : Nat → Int32} (h : PgR kk G w) (hn : G 7 1 = nI n) (h16 : n < 16) : PgR (kk + 1) (ups G 7 1 (nI (n + 1))) (upd w 0 (nI (n + 1))) := by
  obtain ⟨⟨a1, a2⟩, ⟨⟨b1, b2⟩, b3, b4, b5, b6⟩, ⟨c1, c2, c3, c4⟩, ⟨d1, d2, d3⟩, e1, e2, e3, e4, e5⟩ := h
  have t1 : (nI n).toInt = (n : Int) := nI_toInt (by omega)
  have t2 : (nI (n + 1)).toInt = ((n + 1 : Nat) : Int) := nI_toInt (by omega)
  have hG : ∀ o, o ≠ 7 → ups G 7 1 (nI (n + 1)) o = G o := fun o ho => uI ho
  have h71 : ups G 7 1 (nI (n + 1)) 7 1 = nI (n + 1) := by rw [uIs, uUs]
  have hw : ∀ y, y ≠ 0 → upd w 0 (nI (n + 1)) y = w y := fun y hy => uU hy
  have htl : ∀ a b, tld (ups G 7 1 (nI (n + 1))) a b = tld G a b := fun a b => by unfold tld; rw [hG 8 (by decide)]
  have row : ∀ i, i < 2 → RRow G w i → RRow (ups G 7 1 (nI (n + 1))) (upd w 0 (nI (n + 1))) i := by
    intro i hi h
    unfold RRow at h ⊢
    simp (disch := omega) only [hG, hw]
    exact h
  refine ⟨⟨?_, ?_⟩, ⟨⟨?_, ?_⟩, ?_, fun k hk => ?_, ?_, ?_⟩, ⟨?_, fun a b ha hb => ?_, fun a b ha hb => ?_, ?_⟩, ⟨row 0 (by decide) d1, row 1 (by decide) d2, ?_⟩, ?_, ?_, ?_, ?_, ?_⟩
  · rw [uUs, h71]
  · rw [h71]; exact ⟨by rw [t2]; omega, by rw [t2]; omega⟩
  · rw [hw 1 (by decide), hG 1 (by decide)]; exact b1
  · rw [hG 1 (by decide)]; exact b2
  · rw [hG 5 (by decide)]; exact b3
  · rw [hG 1 (by decide)] at hk
    obtain ⟨p1, p2, p3, p4, p5⟩ := b4 k hk
    rw [hn, t1] at p2 p3
    simp (disch := omega) only [hG, hw, h71, t2]
    exact ⟨p1, ⟨p2.1, by have := p2.2; omega⟩, ⟨p3.1, by have := p3.2; omega⟩, p4, p5⟩
  · simp (disch := omega) only [hG]; exact b5
  · simp (disch := omega) only [hG]; exact b6
  · rw [hG 8 (by decide)]; exact c1
  · rw [hw _ (by omega), htl]; exact c2 a b ha hb
  · rw [htl] at hb
    have := c3 a b ha hb
    rw [hn] at this
    rw [h71]
    have r1 : rN (nI n) = n := nI_clamp (by omega)
    have r2 : rN (nI (n + 1)) = n + 1 := nI_clamp (by omega)
    rw [r1] at this
    rw [r2]
    omega
  · obtain ⟨r, hr⟩ := c4
    exact ⟨r, fun a b ha hb => hr a b ha (by rw [htl] at hb; exact hb)⟩
  · unfold RTie at d3 ⊢
    simp (disch := omega) only [hG]
    exact d3
  · unfold RPri at e1 ⊢
    simp (disch := omega) only [hG, hw]
    exact e1
  · unfold RSta at e2 ⊢
    simp (disch := omega) only [hG, hw]
    exact e2
  · intro c hc
    simp (disch := omega) only [hG, hw]
    exact e3 c hc
  · simp (disch := omega) only [hG]
    omega
  · rw [hw _ (by decide), hG 23 (by decide)]; exact e5
