/-! areDated -/
section LDT
variable {kk n : Nat} {TT : Nat} {QJ : Nat → Nat → Int64} {QD : Nat → Nat → UInt64}
variable {X I : Nat → Nat → Int32} {J : Nat → Nat → Int64} {D : Nat → Nat → UInt64}
variable {Ps : Option Value → (Nat → Nat → Int32) → (Nat → Nat → Int64) → (Nat → Nat → Int32) → (Nat → Nat → Int64) → (Nat → Nat → UInt64) → Prop}
theorem ctc349 : ctc 349 4 0 = some 8 := by decide +kernel
theorem ctc350 : ctc 350 3 3 = some 7 := by decide +kernel
theorem lw_date {r b : Nat} (s : St TT 2 X I J D) (hr : r < 2) (hn : I (10 + 5 * r) 4 = nI n) (h16 : n ≤ 16) (hb : b < n) {z : Int32} (hz : 0 ≤ z ∧ z ≤ 99999) :
    WP 348 SC RC QD TT X QJ (fun v I2 => (∃ x, v = some (.int x)) ∧ DKeep I I2) (ex (349, 0, [.ref 1, .int (nI r), .int (nI b), .int z, dv], [], 348, SC, RC, ovr I X, ovr J QJ, ovr D QD)) := by
  rw [eC_349_0]
  cases hf : fitD (I (14 + 5 * r)) b z n 0 with
  | true =>
    refine goM bas_C (by decide) rfl (c := 1) s (v := some (.int (I (14 + 5 * r) b))) (P := DKeep I) (fun kk _ hi => ?_) (fun X2 I2 J2 D2 hx s2 hs => ?_)
    · have := a_date hi hr hn h16 hb hz
      rw [hf] at this
      exact this
    · rw [ka, eC_349_7]
      exact wp_ret ⟨⟨_, rfl⟩, hs⟩ hx s2
  | false =>
    refine goE bas_C (by decide) rfl ctc349 (c := 1) s (P := DKeep I) (fun kk _ hi => ?_) (fun X2 I2 J2 D2 hx s2 hs => ?_)
    · have := a_date hi hr hn h16 hb hz
      rw [hf] at this
      exact this
    · rw [eC_349_8]
      exact wp_ret ⟨⟨_, rfl⟩, hs⟩ hx s2
theorem lw_age {r b : Nat} (s : St TT 2 X I J D) (hr : r < 2) (hn : I (10 + 5 * r) 4 = nI n) (h16 : n ≤ 16) (hb : b < n) :
    WP 348 SC RC QD TT X QJ (fun v I2 => v = some (.int (ageN (I (14 + 5 * r)) n b)) ∧ ∀ p, p < 273 → I2 p = I p) (ex (350, 0, [.ref 1, .int (nI r), .int (nI b), dv], [], 348, SC, RC, ovr I X, ovr J QJ, ovr D QD)) := by
  rw [eC_350_0]
  cases hf : hasA (I (14 + 5 * r)) n b with
  | true =>
    refine goM bas_C (by decide) rfl (c := 1) s (v := some (.int (ageN (I (14 + 5 * r)) n b))) (P := Lay2 I) (fun kk _ hi => ?_) (fun X2 I2 J2 D2 hx s2 hs => ?_)
    · have := q_age hi hr hn h16 hb
      rw [hf] at this
      exact this
    · rw [ka, eC_350_6]
      exact wp_ret ⟨rfl, hs.2⟩ hx s2
  | false =>
    refine goE bas_C (by decide) rfl ctc350 (c := 1) s (P := Lay2 I) (fun kk _ hi => ?_) (fun X2 I2 J2 D2 hx s2 hs => ?_)
    · have := q_age hi hr hn h16 hb
      rw [hf] at this
      exact this
    · rw [eC_350_7, age_no hf]
      exact wp_ret ⟨rfl, hs.2⟩ hx s2
/-- behind areDated -/
def DtP (T : Nat) (X0 I0 : Nat → Nat → Int32) (v : Option Value) (X2 : Nat → Nat → Int32) (I2 : Nat → Nat → Int32) (J2 : Nat → Nat → Int64) (D2 : Nat → Nat → UInt64) : Prop :=
  (v = some (.int 1) ∧ DKeep I0 I2 ∧ ∀ p, p ≠ iCRD → p ≠ 328 → X2 p = X0 p) ∧ ∃ c2, St T c2 X2 I2 J2 D2
/-- dates in order -/
def DOk (n : Nat) (da : Nat → Int32) : Prop := (∀ k, k < n → da k = -1 ∨ rg 0 99999 (da k)) ∧ ∀ k j, k < j → j < n → da k ≠ -1 → da j ≠ -1 → da k ≤ da j
theorem lw_agel {r : Nat} {X0 I0 G : Nat → Nat → Int32} (hr : r < 2) (h16 : n ≤ 16) (cg : G (10 + 5 * r) 4 = nI n) (ok : DOk n (G (14 + 5 * r))) (dk : DKeep I0 G) : ∀ q i, i + q = n → ∀ (last : Int32) (X I : Nat → Nat → Int32) (J : Nat → Nat → Int64) (D : Nat → Nat → UInt64) c, 2 * q ≤ c → St TT c X I J D → (∀ p, p ≠ iCRD → p ≠ 328 → X p = X0 p) → X 326 r = nI n → (∀ p, p < 273 → I p = G p) →
    (last = -1 ∨ ∃ j u, j < i ∧ AgB (G (14 + 5 * r)) n j u ∧ last = nI u) →
    WO 348 SC RC QD (fun v X2 QJ2 I2 J2 D2 => DtP TT X0 I0 v X2 I2 J2 D2) (ex (351, 65, [.ref 0, .int (nI r), .int last, .int (nI i), dv], [], 348, SC, RC, ovr I X, ovr J QJ, ovr D QD)) := by
  intro q
  induction q with
  | zero =>
    intro i hi last X I J D c hc s kx hX f hl
    have hi : i = n := by omega
    subst hi
    rw [eC_351_65, inb_n hr (by decide), cond_true, nI_clamp (show r < 2 ^ 31 by omega), show ovr I X 326 r = nI i by rw [ovr_hi (by omega)]; exact hX, decide_eq_true ((nI_leI (by omega) (by omega)).mpr (Nat.le_refl i)), cond_true, eC_351_112]
    exact wo_ret ⟨⟨rfl, fun p h1 h2 h3 h4 => by rw [f p (by omega)]; exact dk p h1 h2 h3 h4, kx⟩, c, s⟩
  | succ q ih =>
    intro i hi last X I J D c hc s kx hX f hl
    have hi2 : i < n := by omega
    obtain ⟨c, rfl⟩ : ∃ c', c = c' + 2 := ⟨c - 2, by omega⟩
    rw [eC_351_65, inb_n hr (by decide), cond_true, nI_clamp (show r < 2 ^ 31 by omega), show ovr I X 326 r = nI n by rw [ovr_hi (by omega)]; exact hX, decide_eq_false (show ¬ nI n ≤ nI i from nI_ge (by omega) (by omega)), cond_false, eC_351_75]
    refine goP (by decide) (by decide) (d := 2) rfl s (by omega) (fun Q1 T1 hq9 s1 => lw_age s1 hr (show I (10 + 5 * r) 4 = nI n by rw [f _ (by omega)]; exact cg) h16 hi2) (fun v X1 I1 J1 D1 hx1 s1 hp => ?_)
    obtain ⟨rfl, f1⟩ := hp
    rw [f (14 + 5 * r) (by omega)]
    have kx1 : ∀ p, p ≠ iCRD → p ≠ 328 → X1 p = X0 p := fun p h1 h2 => (hx1 p h1).trans (kx p h1 h2)
    have f1 : ∀ p, p < 273 → I1 p = G p := fun p hp => (f1 p hp).trans (f p hp)
    have hX1 : X1 326 r = nI n := by rw [hx1 326 (by decide)]; exact hX
    cases hh : hasA (G (14 + 5 * r)) n i with
    | false =>
      rw [age_no hh, ka, eC_351_84, decide_eq_false (fun h => h rfl), cond_false, eC_351_92, eC_351_106, nI_1]
      refine ih (i + 1) (by omega) last X1 I1 J1 D1 c (by omega) s1 kx1 hX1 f1 ?_
      rcases hl with h | ⟨j, u, h1, h2, h3⟩
      · exact Or.inl h
      · exact Or.inr ⟨j, u, by omega, h2, h3⟩
    | true =>
      obtain ⟨v, ev, av⟩ := age_b h16 hi2 ok.1 ok.2 hh
      have hv9 : v ≤ 99999 := by
        obtain ⟨a, c', p, q', a1, a2, a3, a4, a5⟩ := av
        have : (q' - p) * (i - a) / (c' - a) ≤ q' - p := by
          by_cases e : c' - a = 0
          · rw [e, Nat.div_zero]; exact Nat.zero_le _
          · refine Nat.div_le_of_le_mul ?_
            rw [Nat.mul_comm]
            exact Nat.mul_le_mul (show i - a ≤ c' - a by omega) (Nat.le_refl _)
        generalize (q' - p) * (i - a) / (c' - a) = t at a5 this
        omega
      have hle : last ≤ nI v := by
        rcases hl with h | ⟨j, u, h1, h2, h3⟩
        · subst h
          have := nI_pos' (n := v) (by omega)
          exact Int32.le_trans (by decide) this
        · subst h3
          have := age_mono ok.2 h1 h2 av
          exact (nI_leI (by omega) (by omega)).mpr this
      have hne : nI v ≠ -1 := fun e => by
        have := congrArg Int32.toInt e
        rw [nI_toInt (by omega), show (-1 : Int32).toInt = -1 from rfl] at this
        omega
      rw [ev, ka, eC_351_84, decide_eq_true hne, cond_true, eC_351_95, decide_eq_true hle, cond_true, eC_351_103, eC_351_106, nI_1]
      exact ih (i + 1) (by omega) (nI v) X1 I1 J1 D1 c (by omega) s1 kx1 hX1 f1 (Or.inr ⟨i, v, by omega, av, rfl⟩)
theorem lw_ages {r : Nat} {X0 I0 : Nat → Nat → Int32} (hr : r < 2) (h5 : n ≤ 5) {c : Nat} (hc : 10 ≤ c) (s : St TT c X I J D) (kx : ∀ p, p ≠ iCRD → p ≠ 328 → X p = X0 p) (hX : X 326 r = nI n) (cn : I (10 + 5 * r) 4 = nI n) (dk : DKeep I0 I) :
    WO 348 SC RC QD (fun v X2 QJ2 I2 J2 D2 => DtP TT X0 I0 v X2 I2 J2 D2) (ex (351, 61, [.ref 0, .int (nI r), dv, dv, dv], [], 348, SC, RC, ovr I X, ovr J QJ, ovr D QD)) := by
  obtain ⟨-, -, kk, -, hi⟩ := id s
  obtain ⟨n', hn', cn', wn, hk, hb', hs⟩ := inv_row hi.2.1 hr
  have en : n' = n := (nI_eq (by omega) (by omega)).mp (cn'.symm.trans cn)
  subst en
  rw [eC_351_61, show (0 : Int32) = nI 0 from rfl]
  exact lw_agel hr (by omega) cn ⟨fun k hk2 => (hk k hk2).2.2.2.2, hs⟩ dk n' 0 (by omega) (-1) X I J D c (by omega) s kx hX (fun _ _ => rfl) (Or.inl rfl)
theorem lw_dates {r : Nat} {X0 I0 : Nat → Nat → Int32} (hr : r < 2) (h5 : n ≤ 5) : ∀ q, q ≤ 3 → ∀ (X I : Nat → Nat → Int32) (J : Nat → Nat → Int64) (D : Nat → Nat → UInt64) c, 2 * q + 10 ≤ c → St TT c X I J D → (∀ p, p ≠ iCRD → p ≠ 328 → X p = X0 p) → X0 326 r = nI n → I (10 + 5 * r) 4 = nI n → DKeep I0 I →
    WO 348 SC RC QD (fun v X2 QJ2 I2 J2 D2 => DtP TT X0 I0 v X2 I2 J2 D2) (ex (351, 11, [.ref 0, .int (nI r), .int (nI q), dv, dv], [], 348, SC, RC, ovr I X, ovr J QJ, ovr D QD)) := by
  intro q
  induction q with
  | zero =>
    intro hq X I J D c hc s kx hX cn dk
    rw [eC_351_11, decide_eq_true (show nI 0 ≤ 0 by decide), cond_true]
    exact lw_ages hr h5 (by omega) s kx (by rw [kx 326 (by decide) (by decide)]; exact hX) cn dk
  | succ q ih =>
    intro hq X I J D c hc s kx hX cn dk
    have hX1 : X 326 r = nI n := by rw [kx 326 (by decide) (by decide)]; exact hX
    rw [eC_351_11, decide_eq_false (show ¬ nI (q + 1) ≤ 0 from nI_nle (by omega) (by omega)), cond_false, eC_351_15, inb_n hr (by decide), cond_true, nI_clamp (show r < 2 ^ 31 by omega), show ovr I X 326 r = nI n by rw [ovr_hi (by omega)]; exact hX1]
    by_cases z0 : n = 0
    · subst z0
      rw [decide_eq_true (show nI 0 ≤ 0 by decide), cond_true]
      exact lw_ages hr h5 (by omega) s kx hX1 cn dk
    · obtain ⟨c, rfl⟩ : ∃ c', c = c' + 2 := ⟨c - 2, by omega⟩
      rw [decide_eq_false (show ¬ nI n ≤ 0 from nI_nle (by omega) (by omega)), cond_false, eC_351_24, inb_n hr (by decide), cond_true, nI_clamp (show r < 2 ^ 31 by omega)]
      refine goN nl_C (by decide) (show ovr I X 326 r = nI n by rw [ovr_hi (by omega)]; exact hX1) ⟨by omega, by omega⟩ s (fun X1 b hb hx1 s1 => ?_)
      rw [eC_351_42]
      refine goN nl_C (by decide) (show (100 : Int32) = nI 100 from rfl) ⟨by omega, by omega⟩ s1 (fun X2 d hd hx2 s2 => ?_)
      rw [eC_351_51]
      refine goP (by decide) (by decide) (d := 2) rfl s2 (by omega) (fun Q1 T1 hq9 s3 => lw_date s3 hr cn (by omega) hb ⟨nI_pos' (by omega), (nI_leI (b := 99999) (by omega) (by omega)).mpr (by omega)⟩) (fun v X3 I3 J3 D3 hx3 s3 hp => ?_)
      obtain ⟨⟨x, rfl⟩, dk3⟩ := hp
      rw [ka, eC_351_54, show nI (q + 1) + (-1) = nI q from nI_dec q]
      refine ih (by omega) X3 I3 J3 D3 c (by omega) s3 (fun p h1 h2 => by rw [hx3 p h1, hx2 p h2, hx1 p h2]; exact kx p h1 h2) hX ?_ (fun p h1 h2 h3 h4 => (dk3 p h1 h2 h3 h4).trans (dk p h1 h2 h3 h4))
      rw [dk3 (10 + 5 * r) (by omega) (by omega) (by omega) (by omega)]
      exact cn
theorem lw_dated {n0 n1 : Nat} (s : St TT 30 X I J D) (h0 : n0 ≤ 5) (h1 : n1 ≤ 5) (x0 : X 326 0 = nI n0) (x1 : X 326 1 = nI n1) (c0 : I 10 4 = nI n0) (c1 : I 15 4 = nI n1) :
    WO 348 SC RC QD (fun v X2 QJ2 I2 J2 D2 => DtP TT X I v X2 I2 J2 D2) (ex (351, 0, [.ref 0, dv, dv, dv, dv], [], 348, SC, RC, ovr I X, ovr J QJ, ovr D QD)) := by
  rw [eC_351_0]
  refine goN nl_C (by decide) (show (2 : Int32) = nI 2 from rfl) ⟨by omega, by omega⟩ s (fun X1 r hr hx1 s1 => ?_)
  rw [eC_351_8, show (3 : Int32) = nI 3 from rfl]
  rcases (show r = 0 ∨ r = 1 by omega) with rfl | rfl
  · exact lw_dates (n := n0) (by decide) h0 3 (by omega) X1 I J D 30 (by omega) s1 (fun p _ h => hx1 p h) x0 c0 (fun _ _ _ _ _ => rfl)
  · exact lw_dates (n := n1) (by decide) h1 3 (by omega) X1 I J D 30 (by omega) s1 (fun p _ h => hx1 p h) x1 c1 (fun _ _ _ _ _ => rfl)
end LDT
