/-! orders, both sides -/
theorem or_bit {s b : Nat} (hs : s < 2 ^ 16) (hb : b < 16) (h : s.testBit b = false) : nI s ||| (1 : Int32) <<< ((nI (b + 1) - 1) &&& 31) = nI (s ^^^ 2 ^ b) := by
  have hx := xor_bd hs hb
  refine (((Bt.n (v := s) (by omega)).or (bit_b (b := b + 1) (by omega) (by omega))).cg (fun i => ?_)).eq (Bt.n (v := s ^^^ 2 ^ b) (by omega))
  rw [tb_xor]
  by_cases q : i = b
  · subst q; rw [h]; simp
  · rw [decide_eq_false q, decide_eq_false (show ¬ i = b + 1 - 1 by omega)]; simp
theorem an_bit {s b : Nat} (hs : s < 2 ^ 16) (hb : b < 16) (h : s.testBit b = true) : nI s &&& ((1 : Int32) <<< ((nI (b + 1) - 1) &&& 31) ^^^ (-1)) = nI (s ^^^ 2 ^ b) := by
  have hx := xor_bd hs hb
  refine (((Bt.n (v := s) (by omega)).andn (bit_b (b := b + 1) (by omega) (by omega))).cg (fun i => ?_)).eq (Bt.n (v := s ^^^ 2 ^ b) (by omega))
  rw [tb_xor]
  by_cases q : i = b
  · subst q; rw [h]; simp
  · rw [decide_eq_false q, decide_eq_false (show ¬ i = b + 1 - 1 by omega)]; simp
theorem an_sub {s p : Nat} : s &&& p = p ↔ ∀ i, p.testBit i = true → s.testBit i = true := by
  constructor
  · intro h i hi
    rw [← h, Nat.testBit_and] at hi
    cases e : s.testBit i with
    | true => rfl
    | false => rw [e] at hi; cases hi
  · intro h
    refine Nat.eq_of_testBit_eq (fun i => ?_)
    rw [Nat.testBit_and]
    cases e : p.testBit i with
    | true => rw [h i e]; rfl
    | false => simp
theorem cnt_z {f : Nat → Bool} {n : Nat} (h : cntN f n = 0) {i : Nat} (hi : i < n) : f i = false := by
  cases e : f i with
  | false => rfl
  | true => have := cnt_rem (n := n) hi e; omega
theorem p14 {n : Nat} (h : n ≤ 14) : 2 ^ n ≤ 16384 := Nat.pow_le_pow_right (n := 2) (by decide) h
noncomputable def wT (R : Nat → Nat → Bool) (n p s : Nat) : Nat := EE R n (fun j => s.testBit j && !(p.testBit j))
section OB
variable {I : Nat → Nat → Int32} {D : Nat → Nat → UInt64} {R : Nat → Nat → Bool} {n : Nat}
theorem c_fre {J : Nat → Nat → Int64} (hD : Drw n R I) (h16 : n ≤ 14) (hin : In n R) : ∀ r a, a + r = n → ∀ v, Bt v (fun i => decide (i < a) && fre R i) → ∃ v', ex (24, 4, [.ref 265, .int v, .int (nI (a + 1))], [], mm I J D) = some (.inl (some (.int v')), mm I J D) ∧ Bt v' (fun i => decide (i < n) && fre R i)
  | 0, a, h, v, hv => by
    have : a = n := by omega
    subst this
    refine ⟨v, ?_, hv⟩
    rw [e_24_4, hD.1, decide_eq_true ((nI_ltI (by omega) (by omega)).mpr (by omega)), cond_true, e_24_43]
  | r + 1, a, h, v, hv => by
    have e7 := (hD.2.2.1 (a + 1) (by omega)).eq0
    have e6 := (hD.2.1 (a + 1) (by omega)).eq0
    have nof : fre R a = false → Bt v (fun i => decide (i < a + 1) && fre R i) := fun hf => hv.cg (fun i => by
      by_cases q : i = a
      · subst q; rw [hf]; simp
      · rw [show decide (i < a + 1) = decide (i < a) from decide_eq_decide.mpr (by omega)])
    rw [e_24_4, hD.1, decide_eq_false (show ¬ nI n < nI (a + 1) from nI_nlt (by omega) (by omega)), cond_false, e_24_12, inb_n (show a + 1 < 17 by omega) (by decide), cond_true, nI_clamp (by omega)]
    by_cases q7 : I 267 (a + 1) = 0
    · rw [decide_eq_false (fun w => w q7), cond_false, e_24_21, inb_n (show a + 1 < 17 by omega) (by decide), cond_true, nI_clamp (by omega)]
      by_cases q6 : I 266 (a + 1) = 0
      · have hf : fre R a = true := by
          unfold fre
          refine @decide_eq_true _ (Classical.propDecidable _) (fun j => ?_)
          by_cases hj : j < 16
          · have h1 := e7.mp q7 j
            have h2 := e6.mp q6 j
            unfold row at h1 h2
            rw [Nat.blt_eq.mpr hj, Bool.true_and] at h1 h2
            exact ⟨h1, h2⟩
          · exact ⟨hin.f (by omega), hin.f (by omega)⟩
        obtain ⟨v', h1, h2⟩ := c_fre hD h16 hin r (a + 1) (by omega) (v ||| (1 : Int32) <<< ((nI (a + 1) - 1) &&& 31)) ((hv.or (bit_b (b := a + 1) (by omega) (by omega))).cg (fun i => by
          by_cases q : i = a
          · subst q; rw [hf]; simp
          · rw [show decide (i < a + 1) = decide (i < a) from decide_eq_decide.mpr (by omega), decide_eq_false (show ¬ i = a + 1 - 1 by omega)]; simp))
        refine ⟨v', ?_, h2⟩
        rw [decide_eq_false (fun w => w q6), cond_false, e_24_30, e_49_0, cal_v, ka, e_24_35, e_24_37, nI_1]
        exact h1
      · obtain ⟨v', h1, h2⟩ := c_fre (J := J) hD h16 hin r (a + 1) (by omega) v (nof (by
          cases e : fre R a with
          | false => rfl
          | true => exact absurd (e6.mpr (fun i => by unfold row; rw [(fre_t e i).2]; simp)) q6))
        refine ⟨v', ?_, h2⟩
        rw [decide_eq_true q6, cond_true, e_24_37, nI_1]
        exact h1
    · obtain ⟨v', h1, h2⟩ := c_fre (J := J) hD h16 hin r (a + 1) (by omega) v (nof (by
        cases e : fre R a with
        | false => rfl
        | true => exact absurd (e7.mpr (fun i => by unfold row; show (_ && R (i + 1) (a + 1)) = false; rw [(fre_t e i).1]; simp)) q7))
      refine ⟨v', ?_, h2⟩
      rw [decide_eq_true q7, cond_true, e_24_37, nI_1]
      exact h1
theorem c_wy {J : Nat → Nat → Int64} (hD : Drw n R I) (h14 : n ≤ 14) (hin : In n R) {p s : Nat} (hp : ∀ i, p.testBit i = (decide (i < n) && fre R i)) (hpn : p < 2 ^ n) (hs : s < 2 ^ n) (hsp : ∀ i, p.testBit i = true → s.testBit i = true)
    (hT : ∀ t, t < s → (∀ i, p.testBit i = true → t.testBit i = true) → J 272 t = lN (wT R n p t)) : ∀ r a, a + r = n →
    ex (25, 5, [.ref 265, .int (nI s), .int (nI p), .long (lN (sN (fun i => bif (s.testBit i && !(p.testBit i)) && prB R (fun j => s.testBit j && !(p.testBit j)) i then EE R n (rem (fun j => s.testBit j && !(p.testBit j)) i) else 0) a)), dv, .int (nI (a + 1)), dv, dv], [], mm I J D) = some (.inl (some (.long (lN (sN (fun i => bif (s.testBit i && !(p.testBit i)) && prB R (fun j => s.testBit j && !(p.testBit j)) i then EE R n (rem (fun j => s.testBit j && !(p.testBit j)) i) else 0) n)))), mm I J D)
  | 0, a, h => by
    have : a = n := by omega
    subst this
    rw [e_25_5, hD.1, decide_eq_true ((nI_ltI (by omega) (by omega)).mpr (by omega)), cond_true, e_25_78]
  | r + 1, a, h => by
    have ih := c_wy hD h14 hin hp hpn hs hsp hT r (a + 1) (by omega)
    have b14 := p14 h14
    have bs := Bt.n (v := s) (by omega)
    have hb := (bs.andn (Bt.n (v := p) (by omega))).has (bit_b (b := a + 1) (by omega) (by omega))
    rw [show a + 1 - 1 = a from rfl] at hb
    rw [show ∀ f : Nat → Nat, sN f (a + 1) = sN f a + f a from fun _ => rfl] at ih
    rw [e_25_5, hD.1, decide_eq_false (show ¬ nI n < nI (a + 1) from nI_nlt (by omega) (by omega)), cond_false, e_25_14, e_49_0, cal_v, ka, e_25_19]
    cases hg : s.testBit a && !(p.testBit a) with
    | false =>
      rw [hg] at ih
      rw [decide_eq_true (hb.mpr hg), cond_true, e_25_36, e_25_37, decide_eq_true rfl, cond_true, e_25_72, nI_1]
      exact ih
    | true =>
      have hsa : s.testBit a = true := by
        cases e : s.testBit a with
        | true => rfl
        | false => rw [e] at hg; cases hg
      have hpa : p.testBit a = false := by
        cases e : p.testBit a with
        | false => rfl
        | true => rw [e, Bool.not_true, Bool.and_false] at hg; cases hg
      rw [hg] at ih
      rw [decide_eq_false (fun w => by rw [hb.mp w] at hg; cases hg), cond_false, e_25_32, e_25_37, decide_eq_false (show ¬ (1 : Int32) = 0 by decide), cond_false, e_25_44, inb_n (show a + 1 < 17 by omega) (by decide), cond_true, nI_clamp (by omega)]
      have hz := ((hD.2.2.1 (a + 1) (by omega)).andn bs).eq0
      cases hq : prB R (fun j => s.testBit j && !(p.testBit j)) a with
      | true =>
        rw [hq] at ih
        have hz0 := hz.mpr (fun i => by
          unfold row
          show ((Nat.blt i 16 && R (i + 1) (a + 1)) && !(s.testBit i)) = false
          cases e : R (i + 1) (a + 1) with
          | false => simp
          | true =>
            have : (s.testBit i && !(p.testBit i)) = true := by
              unfold prB at hq
              exact @of_decide_eq_true _ (Classical.propDecidable _) hq i e
            cases e2 : s.testBit i with
            | true => simp
            | false => rw [e2] at this; cases this)
        have hx := xor_bd hs (show a < n by omega)
        have hw : J 272 (s ^^^ 2 ^ a) = lN (EE R n (rem (fun j => s.testBit j && !(p.testBit j)) a)) := by
          rw [hT _ (xor_lt hsa) (fun i hi => by
            rw [tb_xor, hsp i hi, decide_eq_false (fun w => by subst w; rw [hpa] at hi; cases hi)]; rfl)]
          unfold wT
          congr 2
          funext j
          rw [tb_xor]
          unfold rem
          by_cases q : j = a
          · subst q; rw [hsa]; simp
          · rw [decide_eq_false q]; simp
        rw [decide_eq_false (fun w => w hz0), cond_false, e_25_58, an_bit (by omega) (by omega) hsa, inb_n (show s ^^^ 2 ^ a < 16384 by omega) (by decide), cond_true, nI_clamp (by omega), hw, lN_add, e_25_72, nI_1]
        exact ih
      | false =>
        rw [hq] at ih
        rw [decide_eq_true (show ¬ _ = (0 : Int32) from fun w => by
          rw [prB_t (fun j hj => by
            have hj1 := (hin _ _ hj).1
            have := hz.mp w j
            unfold row at this
            have this : ((Nat.blt j 16 && R (j + 1) (a + 1)) && !(s.testBit j)) = false := this
            rw [hj, Nat.blt_eq.mpr (by omega)] at this
            have sj : s.testBit j = true := by simpa using this
            have pj : p.testBit j = false := by
              rw [hp]
              cases e : fre R j with
              | false => simp
              | true => rw [(fre_t e a).2] at hj; cases hj
            rw [sj, pj]; rfl)] at hq
          cases hq), cond_true, e_25_72, nI_1]
        exact ih
theorem c_cnt (hD : Drw n R I) (h14 : n ≤ 14) (hin : In n R) {p : Nat} (hp : ∀ i, p.testBit i = (decide (i < n) && fre R i)) (hpn : p < 2 ^ n) : ∀ r s, s + r = 2 ^ n → p < s → ∀ J : Nat → Nat → Int64,
    (∀ t, t < s → (∀ i, p.testBit i = true → t.testBit i = true) → J 272 t = lN (wT R n p t)) →
    ∃ J' : Nat → Nat → Int64, ex (23, 36, [.ref 265, .int (nI p), .int (nI (2 ^ n - 1)), .int (nI s), dv, dv], [], mm I J D) = ex (23, 66, [.ref 265, .int (nI p), .int (nI (2 ^ n - 1)), dv, dv, dv], [], mm I J' D) ∧ J' 272 (2 ^ n - 1) = lN (wT R n p (2 ^ n - 1))
  | 0, s, h, hs, J, hT => by
    have b14 := p14 h14
    have : s = 2 ^ n := by omega
    subst this
    refine ⟨J, ?_, hT _ (by omega) (fun i hi => ?_)⟩
    · rw [e_23_36, decide_eq_true ((nI_ltI (by omega) (by omega)).mpr (by omega)), cond_true]
    · rw [Nat.testBit_two_pow_sub_one]
      by_cases q : i < n
      · exact decide_eq_true q
      · rw [tb_ge hpn (by omega)] at hi; cases hi
  | r + 1, s, h, hs, J, hT => by
    have b14 := p14 h14
    have e0 : ex (23, 36, [.ref 265, .int (nI p), .int (nI (2 ^ n - 1)), .int (nI s), dv, dv], [], mm I J D) = ex (23, 41, [.ref 265, .int (nI p), .int (nI (2 ^ n - 1)), .int (nI s), dv, dv], [], mm I J D) := by
      rw [e_23_36, decide_eq_false (show ¬ nI (2 ^ n - 1) < nI s from nI_nlt (by omega) (by omega)), cond_false]
    have ha : s &&& p ≤ s := Nat.and_le_left
    by_cases q : s &&& p = p
    · have sub := an_sub.mp q
      have cw := c_wy (J := J) (D := D) hD h14 hin hp hpn (show s < 2 ^ n by omega) sub hT n 0 (by omega)
      have c0 : cntN (fun j => s.testBit j && !(p.testBit j)) n ≠ 0 := fun w => by
        have : s = p := Nat.eq_of_testBit_eq (fun i => by
          by_cases hi : i < n
          · have := cnt_z w hi
            cases e1 : s.testBit i with
            | false =>
              cases e2 : p.testBit i with
              | false => rfl
              | true => rw [sub i e2] at e1; cases e1
            | true =>
              cases e2 : p.testBit i with
              | true => rfl
              | false => rw [e1, e2] at this; cases this
          · rw [tb_ge (show s < 2 ^ n by omega) (by omega), tb_ge hpn (by omega)])
        omega
      rw [← EE_s c0] at cw
      obtain ⟨J', f1, f2⟩ := c_cnt hD h14 hin hp hpn r (s + 1) (by omega) (by omega) (upsL J 272 s (lN (wT R n p s))) (fun t ht hsub => by
        by_cases e : t = s
        · subst e; rw [uJs]
        · rw [uJn (Or.inr e)]; exact hT t (by omega) hsub)
      refine ⟨J', ?_, f2⟩
      rw [e0, e_23_41, nI_and, q, decide_eq_false (fun w => w rfl), cond_false, e_23_48, e_25_0]
      rw [show ex (25, 5, [.ref 265, .int (nI s), .int (nI p), .long 0, dv, .int 1, dv, dv], [], mm I J D) = _ from cw, cal_v]
      show ex (23, 59, [.ref 265, .int (nI p), .int (nI (2 ^ n - 1)), .int (nI s), dv, dv], [.long (lN (wT R n p s)), .int (nI s), .ref 272], mm I J D) = _
      rw [e_23_59, inb_n (show s < 16384 by omega) (by decide), cond_true, nI_clamp (by omega), e_23_60, nI_1]
      exact f1
    · obtain ⟨J', f1, f2⟩ := c_cnt hD h14 hin hp hpn r (s + 1) (by omega) (by omega) J (fun t ht hsub => by
        by_cases e : t = s
        · subst e; exact absurd (an_sub.mpr hsub) q
        · exact hT t (by omega) hsub)
      refine ⟨J', ?_, f2⟩
      rw [e0, e_23_41, nI_and, decide_eq_true (show ¬ nI (s &&& p) = nI p from fun w => q ((nI_eq (by omega) (by omega)).mp w)), cond_true, e_23_60, nI_1]
      exact f1
theorem c_prd {J : Nat → Nat → Int64} (h8 : I 265 8 = nI n) (h14 : n ≤ 14) : ∀ r v, r ≤ n → ex (23, 86, [.ref 265, dv, dv, .long (lN v), dv, .int (nI (n - r + 1))], [], mm I J D) = some (.inl (some (.long (lN (v * prP n r)))), mm I J D)
  | 0, v, h => by
    rw [e_23_86, h8, decide_eq_true ((nI_ltI (by omega) (by omega)).mpr (by omega)), cond_true, e_23_107, show v * prP n 0 = v from Nat.mul_one v]
  | r + 1, v, h => by
    have ih := c_prd (J := J) h8 h14 r (v * (n - r)) (by omega)
    rw [show n - (r + 1) + 1 = n - r by omega, e_23_86, h8, decide_eq_false (show ¬ nI n < nI (n - r) from nI_nlt (by omega) (by omega)), cond_false, e_23_95, nI_l (by omega), lN_mul, nI_1, ih, show prP n (r + 1) = prP n r * (n - r) from rfl, Nat.mul_assoc, Nat.mul_comm (n - r)]
theorem c_ords {J : Nat → Nat → Int64} (hD : Drw n R I) (h14 : n ≤ 14) (hin : In n R) : ∃ J' : Nat → Nat → Int64, ex (23, 0, [.ref 265, dv, dv, dv, dv, dv], [], mm I J D) = some (.inl (some (.long (lN (EE R n (fun j => decide (j < n)))))), mm I J' D) := by
  have b14 := p14 h14
  obtain ⟨v, f1, f2⟩ := c_fre (J := J) (D := D) hD h14 hin n 0 (by omega) 0 (Bt.z.cg (fun i => by simp))
  obtain ⟨p, p1, p2, p3⟩ := f2.nat (fun i hi => by rw [decide_eq_false (by omega)]; rfl)
  subst p2
  have hpn : p < 2 ^ n := by
    refine Nat.lt_pow_two_of_testBit p (fun i hi => ?_)
    rw [p3, decide_eq_false (by omega)]; rfl
  obtain ⟨J', g1, g2⟩ := c_cnt (D := D) hD h14 hin p3 hpn (2 ^ n - (p + 1)) (p + 1) (by omega) (by omega) (upsL J 272 p 1) (fun t ht hs => by
    have : p ≤ t := by
      have := an_sub.mpr hs
      have h2 : t &&& p ≤ t := Nat.and_le_left
      omega
    have : t = p := by omega
    subst this
    rw [uJs]
    unfold wT
    rw [EE_0 (cnt_0 (fun k hk => by simp))]; rfl)
  obtain ⟨k1, k2⟩ := EE_free (R := R) (n := n) n (Nat.le_refl _)
  have hc : cntN (fun i => decide (i < n) && fre R i) 16 = cntN (fre R) n := by
    have := cnt_add (f := fun i => decide (i < n) && fre R i) (m := n) (16 - n)
    rw [show n + (16 - n) = 16 by omega] at this
    rw [this, cnt_0 (f := fun i => decide (n + i < n) && fre R (n + i)) (fun k hk => by rw [decide_eq_false (by omega)]; rfl), Nat.add_zero]
    exact cnt_cg (fun k hk => by rw [decide_eq_true hk]; rfl)
  have hcl : cntN (fre R) n ≤ n := cnt_bd n
  have hw : wT R n p (2 ^ n - 1) = EE R n (fun j => decide (j < n) && !(decide (j < n) && fre R j)) := by
    unfold wT
    congr 1
    funext j
    rw [Nat.testBit_two_pow_sub_one, p3]
  have bc := (f2.cnt (fun i hi => by rw [decide_eq_false (by omega)]; rfl))
  rw [hc] at bc
  refine ⟨J', ?_⟩
  have sh : (1 : Int32) <<< (I 265 8 &&& 31) - 1 = nI (2 ^ n - 1) := by
    rw [hD.1, sh_lit n (by omega), show (1 : Int32) = nI 1 from rfl, nI_sub Nat.one_le_two_pow]
  rw [e_23_0, e_24_0]
  rw [show ex (24, 4, [.ref 265, .int 0, .int 1], [], mm I J D) = _ from f1, cal_v, ka, e_23_4, sh, decide_eq_true (show nI (2 ^ n - 1) < 16384 from (nI_ltI (b := 16384) (by omega) (by omega)).mpr (by omega)), cond_true, e_23_25, inb_n (show p < 16384 by omega) (by decide), cond_true, nI_clamp (by omega), nI_1, g1, e_23_66, inb_n (show 2 ^ n - 1 < 16384 by omega) (by decide), cond_true, nI_clamp (by omega), g2, x_bc, cal_v, ka, e_23_81, hD.1, bc, nI_sub hcl, nI_1, hw, c_prd hD.1 h14 _ _ hcl, k1, Nat.mul_comm]
end OB
