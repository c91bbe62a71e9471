/-! orders, the model's; the turn -/
/-- what the model has added up so far: all that came from sets before s, from s with a layer before a -/
noncomputable def PS (R : Nat → Nat → Bool) (n t s a : Nat) : Nat :=
  if t = 0 then 1 else sN (fun i => if (t.testBit i && prB R (fun j => t.testBit j) i) = true ∧ (t ^^^ 2 ^ i < s ∨ (t ^^^ 2 ^ i = s ∧ i < a)) then EE R n (fun j => (t ^^^ 2 ^ i).testBit j) else 0) n
section OC
variable {R : Nat → Nat → Bool} {n : Nat}
theorem PS_0 {t : Nat} : PS R n t 0 0 = if t = 0 then 1 else 0 := by
  unfold PS
  by_cases q : t = 0
  · rw [if_pos q, if_pos q]
  · rw [if_neg q, if_neg q]
    have : ∀ m, sN (fun i => if (t.testBit i && prB R (fun j => t.testBit j) i) = true ∧ (t ^^^ 2 ^ i < 0 ∨ (t ^^^ 2 ^ i = 0 ∧ i < 0)) then EE R n (fun j => (t ^^^ 2 ^ i).testBit j) else 0) m = 0 := fun m => by
      induction m with
      | zero => rfl
      | succ m ih =>
        show _ + (if _ then _ else _) = 0
        rw [ih, if_neg (by omega)]
    exact this n
theorem PS_e {t s a : Nat} (ht : t < 2 ^ n) (hs : t ≤ s) : PS R n t s a = EE R n (fun j => t.testBit j) := by
  unfold PS
  by_cases q : t = 0
  · rw [if_pos q, EE_0 (cnt_0 (fun k _ => by rw [q]; exact Nat.zero_testBit k))]
  · have c0 : cntN (fun j => t.testBit j) n ≠ 0 := fun w => q (Nat.eq_of_testBit_eq (fun i => by
      rw [Nat.zero_testBit]
      by_cases hi : i < n
      · exact cnt_z w hi
      · exact tb_ge ht (by omega)))
    rw [if_neg q, EE_s c0]
    refine sN_cg (fun i hi => ?_)
    cases e : t.testBit i with
    | false => rw [if_neg (fun w => by cases w.1)]; rfl
    | true =>
      cases e2 : prB R (fun j => t.testBit j) i with
      | false => rw [if_neg (fun w => by cases w.1)]; rfl
      | true => rw [if_pos ⟨rfl, Or.inl (by have := xor_lt e; omega)⟩, xor_rem e]; rfl
theorem PS_n {t s : Nat} : PS R n t s n = PS R n t (s + 1) 0 := by
  unfold PS
  by_cases q : t = 0
  · rw [if_pos q, if_pos q]
  · rw [if_neg q, if_neg q]
    refine sN_cg (fun i hi => ?_)
    by_cases e : (t.testBit i && prB R (fun j => t.testBit j) i) = true ∧ (t ^^^ 2 ^ i < s ∨ (t ^^^ 2 ^ i = s ∧ i < n))
    · rw [if_pos e, if_pos ⟨e.1, Or.inl (by omega)⟩]
    · rw [if_neg e, if_neg (fun w => e ⟨w.1, by omega⟩)]
theorem PS_z {t s a b : Nat} (h : EE R n (fun j => s.testBit j) = 0) : PS R n t s a = PS R n t s b := by
  unfold PS
  by_cases q : t = 0
  · rw [if_pos q, if_pos q]
  · rw [if_neg q, if_neg q]
    refine sN_cg (fun i hi => ?_)
    by_cases e : t ^^^ 2 ^ i = s
    · rw [e, h]
      by_cases e1 : (t.testBit i && prB R (fun j => t.testBit j) i) = true ∧ (s < s ∨ (s = s ∧ i < a))
      · rw [if_pos e1]
        by_cases e2 : (t.testBit i && prB R (fun j => t.testBit j) i) = true ∧ (s < s ∨ (s = s ∧ i < b))
        · rw [if_pos e2]
        · rw [if_neg e2]
      · rw [if_neg e1]
        by_cases e2 : (t.testBit i && prB R (fun j => t.testBit j) i) = true ∧ (s < s ∨ (s = s ∧ i < b))
        · rw [if_pos e2]
        · rw [if_neg e2]
    · by_cases e1 : (t.testBit i && prB R (fun j => t.testBit j) i) = true ∧ t ^^^ 2 ^ i < s
      · rw [if_pos ⟨e1.1, Or.inl e1.2⟩, if_pos ⟨e1.1, Or.inl e1.2⟩]
      · rw [if_neg (fun w => e1 ⟨w.1, by omega⟩), if_neg (fun w => e1 ⟨w.1, by omega⟩)]
theorem PS_s {t s a : Nat} (ha : a < n) : PS R n t s (a + 1) = PS R n t s a + (if t = s ^^^ 2 ^ a ∧ s.testBit a = false ∧ prB R (fun j => t.testBit j) a = true then EE R n (fun j => s.testBit j) else 0) := by
  unfold PS
  by_cases q : t = 0
  · rw [if_pos q, if_pos q, if_neg (fun w => by
      have := xor_gt w.2.1
      omega)]
  · rw [if_neg q, if_neg q]
    have hs := sN_put (f := fun i => if (t.testBit i && prB R (fun j => t.testBit j) i) = true ∧ (t ^^^ 2 ^ i < s ∨ (t ^^^ 2 ^ i = s ∧ i < a + 1)) then EE R n (fun j => (t ^^^ 2 ^ i).testBit j) else 0) (g := fun i => if (t.testBit i && prB R (fun j => t.testBit j) i) = true ∧ (t ^^^ 2 ^ i < s ∨ (t ^^^ 2 ^ i = s ∧ i < a)) then EE R n (fun j => (t ^^^ 2 ^ i).testBit j) else 0)
      (d := if t = s ^^^ 2 ^ a ∧ s.testBit a = false ∧ prB R (fun j => t.testBit j) a = true then EE R n (fun j => s.testBit j) else 0) (x := a)
      (fun i hi => by
        show (if _ then _ else _) = (if _ then _ else _)
        by_cases e : (t.testBit i && prB R (fun j => t.testBit j) i) = true ∧ (t ^^^ 2 ^ i < s ∨ (t ^^^ 2 ^ i = s ∧ i < a))
        · rw [if_pos e, if_pos ⟨e.1, by omega⟩]
        · rw [if_neg e, if_neg (fun w => e ⟨w.1, by omega⟩)])
      (by
        show (if _ then _ else _) = (if _ then _ else _) + (if _ then _ else _)
        by_cases e : t = s ^^^ 2 ^ a ∧ s.testBit a = false ∧ prB R (fun j => t.testBit j) a = true
        · have e1 : t ^^^ 2 ^ a = s := by rw [e.1, xor_xor]
          have e2 : t.testBit a = true := by rw [e.1, tb_xor, e.2.1]; simp
          rw [if_pos e, if_pos ⟨by rw [e2, e.2.2]; rfl, Or.inr ⟨e1, by omega⟩⟩, if_neg (fun w => by omega), e1, Nat.zero_add]
        · rw [if_neg e]
          by_cases e1 : (t.testBit a && prB R (fun j => t.testBit j) a) = true ∧ (t ^^^ 2 ^ a < s ∨ (t ^^^ 2 ^ a = s ∧ a < a))
          · rw [if_pos e1, if_pos ⟨e1.1, by omega⟩]; omega
          · rw [if_neg e1, if_neg (fun w => by
              have w1 := w.1
              rw [Bool.and_eq_true] at w1
              by_cases e3 : t ^^^ 2 ^ a = s
              · refine e ⟨by rw [← e3, xor_xor], by rw [← e3, tb_xor, w1.1]; simp, w1.2⟩
              · exact e1 ⟨w.1, by omega⟩)])
      (n := n)
    rw [if_pos ha] at hs
    exact hs
variable {I : Nat → Nat → Int32} {D : Nat → Nat → UInt64}
theorem m_oin (h14 : n ≤ 14) : ∀ r k, k + r = 2 ^ n → ∀ J : Nat → Nat → Int64, (∀ t, t < k → J 327 t = lN (PS R n t 0 0)) →
    ∃ J' : Nat → Nat → Int64, ex (195, 41, [.ref 316, .int (nI (2 ^ n)), .int (nI k), dv], [], mm I J D) = ex (195, 67, [.ref 316, .int (nI (2 ^ n)), dv, dv], [], mm I J' D) ∧ (∀ t, t < 2 ^ n → J' 327 t = lN (PS R n t 0 0)) ∧ ∀ y, J' 335 y = J 335 y
  | 0, k, h, J, hJ => by
    have b14 := p14 h14
    have : k = 2 ^ n := by omega
    subst this
    exact ⟨J, by rw [e_195_41, decide_eq_true ((nI_leI (by omega) (by omega)).mpr (Nat.le_refl _)), cond_true], hJ, fun _ => rfl⟩
  | r + 1, k, h, J, hJ => by
    have b14 := p14 h14
    obtain ⟨J', f1, f2, f3⟩ := m_oin h14 r (k + 1) (by omega) (upsL J 327 k (lN (PS R n k 0 0))) (fun t ht => by
      by_cases e : t = k
      · subst e; rw [uJs]
      · rw [uJn (Or.inr e)]; exact hJ t (by omega))
    refine ⟨J', ?_, f2, fun y => by rw [f3, uJn (Or.inl (by decide))]⟩
    rw [PS_0] at f1
    rw [e_195_41, decide_eq_false (show ¬ nI (2 ^ n) ≤ nI k from nI_ge (by omega) (by omega)), cond_false, e_195_46]
    by_cases q : k = 0
    · subst q
      rw [if_pos rfl] at f1
      rw [decide_eq_false (fun w => w rfl), cond_false, e_195_55, e_195_60, inb_n (show 0 < 16384 by omega) (by decide), cond_true, nI_clamp (by omega), nI_1]
      exact f1
    · rw [if_neg q] at f1
      rw [decide_eq_true (show ¬ nI k = 0 from fun w => q ((nI_eq (b := 0) (by omega) (by omega)).mp w)), cond_true, e_195_59, e_195_60, inb_n (show k < 16384 by omega) (by decide), cond_true, nI_clamp (by omega), nI_1]
      exact f1
theorem m_ob (hin : In n R) {rk : Nat → Nat} (hr : ∀ a b, R a b = true → rk a < rk b) (h14 : n ≤ 14) (hw : I 317 0 = nI n) (hA : AbF (I 324) R) {s : Nat} (hs : s < 2 ^ n) : ∀ r a, a + r = n → ∀ J : Nat → Nat → Int64, (∀ t, t < 2 ^ n → J 327 t = lN (PS R n t s a)) →
    ∃ J' : Nat → Nat → Int64, ex (195, 76, [.ref 316, .int (nI (2 ^ n)), .int (nI s), .int (nI (a + 1))], [], mm I J D) = ex (195, 133, [.ref 316, .int (nI (2 ^ n)), .int (nI s), dv], [], mm I J' D) ∧ (∀ t, t < 2 ^ n → J' 327 t = lN (PS R n t (s + 1) 0)) ∧ ∀ y, J' 335 y = J 335 y
  | 0, a, h, J, hJ => by
    have : a = n := by omega
    subst this
    exact ⟨J, by rw [e_195_76, hw, decide_eq_true ((nI_ltI (by omega) (by omega)).mpr (by omega)), cond_true], fun t ht => by rw [hJ t ht, PS_n], fun _ => rfl⟩
  | r + 1, a, h, J, hJ => by
    have b14 := p14 h14
    have ej : J 327 s = lN (EE R n (fun j => s.testBit j)) := by rw [hJ s hs, PS_e hs (Nat.le_refl _)]
    have hlt := EE_lt (R := R) (n := n) h14 (f := fun j => s.testBit j)
    have le0 : lg_cmp (lN (EE R n (fun j => s.testBit j))) 0 ≤ 0 ↔ EE R n (fun j => s.testBit j) = 0 := by
      rw [lgc_le, Int64.le_iff_toInt_le, lB hlt]
      show (_ : Int) ≤ (lN 0).toInt ↔ _
      rw [lB (by decide)]
      omega
    have e0 : ∀ J : Nat → Nat → Int64, ex (195, 76, [.ref 316, .int (nI (2 ^ n)), .int (nI s), .int (nI (a + 1))], [], mm I J D) = ex (195, 86, [.ref 316, .int (nI (2 ^ n)), .int (nI s), .int (nI (a + 1))], [], mm I J D) := fun J => by
      rw [e_195_76, hw, decide_eq_false (show ¬ nI n < nI (a + 1) from nI_nlt (by omega) (by omega)), cond_false]
    by_cases q : EE R n (fun j => s.testBit j) = 0
    · refine ⟨J, ?_, fun t ht => by rw [hJ t ht, PS_z (b := n) q, PS_n], fun _ => rfl⟩
      rw [e0, e_195_86, inb_n (show s < 16384 by omega) (by decide), cond_true, nI_clamp (by omega), ej, decide_eq_true (le0.mpr q), cond_true]
    · have bt : Bt (nI s) (sbt (fun x => s.testBit (x - 1))) := (Bt.n (v := s) (by omega)).cg (fun i => by
        unfold sbt
        rw [bl16]
        by_cases hi : i < 16
        · rw [decide_eq_true hi]; rfl
        · rw [decide_eq_false hi, tb_ge hs (by omega)]; rfl)
      obtain ⟨z, g1, g2⟩ := m_rdy0 (J := J) (D := D) hin (by omega) hw hA bt (a := a + 1) (by omega)
      have e1 : ex (195, 76, [.ref 316, .int (nI (2 ^ n)), .int (nI s), .int (nI (a + 1))], [], mm I J D) = ex (195, 103, [.ref 316, .int (nI (2 ^ n)), .int (nI s), .int (nI (a + 1))], [.int z], mm I J D) := by
        rw [e0, e_195_86, inb_n (show s < 16384 by omega) (by decide), cond_true, nI_clamp (by omega), ej, decide_eq_false (fun w => q (le0.mp w)), cond_false, e_195_97, g1, cal_v, ka]
      have irr : R (a + 1) (a + 1) = false := by
        cases e : R (a + 1) (a + 1) with
        | false => rfl
        | true => have := hr _ _ e; omega
      rcases g2 with ⟨rfl, g3⟩ | ⟨rfl, g3⟩
      · have sa : s.testBit a = false := g3.1
        have hx := xor_bd hs (show a < n by omega)
        have hgt := xor_gt sa
        have pr : prB R (fun j => (s ^^^ 2 ^ a).testBit j) a = true := prB_t (fun j hj => by
          have : s.testBit j = true := g3.2 (j + 1) hj
          rw [tb_xor, this, decide_eq_false (fun w => by subst w; rw [sa] at this; cases this)]; rfl)
        obtain ⟨J', f1, f2, f3⟩ := m_ob hin hr h14 hw hA hs r (a + 1) (by omega) (upsL J 327 (s ^^^ 2 ^ a) (J 327 (s ^^^ 2 ^ a) + J 327 s)) (fun t ht => by
          rw [PS_s (show a < n by omega)]
          by_cases e : t = s ^^^ 2 ^ a
          · subst e
            rw [uJs, if_pos ⟨rfl, sa, pr⟩, hJ _ hx, ej, lN_add]
          · rw [uJn (Or.inr e), if_neg (fun w => e w.1), hJ t ht, Nat.add_zero])
        refine ⟨J', ?_, f2, fun y => by rw [f3, uJn (Or.inl (by decide))]⟩
        rw [e1, e_195_103, decide_eq_false (show ¬ (1 : Int32) = 0 by decide), cond_false, e_195_106, or_bit (by omega) (by omega) sa, inb_n (show s ^^^ 2 ^ a < 16384 by omega) (by decide), cond_true, inb_n (show s < 16384 by omega) (by decide), cond_true, cond_true, nI_clamp (by omega), nI_clamp (by omega), e_195_127, nI_1]
        exact f1
      · obtain ⟨J', f1, f2, f3⟩ := m_ob hin hr h14 hw hA hs r (a + 1) (by omega) J (fun t ht => by
          rw [PS_s (show a < n by omega), if_neg (fun w => g3 ⟨w.2.1, fun c hc => by
            obtain ⟨w1, w2, w3⟩ := w
            have hc1 := (hin _ _ hc).1
            unfold prB at w3
            have w4 := @of_decide_eq_true _ (Classical.propDecidable _) w3 (c - 1) (by rw [show c - 1 + 1 = c by omega]; exact hc)
            have w4 : t.testBit (c - 1) = true := w4
            rw [w1, tb_xor, decide_eq_false (fun e => by
              have : c = a + 1 := by omega
              subst this
              rw [irr] at hc; cases hc)] at w4
            simpa using w4⟩), hJ t ht, Nat.add_zero])
        refine ⟨J', ?_, f2, f3⟩
        rw [e1, e_195_103, decide_eq_true rfl, cond_true, e_195_127, nI_1]
        exact f1
theorem m_oa (hin : In n R) {rk : Nat → Nat} (hr : ∀ a b, R a b = true → rk a < rk b) (h14 : n ≤ 14) (hw : I 317 0 = nI n) (hA : AbF (I 324) R) : ∀ r s, s + r = 2 ^ n → ∀ J : Nat → Nat → Int64, (∀ t, t < 2 ^ n → J 327 t = lN (PS R n t s 0)) →
    ∃ J' : Nat → Nat → Int64, ex (195, 69, [.ref 316, .int (nI (2 ^ n)), .int (nI s), dv], [], mm I J D) = some (.inl (some (.long (lN (EE R n (fun j => decide (j < n)))))), mm I J' D) ∧ ∀ y, J' 335 y = J 335 y
  | 0, s, h, J, hJ => by
    have b14 := p14 h14
    have b1 : 1 ≤ 2 ^ n := Nat.one_le_two_pow
    have : s = 2 ^ n := by omega
    subst this
    refine ⟨J, ?_, fun _ => rfl⟩
    have e : (fun j => (2 ^ n - 1).testBit j) = fun j => decide (j < n) := by funext j; rw [Nat.testBit_two_pow_sub_one]
    rw [e_195_69, decide_eq_true ((nI_leI (by omega) (by omega)).mpr (Nat.le_refl _)), cond_true, e_195_139, show (1 : Int32) = nI 1 from rfl, nI_sub b1, inb_n (show 2 ^ n - 1 < 16384 by omega) (by decide), cond_true, nI_clamp (by omega), hJ _ (by omega), PS_e (by omega) (by omega), e]
  | r + 1, s, h, J, hJ => by
    have b14 := p14 h14
    obtain ⟨J1, f1, f2, f3⟩ := m_ob (J := J) (D := D) hin hr h14 hw hA (show s < 2 ^ n by omega) n 0 (by omega) hJ
    obtain ⟨J2, g1, g2⟩ := m_oa hin hr h14 hw hA r (s + 1) (by omega) J1 f2
    refine ⟨J2, ?_, fun y => by rw [g2, f3]⟩
    rw [e_195_69, decide_eq_false (show ¬ nI (2 ^ n) ≤ nI s from nI_ge (by omega) (by omega)), cond_false, e_195_74]
    refine (show ex (195, 76, [.ref 316, .int (nI (2 ^ n)), .int (nI s), .int 1], [], mm I J D) = _ from f1).trans ?_
    rw [e_195_133, nI_1]
    exact g1
end OC
theorem t_16 {L kk : Nat} {I : Nat → Nat → Int32} {J : Nat → Nat → Int64} {D : Nat → Nat → UInt64} (v : Int32) (h : Inv L kk I J D) : Turn L kk 1098 v I J D := by
  obtain ⟨n, h16, c8, w0, hin, hT, hW, hr⟩ := inv_pil h.2.1
  obtain ⟨rk, hr⟩ := clo_rank hr
  have hin2 : In n (clo (TI I)) := wsh_in hin 16
  by_cases h14 : n ≤ 14
  · have b14 := p14 h14
    obtain ⟨I1, d1, d2, d3⟩ := c_draw (J := J) (D := D) c8 h16 hin hT
    obtain ⟨J1, o1⟩ := c_ords (J := J) (D := D) d3 h14 hin2 (fun a => by
      cases e : clo (TI I) a a with
      | false => rfl
      | true => have := hr _ _ e; omega)
    have w1 : I1 317 = I 317 := d2 317 (by decide) (by decide) (by decide) (by decide)
    obtain ⟨r, er⟩ : ∃ r, r = lN (EE (clo (TI I)) n (fun j => decide (j < n))) := ⟨_, rfl⟩
    rw [← er] at o1
    obtain ⟨F, f1, f2⟩ := m_abv (I := ups I1 316 0 0) (J := upsL J1 335 0 r) (D := D) hin (by rw [uI (by decide), w1]; exact hW)
    have wn : upR (ups I1 316 0 0) 324 F 317 0 = nI n := by rw [uR (by decide), uI (by decide), w1, w0]
    obtain ⟨J2, g1, g2, g3⟩ := m_oin (R := clo (TI I)) (I := upR (ups I1 316 0 0) 324 F) (D := D) h14 (2 ^ n) 0 (by omega) (upsL J1 335 0 r) (fun t ht => by omega)
    obtain ⟨J3, k1, k2⟩ := m_oa (I := upR (ups I1 316 0 0) 324 F) (D := D) hin2 hr h14 wn (by rw [uRs]; exact f2) (2 ^ n) 0 (by omega) J2 g2
    refine tk_16 (r := r) (I1 := I1) (J1 := J1) (D1 := D) (I2 := upR (ups I1 316 0 0) 324 F) (J2 := J3) (D2 := D) ?_ ?_ ?_ ?_ ?_ ?_ ?_
    · rw [e_106_0, c8, decide_eq_true (show nI n ≤ 14 from (nI_leI (b := 14) (by omega) (by omega)).mpr h14), cond_true, e_106_25, d1, cal_v, krw _, e_106_29, o1, cal_v]
      exact e_106_32 _ _ _ _
    · rw [d2 iSCL (by decide) (by decide) (by decide) (by decide)]
    · rw [d2 1000002 (by decide) (by decide) (by decide) (by decide)]
    · rw [e_195_0, w1, w0, decide_eq_false (show ¬ (14 : Int32) < nI n from nI_nlt (a := 14) h14 (by omega)), cond_false, e_195_12, e_195_17, x_canT, cal_v, ka, e_195_21, d11, cond_true, e_195_26, f1, cal_v, kn, e_195_30, wn, sh_lit n (by omega)]
      refine (show ex (195, 41, [.ref 316, .int (nI (2 ^ n)), .int 0, dv], [], mm (upR (ups I1 316 0 0) 324 F) (upsL J1 335 0 r) D) = _ from g1).trans ?_
      rw [e_195_67, er]
      exact k1
    · rw [uR (by decide), uIs, uUs]
    · rw [k2, g3, uJs]
    · exact inv_st h (((Same.o d2).tr Same.r).tr (Same.R (by decide)))
  · refine te_16_0 (s := 0) (I1 := I) (J1 := J) (D1 := D) (I2 := ups I 316 0 1) (J2 := J) (D2 := D) ?_ rfl rfl ?_ ?_ (inv_r h)
    · rw [e_106_0, c8, decide_eq_false (show ¬ nI n ≤ 14 from nI_ge (a := 14) (by omega) (by omega)), cond_false, e_106_15]
    · rw [e_195_0, w0, decide_eq_true (show (14 : Int32) < nI n from (nI_ltI (a := 14) (by omega) (by omega)).mpr (by omega)), cond_true, e_195_16, e_195_17, x_canF, cal_v, ka, e_195_21, d01, cond_false, e_195_24]
    · rw [uIs, uUs]
