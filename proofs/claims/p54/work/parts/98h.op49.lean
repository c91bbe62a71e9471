/-! aboveShare -/
def pnN (W : Nat → Nat → Bool) : Nat → Nat
  | 0 => 0
  | m + 1 => pnN W m + cntN (row W (m + 1)) 16
theorem pn_row {n : Nat} {W : Nat → Nat → Bool} (hin : In n W) : ∀ a, cntN (fun t => W (t / 17) (t % 17)) (17 * (a + 1)) = pnN W a
  | 0 => cnt_0 (fun k hk => by
      show W (k / 17) (k % 17) = false
      rw [show k / 17 = 0 by omega]
      exact hin.f (by omega))
  | a + 1 => by
    rw [show 17 * (a + 1 + 1) = 17 * (a + 1) + 17 by omega, cnt_add, pn_row hin a]
    show _ = pnN W a + cntN (row W (a + 1)) 16
    rw [cnt_sh 16]
    have e0 : ∀ b, b < 17 → W ((17 * (a + 1) + b) / 17) ((17 * (a + 1) + b) % 17) = W (a + 1) b := fun b hb => by
      rw [show (17 * (a + 1) + b) / 17 = a + 1 by omega, show (17 * (a + 1) + b) % 17 = b by omega]
    have h0 : W ((17 * (a + 1) + 0) / 17) ((17 * (a + 1) + 0) % 17) = false := by rw [e0 0 (by decide)]; exact hin.f (by omega)
    show _ + ((bif W ((17 * (a + 1) + 0) / 17) ((17 * (a + 1) + 0) % 17) then 1 else 0) + cntN (fun i => W ((17 * (a + 1) + (i + 1)) / 17) ((17 * (a + 1) + (i + 1)) % 17)) 16) = _
    rw [h0, cnt_cg (f := fun i => W ((17 * (a + 1) + (i + 1)) / 17) ((17 * (a + 1) + (i + 1)) % 17)) (g := row W (a + 1)) (fun k hk => by
      show W ((17 * (a + 1) + (k + 1)) / 17) ((17 * (a + 1) + (k + 1)) % 17) = _
      rw [e0 (k + 1) (by omega)]; unfold row; rw [bl16, decide_eq_true hk]; rfl)]
    show pnN W a + (0 + _) = _
    rw [Nat.zero_add]
theorem pn_n {n : Nat} {W : Nat → Nat → Bool} (h : In n W) : ∀ d, pnN W (n + d) = pnN W n
  | 0 => rfl
  | d + 1 => by
    show pnN W (n + d) + cntN (row W (n + d + 1)) 16 = _
    rw [pn_n h d, cnt_0 (f := row W (n + d + 1)) (fun k _ => by unfold row; rw [h.f (by omega), Bool.and_false])]; rfl
theorem pn_bd {W : Nat → Nat → Bool} : ∀ m, pnN W m ≤ 16 * m
  | 0 => Nat.le_refl _
  | m + 1 => by
    have := pn_bd (W := W) m
    have := cnt_bd (f := row W (m + 1)) 16
    show pnN W m + _ ≤ _
    omega
def shr_ok (m n : Nat) : Bool := ok32 (FP.fdiv (FP.i2f (nI m)) (FP.i2f (nI (n * (n - 1) / 2)))) && ok64 (FP.f2d (FP.fdiv (FP.i2f (nI m)) (FP.i2f (nI (n * (n - 1) / 2)))))
def shr1 (n : Nat) : Nat → Bool
  | 0 => true
  | m + 1 => shr_ok m n && shr1 n m
def shr2 : Nat → Bool
  | 0 => true
  | n + 1 => (Nat.blt n 2 || shr1 n 257) && shr2 n
theorem shr2_ok : shr2 17 = true := by decide +kernel
theorem shr1_at {n : Nat} : ∀ {k : Nat}, shr1 n k = true → ∀ m, m < k → shr_ok m n = true
  | k + 1, e, m, hm => by
    have e' : (shr_ok k n && shr1 n k) = true := e
    rw [Bool.and_eq_true] at e'
    by_cases q : m = k
    · subst q; exact e'.1
    · exact shr1_at e'.2 m (by omega)
theorem shr2_at : ∀ {k : Nat}, shr2 k = true → ∀ n, n < k → 2 ≤ n → shr1 n 257 = true
  | k + 1, e, n, hn, h2 => by
    have e' : ((Nat.blt k 2 || shr1 k 257) && shr2 k) = true := e
    rw [Bool.and_eq_true, Bool.or_eq_true, Nat.blt_eq] at e'
    by_cases q : n = k
    · subst q
      rcases e'.1 with w | w
      · omega
      · exact w
    · exact shr2_at e'.2 n (by omega) h2
theorem shr_at {m n : Nat} (hm : m ≤ 256) (h2 : 2 ≤ n) (hn : n ≤ 16) : shr_ok m n = true := shr1_at (shr2_at shr2_ok n (by omega) h2) m (by omega)
theorem prs : ∀ n, n < 17 → (nI n * (nI n - 1)) / 2 = nI (n * (n - 1) / 2) := by decide
theorem prs0 : ∀ n, n < 17 → (nI (n * (n - 1) / 2) = 0 ↔ n < 2) := by decide
section AS
variable {I : Nat → Nat → Int32} {J : Nat → Nat → Int64} {D : Nat → Nat → UInt64}
theorem c_pn1 {n : Nat} {R : Nat → Nat → Bool} (h : Drw n R I) (h16 : n ≤ 16) : ∀ r k, k + r = n → ex (18, 4, [.ref 265, .ref 266, .int (nI (pnN R k)), .int (nI (k + 1))], [], mm I J D) = some (.inl (some (.int (nI (pnN R n)))), mm I J D)
  | 0, k, hk => by
    have : k = n := by omega
    subst this
    rw [e_18_4_265x266, h.1, decide_eq_true ((nI_ltI (by omega) (by omega)).mpr (by omega)), cond_true, e_18_27]
  | r + 1, k, hk => by
    have ih := c_pn1 h h16 r (k + 1) (by omega)
    rw [e_18_4_265x266, h.1, decide_eq_false (show ¬ nI n < nI (k + 1) from nI_nlt (by omega) (by omega)), cond_false, e_18_12_265x266, inb_n (show k + 1 < 17 by omega) (by decide), cond_true, nI_clamp (by omega), x_bc, (h.2.1 (k + 1) (by omega)).cnt row_16, cal_v, ka, e_18_19_265x266, nI_add, nI_1]
    exact ih
theorem c_pairs {n : Nat} {R : Nat → Nat → Bool} (h : Drw n R I) (h16 : n ≤ 16) : ex (17, 0, [.ref 265], [], mm I J D) = some (.inl (some (.int (nI (pnN R n)))), mm I J D) := by
  rw [e_17_0, e_18_0_265x266]
  rw [show ex (18, 4, [.ref 265, .ref 266, .int 0, .int 1], [], mm I J D) = _ from c_pn1 h h16 n 0 (by omega), cal_v, ka, e_17_8]
theorem m_pn {R : Nat → Nat → Bool} (h : AbF (I 324) R) : ∀ r k, k + r = 289 → ex (267, 13, [.ref 316, .int (nI (cntN (fun t => R (t / 17) (t % 17)) k)), .int (nI k)], [], mm I J D) = ex (267, 43, [.ref 316, .int (nI (cntN (fun t => R (t / 17) (t % 17)) 289)), dv], [], mm I J D)
  | 0, k, hk => by
    have : k = 289 := by omega
    subst this
    rw [e_267_13, decide_eq_true (show (289 : Int32) ≤ nI 289 by decide), cond_true]
  | r + 1, k, hk => by
    have ih := m_pn h r (k + 1) (by omega)
    have hs : cntN (fun t => R (t / 17) (t % 17)) (k + 1) = cntN (fun t => R (t / 17) (t % 17)) k + (bif R (k / 17) (k % 17) then 1 else 0) := rfl
    have e := h (k / 17) (k % 17) (by omega) (by omega)
    rw [show 17 * (k / 17) + k % 17 = k by omega] at e
    rw [hs] at ih
    rw [e_267_13, decide_eq_false (show ¬ (289 : Int32) ≤ nI k from nI_ge (a := k) (b := 289) (by omega) (by decide)), cond_false, e_267_20, inb_n (show k < 289 by omega) (by decide), cond_true, nI_clamp (by omega), e]
    cases hr : R (k / 17) (k % 17) with
    | false =>
      rw [hr] at ih
      rw [decide_eq_true (show b2i false = 0 by decide), cond_true, e_267_34, e_267_35, nI_1, show (0 : Int32) = nI 0 from rfl, nI_add]
      exact ih
    | true =>
      rw [hr] at ih
      rw [decide_eq_false (show ¬ b2i true = 0 by decide), cond_false, e_267_30, e_267_35, nI_1, nI_1]
      exact ih
end AS

theorem t_49 {L kk : Nat} {I : Nat → Nat → Int32} {J : Nat → Nat → Int64} {D : Nat → Nat → UInt64} (v : Int32) (h : Inv L kk I J D) : Turn L kk 3055 v I J D := by
  obtain ⟨n, h16, c8, w0, hin, hT, hW, hr⟩ := inv_pil h.2.1
  have hin2 : In n (clo (TI I)) := wsh_in hin 16
  have en : pnN (clo (TI I)) 16 = pnN (clo (TI I)) n := by
    have := pn_n hin2 (16 - n)
    rw [show n + (16 - n) = 16 by omega] at this
    exact this
  have cnt : cntN (fun t => clo (TI I) (t / 17) (t % 17)) 289 = pnN (clo (TI I)) 16 := pn_row hin2 16
  have bd := pn_bd (W := clo (TI I)) 16
  obtain ⟨m, hm⟩ : ∃ m, m = pnN (clo (TI I)) 16 := ⟨_, rfl⟩
  rw [← hm] at en cnt bd
  -- the law's rows, once both answers are the same
  have law : ∀ (r : UInt32) (I1 I2 : Nat → Nat → Int32) (J2 : Nat → Nat → Int64), ok64 (FP.f2d r) = true → ex (139, 0, [.ref 0, dv, dv], [], mm I J D) = some (.inl (some (.float r)), mm I1 J D) → ex (267, 0, [.ref 316, dv, dv], [], mm I1 J D) = some (.inl (some (.float r)), mm I2 J2 D) → Inv L (kk + 1) I2 J2 D → Turn L kk 3055 v I J D := by
    intro r I1 I2 J2 ok e1 e2 hi
    refine ⟨I2, J2, D, (e_309_3055 I J D v).trans ?_, hi⟩
    rw [e1, cal_v]
    refine (e_309_3059 _ _ _ v r).trans ?_
    rw [ok, cond_true, e2, cal_v]
    refine (e_309_3066 _ _ _ v _ r).trans ?_
    rw [ok, cond_true]
    by_cases hc : (Op.cmpValue (FP.dcmp (FP.f2d r) (FP.f2d r)) .l) = 0
    · rw [decide_eq_true hc, cond_true]
      refine (e_309_3095 _ _ _ v).trans ?_
      exact e_309_3111 _ _ _ v
    · rw [decide_eq_false hc, cond_false]
      refine (e_309_3077 _ _ _ v _ _).trans ?_
      rw [decide_eq_false hc, cond_false]
      refine (e_309_3085 _ _ _ v _).trans ?_
      rw [decide_eq_true hc, cond_true]
      refine (e_309_3095 _ _ _ v).trans ?_
      exact e_309_3111 _ _ _ v
  by_cases h2 : 2 ≤ n
  · obtain ⟨I1, d1, d2, d3⟩ := c_draw (J := J) (D := D) c8 h16 hin hT
    have w1 : I1 317 = I 317 := d2 317 (by decide) (by decide) (by decide) (by decide)
    have cp := c_pairs (J := J) (D := D) d3 h16
    rw [← en] at cp
    obtain ⟨F, f1, f2⟩ := m_abv (I := ups I1 316 0 0) (J := J) (D := D) hin (by rw [uI (by decide), w1]; exact hW)
    have mp := m_pn (I := upR (ups I1 316 0 0) 324 F) (J := J) (D := D) (by rw [uRs]; exact f2) 289 0 (by omega)
    rw [cnt] at mp
    have ok := shr_at (m := m) (n := n) (by omega) h2 h16
    unfold shr_ok at ok
    rw [Bool.and_eq_true] at ok
    have p0 : nI (n * (n - 1) / 2) ≠ 0 := fun w => by have := (prs0 n (by omega)).mp w; omega
    refine law (FP.fdiv (FP.i2f (nI m)) (FP.i2f (nI (n * (n - 1) / 2)))) I1 (upR (ups I1 316 0 0) 324 F) J ok.2 ?_ ?_ (inv_st h (((Same.o d2).tr Same.r).tr (Same.R (by decide))))
    · rw [e_139_0, c8, decide_eq_true (show (2 : Int32) ≤ nI n from (nI_leI (a := 2) (by decide) (by omega)).mpr h2), cond_true, e_139_18, d1, cal_v, krw _, e_139_30, cp, cal_v, ka, e_139_33, prs n (by omega), ok.1, cond_true]
    · rw [e_267_0, f1, cal_v, kn, e_267_9]
      refine (show ex (267, 13, [.ref 316, .int 0, .int 0], [], mm (upR (ups I1 316 0 0) 324 F) J D) = _ from mp).trans ?_
      rw [e_267_43, uR (by decide), uI (by decide), w1, w0, prs n (by omega), decide_eq_true p0, cond_true, e_267_69, ok.1, cond_true, e_267_74]
  · obtain ⟨F, f1, f2⟩ := m_abv (I := ups I 316 0 0) (J := J) (D := D) hin (by rw [uI (by decide)]; exact hW)
    have mp := m_pn (I := upR (ups I 316 0 0) 324 F) (J := J) (D := D) (by rw [uRs]; exact f2) 289 0 (by omega)
    have p0 : nI (n * (n - 1) / 2) = 0 := (prs0 n (by omega)).mpr (by omega)
    refine law FP.fconst0 I (upR (ups I 316 0 0) 324 F) J (by decide +kernel) ?_ ?_ (inv_st h (Same.r.tr (Same.R (by decide))))
    · rw [e_139_0, c8, decide_eq_false (show ¬ (2 : Int32) ≤ nI n from nI_ge (b := 2) (by omega) (by decide)), cond_false, e_139_16]
    · rw [e_267_0, f1, cal_v, kn, e_267_9]
      refine (show ex (267, 13, [.ref 316, .int 0, .int 0], [], mm (upR (ups I 316 0 0) 324 F) J D) = _ from mp).trans ?_
      rw [e_267_43, uR (by decide), uI (by decide), w0, prs n (by omega), decide_eq_false (fun w => w p0), cond_false, e_267_65, e_267_74]
