/-! errors: none -/
theorem dr_s {R : Nat → Nat → Bool} {a b : Nat} (h : dr R a b = true) : R a b = true := by
  unfold dr at h
  rw [Bool.and_eq_true] at h
  exact h.1
theorem orB_of {f : Nat → Bool} : ∀ {m : Nat}, orB f m = true → ∃ k, (1 ≤ k ∧ k ≤ m) ∧ f k = true
  | m + 1, h => by
    have h : (orB f m || f (m + 1)) = true := h
    rw [Bool.or_eq_true] at h
    rcases h with h | h
    · obtain ⟨k, h1, h2⟩ := orB_of h
      exact ⟨k, by omega, h2⟩
    · exact ⟨m + 1, by omega, h⟩
theorem wsh_in_tr {T R : Nat → Nat → Bool} (hs : ∀ a b, T a b = true → R a b = true) (ht : ∀ a j b, R a j = true → R j b = true → R a b = true) : ∀ k a b, wsh T k a b = true → R a b = true
  | 0, a, b, e => hs a b e
  | k + 1, a, b, e => by
    have e' : wst (k + 1) (wsh T k) a b = true := e
    unfold wst at e'
    rw [Bool.or_eq_true, Bool.and_eq_true] at e'
    rcases e' with e | ⟨e1, e2⟩
    · exact wsh_in_tr hs ht k a b e
    · exact ht a _ b (wsh_in_tr hs ht k a _ e1) (wsh_in_tr hs ht k _ b e2)
/-- the lines alone say all -/
theorem clo_dr {n : Nat} {R : Nat → Nat → Bool} {r : Nat → Nat} (hin : In n R) (hn : n ≤ 16) (ht : ∀ a j b, R a j = true → R j b = true → R a b = true) (hr : ∀ a b, R a b = true → r a < r b) : clo (dr R) = R := by
  have up : ∀ m a b, r b - r a ≤ m → R a b = true → clo (dr R) a b = true := by
    intro m
    induction m with
    | zero => intro a b hm e; have := hr a b e; omega
    | succ m ih =>
      intro a b hm e
      cases hd : dr R a b with
      | true => exact wsh_sub hd 16
      | false =>
        have ho : orB (btw R a b) 16 = true := by
          unfold dr at hd
          rw [e, Bool.true_and] at hd
          simpa using hd
        obtain ⟨c, hc, h2⟩ := orB_of ho
        unfold btw at h2
        rw [Bool.and_eq_true] at h2
        have r1 := hr a c h2.1
        have r2 := hr c b h2.2
        exact clo_tr (dr_in hin) hn (ih a c (by omega) h2.1) (ih c b (by omega) h2.2)
  funext a b
  cases e : R a b with
  | true => exact up _ a b (Nat.le_refl _) e
  | false =>
    cases e2 : clo (dr R) a b with
    | false => rfl
    | true => rw [wsh_in_tr (R := R) (fun a b h => dr_s h) ht 16 a b e2] at e; cases e
def RwN (n : Nat) (F : Nat → Int32) (W : Nat → Nat → Bool) : Prop := ∀ a, 1 ≤ a → a ≤ n → Bt (F a) (row W a)
theorem mixN_s {n k a : Nat} {W : Nat → Nat → Bool} {F : Nat → Int32} {y : Int32} (h : RwN n F (mix k a W)) (hy : Bt y (row (wst k W) a)) : RwN n (upd F a y) (mix k (a + 1) W) := fun x h1 hx => by
  by_cases q : x = a
  · subst q
    rw [uUs, row_e (b := x) (W2 := wst k W) (by unfold mix; rw [if_pos (by omega)])]
    exact hy
  · rw [uU q, row_e (b := x) (W2 := mix k a W) ?_]
    · exact h x h1 hx
    · unfold mix
      by_cases q2 : x < a
      · rw [if_pos q2, if_pos (by omega)]
      · rw [if_neg q2, if_neg (by omega)]
theorem mixN_n {n k a : Nat} {W : Nat → Nat → Bool} {F : Nat → Int32} (h : RwN n F (mix k a W)) (hk : W a k = false) : RwN n F (mix k (a + 1) W) := fun x h1 hx => by
  rw [row_e (b := x) (W2 := mix k a W) ?_]
  · exact h x h1 hx
  · unfold mix
    by_cases q : x = a
    · subst q; rw [if_pos (by omega), if_neg (by omega), wst_row hk]
    · by_cases q2 : x < a
      · rw [if_pos q2, if_pos (by omega)]
      · rw [if_neg q2, if_neg (by omega)]
section EN
variable {I : Nat → Nat → Int32} {J : Nat → Nat → Int64} {D : Nat → Nat → UInt64}
theorem n_clA {n : Nat} (hn : I 265 8 = nI n) (h16 : n ≤ 16) {W : Nat → Nat → Bool} (hin : In n W) {k : Nat} (hk1 : 1 ≤ k) (hk : k ≤ n) : ∀ r a, a + r = n + 1 → 1 ≤ a → ∀ F, RwN n F (mix k a W) →
    ∃ F', ex (14, 12, [.ref 265, .ref 269, .int (nI k), .int (nI a)], [], mm (upR I 269 F) J D) = ex (14, 46, [.ref 265, .ref 269, .int (nI k), dv], [], mm (upR I 269 F') J D) ∧ RwN n F' (wst k W)
  | 0, a, h, h1, F, hF => by
    have : a = n + 1 := by omega
    subst this
    refine ⟨F, ?_, by rw [mix_e hin] at hF; exact hF⟩
    rw [e_14_12_265x269, uR (by decide), hn, decide_eq_true ((nI_ltI (by omega) (by omega)).mpr (by omega)), cond_true]
  | r + 1, a, h, h1, F, hF => by
    have hb := (hF a h1 (by omega)).has (bit_b hk1 (by omega))
    rw [row_at hk1 (by omega), mix_a] at hb
    have e0 : ex (14, 12, [.ref 265, .ref 269, .int (nI k), .int (nI a)], [], mm (upR I 269 F) J D) = ex (14, 27, [.ref 265, .ref 269, .int (nI k), .int (nI a)], [.int (1 <<< ((nI k - 1) &&& 31)), .int (F a)], mm (upR I 269 F) J D) := by
      rw [e_14_12_265x269, uR (by decide), hn, decide_eq_false (show ¬ nI n < nI a from nI_nlt (by omega) (by omega)), cond_false, e_14_20_265x269, inb_n (by omega) (by decide), cond_true, nI_clamp (by omega), uRs, e_49_0, cal_v, ka]
    cases hw : W a k with
    | false =>
      obtain ⟨F', e1, h1'⟩ := n_clA hn h16 hin hk1 hk r (a + 1) (by omega) (by omega) F (mixN_n hF hw)
      refine ⟨F', ?_, h1'⟩
      rw [e0, e_14_27_265x269, decide_eq_true (hb.mpr hw), cond_true, e_14_40_265x269, nI_1]
      exact e1
    | true =>
      have hy := or_row hw (by have := hF a h1 (by omega); rw [row_e (b := a) (W2 := W) mix_a] at this; exact this) (by have := hF k hk1 (by omega); rw [row_e (b := k) (W2 := W) mix_k] at this; exact this)
      obtain ⟨F', e1, h1'⟩ := n_clA hn h16 hin hk1 hk r (a + 1) (by omega) (by omega) _ (mixN_s hF hy)
      refine ⟨F', ?_, h1'⟩
      rw [e0, e_14_27_265x269, decide_eq_false (fun e => by have := hb.mp e; rw [hw] at this; cases this), cond_false, e_14_31_265x269, inb_n (show a < 17 by omega) (by decide), inb_n (show k < 17 by omega) (by decide), cond_true, cond_true, cond_true, nI_clamp (by omega), nI_clamp (by omega), uRs, us_R, e_14_40_265x269, nI_1]
      exact e1
theorem n_clO {n : Nat} (hn : I 265 8 = nI n) (h16 : n ≤ 16) {T : Nat → Nat → Bool} (hin : In n T) : ∀ r k, k + r = n → ∀ F, RwN n F (wsh T k) →
    ∃ F', ex (14, 2, [.ref 265, .ref 269, .int (nI (k + 1)), dv], [], mm (upR I 269 F) J D) = some (.inl none, mm (upR I 269 F') J D) ∧ RwN n F' (clo T)
  | 0, k, h, F, hF => by
    have : k = n := by omega
    subst this
    refine ⟨F, ?_, by rw [clo_n hin h16] at hF; exact hF⟩
    rw [e_14_2_265x269, uR (by decide), hn, decide_eq_true ((nI_ltI (by omega) (by omega)).mpr (by omega)), cond_true, e_14_52]
  | r + 1, k, h, F, hF => by
    have hi := wsh_in hin k
    obtain ⟨F1, e1, h1⟩ := n_clA (J := J) (D := D) hn h16 hi (k := k + 1) (by omega) (by omega) n 1 (by omega) (by omega) F (by rw [mix_1 hi]; exact hF)
    obtain ⟨F2, e2, h2⟩ := n_clO hn h16 hin r (k + 1) (by omega) F1 h1
    refine ⟨F2, ?_, h2⟩
    rw [e_14_2_265x269, uR (by decide), hn, decide_eq_false (show ¬ nI n < nI (k + 1) from nI_nlt (by omega) (by omega)), cond_false, e_14_10_265x269]
    refine e1.trans ?_
    rw [e_14_46_265x269, nI_1]
    exact e2
theorem bc0 : bcI 0 = 0 := by decide
theorem c_ulk {n : Nat} (hn : I 265 8 = nI n) (h16 : n ≤ 16) (he : ∀ a, 1 ≤ a → a ≤ n → I 269 a = I 266 a) : ∀ r k, k + r = n → ex (26, 30, [.ref 265, .int 0, .int (nI (k + 1))], [], mm I J D) = some (.inl (some (.int 0)), mm I J D)
  | 0, k, h => by
    have : k = n := by omega
    subst this
    rw [e_26_30, hn, decide_eq_true ((nI_ltI (by omega) (by omega)).mpr (by omega)), cond_true, e_26_63]
  | r + 1, k, h => by
    have ih := c_ulk hn h16 he r (k + 1) (by omega)
    rw [e_26_30, hn, decide_eq_false (show ¬ nI n < nI (k + 1) from nI_nlt (by omega) (by omega)), cond_false, e_26_38, inb_n (show k + 1 < 17 by omega) (by decide), cond_true, cond_true, nI_clamp (by omega), he (k + 1) (by omega) (by omega), Int32.xor_self, x_bc, bc0, cal_v, ka, e_26_55, nI_1, Int32.add_zero]
    exact ih
theorem c_unlike {n : Nat} {R : Nat → Nat → Bool} {r : Nat → Nat} (h : Drw n R I) (hin : In n R) (h16 : n ≤ 16) (ht : ∀ a j b, R a j = true → R j b = true → R a b = true) (hr : ∀ a b, R a b = true → r a < r b) : ∃ F, ex (26, 0, [.ref 265, dv, dv], [], mm I J D) = some (.inl (some (.int 0)), mm (upR I 269 F) J D) := by
  obtain ⟨F, e, hF⟩ := n_clO (I := I) (J := J) (D := D) h.1 h16 (dr_in hin) n 0 (by omega) (va_cpy (I 268) (I 269) 0 0 17) (fun a h1 h2 => by
    rw [uC (by omega)]; exact h.2.2.2 a h1 h2)
  rw [clo_dr hin h16 ht hr] at hF
  refine ⟨F, ?_⟩
  rw [e_26_0, e_14_0_265x269]
  rw [show ex (14, 2, [.ref 265, .ref 269, .int 1, dv], [], mm (upR I 269 (va_cpy (I 268) (I 269) 0 0 17)) J D) = _ from e, cal_v, kn, e_26_26]
  exact c_ulk (I := upR I 269 F) (by rw [uR (by decide)]; exact h.1) h16 (fun a h1 h2 => by
    rw [uRs, uR (by decide)]
    exact (hF a h1 h2).eq (h.2.1 a (by omega))) n 0 (by omega)
/-! the parts' balances -/
theorem bal_parts {a f : Nat → Int32} {y : Nat} {g : Nat → Int32} (hg : ∀ z, z < 8 → rg 0 3 (g z)) : ∀ n, n ≤ 8 → 0 + balN a f y (fun z => decide (g z = nI 0)) n + balN a f y (fun z => decide (g z = nI 1)) n + balN a f y (fun z => decide (g z = nI 2)) n + balN a f y (fun z => decide (g z = nI 3)) n = balN a f y (fun _ => true) n
  | 0, _ => by
    show (0 : Int32) + 0 + 0 + 0 + 0 = 0
    decide
  | n + 1, h => by
    have ih := bal_parts (a := a) (f := f) (y := y) hg n (by omega)
    have st : ∀ q : Nat → Bool, balN a f y q (n + 1) = balN a f y q n + (bif q n then a n * valN f y n else 0) := fun q => rfl
    rw [st, st, st, st, st, ← ih]
    obtain ⟨p, hp, e⟩ := rg_nI (b := 3) (hg n (by omega)) (by decide)
    rw [e]
    rcases (show p = 0 ∨ p = 1 ∨ p = 2 ∨ p = 3 by omega) with rfl | rfl | rfl | rfl
    · rw [show decide (nI 0 = nI 0) = true from rfl, show decide (nI 0 = nI 1) = false from rfl, show decide (nI 0 = nI 2) = false from rfl, show decide (nI 0 = nI 3) = false from rfl]
      simp only [cond_true, cond_false, Int32.add_zero]
      ac_rfl
    · rw [show decide (nI 1 = nI 0) = false from rfl, show decide (nI 1 = nI 1) = true from rfl, show decide (nI 1 = nI 2) = false from rfl, show decide (nI 1 = nI 3) = false from rfl]
      simp only [cond_true, cond_false, Int32.add_zero]
      ac_rfl
    · rw [show decide (nI 2 = nI 0) = false from rfl, show decide (nI 2 = nI 1) = false from rfl, show decide (nI 2 = nI 2) = true from rfl, show decide (nI 2 = nI 3) = false from rfl]
      simp only [cond_true, cond_false, Int32.add_zero]
      ac_rfl
    · rw [show decide (nI 3 = nI 0) = false from rfl, show decide (nI 3 = nI 1) = false from rfl, show decide (nI 3 = nI 2) = false from rfl, show decide (nI 3 = nI 3) = true from rfl]
      simp only [cond_true, cond_false, Int32.add_zero]
      ac_rfl
theorem c_sop {y : Nat} (hy : y < 10) (hg : ∀ z, z < 8 → rg 0 3 (I 22 z)) : ex (76, 0, [.ref 20, .int (nI y), dv, dv], [], mm I J D) = some (.inl (some (.int (balN (I 21) (I 23) y (fun _ => true) 8))), mm I J D) := by
  have b : ∀ p, p < 4 → ex (72, 0, [.ref 20, .int (nI p), .int (nI y), dv, dv], [], mm I J D) = some (.inl (some (.int (balN (I 21) (I 23) y (fun n => decide (I 22 n = nI p)) 8))), mm I J D) := fun p _ => by
    rw [e_72_0]
    exact c_balP (pt := nI p) hy 8 0 (by omega)
  have st : ∀ (s : Int32) k, k < 4 → ex (76, 4, [.ref 20, .int (nI y), .int s, .int (nI k)], [], mm I J D) = ex (76, 4, [.ref 20, .int (nI y), .int (s + balN (I 21) (I 23) y (fun n => decide (I 22 n = nI k)) 8), .int (nI (k + 1))], [], mm I J D) := fun s k hk => by
    rw [e_76_4, decide_eq_false (show ¬ (4 : Int32) ≤ nI k from nI_ge (b := 4) hk (by decide)), cond_false, e_76_9, b k hk, cal_v, ka, e_76_16, nI_1]
  have h4 : ∀ s : Int32, ex (76, 4, [.ref 20, .int (nI y), .int s, .int (nI 4)], [], mm I J D) = some (.inl (some (.int s)), mm I J D) := fun s => by
    rw [e_76_4, decide_eq_true (show (4 : Int32) ≤ nI 4 by decide), cond_true, e_76_24]
  rw [e_76_0]
  refine (show ex (76, 4, [.ref 20, .int (nI y), .int 0, .int 0], [], mm I J D) = _ from st 0 0 (by decide)).trans ?_
  refine (st _ 1 (by decide)).trans ?_
  refine (st _ 2 (by decide)).trans ?_
  refine (st _ 3 (by decide)).trans ?_
  refine (h4 _).trans ?_
  rw [bal_parts hg 8 (Nat.le_refl _)]
theorem c_uly (hg : ∀ z, z < 8 → rg 0 3 (I 22 z)) : ∀ r k, k + r = 10 → ex (75, 4, [.ref 20, .int 0, .int (nI k)], [], mm I J D) = some (.inl (some (.int 0)), mm I J D)
  | 0, k, h => by
    have : k = 10 := by omega
    subst this
    rw [e_75_4, decide_eq_true (show (10 : Int32) ≤ nI 10 by decide), cond_true, e_75_40]
  | r + 1, k, h => by
    have ih := c_uly hg r (k + 1) (by omega)
    rw [e_75_4, decide_eq_false (show ¬ (10 : Int32) ≤ nI k from nI_ge (a := k) (b := 10) (by omega) (by decide)), cond_false, e_75_10, c_rds (by omega), cal_v, ka, e_75_15]
    by_cases q : nI (rdN (I 23) k 8) ≤ 0
    · rw [decide_eq_true q, cond_true, e_75_34, nI_1]
      exact ih
    · have bl := c_bal (I := I) (J := J) (D := D) (y := k) (by omega) 8 0 (by omega)
      rw [decide_eq_false q, cond_false, e_75_18, c_sop (by omega) hg, cal_v, ka, e_75_23, e_71_0]
      rw [show ex (71, 4, [.ref 20, .int (nI k), .int 0, .int 0], [], mm I J D) = _ from bl, cal_v, ka, e_75_28, decide_eq_true rfl, cond_true, e_75_34, nI_1]
      exact ih
end EN

