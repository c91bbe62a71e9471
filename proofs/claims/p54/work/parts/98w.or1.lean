/-! orders, both sides -/
theorem or_bit {s b : Nat} (hs : s < 2 ^ 16) (hb : b < 16) (h : s.testBit b = false) : nI s ||| (1 : Int32) <<< ((nI (b + 1) - 1) &&& 31) = nI (s ^^^ 2 ^ b) := by
  have hx := xor_bd hs hb
  refine (((Bt.n (v := s) (by omega)).or (bit_b (b := b + 1) (by omega) (by omega))).cg (fun i => ?_)).eq (Bt.n (v := s ^^^ 2 ^ b) (by omega))
  rw [tb_xor]
  by_cases q : i = b
  · subst q; rw [h]; simp
  · rw [decide_eq_false q, decide_eq_false (show ¬ i = b + 1 - 1 by omega)]; simp
theorem an_bit {s b : Nat} (hs : s < 2 ^ 16) (hb : b < 16) (h : s.testBit b = true) : nI s &&& ((1 : Int32) <<< ((nI (b + 1) - 1) &&& 31) ^^^ (-1)) = nI (s ^^^ 2 ^ b) := by
  have hx := xor_bd hs hb
  refine (((Bt.n (v := s) (by omega)).andn (bit_b (b := b + 1) (by omega) (by omega))).cg (fun i => ?_)).eq (Bt.n (v := s ^^^ 2 ^ b) (by omega))
  rw [tb_xor]
  by_cases q : i = b
  · subst q; rw [h]; simp
  · rw [decide_eq_false q, decide_eq_false (show ¬ i = b + 1 - 1 by omega)]; simp
theorem an_sub {s p : Nat} : s &&& p = p ↔ ∀ i, p.testBit i = true → s.testBit i = true := by
  constructor
  · intro h i hi
    rw [← h, Nat.testBit_and] at hi
    cases e : s.testBit i with
    | true => rfl
    | false => rw [e] at hi; cases hi
  · intro h
    refine Nat.eq_of_testBit_eq (fun i => ?_)
    rw [Nat.testBit_and]
    cases e : p.testBit i with
    | true => rw [h i e]; rfl
    | false => simp
theorem cnt_z {f : Nat → Bool} {n : Nat} (h : cntN f n = 0) {i : Nat} (hi : i < n) : f i = false := by
  cases e : f i with
  | false => rfl
  | true => have := cnt_rem (n := n) hi e; omega
theorem p14 {n : Nat} (h : n ≤ 14) : 2 ^ n ≤ 16384 := Nat.pow_le_pow_right (n := 2) (by decide) h
/-- the layers of t that aren't of p -/
def gSt (p t : Nat) : Nat → Bool := fun j => t.testBit j && !(p.testBit j)
noncomputable def wT (R : Nat → Nat → Bool) (n p s : Nat) : Nat := EE R n (gSt p s)
theorem sub_le {p s : Nat} (h : s &&& p = p) : p ≤ s := by
  have := @Nat.and_le_left s p
  omega
theorem gSt_rem {p t i : Nat} (h : gSt p t i = true) : gSt p (t ^^^ 2 ^ i) = rem (gSt p t) i := by
  funext j
  unfold gSt at h ⊢
  unfold rem
  rw [tb_xor]
  by_cases q : j = i
  · subst q
    rw [Bool.and_eq_true] at h
    rw [h.1]; simp
  · rw [decide_eq_false q]; simp
theorem gSt_sub {p t i : Nat} (h : t &&& p = p) (hi : gSt p t i = true) : (t ^^^ 2 ^ i) &&& p = p := an_sub.mpr (fun j hj => by
  rw [tb_xor, an_sub.mp h j hj, decide_eq_false (fun w => by
    subst w
    unfold gSt at hi
    rw [hj, Bool.not_true, Bool.and_false] at hi; cases hi)]; rfl)
theorem gSt_up {p s a : Nat} (h : s &&& p = p) (ha : s.testBit a = false) : (s ^^^ 2 ^ a) &&& p = p ∧ gSt p (s ^^^ 2 ^ a) a = true := by
  have pa : p.testBit a = false := by
    cases e : p.testBit a with
    | false => rfl
    | true => rw [an_sub.mp h a e] at ha; cases ha
  refine ⟨an_sub.mpr (fun j hj => ?_), ?_⟩
  · rw [tb_xor, an_sub.mp h j hj, decide_eq_false (fun w => by subst w; rw [pa] at hj; cases hj)]; rfl
  · unfold gSt
    rw [tb_xor, ha, pa]; simp
/-- what was added up so far: all that came from sets before s, from s with a layer before a -/
noncomputable def PC (R : Nat → Nat → Bool) (n p t s a : Nat) : Nat :=
  if t &&& p = p then (if t = p then 1 else sN (fun i => if (gSt p t i && prB R (gSt p t) i) = true ∧ (t ^^^ 2 ^ i < s ∨ (t ^^^ 2 ^ i = s ∧ i < a)) then wT R n p (t ^^^ 2 ^ i) else 0) n) else 0
section OP
variable {R : Nat → Nat → Bool} {n p : Nat}
theorem sN_0 {f : Nat → Nat} (h : ∀ i, f i = 0) : ∀ m, sN f m = 0
  | 0 => rfl
  | m + 1 => by
    show sN f m + f m = 0
    rw [sN_0 h m, h m]
theorem PC_0 {t : Nat} : PC R n p t p 0 = if t = p then 1 else 0 := by
  unfold PC
  by_cases h : t &&& p = p
  · rw [if_pos h]
    by_cases q : t = p
    · rw [if_pos q, if_pos q]
    · rw [if_neg q, if_neg q]
      refine sN_0 (fun i => if_neg (fun w => ?_)) n
      have w1 := w.1
      rw [Bool.and_eq_true] at w1
      have := sub_le (gSt_sub h w1.1)
      have := w.2
      omega
  · rw [if_neg h, if_neg (fun w => h (by rw [w, Nat.and_self]))]
theorem PC_e {t s : Nat} (ht : t < 2 ^ n) (h : t &&& p = p) (hs : t ≤ s) : PC R n p t s 0 = wT R n p t := by
  unfold PC
  rw [if_pos h]
  by_cases q : t = p
  · rw [if_pos q]
    unfold wT
    rw [EE_0 (cnt_0 (fun k _ => by unfold gSt; rw [q]; simp))]
  · have c0 : cntN (gSt p t) n ≠ 0 := fun w => q (Nat.eq_of_testBit_eq (fun i => by
      have sub := an_sub.mp h
      have hz : gSt p t i = false := by
        by_cases hi : i < n
        · exact cnt_z w hi
        · unfold gSt
          rw [tb_ge ht (by omega)]; rfl
      unfold gSt at hz
      cases e1 : t.testBit i with
      | false =>
        cases e2 : p.testBit i with
        | false => rfl
        | true => rw [sub i e2] at e1; cases e1
      | true =>
        cases e2 : p.testBit i with
        | true => rfl
        | false => rw [e1, e2] at hz; cases hz))
    rw [if_neg q]
    unfold wT
    rw [EE_s c0]
    refine sN_cg (fun i hi => ?_)
    cases e : gSt p t i with
    | false => rw [if_neg (fun w => by cases w.1)]; rfl
    | true =>
      cases e2 : prB R (gSt p t) i with
      | false => rw [if_neg (fun w => by cases w.1)]; rfl
      | true =>
        have tb : t.testBit i = true := by
          unfold gSt at e
          rw [Bool.and_eq_true] at e
          exact e.1
        rw [if_pos ⟨rfl, Or.inl (by have := xor_lt tb; omega)⟩, gSt_rem e]; rfl
theorem PC_n {t s : Nat} : PC R n p t s n = PC R n p t (s + 1) 0 := by
  unfold PC
  by_cases h : t &&& p = p
  · rw [if_pos h, if_pos h]
    by_cases q : t = p
    · rw [if_pos q, if_pos q]
    · rw [if_neg q, if_neg q]
      refine sN_cg (fun i hi => ?_)
      by_cases e : (gSt p t i && prB R (gSt p t) i) = true ∧ (t ^^^ 2 ^ i < s ∨ (t ^^^ 2 ^ i = s ∧ i < n))
      · rw [if_pos e, if_pos ⟨e.1, Or.inl (by omega)⟩]
      · rw [if_neg e, if_neg (fun w => e ⟨w.1, by omega⟩)]
  · rw [if_neg h, if_neg h]
theorem PC_z {t s a b : Nat} (hz : s &&& p = p → wT R n p s = 0) : PC R n p t s a = PC R n p t s b := by
  unfold PC
  by_cases h : t &&& p = p
  · rw [if_pos h, if_pos h]
    by_cases q : t = p
    · rw [if_pos q, if_pos q]
    · rw [if_neg q, if_neg q]
      refine sN_cg (fun i hi => ?_)
      by_cases e0 : (gSt p t i && prB R (gSt p t) i) = true
      · have e1 := e0
        rw [Bool.and_eq_true] at e1
        by_cases e : t ^^^ 2 ^ i = s
        · have z := hz (e ▸ gSt_sub h e1.1)
          rw [e, z, ite_self, ite_self]
        · by_cases e2 : t ^^^ 2 ^ i < s
          · rw [if_pos ⟨e0, Or.inl e2⟩, if_pos ⟨e0, Or.inl e2⟩]
          · rw [if_neg (fun w => by have := w.2; omega), if_neg (fun w => by have := w.2; omega)]
      · rw [if_neg (fun w => e0 w.1), if_neg (fun w => e0 w.1)]
  · rw [if_neg h, if_neg h]
theorem PC_s {t s a : Nat} (ha : a < n) (hs : s &&& p = p) : PC R n p t s (a + 1) = PC R n p t s a + (if t = s ^^^ 2 ^ a ∧ s.testBit a = false ∧ prB R (gSt p t) a = true then wT R n p s else 0) := by
  unfold PC
  by_cases h : t &&& p = p
  · rw [if_pos h, if_pos h]
    by_cases q : t = p
    · rw [if_pos q, if_pos q, if_neg (fun w => by
        have := xor_gt w.2.1
        have := sub_le hs
        omega)]
    · rw [if_neg q, if_neg q]
      have hp := sN_put (f := fun i => if (gSt p t i && prB R (gSt p t) i) = true ∧ (t ^^^ 2 ^ i < s ∨ (t ^^^ 2 ^ i = s ∧ i < a + 1)) then wT R n p (t ^^^ 2 ^ i) else 0) (g := fun i => if (gSt p t i && prB R (gSt p t) i) = true ∧ (t ^^^ 2 ^ i < s ∨ (t ^^^ 2 ^ i = s ∧ i < a)) then wT R n p (t ^^^ 2 ^ i) else 0)
        (d := if t = s ^^^ 2 ^ a ∧ s.testBit a = false ∧ prB R (gSt p t) a = true then wT R n p s else 0) (x := a)
        (fun i hi => by
          show (if _ then _ else _) = (if _ then _ else _)
          by_cases e : (gSt p t i && prB R (gSt p t) i) = true ∧ (t ^^^ 2 ^ i < s ∨ (t ^^^ 2 ^ i = s ∧ i < a))
          · rw [if_pos e, if_pos ⟨e.1, by omega⟩]
          · rw [if_neg e, if_neg (fun w => e ⟨w.1, by omega⟩)])
        (by
          show (if _ then _ else _) = (if _ then _ else _) + (if _ then _ else _)
          by_cases e : t = s ^^^ 2 ^ a ∧ s.testBit a = false ∧ prB R (gSt p t) a = true
          · have e1 : t ^^^ 2 ^ a = s := by rw [e.1, xor_xor]
            have e2 : gSt p t a = true := by rw [e.1]; exact (gSt_up hs e.2.1).2
            rw [if_pos e, if_pos ⟨by rw [e2, e.2.2]; rfl, Or.inr ⟨e1, by omega⟩⟩, if_neg (fun w => by omega), e1, Nat.zero_add]
          · rw [if_neg e]
            by_cases e1 : (gSt p t a && prB R (gSt p t) a) = true ∧ (t ^^^ 2 ^ a < s ∨ (t ^^^ 2 ^ a = s ∧ a < a))
            · rw [if_pos e1, if_pos ⟨e1.1, by omega⟩]; omega
            · rw [if_neg e1, if_neg (fun w => by
                have w1 := w.1
                rw [Bool.and_eq_true] at w1
                by_cases e3 : t ^^^ 2 ^ a = s
                · have w2 := w1.1
                  unfold gSt at w2
                  rw [Bool.and_eq_true] at w2
                  refine e ⟨by rw [← e3, xor_xor], by rw [← e3, tb_xor, w2.1]; simp, w1.2⟩
                · exact e1 ⟨w.1, by omega⟩)])
        (n := n)
      rw [if_pos ha] at hp
      exact hp
  · rw [if_neg h, if_neg h, if_neg (fun w => h (by rw [w.1]; exact (gSt_up hs w.2.1).1))]
end OP
theorem le0L {x : Nat} (h : x < 2 ^ 63) : lg_cmp (lN x) 0 ≤ 0 ↔ x = 0 := by
  rw [lgc_le, Int64.le_iff_toInt_le, lB h]
  show (_ : Int) ≤ (lN 0).toInt ↔ _
  rw [lB (by decide)]
  omega
section OB
variable {I : Nat → Nat → Int32} {D : Nat → Nat → UInt64} {R : Nat → Nat → Bool} {n : Nat}
theorem c_fre {J : Nat → Nat → Int64} (hD : Drw n R I) (h16 : n ≤ 14) (hin : In n R) : ∀ r a, a + r = n → ∀ v, Bt v (fun i => decide (i < a) && fre R i) → ∃ v', ex (25, 4, [.ref 265, .int v, .int (nI (a + 1))], [], mm I J D) = some (.inl (some (.int v')), mm I J D) ∧ Bt v' (fun i => decide (i < n) && fre R i)
  | 0, a, h, v, hv => by
    have : a = n := by omega
    subst this
    refine ⟨v, ?_, hv⟩
    rw [e_25_4, hD.1, decide_eq_true ((nI_ltI (by omega) (by omega)).mpr (by omega)), cond_true, e_25_43]
  | r + 1, a, h, v, hv => by
    have e7 := (hD.2.2.1 (a + 1) (by omega)).eq0
    have e6 := (hD.2.1 (a + 1) (by omega)).eq0
    have nof : fre R a = false → Bt v (fun i => decide (i < a + 1) && fre R i) := fun hf => hv.cg (fun i => by
      by_cases q : i = a
      · subst q; rw [hf]; simp
      · rw [show decide (i < a + 1) = decide (i < a) from decide_eq_decide.mpr (by omega)])
    rw [e_25_4, hD.1, decide_eq_false (show ¬ nI n < nI (a + 1) from nI_nlt (by omega) (by omega)), cond_false, e_25_12, inb_n (show a + 1 < 17 by omega) (by decide), cond_true, nI_clamp (by omega)]
    by_cases q7 : I 267 (a + 1) = 0
    · rw [decide_eq_false (fun w => w q7), cond_false, e_25_21, inb_n (show a + 1 < 17 by omega) (by decide), cond_true, nI_clamp (by omega)]
      by_cases q6 : I 266 (a + 1) = 0
      · have hf : fre R a = true := by
          unfold fre
          refine @decide_eq_true _ (Classical.propDecidable _) (fun j => ?_)
          by_cases hj : j < 16
          · have h1 := e7.mp q7 j
            have h2 := e6.mp q6 j
            unfold row at h1 h2
            rw [Nat.blt_eq.mpr hj, Bool.true_and] at h1 h2
            exact ⟨h1, h2⟩
          · exact ⟨hin.f (by omega), hin.f (by omega)⟩
        obtain ⟨v', h1, h2⟩ := c_fre hD h16 hin r (a + 1) (by omega) (v ||| (1 : Int32) <<< ((nI (a + 1) - 1) &&& 31)) ((hv.or (bit_b (b := a + 1) (by omega) (by omega))).cg (fun i => by
          by_cases q : i = a
          · subst q; rw [hf]; simp
          · rw [show decide (i < a + 1) = decide (i < a) from decide_eq_decide.mpr (by omega), decide_eq_false (show ¬ i = a + 1 - 1 by omega)]; simp))
        refine ⟨v', ?_, h2⟩
        rw [decide_eq_false (fun w => w q6), cond_false, e_25_30, e_49_0, cal_v, ka, e_25_35, e_25_37, nI_1]
        exact h1
      · obtain ⟨v', h1, h2⟩ := c_fre (J := J) hD h16 hin r (a + 1) (by omega) v (nof (by
          cases e : fre R a with
          | false => rfl
          | true => exact absurd (e6.mpr (fun i => by unfold row; rw [(fre_t e i).2]; simp)) q6))
        refine ⟨v', ?_, h2⟩
        rw [decide_eq_true q6, cond_true, e_25_37, nI_1]
        exact h1
    · obtain ⟨v', h1, h2⟩ := c_fre (J := J) hD h16 hin r (a + 1) (by omega) v (nof (by
        cases e : fre R a with
        | false => rfl
        | true => exact absurd (e7.mpr (fun i => by unfold row; show (_ && R (i + 1) (a + 1)) = false; rw [(fre_t e i).1]; simp)) q7))
      refine ⟨v', ?_, h2⟩
      rw [decide_eq_true q7, cond_true, e_25_37, nI_1]
      exact h1
theorem x_fillL : ∀ r k, k + r = 16384 → ∀ J : Nat → Nat → Int64, (∀ t, t < k → J 272 t = 0) →
    ∃ J' : Nat → Nat → Int64, ex (317, 6, [.ref 272, .long 0, dv, .int (nI k), .int 16384], [], mm I J D) = some (.inl none, mm I J' D) ∧ ∀ t, t < 16384 → J' 272 t = 0
  | 0, k, h, J, hJ => by
    have : k = 16384 := by omega
    subst this
    exact ⟨J, by rw [e_317_6, decide_eq_true (show (16384 : Int32) ≤ nI 16384 from Int32.le_refl _), cond_true, e_317_22], hJ⟩
  | r + 1, k, h, J, hJ => by
    obtain ⟨J', f1, f2⟩ := x_fillL r (k + 1) (by omega) (upsL J 272 k 0) (fun t ht => by
      by_cases e : t = k
      · subst e; rw [uJs]
      · rw [uJn (Or.inr e)]; exact hJ t (by omega))
    refine ⟨J', ?_, f2⟩
    rw [e_317_6, decide_eq_false (show ¬ (16384 : Int32) ≤ nI k from nI_ge (a := k) (b := 16384) (by omega) (by omega)), cond_false, e_317_12, inb_n (show k < 16384 by omega) (by decide), cond_true, nI_clamp (by omega), nI_1]
    exact f1
theorem c_goO (hD : Drw n R I) (h14 : n ≤ 14) (hin : In n R) {p s : Nat} (hp : ∀ i, p.testBit i = (decide (i < n) && fre R i)) (hs : s < 2 ^ n) (hsp : s &&& p = p) (hr : ∀ a, R a a = false) : ∀ r a, a + r = n → ∀ J : Nat → Nat → Int64, (∀ t, t < 2 ^ n → J 272 t = lN (PC R n p t s a)) →
    ∃ J' : Nat → Nat → Int64, ex (24, 2, [.ref 265, .int (nI s), .int (nI (a + 1)), dv], [], mm I J D) = some (.inl none, mm I J' D) ∧ ∀ t, t < 2 ^ n → J' 272 t = lN (PC R n p t (s + 1) 0)
  | 0, a, h, J, hJ => by
    have : a = n := by omega
    subst this
    exact ⟨J, by rw [e_24_2, hD.1, decide_eq_true ((nI_ltI (by omega) (by omega)).mpr (by omega)), cond_true, e_24_57], fun t ht => by rw [hJ t ht, PC_n]⟩
  | r + 1, a, h, J, hJ => by
    have b14 := p14 h14
    have bs := Bt.n (v := s) (by omega)
    have hb := bs.has (bit_b (b := a + 1) (by omega) (by omega))
    rw [show a + 1 - 1 = a from rfl] at hb
    have e0 : ∀ J : Nat → Nat → Int64, ex (24, 2, [.ref 265, .int (nI s), .int (nI (a + 1)), dv], [], mm I J D) = ex (24, 14, [.ref 265, .int (nI s), .int (nI (a + 1)), dv], [.int ((1 : Int32) <<< ((nI (a + 1) - 1) &&& 31))], mm I J D) := fun J => by
      rw [e_24_2, hD.1, decide_eq_false (show ¬ nI n < nI (a + 1) from nI_nlt (by omega) (by omega)), cond_false, e_24_10, e_49_0, cal_v, ka]
    cases sa : s.testBit a with
    | true =>
      obtain ⟨J', f1, f2⟩ := c_goO hD h14 hin hp hs hsp hr r (a + 1) (by omega) J (fun t ht => by
        rw [PC_s (show a < n by omega) hsp, if_neg (fun w => by rw [sa] at w; cases w.2.1), hJ t ht, Nat.add_zero])
      refine ⟨J', ?_, f2⟩
      rw [e0, e_24_14, decide_eq_true (show ¬ _ = (0 : Int32) from fun w => by rw [hb.mp w] at sa; cases sa), cond_true, e_24_51, nI_1]
      exact f1
    | false =>
      have hz := ((hD.2.2.1 (a + 1) (by omega)).andn bs).eq0
      have hx := xor_bd hs (show a < n by omega)
      have e1 : ∀ J : Nat → Nat → Int64, ex (24, 2, [.ref 265, .int (nI s), .int (nI (a + 1)), dv], [], mm I J D) = ex (24, 21, [.ref 265, .int (nI s), .int (nI (a + 1)), .int ((1 : Int32) <<< ((nI (a + 1) - 1) &&& 31))], [], mm I J D) := fun J => by
        rw [e0, e_24_14, decide_eq_false (fun w => w (hb.mpr sa)), cond_false]
      by_cases hg : ∀ j, R (j + 1) (a + 1) = true → s.testBit j = true
      · have hz0 := hz.mpr (fun i => by
          unfold row
          show ((Nat.blt i 16 && R (i + 1) (a + 1)) && !(s.testBit i)) = false
          cases e : R (i + 1) (a + 1) with
          | false => simp
          | true => rw [hg i e]; simp)
        have pr : prB R (gSt p (s ^^^ 2 ^ a)) a = true := prB_t (fun j hj => by
          have pj : p.testBit j = false := by
            rw [hp]
            cases e : fre R j with
            | false => simp
            | true => rw [(fre_t e a).2] at hj; cases hj
          unfold gSt
          rw [tb_xor, hg j hj, pj, decide_eq_false (fun w => by subst w; rw [hr] at hj; cases hj)]; rfl)
        obtain ⟨J', f1, f2⟩ := c_goO hD h14 hin hp hs hsp hr r (a + 1) (by omega) (upsL J 272 (s ^^^ 2 ^ a) (J 272 (s ^^^ 2 ^ a) + J 272 s)) (fun t ht => by
          rw [PC_s (show a < n by omega) hsp]
          by_cases e : t = s ^^^ 2 ^ a
          · subst e
            have ej : J 272 s = lN (wT R n p s) := by
              rw [hJ s hs, ← PC_e hs hsp (Nat.le_refl _)]
              congr 1
              unfold PC
              rw [if_pos hsp, if_pos hsp]
              by_cases q : s = p
              · rw [if_pos q, if_pos q]
              · rw [if_neg q, if_neg q]
                refine sN_cg (fun i hi => ?_)
                by_cases e : (gSt p s i && prB R (gSt p s) i) = true
                · have e2 := e
                  rw [Bool.and_eq_true] at e2
                  have e3 := e2.1
                  unfold gSt at e3
                  rw [Bool.and_eq_true] at e3
                  have := xor_lt e3.1
                  rw [if_pos ⟨e, Or.inl this⟩, if_pos ⟨e, Or.inl this⟩]
                · rw [if_neg (fun w => e w.1), if_neg (fun w => e w.1)]
            rw [uJs, if_pos ⟨rfl, sa, pr⟩, hJ _ hx, ej, lN_add]
          · rw [uJn (Or.inr e), if_neg (fun w => e w.1), hJ t ht, Nat.add_zero])
        refine ⟨J', ?_, f2⟩
        rw [e1, e_24_21, inb_n (show a + 1 < 17 by omega) (by decide), cond_true, nI_clamp (by omega), decide_eq_false (fun w => w hz0), cond_false, e_24_34, or_bit (by omega) (by omega) sa, inb_n (show s ^^^ 2 ^ a < 16384 by omega) (by decide), cond_true, inb_n (show s < 16384 by omega) (by decide), cond_true, cond_true, nI_clamp (by omega), nI_clamp (by omega), e_24_51, nI_1]
        exact f1
      · obtain ⟨J', f1, f2⟩ := c_goO hD h14 hin hp hs hsp hr r (a + 1) (by omega) J (fun t ht => by
          rw [PC_s (show a < n by omega) hsp, if_neg (fun w => hg (fun j hj => by
            obtain ⟨w1, w2, w3⟩ := w
            unfold prB at w3
            have w4 := @of_decide_eq_true _ (Classical.propDecidable _) w3 j hj
            unfold gSt at w4
            rw [Bool.and_eq_true, w1, tb_xor, decide_eq_false (fun e => by subst e; rw [hr] at hj; cases hj)] at w4
            simpa using w4.1)), hJ t ht, Nat.add_zero])
        refine ⟨J', ?_, f2⟩
        rw [e1, e_24_21, inb_n (show a + 1 < 17 by omega) (by decide), cond_true, nI_clamp (by omega), decide_eq_true (show ¬ _ = (0 : Int32) from fun w => hg (fun j hj => by
          have hj1 := (hin _ _ hj).1
          have := hz.mp w j
          unfold row at this
          have this : ((Nat.blt j 16 && R (j + 1) (a + 1)) && !(s.testBit j)) = false := this
          rw [hj, Nat.blt_eq.mpr (by omega)] at this
          simpa using this)), cond_true, e_24_51, nI_1]
        exact f1
theorem c_cnt (hD : Drw n R I) (h14 : n ≤ 14) (hin : In n R) {p : Nat} (hp : ∀ i, p.testBit i = (decide (i < n) && fre R i)) (hpn : p < 2 ^ n) (hr : ∀ a, R a a = false) : ∀ r s, s + r = 2 ^ n - 1 → ∀ J : Nat → Nat → Int64,
    (∀ t, t < 2 ^ n → J 272 t = lN (PC R n p t s 0)) →
    ∃ J' : Nat → Nat → Int64, ex (23, 42, [.ref 265, .int (nI p), .int (nI (2 ^ n - 1)), .int (nI s), dv, dv], [], mm I J D) = ex (23, 69, [.ref 265, .int (nI p), .int (nI (2 ^ n - 1)), dv, dv, dv], [], mm I J' D) ∧ J' 272 (2 ^ n - 1) = lN (wT R n p (2 ^ n - 1))
  | 0, s, h, J, hT => by
    have b14 := p14 h14
    have b1 : 1 ≤ 2 ^ n := Nat.one_le_two_pow
    have : s = 2 ^ n - 1 := by omega
    subst this
    refine ⟨J, ?_, ?_⟩
    · rw [e_23_42, decide_eq_true ((nI_leI (by omega) (by omega)).mpr (Nat.le_refl _)), cond_true]
    · rw [hT _ (by omega), PC_e (by omega) (an_sub.mpr (fun i hi => ?_)) (Nat.le_refl _)]
      rw [Nat.testBit_two_pow_sub_one]
      by_cases q : i < n
      · exact decide_eq_true q
      · rw [tb_ge hpn (by omega)] at hi; cases hi
  | r + 1, s, h, J, hT => by
    have b14 := p14 h14
    have hs : s < 2 ^ n := by omega
    have e0 : ex (23, 42, [.ref 265, .int (nI p), .int (nI (2 ^ n - 1)), .int (nI s), dv, dv], [], mm I J D) = ex (23, 47, [.ref 265, .int (nI p), .int (nI (2 ^ n - 1)), .int (nI s), dv, dv], [], mm I J D) := by
      rw [e_23_42, decide_eq_false (show ¬ nI (2 ^ n - 1) ≤ nI s from nI_ge (by omega) (by omega)), cond_false]
    have skip : (s &&& p = p → wT R n p s = 0) → ∃ J' : Nat → Nat → Int64, ex (23, 63, [.ref 265, .int (nI p), .int (nI (2 ^ n - 1)), .int (nI s), dv, dv], [], mm I J D) = ex (23, 69, [.ref 265, .int (nI p), .int (nI (2 ^ n - 1)), dv, dv, dv], [], mm I J' D) ∧ J' 272 (2 ^ n - 1) = lN (wT R n p (2 ^ n - 1)) := fun z => by
      obtain ⟨J', f1, f2⟩ := c_cnt hD h14 hin hp hpn hr r (s + 1) (by omega) J (fun t ht => by rw [hT t ht, PC_z (b := n) z, PC_n])
      exact ⟨J', by rw [e_23_63, nI_1]; exact f1, f2⟩
    by_cases q : s &&& p = p
    · have ej : J 272 s = lN (wT R n p s) := by rw [hT s hs, PC_e hs q (Nat.le_refl _)]
      have hlt : wT R n p s < 2 ^ 63 := EE_lt h14
      by_cases w0 : wT R n p s = 0
      · obtain ⟨J', f1, f2⟩ := skip (fun _ => w0)
        refine ⟨J', ?_, f2⟩
        rw [e0, e_23_47, inb_n (show s < 16384 by omega) (by decide), cond_true, nI_clamp (by omega), ej, decide_eq_true ((le0L hlt).mpr w0), cond_true]
        exact f1
      · obtain ⟨J1, g1, g2⟩ := c_goO (D := D) hD h14 hin hp hs q hr n 0 (by omega) J hT
        obtain ⟨J', f1, f2⟩ := c_cnt hD h14 hin hp hpn hr r (s + 1) (by omega) J1 g2
        refine ⟨J', ?_, f2⟩
        rw [e0, e_23_47, inb_n (show s < 16384 by omega) (by decide), cond_true, nI_clamp (by omega), ej, decide_eq_false (fun w => w0 ((le0L hlt).mp w)), cond_false, e_23_58, e_24_0]
        rw [show ex (24, 2, [.ref 265, .int (nI s), .int 1, dv], [], mm I J D) = _ from g1, cal_v, kn, e_23_63, nI_1]
        exact f1
    · have ej : J 272 s = lN 0 := by
        rw [hT s hs]
        unfold PC
        rw [if_neg q]
      obtain ⟨J', f1, f2⟩ := skip (fun w => absurd w q)
      refine ⟨J', ?_, f2⟩
      rw [e0, e_23_47, inb_n (show s < 16384 by omega) (by decide), cond_true, nI_clamp (by omega), ej, decide_eq_true ((le0L (by decide)).mpr rfl), cond_true]
      exact f1
theorem c_prd {J : Nat → Nat → Int64} (h8 : I 265 8 = nI n) (h14 : n ≤ 14) : ∀ r v, r ≤ n → ex (23, 89, [.ref 265, dv, dv, .long (lN v), dv, .int (nI (n - r + 1))], [], mm I J D) = some (.inl (some (.long (lN (v * prP n r)))), mm I J D)
  | 0, v, h => by
    rw [e_23_89, h8, decide_eq_true ((nI_ltI (by omega) (by omega)).mpr (by omega)), cond_true, e_23_110, show v * prP n 0 = v from Nat.mul_one v]
  | r + 1, v, h => by
    have ih := c_prd (J := J) h8 h14 r (v * (n - r)) (by omega)
    rw [show n - (r + 1) + 1 = n - r by omega, e_23_89, h8, decide_eq_false (show ¬ nI n < nI (n - r) from nI_nlt (by omega) (by omega)), cond_false, e_23_98, nI_l (by omega), lN_mul, nI_1, ih, show prP n (r + 1) = prP n r * (n - r) from rfl, Nat.mul_assoc, Nat.mul_comm (n - r)]
theorem c_ords {J : Nat → Nat → Int64} (hD : Drw n R I) (h14 : n ≤ 14) (hin : In n R) (hr : ∀ a, R a a = false) : ∃ J' : Nat → Nat → Int64, ex (23, 0, [.ref 265, dv, dv, dv, dv, dv], [], mm I J D) = some (.inl (some (.long (lN (EE R n (fun j => decide (j < n)))))), mm I J' D) := by
  have b14 := p14 h14
  obtain ⟨v, f1, f2⟩ := c_fre (J := J) (D := D) hD h14 hin n 0 (by omega) 0 (Bt.z.cg (fun i => by simp))
  obtain ⟨p, p1, p2, p3⟩ := f2.nat (fun i hi => by rw [decide_eq_false (by omega)]; rfl)
  subst p2
  have hpn : p < 2 ^ n := by
    refine Nat.lt_pow_two_of_testBit p (fun i hi => ?_)
    rw [p3, decide_eq_false (by omega)]; rfl
  obtain ⟨J0, y1, y2⟩ := x_fillL (I := I) (D := D) 16384 0 (by omega) J (fun t ht => by omega)
  obtain ⟨J', g1, g2⟩ := c_cnt (D := D) hD h14 hin p3 hpn hr (2 ^ n - 1 - p) p (by omega) (upsL J0 272 p 1) (fun t ht => by
    rw [PC_0]
    by_cases e : t = p
    · subst e; rw [uJs, if_pos rfl]; rfl
    · rw [uJn (Or.inr e), if_neg e, y2 t (by omega)]; rfl)
  obtain ⟨k1, k2⟩ := EE_free (R := R) (n := n) n (Nat.le_refl _)
  have hc : cntN (fun i => decide (i < n) && fre R i) 16 = cntN (fre R) n := by
    have := cnt_add (f := fun i => decide (i < n) && fre R i) (m := n) (16 - n)
    rw [show n + (16 - n) = 16 by omega] at this
    rw [this, cnt_0 (f := fun i => decide (n + i < n) && fre R (n + i)) (fun k hk => by rw [decide_eq_false (by omega)]; rfl), Nat.add_zero]
    exact cnt_cg (fun k hk => by rw [decide_eq_true hk]; rfl)
  have hcl : cntN (fre R) n ≤ n := cnt_bd n
  have hw : wT R n p (2 ^ n - 1) = EE R n (fun j => decide (j < n) && !(decide (j < n) && fre R j)) := by
    unfold wT
    congr 1
    funext j
    unfold gSt
    rw [Nat.testBit_two_pow_sub_one, p3]
  have bc := (f2.cnt (fun i hi => by rw [decide_eq_false (by omega)]; rfl))
  rw [hc] at bc
  refine ⟨J', ?_⟩
  have sh : (1 : Int32) <<< (I 265 8 &&& 31) - 1 = nI (2 ^ n - 1) := by
    rw [hD.1, sh_lit n (by omega), show (1 : Int32) = nI 1 from rfl, nI_sub Nat.one_le_two_pow]
  rw [e_23_0, e_25_0]
  rw [show ex (25, 4, [.ref 265, .int 0, .int 1], [], mm I J D) = _ from f1, cal_v, ka, e_23_4, sh, decide_eq_true (show nI (2 ^ n - 1) < 16384 from (nI_ltI (b := 16384) (by omega) (by omega)).mpr (by omega)), cond_true, e_23_25, e_317_0]
  rw [show ex (317, 6, [.ref 272, .long 0, dv, .int 0, .int 16384], [], mm I J D) = _ from y1, cal_v, kn, e_23_33, inb_n (show p < 16384 by omega) (by decide), cond_true, nI_clamp (by omega), g1, e_23_69, inb_n (show 2 ^ n - 1 < 16384 by omega) (by decide), cond_true, nI_clamp (by omega), g2, x_bc, cal_v, ka, e_23_84, hD.1, bc, nI_sub hcl, nI_1, hw, c_prd hD.1 h14 _ _ hcl, k1, Nat.mul_comm]
end OB
