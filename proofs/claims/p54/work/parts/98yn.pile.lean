/-! what lies on what: the calls that the law makes of it -/
section PL
variable {kk n : Nat} {T : Nat → Nat → Bool}
variable {I : Nat → Nat → Int32} {J : Nat → Nat → Int64} {D : Nat → Nat → UInt64}
theorem wsh_min {S : Nat → Nat → Bool} (h1 : ∀ a b, T a b = true → S a b = true) (h2 : ∀ a b c, S a b = true → S b c = true → S a c = true) : ∀ k a b, wsh T k a b = true → S a b = true
  | 0, a, b, h => h1 a b h
  | k + 1, a, b, h => by
    have ih := wsh_min h1 h2 k
    have h : (wsh T k a b || (wsh T k a (k + 1) && wsh T k (k + 1) b)) = true := h
    rw [Bool.or_eq_true, Bool.and_eq_true] at h
    rcases h with h | ⟨h3, h4⟩
    · exact ih a b h
    · exact h2 _ _ _ (ih _ _ h3) (ih _ _ h4)
/-- the relation when one more is told -/
def addR (R : Nat → Nat → Bool) (a b x y : Nat) : Bool := R x y || ((decide (x = a) || R x a) && (decide (y = b) || R b y))
theorem addR_t {R : Nat → Nat → Bool} {a b x y : Nat} : addR R a b x y = true ↔ R x y = true ∨ ((x = a ∨ R x a = true) ∧ (y = b ∨ R b y = true)) := by
  unfold addR
  simp only [Bool.or_eq_true, Bool.and_eq_true, decide_eq_true_eq]
theorem clo_add (hin : In n T) (h16 : n ≤ 16) {a b : Nat} (ha : 1 ≤ a ∧ a ≤ n) (hb : 1 ≤ b ∧ b ≤ n) (hab : a ≠ b) (hba : clo T b a = false) : clo (addT T a b) = addR (clo T) a b := by
  have hin2 := add_in hin ha hb
  have tr : ∀ x y z, clo T x y = true → clo T y z = true → clo T x z = true := fun x y z h1 h2 => clo_tr hin h16 h1 h2
  have tr2 : ∀ x y z, clo (addT T a b) x y = true → clo (addT T a b) y z = true → clo (addT T a b) x z = true := fun x y z h1 h2 => clo_tr hin2 h16 h1 h2
  have sub : ∀ x y, clo T x y = true → clo (addT T a b) x y = true := fun x y h => wsh_min (S := clo (addT T a b)) (fun x y h => wsh_sub (show addT T a b x y = true by unfold addT; rw [h]; rfl) 16) tr2 16 x y h
  have hab2 : clo (addT T a b) a b = true := wsh_sub (show addT T a b a b = true by unfold addT; simp) 16
  funext x y
  rw [Bool.eq_iff_iff, addR_t]
  constructor
  · intro h
    refine addR_t.mp (wsh_min (T := addT T a b) (S := addR (clo T) a b) (fun x y h => ?_) (fun x y z h1 h2 => ?_) 16 x y h)
    · unfold addT at h
      rw [addR_t]
      simp only [Bool.or_eq_true, Bool.and_eq_true, decide_eq_true_eq] at h
      rcases h with h | ⟨h1, h2⟩
      · exact Or.inl (wsh_sub h 16)
      · exact Or.inr ⟨Or.inl h1, Or.inl h2⟩
    · rw [addR_t] at h1 h2 ⊢
      rcases h1 with h1 | ⟨h1, h3⟩
      · rcases h2 with h2 | ⟨h2, h4⟩
        · exact Or.inl (tr _ _ _ h1 h2)
        · refine Or.inr ⟨Or.inr ?_, h4⟩
          rcases h2 with rfl | h2
          · exact h1
          · exact tr _ _ _ h1 h2
      · rcases h2 with h2 | ⟨h2, h4⟩
        · refine Or.inr ⟨h1, Or.inr ?_⟩
          rcases h3 with rfl | h3
          · exact h2
          · exact tr _ _ _ h3 h2
        · exfalso
          rcases h3 with rfl | h3
          · rcases h2 with h2 | h2
            · exact hab h2.symm
            · rw [hba] at h2; cases h2
          · rcases h2 with rfl | h2
            · rw [hba] at h3; cases h3
            · have := tr _ _ _ h3 h2
              rw [hba] at this; cases this
  · rintro (h | ⟨h1, h2⟩)
    · exact sub x y h
    · have q1 : clo (addT T a b) x b = true := by
        rcases h1 with rfl | h1
        · exact hab2
        · exact tr2 _ _ _ (sub _ _ h1) hab2
      rcases h2 with rfl | h2
      · exact q1
      · exact tr2 _ _ _ q1 (sub _ _ h2)
/-- a page with so many layers, and this told of them -/
def PilG (n : Nat) (T : Nat → Nat → Bool) (G : Nat → Nat → Int32) : Prop := G 7 1 = nI n ∧ RwF (G 8) T
theorem pl_i (h : PilG n T (PG I)) : I 8 1 = nI n ∧ RwF (I 9) T := by
  obtain ⟨h1, h2⟩ := h
  rw [pg_at rfl] at h1
  refine ⟨h1, fun a ha => ?_⟩
  have := h2 a ha
  rw [pg_at (show rl 8 a = true from Nat.blt_eq.mpr ha)] at this
  exact this
theorem pl_rank (h : Inv 5 kk I J D) (h16 : n ≤ 16) (hin : In n T) (pl : PilG n T (PG I)) : ∃ r : Nat → Nat, ∀ a b, T a b = true → r a < r b := by
  obtain ⟨n2, h17, c8, w0, hin2, hT, hW, r, hr⟩ := inv_pil h.2.1
  obtain ⟨c82, hT2⟩ := pl_i pl
  refine ⟨r, fun a b e => hr a b ?_⟩
  obtain ⟨⟨a1, a2⟩, b1, b2⟩ := hin a b e
  have e1 := hT a (by omega) (b - 1)
  rw [hT2 a (by omega) (b - 1), row_at b1 (by omega), row_at b1 (by omega)] at e1
  rw [← e1]
  exact e
theorem ly_rg {a : Nat} (c8 : I 8 1 = nI n) (h16 : n ≤ 16) (ha : 1 ≤ a ∧ a ≤ n) : 1 ≤ nI a ∧ nI a ≤ I 8 1 := by
  rw [c8]
  exact le_n ha h16
section QP
theorem q_abv (h : Inv 5 kk I J D) (h16 : n ≤ 16) (hin : In n T) (pl : PilG n T (PG I)) {a b : Nat} (ha : 1 ≤ a ∧ a ≤ n) (hb : 1 ≤ b ∧ b ≤ n) : Call kk 103 [.ref 1, .int (nI a), .int (nI b)] (.inl (some (.int (b2i (clo T a b))))) I J D (Same I) := by
  obtain ⟨c8, hT⟩ := pl_i pl
  obtain ⟨I1, d1, d2, d3⟩ := c_draw (J := J) (D := D) c8 h16 hin hT
  have has := c_has (J := J) (D := D) d3.2.1 (a := a) (b := b) (by omega) hb.1 (by omega)
  obtain ⟨r, er⟩ : ∃ r, r = clo T a b := ⟨_, rfl⟩
  rw [← er] at has
  have h01 : b2i r = 0 ∨ b2i r = 1 := by cases r; exact Or.inl rfl; exact Or.inr rfl
  rw [← er]
  refine call_q (as := [.ref 0, .int (nI a), .int (nI b)]) (o := .inl (some (.int (b2i r)))) h rfl (gl_of rfl) (fun z hz => by cases hz) (I2 := I1) (J2 := J) (D2 := D) ?_ (Same.o d2)
  rw [e_103_0, c_lyT (ly_rg c8 h16 ha), cal_v, kn, e_103_5, c_lyT (ly_rg c8 h16 hb), cal_v, kn, e_103_10, d1, cal_v, krw _, e_103_14, has, cal_v, ka, e_103_19, decide_eq_true h01, cond_true]
theorem q_lcnt (h : Inv 5 kk I J D) (h16 : n ≤ 16) (hin : In n T) (pl : PilG n T (PG I)) : Call kk 104 [.ref 1] (.inl (some (.int (nI (lnN (clo T) n))))) I J D (Same I) := by
  obtain ⟨c8, hT⟩ := pl_i pl
  obtain ⟨I1, d1, d2, d3⟩ := c_draw (J := J) (D := D) c8 h16 hin hT
  have ln := c_lines (J := J) (D := D) d3 h16
  refine call_q (as := [.ref 0]) (o := .inl (some (.int (nI (lnN (clo T) n))))) h rfl (gl_of rfl) (fun z hz => by cases hz) (I2 := I1) (J2 := J) (D2 := D) ?_ (Same.o d2)
  rw [e_104_0, d1, cal_v, krw _, e_104_4, ln, cal_v, ka, e_104_7]
theorem q_lat (h : Inv 5 kk I J D) (h16 : n ≤ 16) (hin : In n T) (pl : PilG n T (PG I)) {a b m : Nat} (ha : 1 ≤ a ∧ a ≤ n) (hb : 1 ≤ b ∧ b ≤ n) (hd : dr (clo T) a b = true) (hm : cntN (Lc (clo T)) (17 * a + b) = m) : Call kk 105 [.ref 1, .int (nI m), dv] (.inl (some (.int (nI (32 * a + b))))) I J D (Same I) := by
  obtain ⟨c8, hT⟩ := pl_i pl
  obtain ⟨I1, d1, d2, d3⟩ := c_draw (J := J) (D := D) c8 h16 hin hT
  have hin2 : In n (clo T) := wsh_in hin 16
  have ln := c_lines (J := J) (D := D) d3 h16
  have ht : Lc (clo T) (17 * a + b) = true := by rw [Lc_at (by omega)]; exact hd
  have hlt : m < lnN (clo T) n := by
    have e1 := lnN_n hin2 (16 - n)
    rw [show n + (16 - n) = 16 by omega] at e1
    rw [← e1, ← Lc_all hin2]
    have e2 : cntN (Lc (clo T)) (17 * a + b + 1) = m + 1 := by
      show cntN _ _ + (bif Lc (clo T) (17 * a + b) then 1 else 0) = m + 1
      rw [ht, hm]; rfl
    have e3 := cnt_mono (f := Lc (clo T)) (m := 17 * a + b + 1) (289 - (17 * a + b + 1))
    rw [show 17 * a + b + 1 + (289 - (17 * a + b + 1)) = 289 by omega, e2] at e3
    omega
  have bd := lnN_bd (R := clo T) n
  obtain ⟨t, et⟩ : ∃ t, t = 17 * a + b := ⟨_, rfl⟩
  have ed : t / 17 = a ∧ t % 17 = b := by omega
  have z : ∀ j, 0 ≤ j → j < 18 → Lc (clo T) j = false := fun j _ hj => by
    cases e : Lc (clo T) j with
    | false => rfl
    | true =>
      have := dr_in hin2 _ _ e
      omega
  have cl := c_lat (J := J) (D := D) (t := t) (m := m) d3 h16 hin2 (by rw [et]; exact ht) (by rw [et]; exact hm) (t - 18) 1 1 (by omega) (by omega) (by omega) (by omega) (by omega)
  rw [cnt_gap (f := Lc (clo T)) (m := 0) (k := 17 * 1 + 1) (by omega) (fun j h1 h2 => z j h1 (by omega)), ed.1, ed.2] at cl
  refine call_q (as := [.ref 0, .int (nI m), dv]) (o := .inl (some (.int (nI (32 * a + b))))) h rfl (gl_of rfl) (fun z hz => by cases hz) (I2 := I1) (J2 := J) (D2 := D) ?_ (Same.o d2)
  rw [e_105_0, d1, cal_v, krw _, e_105_4, decide_eq_false (nI_pos (by omega)), cond_false, e_105_9, ln, cal_v, ka, e_105_14, decide_eq_true ((nI_ltI (by omega) (by omega)).mpr hlt), cond_true, e_105_27, e_19_0, e_19_4, d3.1, decide_eq_false (show ¬ nI n < 1 from nI_nlt (b := 1) (by omega) (by omega)), cond_false, e_19_12]
  rw [show ex (19, 15, [.ref 265, .int (nI m), .int 0, .int 1, .int 1], [], mm I1 J D) = _ from cl, cal_v, ka, e_105_32]
theorem q_ord (h : Inv 5 kk I J D) (h16 : n ≤ 16) (hin : In n T) (pl : PilG n T (PG I)) {m : Nat} (hm : m < n) : Call kk 107 [.ref 1, .int (nI m), dv] (.inl (some (.int (nI (ord (clo T) n m))))) I J D (Same I) := by
  obtain ⟨c8, hT⟩ := pl_i pl
  obtain ⟨r, hr⟩ := clo_rank (pl_rank h h16 hin pl)
  have hin2 : In n (clo T) := wsh_in hin 16
  obtain ⟨I1, d1, d2, d3⟩ := c_draw (J := J) (D := D) c8 h16 hin hT
  obtain ⟨A, B, a1, a2, a3⟩ := c_arr0 (J := J) (D := D) hin2 hr h16 d3
  refine call_q (as := [.ref 0, .int (nI m), dv]) (o := .inl (some (.int (nI (ord (clo T) n m))))) h rfl (gl_of rfl) (fun z hz => by cases hz) (I2 := upR (upR I1 270 A) 271 B) (J2 := J) (D2 := D) ?_ (((Same.o d2).tr (Same.R (by decide))).tr (Same.R (by decide)))
  rw [e_107_0, decide_eq_false (nI_pos (by omega)), cond_false, e_107_4, c8, decide_eq_true ((nI_ltI (by omega) (by omega)).mpr hm), cond_true, e_107_28, d1, cal_v, krw _, e_107_32, a1, cal_v, kn, e_107_37, inb_n (show m < 16 by omega) (by decide), cond_true, nI_clamp (by omega), uR (by decide), uRs, a2 m hm]
theorem q_pha (h : Inv 5 kk I J D) (h16 : n ≤ 16) (hin : In n T) (pl : PilG n T (PG I)) {a : Nat} (ha : 1 ≤ a ∧ a ≤ n) : Call kk 108 [.ref 1, .int (nI a), dv] (.inl (some (.int (nI (dep (clo T) n a))))) I J D (Same I) := by
  obtain ⟨c8, hT⟩ := pl_i pl
  obtain ⟨r, hr⟩ := clo_rank (pl_rank h h16 hin pl)
  have hin2 : In n (clo T) := wsh_in hin 16
  obtain ⟨I1, d1, d2, d3⟩ := c_draw (J := J) (D := D) c8 h16 hin hT
  obtain ⟨A, B, a1, a2, a3⟩ := c_arr0 (J := J) (D := D) hin2 hr h16 d3
  refine call_q (as := [.ref 0, .int (nI a), dv]) (o := .inl (some (.int (nI (dep (clo T) n a))))) h rfl (gl_of rfl) (fun z hz => by cases hz) (I2 := upR (upR I1 270 A) 271 B) (J2 := J) (D2 := D) ?_ (((Same.o d2).tr (Same.R (by decide))).tr (Same.R (by decide)))
  rw [e_108_0, c_lyT (ly_rg c8 h16 ha), cal_v, kn, e_108_5, d1, cal_v, krw _, e_108_9, a1, cal_v, kn, e_108_14, inb_n (show a < 17 by omega) (by decide), cond_true, nI_clamp (by omega), uRs, a3 a ha.1 ha.2]
theorem q_ords (h : Inv 5 kk I J D) (h16 : n ≤ 16) (hin : In n T) (pl : PilG n T (PG I)) (h14 : n ≤ 14) : Call kk 106 [.ref 1] (.inl (some (.long (lN (EE (clo T) n (fun j => decide (j < n))))))) I J D (Same I) := by
  obtain ⟨c8, hT⟩ := pl_i pl
  obtain ⟨r, hr⟩ := clo_rank (pl_rank h h16 hin pl)
  have hin2 : In n (clo T) := wsh_in hin 16
  obtain ⟨I1, d1, d2, d3⟩ := c_draw (J := J) (D := D) c8 h16 hin hT
  obtain ⟨J1, o1⟩ := c_ords (J := J) (D := D) d3 h14 hin2 (fun a => by
    cases e : clo T a a with
    | false => rfl
    | true => have := hr _ _ e; omega)
  refine call_q (as := [.ref 0]) (o := .inl (some (.long (lN (EE (clo T) n (fun j => decide (j < n))))))) h rfl (gl_of rfl) (fun z hz => by cases hz) (I2 := I1) (J2 := J1) (D2 := D) ?_ (Same.o d2)
  rw [e_106_0, c8, decide_eq_true (show nI n ≤ 14 from (nI_leI (b := 14) (by omega) (by omega)).mpr h14), cond_true, e_106_25, d1, cal_v, krw _, e_106_29, o1, cal_v]
  exact e_106_32 _ _ _ _
end QP
/-- one layer lies on another -/
theorem a_onN (h : Inv 5 kk I J D) (h16 : n ≤ 16) (hin : In n T) (pl : PilG n T (PG I)) {a b : Nat} (ha : 1 ≤ a ∧ a ≤ n) (hb : 1 ≤ b ∧ b ≤ n) (hab : a ≠ b) (hR : clo T b a = true) : Call kk 101 [.ref 1, .int (nI a), .int (nI b)] (.inr (.inl 0)) I J D (Same I) := by
  obtain ⟨c8, hT⟩ := pl_i pl
  obtain ⟨I1, d1, d2, d3⟩ := c_draw (J := J) (D := D) c8 h16 hin hT
  have has := c_has (J := J) (D := D) d3.2.1 (a := b) (b := a) (by omega) ha.1 (by omega)
  rw [hR, show b2i true = 1 from rfl] at has
  refine call_q (as := [.ref 0, .int (nI a), .int (nI b)]) (o := .inr (.inl 0)) h rfl (gl_of rfl) (fun z hz => by cases hz) (I2 := I1) (J2 := J) (D2 := D) ?_ (Same.o d2)
  rw [e_101_0, c_lyT (ly_rg c8 h16 ha), cal_v, kn, e_101_5, c_lyT (ly_rg c8 h16 hb), cal_v, kn, e_101_10, decide_eq_true (show nI a ≠ nI b from fun q => hab ((nI_eq (by omega) (by omega)).mp q)), cond_true, e_101_25, d1, cal_v, krw _, e_101_29, has, cal_v, ka, e_101_34, d10, cond_false, e_101_37]
theorem a_onY (h : Inv 5 kk I J D) (h16 : n ≤ 16) (hin : In n T) (pl : PilG n T (PG I)) {a b : Nat} (ha : 1 ≤ a ∧ a ≤ n) (hb : 1 ≤ b ∧ b ≤ n) (hab : a ≠ b) (hR : clo T b a = false) :
    Call kk 101 [.ref 1, .int (nI a), .int (nI b)] (.inl (some (.int (nI (lnN (clo (addT T a b)) n))))) I J D (fun I2 => PilG n (addT T a b) (PG I2) ∧ ∀ o, o = 0 ∨ 9 ≤ o → PG I2 o = PG I o) := by
  obtain ⟨I', k1, h', sc, s1, s2, s3⟩ := with_sc (nI a) (nI b) 0 h
  have ep : PG I' = PG I := ag_sc k1
  obtain ⟨c8, hT⟩ := pl_i (show PilG n T (PG I') by rw [ep]; exact pl)
  obtain ⟨I1, d1, d2, d3⟩ := c_draw (J := J) (D := D) c8 h16 hin hT
  have s9 : Same I' I1 := Same.o d2
  have has := c_has (J := J) (D := D) d3.2.1 (a := b) (b := a) (by omega) ha.1 (by omega)
  rw [hR, show b2i false = 0 from rfl] at has
  obtain ⟨I2, e1, f2, -⟩ := rem_h (inv_st (J2 := J) (D2 := D) h' s9).2.2.1 (inv_st (J2 := J) (D2 := D) h' s9).2.1.th J D
  obtain ⟨I3, hI3⟩ : ∃ I3, I3 = ups I2 9 a (I2 9 a ||| 1 <<< ((nI b - 1) &&& 31)) := ⟨_, rfl⟩
  have lo2 : ∀ p, 1 ≤ p → p < 28 → I2 p = I' p := fun p h1 h2 => by rw [f2 p (by omega) (by omega), d2 p (by omega) (by omega) (by omega) (by omega)]
  have hT2 : RwF (I3 9) (addT T a b) := by rw [hI3, uIs, lo2 9 (by decide) (by decide)]; exact rw_add hT hb.1 (by omega)
  have c83 : I3 8 1 = nI n := by rw [hI3, uI (by decide), lo2 8 (by decide) (by decide), c8]
  have hin2 := add_in hin ha hb
  obtain ⟨I4, g1, g2, g3⟩ := c_draw (J := J) (D := D) c83 h16 hin2 hT2
  have ln := c_lines (J := J) (D := D) g3 h16
  refine call_a (as := [.ref 0, .int (nI a), .int (nI b)]) (o := .inl (some (.int (nI (lnN (clo (addT T a b)) n))))) (fun p hp => k1 p (by omega)) rfl (gl_of rfl) (fun z hz => by cases hz) (callY (y_11 0 h' sc) (by show ((101, [.ref 0, .int (I' 1000002 1), .int (I' 1000002 2)]) : Nat × List Value) = _; rw [s1, s2])) (I2 := I4) (J2 := J) (D2 := D) ?_ (fun I5 h5 => ?_)
  · rw [e_101_0, c_lyT (ly_rg c8 h16 ha), cal_v, kn, e_101_5, c_lyT (ly_rg c8 h16 hb), cal_v, kn, e_101_10, decide_eq_true (show nI a ≠ nI b from fun q => hab ((nI_eq (by omega) (by omega)).mp q)), cond_true, e_101_25, d1, cal_v, krw _, e_101_29, has, cal_v, ka, e_101_34, d00, cond_true, e_101_47, e1, cal_v, kn, e_101_51, c_tell (by omega), cal_v, kn, ← hI3, e_101_63, g1, cal_v, krw _, e_101_67, ln, cal_v, ka, e_101_70]
  · have e5 : ∀ p, p < 245 → I5 p = I3 p := fun p hp => by rw [h5 p (by omega), g2 p (by omega) (by omega) (by omega) (by omega)]
    refine ⟨⟨?_, fun x hx => ?_⟩, fun o ho => ?_⟩
    · rw [pg_at rfl]
      show I5 8 1 = _
      rw [e5 8 (by decide)]; exact c83
    · rw [pg_at (show rl 8 x = true from Nat.blt_eq.mpr hx)]
      show Bt (I5 9 x) _
      rw [e5 9 (by decide)]
      exact hT2 x hx
    · rw [← ep]
      funext k
      unfold PG nrm
      cases hr : rl o k with
      | false => rfl
      | true =>
        have := rl_lt hr
        show I5 (1 + o) k = I' (1 + o) k
        rw [e5 (1 + o) (by omega), hI3, uI (by omega), lo2 (1 + o) (by omega) (by omega)]
end PL
