/-! ages: isNarrow -/
section NR
variable {m n : Nat} {P Q : Nat → Nat} {W : Nat → Int} {t : Nat → Bool}
variable {I : Nat → Nat → Int32} {J : Nat → Nat → Int64} {D : Nat → Nat → UInt64} {X : Nat → Nat → Int32} {QJ : Nat → Nat → Int64} {QD : Nat → Nat → UInt64} {T c : Nat}
/-- a bound that is not there plays no part -/
theorem sf_drop {P2 Q2 : Nat → Nat} {W2 : Nat → Int} {t2 : Nat → Bool} {T2 : Nat → Option Int} {x : Nat} : ∀ {k : Nat}, (∀ i, i < k → P2 i = P i ∧ Q2 i = Q i ∧ W2 i = W i ∧ t2 i = t i) → SF P2 Q2 W2 t2 T2 x k = SF P Q W t T2 x k
  | 0, _ => rfl
  | k + 1, h => by
    have ih := sf_drop (T2 := T2) (x := x) (k := k) (fun i hi => h i (by omega))
    obtain ⟨h1, h2, h3, h4⟩ := h k (by omega)
    unfold SF
    rw [ih, h1, h2, h3, h4]
theorem ss_drop {P2 Q2 : Nat → Nat} {W2 : Nat → Int} {t2 : Nat → Bool} {b : Nat} (h : ∀ i, i < n → P2 i = P i ∧ Q2 i = Q i ∧ W2 i = W i ∧ t2 i = t i) (hn : t2 n = false) : ∀ u, SS (n + 1) P2 Q2 W2 t2 b u = SS n P Q W t b u
  | 0 => rfl
  | u + 1 => by
    funext x
    have ih := ss_drop (b := b) h hn u
    show SF P2 Q2 W2 t2 (SS (n + 1) P2 Q2 W2 t2 b u) x (n + 1) = SF P Q W t (SS n P Q W t b u) x n
    rw [ih, SF_s0 (Or.inl hn)]
    exact sf_drop h
theorem lsu_drop {P2 Q2 : Nat → Nat} {W2 : Nat → Int} {t2 : Nat → Bool} {b x : Nat} (h : ∀ i, i < n → P2 i = P i ∧ Q2 i = Q i ∧ W2 i = W i ∧ t2 i = t i) (hn : t2 n = false) : ∀ u, LSu (n + 1) P2 Q2 W2 t2 b x u = LSu n P Q W t b x u
  | 0 => by
    show SS (n + 1) P2 Q2 W2 t2 b 0 x = SS n P Q W t b 0 x
    rw [ss_drop h hn 0]
  | u + 1 => by
    show omO (LSu (n + 1) P2 Q2 W2 t2 b x u) (SS (n + 1) P2 Q2 W2 t2 b (u + 1) x) = omO (LSu n P Q W t b x u) (SS n P Q W t b (u + 1) x)
    rw [lsu_drop h hn u, ss_drop h hn (u + 1)]
theorem lsu_tri {h : Nat → Int} (hf : Feas n P Q W t h) (g : Bds n P Q W) {a b d : Nat} (ha : a < 17) (hd : d < 17) {s1 s2 : Int} (e1 : LSu n P Q W t b a 16 = some s1) (e2 : LSu n P Q W t d b 16 = some s2) : ∃ v, LSu n P Q W t d a 16 = some v ∧ v ≤ s1 + s2 := by
  obtain ⟨u1, c1⟩ := lsu_ch e1
  obtain ⟨u2, c2⟩ := lsu_ch e2
  exact lsu_le hf g hd ha (ch_app u1 u2 a s1 s2 c1 c2)
theorem lsu_self {h : Nat → Int} (hf : Feas n P Q W t h) (g : Bds n P Q W) {a : Nat} (ha : a < 17) : LSu n P Q W t a a 16 = some 0 := by
  obtain ⟨v, e, l⟩ := lsu_le hf g ha ha (show Ch n P Q W t a 0 a 0 from ⟨rfl, rfl⟩)
  obtain ⟨u, c⟩ := lsu_ch e
  have := ch_pot hf u a v c
  rw [e, show v = 0 by omega]
theorem hv_inj {o p : Option Int} (ho : Bo 200000 o) (hp : Bo 200000 p) : hv o = hv p ↔ o = p := by
  constructor
  · intro h
    cases o with
    | none =>
      cases p with
      | none => rfl
      | some s => exact absurd h.symm (hv_ne (hp s rfl))
    | some s =>
      have h1 := ho s rfl
      cases p with
      | none => exact absurd h (hv_ne h1)
      | some r =>
        have h2 := hp r rfl
        rw [(oI_eq (by omega) (by omega)).mp h]
  · intro h; rw [h]
theorem ag_cnt {kk : Nat} (h : Inv 5 kk I J D) (w : AgeW m n P Q W) (ag : AgeG m n P Q W t (PG I)) : PG I 1 6 = nI (cntN t n) := by
  obtain ⟨c8, bo⟩ := ag_bo w ag
  obtain ⟨n2, hn, cn, wn, hk, hc, h01, -⟩ := inv_bou h.2.1
  have n50 := w.2.1.1
  have e : n2 = n := (nI_eq (by omega) (by omega)).mp (cn.symm.trans bo.1)
  subst e
  rw [pg_at rfl]
  show I 2 6 = _
  rw [hc, cnt_congr (f := fun k => decide (I 6 k = 1)) (g := t) (n := n2) (fun k hk => by
    rw [(bo.2 k hk).2.2.2]
    cases t k <;> rfl)]
def NrP (T m n : Nat) (P Q : Nat → Nat) (W : Nat → Int) (QJ : Nat → Nat → Int64) (v : Option Value) (X2 : Nat → Nat → Int32) (QJ : Nat → Nat → Int64) (I2 : Nat → Nat → Int32) (J2 : Nat → Nat → Int64) (D2 : Nat → Nat → UInt64) : Prop :=
  (v = some (.int 1) ∧ QJ = QJ ∧ AgS m n P Q W X2 I2) ∧ ∃ c2, St T c2 X2 I2 J2 D2
/-- behind the three greatest differences: a bound that just fits, and one that doesn't -/
theorem lw_nar2 (s : St T c X I J D) (hc : 70 ≤ c) (as : AgS m n P Q W X I) (n40 : n ≤ 40) {a b d : Nat} (ha : a ≤ m) (hb : b ≤ m) (hd : d ≤ m) (hab : a ≠ b) {ab : Int} (hab9 : -9000 ≤ ab ∧ ab ≤ 9000) (eab : LSu n P Q W (fun _ => true) b a 16 = some ab) :
    WO 329 S54 R54 QD (NrP T m n P Q W QJ) (ex (325, 158, [.ref 0, .int (nI a), .int (nI b), .int (nI d), .int (Int32.ofInt ab), .int (hv (LSu n P Q W (fun _ => true) d b 16)), .int (hv (LSu n P Q W (fun _ => true) d a 16)), dv, dv], [], 329, S54, R54, ovr I X, ovr J QJ, ovr D QD)) := by
  have h16 := as.1.1
  have g := as.1.2.1
  obtain ⟨pot, hf⟩ : ∃ p, Feas n P Q W (fun _ => true) p := by
    obtain ⟨-, -, kk, -, hi⟩ := id s
    exact ag_fe hi g (ag_bo as.1 as.2.1).2
  have bo : ∀ x y, Bo 200000 (LSu n P Q W (fun _ => true) x y 16) := fun x y => (LSu_Bo g 16 y).le (by omega)
  have neg : -hv (some ab) = Int32.ofInt (-ab) := oI_m ab
  -- no ring below 0
  have ge : ∀ v, LSu n P Q W (fun _ => true) a b 16 = some v → -ab ≤ v := fun v e => by
    obtain ⟨w, e2, l2⟩ := lsu_tri hf g (show a < 17 by omega) (show a < 17 by omega) eab e
    rw [lsu_self hf g (show a < 17 by omega)] at e2
    have := Option.some.inj e2
    omega
  rw [eA_325_158]
  refine goP (by decide) (by decide) (d := 2) rfl s (by omega) (fun Q1 T1 hq s1 => lw_high s1 as.1 as.2.1 (a := b) (b := a) hb ha) (fun v Q3 I3 J3 D3 hq s1 ⟨h1, h2⟩ => ?_)
  subst h1
  have as1 : AgS m n P Q W Q3 I3 := as.go (fun p q1 q2 => hq p q1) h2.pg
  obtain ⟨th, hth⟩ : ∃ th : Bool, th = true ↔ LSu n P Q W (fun _ => true) a b 16 = some (-ab) := by
    by_cases q : LSu n P Q W (fun _ => true) a b 16 = some (-ab)
    · exact ⟨true, fun _ => q, fun _ => rfl⟩
    · exact ⟨false, fun e => (by cases e), fun e => absurd e q⟩
  have e178 : ex (325, 167, [.ref 0, .int (nI a), .int (nI b), .int (nI d), .int (Int32.ofInt ab), .int (hv (LSu n P Q W (fun _ => true) d b 16)), .int (hv (LSu n P Q W (fun _ => true) d a 16)), dv, dv], [.int (hv (LSu n P Q W (fun _ => true) a b 16))], mA (ovr I3 Q3) (ovr J3 QJ) (ovr D3 QD)) = ex (325, 178, [.ref 0, .int (nI a), .int (nI b), .int (nI d), .int (Int32.ofInt ab), .int (hv (LSu n P Q W (fun _ => true) d b 16)), .int (hv (LSu n P Q W (fun _ => true) d a 16)), dv, dv], [.int (bI th)], mA (ovr I3 Q3) (ovr J3 QJ) (ovr D3 QD)) := by
    rw [eA_325_167, oI_m, show Int32.ofInt (-ab) = hv (some (-ab)) from rfl]
    cases th with
    | true => rw [decide_eq_false (show ¬ (hv (LSu n P Q W (fun _ => true) a b 16) ≠ hv (some (-ab))) from fun h => h (by rw [hth.mp rfl])), cond_false, eA_325_173]; rfl
    | false => rw [decide_eq_true (show hv (LSu n P Q W (fun _ => true) a b 16) ≠ hv (some (-ab)) from fun h => by
        have := hth.mpr ((hv_inj (bo a b) (fun v e => by have := Option.some.inj e; omega)).mp h)
        cases this), cond_true, eA_325_177]; rfl
  rw [ka, e178, eA_325_178]
  obtain ⟨c, rfl⟩ : ∃ c', c = c' + 3 := ⟨c - 3, by omega⟩
  rw [show c + 3 - 2 = c + 1 by omega] at s1
  refine goK bas_A (by decide) rfl s1 (fun kk _ hi => q_lowS hi as1.1 as1.2.1 (a := b) (b := a) hb ha eab) (fun X2 I4 J4 D4 hx s2 hs => ?_)
  have as2 : AgS m n P Q W X2 I4 := as1.go (fun p q1 _ => hx p q1) hs.pg
  rw [ka, eA_325_189, decide_eq_false (fun h => h rfl), cond_false, eA_325_195, show Int32.ofInt ab + 1 = Int32.ofInt (ab + 1) from oI_a ab 1]
  -- one more is none
  refine goP (by decide) (by decide) (d := 2) rfl s2 (by omega) (fun Q1 T1 hq s3 => lw_least s3 as2.1 as2.2.1 (by omega) (a := b) (b := a) hb ha (fun h => hab h.symm) (wv := -ab - 1) (by omega) (by rw [oI_m, show -(ab + 1) = -ab - 1 by omega])) (fun v Q5 I5 J5 D5 hq3 s3 h5 => ?_)
  have hex : ∃ u, (1 ≤ u ∧ u < 17) ∧ CnB n P Q W (fun _ => true) b a (-ab - 1) u := (cn_iff (t := fun _ => true) (fun h => hab h.symm)).mpr ⟨ab, eab, by omega⟩
  rcases h5 with ⟨hno, -⟩ | ⟨-, rfl, kp, hr⟩
  · obtain ⟨u, hu, hcn⟩ := hex
    exact absurd hcn (hno u hu.1 hu.2)
  have as3 : AgS m n P Q W Q5 I5 := as2.go (fun p q1 q2 => hq3 p q1) kp.1
  rw [ka, eA_325_209, decide_eq_false (show ¬ (-1 : Int32) ≠ -1 from fun h => h rfl), cond_false, eA_325_213, oI_m, show Int32.ofInt (-ab) - 1 = Int32.ofInt (-ab - 1) from oI_s (-ab) 1]
  refine goP (by decide) (by decide) (d := 25) rfl s3 (by omega) (fun Q1 T1 hq s4 => lw_ring s4 as3.1 (as3.2.2.1.cr hq) hb (by omega) hr) (fun v Q7 I6 J6 D6 hq4 s4 ⟨h8, h9⟩ => ?_)
  subst h8
  have as4 : AgS m n P Q W Q7 I6 := as3.go (fun p q1 q2 => hq4 p q1) h9.pg
  rw [ka, eA_325_224, decide_eq_true (show (1 : Int32) ≠ 0 by decide), cond_true, eA_325_229]
  -- it itself fits
  refine goP (by decide) (by decide) (d := 2) rfl s4 (by omega) (fun Q1 T1 hq s5 => lw_least s5 as4.1 as4.2.1 (by omega) (a := b) (b := a) hb ha (fun h => hab h.symm) (wv := -ab) (by omega) (oI_m ab)) (fun v Q9 I7 J7 D7 hq5 s5 h12 => ?_)
  have hnone : ∀ u, 1 ≤ u → u < 17 → ¬ CnB n P Q W (fun _ => true) b a (-ab) u := fun u h1 h2 h3 => by
    obtain ⟨s0, e0, l0⟩ := (cn_iff (t := fun _ => true) (fun h => hab h.symm)).mp ⟨u, ⟨h1, h2⟩, h3⟩
    rw [eab] at e0
    have := Option.some.inj e0
    omega
  have h13 : v = some (.int (nI n)) ∧ Act I6 (PutG n b a (-ab) (PG I6)) I7 := by
    rcases h12 with ⟨-, e, a⟩ | ⟨⟨u, hu, hcn⟩, -⟩
    · exact ⟨e, a⟩
    · exact absurd hcn (hnone u hu.1 hu.2)
  obtain ⟨rfl, a1, a2⟩ := h13
  have la9 : LawA m n P Q W Q9 := as4.2.2.1.go fun p q1 q2 => hq5 p q1
  have o5 : ∀ I X, LawA m n P Q W X → ovr I X 0 5 = nI n := fun I X la => by rw [ovr_o (by decide)]; exact la.1.2
  have w2 : AgeW m (n + 1) (up1 P n b) (up1 Q n a) (up1 W n (-ab)) := aw_put as.1 (by omega) hb ha (fun h => hab h.symm) (by omega)
  have ag2 : AgeG m (n + 1) (up1 P n b) (up1 Q n a) (up1 W n (-ab)) (fun _ => true) (PG I7) := by
    have := ag_put (a := b) (b := a) (wv := -ab) as4.2.1
    rw [up1_t] at this
    rw [a1]; exact this
  have hs7 : Hs I7 [PG I6] := by
    obtain ⟨-, -, kk, -, hi⟩ := id s4
    exact a2 [] (by decide) (hs_nil hi)
  obtain ⟨pot2, hf2⟩ : ∃ p, Feas (n + 1) (up1 P n b) (up1 Q n a) (up1 W n (-ab)) (fun _ => true) p := by
    obtain ⟨-, -, kk, -, hi⟩ := id s5
    exact ag_fe hi w2.2.1 (ag_bo w2 ag2).2
  -- the sums behind it
  have old : ∀ i, i < n → up1 P n b i = P i ∧ up1 Q n a i = Q i ∧ up1 W n (-ab) i = W i ∧ up1 (fun _ => true) n false i = true := fun i hi => ⟨up1_n (by omega), up1_n (by omega), up1_n (by omega), up1_n (by omega)⟩
  have drop : ∀ x y u, LSu (n + 1) (up1 P n b) (up1 Q n a) (up1 W n (-ab)) (up1 (fun _ => true) n false) x y u = LSu n P Q W (fun _ => true) x y u := fun x y u => lsu_drop old up1_s u
  have ch := ch_1 (n := n + 1) (P := up1 P n b) (Q := up1 Q n a) (W := up1 W n (-ab)) (th := fun _ => true) (k := n) (by omega) rfl
  rw [up1_s, up1_s, up1_s] at ch
  have eba : LSu (n + 1) (up1 P n b) (up1 Q n a) (up1 W n (-ab)) (fun _ => true) a b 16 = some (-ab) := by
    obtain ⟨v0, e0, l0⟩ := lsu_le hf2 w2.2.1 (show a < 17 by omega) (show b < 17 by omega) ch
    -- the way back stands as it was
    obtain ⟨u1, c1⟩ := lsu_ch eab
    have c2 : Ch (n + 1) (up1 P n b) (up1 Q n a) (up1 W n (-ab)) (fun _ => true) b u1 a ab := by
      have c3 : SS n P Q W (fun _ => true) b u1 a ≠ none := fun e => by
        obtain ⟨v, e2, -⟩ := ch_SS u1 a ab c1
        rw [e] at e2; cases e2
      have key : ∀ u x s, Ch n P Q W (fun _ => true) b u x s → Ch (n + 1) (up1 P n b) (up1 Q n a) (up1 W n (-ab)) (fun _ => true) b u x s := by
        intro u
        induction u with
        | zero => exact fun x s h => h
        | succ u ih =>
          rintro x s ⟨k, hk, ht, hx, s', hs', hs⟩
          refine ⟨k, by omega, rfl, ?_, s', ?_, ?_⟩
          · rw [up1_n (show k ≠ n by omega)]; exact hx
          · rw [up1_n (show k ≠ n by omega)]; exact ih _ _ hs'
          · rw [up1_n (show k ≠ n by omega)]; exact hs
      exact key u1 a ab c1
    obtain ⟨v1, e1, l1⟩ := lsu_le hf2 w2.2.1 (show b < 17 by omega) (show a < 17 by omega) c2
    obtain ⟨w, e2, l2⟩ := lsu_tri hf2 w2.2.1 (show a < 17 by omega) (show a < 17 by omega) e1 e0
    rw [lsu_self hf2 w2.2.1 (show a < 17 by omega)] at e2
    have := Option.some.inj e2
    rw [e0, show v0 = -ab by omega]
  rw [ka, eA_325_241, o5 I7 Q9 la9, decide_eq_false (fun h => h rfl), cond_false, eA_325_252]
  refine goP (by decide) (by decide) (d := 2) rfl s5 (by omega) (fun Q1 T1 hq s6 => lw_high s6 w2 ag2 (a := b) (b := a) hb ha) (fun v Q11 I8 J8 D8 hq6 s6 ⟨k1, k2⟩ => ?_)
  subst k1
  have la11 : LawA m n P Q W Q11 := la9.go fun p q1 q2 => hq6 p q1
  have ag3 : AgeG m (n + 1) (up1 P n b) (up1 Q n a) (up1 W n (-ab)) (fun _ => true) (PG I8) := by rw [k2.pg]; exact ag2
  rw [ka, eba, eA_325_261, oI_m, show hv (some (-ab)) = Int32.ofInt (-ab) from rfl, decide_eq_false (fun h => h rfl), cond_false, eA_325_267]
  obtain ⟨c2, hc2⟩ : ∃ c2, c2 + 3 = c - 2 - 25 - 2 - 2 := ⟨c - 34, by omega⟩
  rw [← hc2] at s6
  have c2a : 30 ≤ c2 := by omega
  have c2b : 2 ≤ c2 := Nat.le_trans (by decide) c2a
  have c2c : 2 ≤ c2 - 2 := Nat.le_sub_of_add_le (Nat.le_trans (by decide) c2a)
  have c2d : 2 ≤ c2 - 2 - 2 := Nat.le_sub_of_add_le (Nat.le_sub_of_add_le (Nat.le_trans (by decide) c2a))
  refine goK bas_A (by decide) rfl (c := c2 + 2) s6 (fun kk _ hi => q_lowS hi w2 ag3 (a := a) (b := b) ha hb eba) (fun X3 I9 J9 D9 hx3 s7 hs3 => ?_)
  have ag4 : AgeG m (n + 1) (up1 P n b) (up1 Q n a) (up1 W n (-ab)) (fun _ => true) (PG I9) := by rw [hs3.pg]; exact ag3
  have la12 : LawA m n P Q W X3 := la11.cr hx3
  rw [ka, oI_m, show -(-ab) = ab by omega, eA_325_276, decide_eq_false (fun h => h rfl), cond_false, eA_325_281]
  have hfol : (∃ s, LSu (n + 1) (up1 P n b) (up1 Q n a) (up1 W n (-ab)) (fun k => (fun _ => true) k && !decide (nI k = nI n)) (up1 Q n a n) (up1 P n b n) 16 = some s ∧ s ≤ up1 W n (-ab) n) ↔ th = true := by
    rw [up1_s, up1_s, up1_s]
    have e : LSu (n + 1) (up1 P n b) (up1 Q n a) (up1 W n (-ab)) (fun k => (fun _ => true) k && !decide (nI k = nI n)) a b 16 = LSu n P Q W (fun _ => true) a b 16 := lsu_drop (fun i hi => ⟨up1_n (by omega), up1_n (by omega), up1_n (by omega), by
        show (true && !decide (nI i = nI n)) = true
        rw [decide_eq_false (fun q => by have := (nI_eq (by omega) (by omega)).mp q; omega)]; rfl⟩) (by
        show (true && !decide (nI n = nI n)) = false
        rw [decide_eq_true rfl]; rfl) 16
    rw [e, hth]
    constructor
    · rintro ⟨s, e1, l1⟩
      have := ge s e1
      rw [e1, show s = -ab by omega]
    · intro e1
      exact ⟨-ab, e1, by omega⟩
  refine goK bas_A (by decide) rfl (c := c2 + 1) s7 (fun kk _ hi => q_fol hi w2 ag4 (c := n) (by omega) rfl th hfol) (fun X4 I10 J10 D10 hx4 s8 hs4 => ?_)
  have ag5 : AgeG m (n + 1) (up1 P n b) (up1 Q n a) (up1 W n (-ab)) (fun _ => true) (PG I10) := by rw [hs4.pg]; exact ag4
  have la13 : LawA m n P Q W X4 := la12.cr hx4
  rw [ka, eA_325_290, decide_eq_true rfl, cond_true, eA_325_297]
  refine goK bas_A (by decide) rfl (c := c2) s8 (fun kk _ hi => a_back hi w2 ag5 (c := n) (by omega) rfl) (fun X5 I11 J11 D11 hx5 s9 hs5 => ?_)
  have la14 : LawA m n P Q W X5 := la13.cr hx5
  have ag6 : AgeG m (n + 1) (up1 P n b) (up1 Q n a) (up1 W n (-ab)) (up1 (fun _ => true) n false) (PG I11) := by rw [hs5.1]; exact ag_drop ag5
  have e16 : PG I10 1 6 - 1 = nI n := by
    obtain ⟨-, -, kk, -, hi⟩ := id s8
    rw [ag_cnt hi w2 ag5, cnt_true, nI_pred]
  have hs11 : Hs I11 [PG I7, PG I6] := by
    have q := hs5.2 [PG I6] (show 1 ≤ 7 from by decide) (hs4.hs (hs3.hs (k2.hs hs7)))
    rw [hs4.pg, hs3.pg, k2.pg] at q
    exact q
  rw [ka, e16, eA_325_306, o5 I11 X5 la14, decide_eq_true rfl, cond_true, eA_325_315]
  -- all is as before
  refine goP (by decide) (by decide) (d := 2) rfl s9 c2b (fun Q1 T1 hq s6 => lw_high s6 w2 ag6 (a := a) (b := b) ha hb) (fun v Q13 I12 J12 D12 hq7 s10 ⟨k5, k6⟩ => ?_)
  subst k5
  have ag7 : AgeG m (n + 1) (up1 P n b) (up1 Q n a) (up1 W n (-ab)) (up1 (fun _ => true) n false) (PG I12) := by rw [k6.pg]; exact ag6
  rw [ka, drop, eab, eA_325_324, show hv (some ab) = Int32.ofInt ab from rfl, decide_eq_false (fun h => h rfl), cond_false, eA_325_329]
  refine goP (by decide) (by decide) (d := 2) rfl s10 c2c (fun Q1 T1 hq s6 => lw_high s6 w2 ag7 (a := b) (b := d) hb hd) (fun v Q15 I13 J13 D13 hq8 s11 ⟨k9, k10⟩ => ?_)
  subst k9
  have ag8 : AgeG m (n + 1) (up1 P n b) (up1 Q n a) (up1 W n (-ab)) (up1 (fun _ => true) n false) (PG I13) := by rw [k10.pg]; exact ag7
  rw [ka, drop, eA_325_338, decide_eq_false (fun h => h rfl), cond_false, eA_325_343]
  refine goP (by decide) (by decide) (d := 2) rfl s11 c2d (fun Q1 T1 hq s6 => lw_high s6 w2 ag8 (a := a) (b := d) ha hd) (fun v Q17 I14 J14 D14 hq9 s12 ⟨k13, k14⟩ => ?_)
  subst k13
  have la17 : LawA m n P Q W Q17 := ((la14.go fun p q1 q2 => hq7 p q1).go fun p q1 q2 => hq8 p q1).go fun p q1 q2 => hq9 p q1
  have hs14 : Hs I14 [PG I7, PG I6] := k14.hs (k10.hs (k6.hs hs11))
  rw [ka, drop, eA_325_352, decide_eq_false (fun h => h rfl), cond_false, eA_325_357]
  obtain ⟨c3, hc3⟩ : ∃ c3, c3 + 4 = c2 - 2 - 2 - 2 := ⟨c2 - 10, by omega⟩
  rw [← hc3] at s12
  obtain ⟨v1, hv1, ca1⟩ : ∃ v, v ≤ 8 ∧ ∀ kk, kk ≤ 5000 → Inv 5 kk I14 J14 D14 → Call kk 136 [.ref 1, dv] (.inl (some (.int (nI v)))) I14 J14 D14 (fun I2 => PG I2 = PG I7 ∧ Hs I2 [PG I6]) := by
    obtain ⟨-, -, kk, -, hi⟩ := id s12
    obtain ⟨v, hv, ⟨Ia, Ja, Da, hans, -, -⟩⟩ := a_undo hi hs14
    refine ⟨v, hv, fun kk2 _ hi2 => ?_⟩
    obtain ⟨v2, hv2, ⟨Ib, Jb, Db, hans2, r2, r3⟩⟩ := a_undo hi2 hs14
    have e1 := hans 329 S54 R54 X QJ QD bas_A
    have e2 := hans2 329 S54 R54 X QJ QD bas_A
    rw [e1] at e2
    have e3 := congrArg Prod.fst (Option.some.inj e2)
    have e4 : nI v = nI v2 := by injection e3 with e3; injection e3 with e3; injection e3
    rw [e4]
    exact ⟨Ib, Jb, Db, hans2, r2, r3⟩
  refine goK bas_A (by decide) rfl (c := c3 + 3) s12 ca1 (fun X6 I15 J15 D15 hx6 s13 hs6 => ?_)
  have la18 : LawA m n P Q W X6 := la17.cr hx6
  have ag9 : AgeG m (n + 1) (up1 P n b) (up1 Q n a) (up1 W n (-ab)) (fun _ => true) (PG I15) := by rw [hs6.1]; exact ag2
  rw [ka, eA_325_364, decide_eq_false (nI_pos (by omega)), cond_false, eA_325_367]
  refine goK bas_A (by decide) rfl (c := c3 + 2) s13 (fun kk _ hi => q_bcnt hi w2 ag9) (fun X7 I16 J16 D16 hx7 s14 hs7 => ?_)
  have la19 : LawA m n P Q W X7 := la18.cr hx7
  rw [ka, cnt_true, eA_325_374, o5 I16 X7 la19, nI_1, decide_eq_false (fun h => h rfl), cond_false, eA_325_383]
  have hs16 : Hs I16 [PG I6] := hs7.hs hs6.2
  obtain ⟨v2, hv2, ca2⟩ : ∃ v, v ≤ 8 ∧ ∀ kk, kk ≤ 5000 → Inv 5 kk I16 J16 D16 → Call kk 136 [.ref 1, dv] (.inl (some (.int (nI v)))) I16 J16 D16 (fun I2 => PG I2 = PG I6 ∧ Hs I2 []) := by
    obtain ⟨-, -, kk, -, hi⟩ := id s14
    obtain ⟨v, hv, ⟨Ia, Ja, Da, hans, -, -⟩⟩ := a_undo hi hs16
    refine ⟨v, hv, fun kk2 _ hi2 => ?_⟩
    obtain ⟨v2, hv2, ⟨Ib, Jb, Db, hans2, r2, r3⟩⟩ := a_undo hi2 hs16
    have e1 := hans 329 S54 R54 X QJ QD bas_A
    have e2 := hans2 329 S54 R54 X QJ QD bas_A
    rw [e1] at e2
    have e3 := congrArg Prod.fst (Option.some.inj e2)
    have e4 : nI v = nI v2 := by injection e3 with e3; injection e3 with e3; injection e3
    rw [e4]
    exact ⟨Ib, Jb, Db, hans2, r2, r3⟩
  refine goK bas_A (by decide) rfl (c := c3 + 1) s14 ca2 (fun X8 I17 J17 D17 hx8 s15 hs8 => ?_)
  have la20 : LawA m n P Q W X8 := la19.cr hx8
  have as9 : AgS m n P Q W X8 I17 := ⟨as.1, by rw [hs8.1]; exact as4.2.1, la20, by rw [hs8.1]; exact as4.2.2.2⟩
  rw [ka, eA_325_390, decide_eq_false (nI_pos (by omega)), cond_false, eA_325_393]
  refine goK bas_A (by decide) rfl (c := c3) s15 (fun kk _ hi => q_bcnt hi as9.1 as9.2.1) (fun X9 I18 J18 D18 hx9 s16 hs9 => ?_)
  have as10 : AgS m n P Q W X9 I18 := as9.go (fun p q1 _ => hx9 p q1) hs9.pg
  rw [ka, cnt_true, eA_325_400, o5 I18 X9 as10.2.2.1, decide_eq_false (fun h => h rfl), cond_false, eA_325_407, eA_325_412, decide_eq_true (Or.inr rfl), cond_true]
  exact wo_ret ⟨⟨rfl, rfl, as10⟩, _, s16⟩
theorem lw_narrow (s : St T 80 X I J D) (as : AgS m n P Q W X I) (n40 : n ≤ 40) (hm : 1 ≤ m) : WO 329 S54 R54 QD (NrP T m n P Q W QJ) (ex (325, 0, [.ref 0, dv, dv, dv, dv, dv, dv, dv, dv], [], 329, S54, R54, ovr I X, ovr J QJ, ovr D QD)) := by
  have h16 := as.1.1
  have g := as.1.2.1
  obtain ⟨pot, hf⟩ : ∃ p, Feas n P Q W (fun _ => true) p := by
    obtain ⟨-, -, kk, -, hi⟩ := id s
    exact ag_fe hi g (ag_bo as.1 as.2.1).2
  have bo : ∀ x y, Bo 200000 (LSu n P Q W (fun _ => true) x y 16) := fun x y => (LSu_Bo g 16 y).le (by omega)
  have o6 : ∀ X I, LawA m n P Q W X → ovr I X 0 6 + 1 = nI (m + 1) := fun X I la => by rw [ovr_o (by decide), la.1.1, nI_1]
  rw [eA_325_0]
  refine goN nl_A (by decide) (o6 X I as.2.2.1) ⟨by omega, by omega⟩ s (fun X1 a ha hx1 s1 => ?_)
  have as1 : AgS m n P Q W X1 I := as.go (fun p _ h => hx1 p h) rfl
  rw [eA_325_13]
  refine goN nl_A (by decide) (o6 X1 I as1.2.2.1) ⟨by omega, by omega⟩ s1 (fun X2 b hb hx2 s2 => ?_)
  have as2 : AgS m n P Q W X2 I := as1.go (fun p _ h => hx2 p h) rfl
  rw [eA_325_27]
  refine goN nl_A (by decide) (o6 X2 I as2.2.2.1) ⟨by omega, by omega⟩ s2 (fun X3 d hd hx3 s3 => ?_)
  have as3 : AgS m n P Q W X3 I := as2.go (fun p _ h => hx3 p h) rfl
  rw [eA_325_41]
  refine goP (by decide) (by decide) (d := 2) rfl s3 (by omega) (fun Q1 T1 hq s6 => lw_high s6 as3.1 as3.2.1 (a := a) (b := b) (by omega) (by omega)) (fun v Q3 I2 J2 D2 hq s4 ⟨k1, k2⟩ => ?_)
  subst k1
  have as4 : AgS m n P Q W Q3 I2 := as3.go (fun p q1 q2 => hq p q1) k2.pg
  rw [ka, eA_325_51]
  refine goP (by decide) (by decide) (d := 2) rfl s4 (by omega) (fun Q1 T1 hq s6 => lw_high s6 as4.1 as4.2.1 (a := b) (b := d) (by omega) (by omega)) (fun v Q5 I3 J3 D3 hq2 s5 ⟨k5, k6⟩ => ?_)
  subst k5
  have as5 : AgS m n P Q W Q5 I3 := as4.go (fun p q1 q2 => hq2 p q1) k6.pg
  rw [ka, eA_325_62]
  refine goP (by decide) (by decide) (d := 2) rfl s5 (by omega) (fun Q1 T1 hq s6 => lw_high s6 as5.1 as5.2.1 (a := a) (b := d) (by omega) (by omega)) (fun v Q7 I4 J4 D4 hq3 s6 ⟨k9, k10⟩ => ?_)
  subst k9
  have as6 : AgS m n P Q W Q7 I4 := as5.go (fun p q1 q2 => hq3 p q1) k10.pg
  rw [ka]
  -- the triangle
  have hmax : ∀ o : Option Int, Bo 200000 o → (2147483647 ≤ hv o ↔ o = none) := fun o ho => by
    cases o with
    | none => exact ⟨fun _ => rfl, fun _ => by show (2147483647 : Int32) ≤ 2147483647; decide⟩
    | some s =>
      have := ho s rfl
      refine ⟨fun h => ?_, fun h => by cases h⟩
      have h : Int32.ofInt 2147483647 ≤ Int32.ofInt s := h
      rw [Int32.le_iff_toInt_le, oI_t (v := s) (by omega), show (Int32.ofInt 2147483647).toInt = 2147483647 from rfl] at h
      omega
  have e108 : ex (325, 73, [.ref 0, .int (nI a), .int (nI b), .int (nI d), .int (hv (LSu n P Q W (fun _ => true) b a 16)), .int (hv (LSu n P Q W (fun _ => true) d b 16)), dv, dv, dv], [.int (hv (LSu n P Q W (fun _ => true) d a 16))], mA (ovr I4 Q7) (ovr J4 QJ) (ovr D4 QD)) = ex (325, 108, [.ref 0, .int (nI a), .int (nI b), .int (nI d), .int (hv (LSu n P Q W (fun _ => true) b a 16)), .int (hv (LSu n P Q W (fun _ => true) d b 16)), .int (hv (LSu n P Q W (fun _ => true) d a 16)), dv, dv], [], mA (ovr I4 Q7) (ovr J4 QJ) (ovr D4 QD)) := by
    rw [eA_325_73]
    cases e1 : LSu n P Q W (fun _ => true) b a 16 with
    | none => rw [decide_eq_true (show (2147483647 : Int32) ≤ hv none by decide), cond_true]
    | some s1 =>
      have b1 := bo b a s1 e1
      rw [decide_eq_false (fun h => by have := (hmax (some s1) (fun v e => by have := Option.some.inj e; omega)).mp h; cases this), cond_false, eA_325_82]
      cases e2 : LSu n P Q W (fun _ => true) d b 16 with
      | none => rw [decide_eq_true (show (2147483647 : Int32) ≤ hv none by decide), cond_true]
      | some s2 =>
        have b2 := bo d b s2 e2
        rw [decide_eq_false (fun h => by have := (hmax (some s2) (fun v e => by have := Option.some.inj e; omega)).mp h; cases this), cond_false, eA_325_89]
        obtain ⟨s3, e3, l3⟩ := lsu_tri hf g (show a < 17 by omega) (show d < 17 by omega) e1 e2
        have b3 := bo d a s3 e3
        rw [e3, decide_eq_false (hv_ne (s := s3) (by omega)), cond_false, eA_325_96]
        show (bif decide (Int32.ofInt s3 ≤ Int32.ofInt s1 + Int32.ofInt s2) then _ else _) = _
        rw [oI_a, decide_eq_true ((oI_le (by omega) (by omega)).mpr l3), cond_true]
  rw [e108, eA_325_108]
  by_cases hab : a = b
  · subst hab
    rw [decide_eq_false (fun h => h rfl), cond_false, eA_325_113, lsu_self hf g (show a < 17 by omega), decide_eq_false (show ¬ hv (some 0) ≠ 0 from fun h => h rfl), cond_false, eA_325_118, eA_325_123, decide_eq_true (Or.inr rfl), cond_true]
    exact wo_ret ⟨⟨rfl, rfl, as6⟩, _, s6⟩
  · rw [decide_eq_true (show nI a ≠ nI b from fun q => hab ((nI_eq (by omega) (by omega)).mp q)), cond_true, eA_325_124]
    cases e1 : LSu n P Q W (fun _ => true) b a 16 with
    | none =>
      rw [decide_eq_true (show hv none = 2147483647 from rfl), cond_true, eA_325_156]
      exact wo_ret ⟨⟨rfl, rfl, as6⟩, _, s6⟩
    | some ab =>
      have b1 := bo b a ab e1
      rw [decide_eq_false (hv_ne (s := ab) (by omega)), cond_false, eA_325_131, show hv (some ab) = Int32.ofInt ab from rfl, show (-9000 : Int32) = Int32.ofInt (-9000) from rfl]
      by_cases q1 : ab < -9000
      · rw [decide_eq_true ((oI_lt (by omega) (by omega)).mpr q1), cond_true, eA_325_156]
        exact wo_ret ⟨⟨rfl, rfl, as6⟩, _, s6⟩
      · rw [decide_eq_false (fun h => q1 ((oI_lt (by omega) (by omega)).mp h)), cond_false, eA_325_139, show (9000 : Int32) = Int32.ofInt 9000 from rfl]
        by_cases q2 : 9000 < ab
        · rw [decide_eq_true ((oI_lt (by omega) (by omega)).mpr q2), cond_true, eA_325_156]
          exact wo_ret ⟨⟨rfl, rfl, as6⟩, _, s6⟩
        · rw [decide_eq_false (fun h => q2 ((oI_lt (by omega) (by omega)).mp h)), cond_false, eA_325_147, show ovr I4 Q7 0 5 = nI n by rw [ovr_o (by decide)]; exact as6.2.2.1.1.2, decide_eq_true (show nI n ≤ 47 from (nI_leI (a := n) (b := 47) (by omega) (by decide)).mpr (by omega)), cond_true]
          exact lw_nar2 s6 (by omega) as6 n40 (by omega) (by omega) (by omega) hab (by omega) e1
end NR
